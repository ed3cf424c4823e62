/-! ===== count; rows that are copied ===== -/
theorem op_count {M st nd b L cnt nu nk : Nat} {kd o0 ch l0 dB dP su po pl oi lt : Nat → Nat} {now : Nat → Int32} (hT : TB M st nd kd o0 ch l0 dB dP su) (hP : PB M po pl oi lt b) (hs : MR M pl oi lt b now) (F : Nat) (hF : 1000 < F) (a1 : Int32) : ∃ r, fX6_count F (nI L) (nI M) (nI M) (nI (bts lt)) (nI b) (fun j => nI (oi j)) (nI cnt) (nI nu) (nI nk) a1 = some r ∧ fX7_count F (nI L) (nI M) (nI nu) (nI nk) (nI cnt) now a1 = some r := by
  obtain ⟨h, h', hst, hnd, hk, hl, hd, hsu⟩ := hT
  obtain ⟨hpm, p1, p2, p3, p4⟩ := hP
  unfold fX6_count fX7_count
  by_cases c0 : a1 = (0 : Int32)
  · exact ⟨_, if_pos c0, if_pos c0⟩
  simp only [if_neg c0]
  by_cases c1 : a1 = (1 : Int32)
  · refine ⟨nI b, if_pos c1, ?_⟩
    rw [if_pos c1, show (18 : Int32) = nI 18 from rfl, nI_clamp (by omega), hs.2.2.2]
  simp only [if_neg c1]
  by_cases c2 : a1 = (2 : Int32)
  · refine ⟨nI (sumN M lt), ?_, ?_⟩
    · rw [if_pos c2, fX1_litCount_n h h' p1 p2, xbd_some rfl]
    · rw [if_pos c2, fX7_litOf_now_n h' hs F (by omega), xbd_some rfl]
  simp only [if_neg c2]
  by_cases c3 : a1 = (3 : Int32)
  · refine ⟨nI (sumN M oi), ?_, ?_⟩
    · rw [if_pos c3, fX1_oilInAll_n h' F (by omega), xbd_some rfl]
    · rw [if_pos c3, fX7_oilOf_now_n h' hs F (by omega), xbd_some rfl]
  simp only [if_neg c3]
  by_cases c4 : a1 = (4 : Int32)
  · exact ⟨_, if_pos c4, if_pos c4⟩
  simp only [if_neg c4]
  by_cases c5 : a1 = (5 : Int32)
  · exact ⟨_, if_pos c5, if_pos c5⟩
  simp only [if_neg c5]
  by_cases c6 : a1 = (6 : Int32)
  · exact ⟨_, if_pos c6, if_pos c6⟩
  simp only [if_neg c6]
  by_cases c7 : a1 = (7 : Int32)
  · exact ⟨_, if_pos c7, if_pos c7⟩
  exact ⟨_, if_neg c7, if_neg c7⟩
theorem copy_row {F : Nat} (hF : 1000 < F) (f : Nat → Int32) (g : Nat → Nat) : ∃ g' : Nat → Nat, fX3_copy F f (fun j => nI (g j)) 6 6 = some (fun j => nI (g' j)) ∧ ∀ j, j < 6 → g' j = g j := by
  obtain ⟨z, rfl⟩ := row_nI f
  refine ⟨fun j => if j < 6 then g j else z j, ?_, fun j hj => if_pos hj⟩
  rw [fX3_copy_eq F 6 6 _ _ (by omega) (by omega) (by omega)]
  refine congrArg some (funext fun j => ?_)
  show (if j < 6 then rget 6 (fun j => nI (g j)) (nI j) else nI (z j)) = nI (if j < 6 then g j else z j)
  by_cases c : j < 6
  · rw [if_pos c, if_pos c, rget_n c (by omega)]
  · rw [if_neg c, if_neg c]
theorem PB_congr {M b : Nat} {po pl oi lt po' oi' : Nat → Nat} (h' : M ≤ 6) (hP : PB M po pl oi lt b) (h1 : ∀ j, j < 6 → po' j = po j) (h2 : ∀ j, j < 6 → oi' j = oi j) : PB M po' pl oi' lt b := by
  obtain ⟨⟨q1, q2⟩, p1, p2, p3, p4⟩ := hP
  refine ⟨⟨fun l hl => ?_, fun p hp => ?_⟩, p1, p2, fun l hl => ?_, p4⟩
  · rw [h1 l (by omega)]; exact q1 l hl
  · rw [h1 _ (by have := (q2 p hp).1; omega)]; exact q2 p hp
  · rw [h2 l (by omega)]; exact p3 l hl
theorem fX1_copy_n {M b : Nat} {po pl oi lt : Nat → Nat} {s : Nat → Int32} (h' : M ≤ 6) (hP : PB M po pl oi lt b) (hs : MR M pl oi lt b s) (F : Nat) (hF : 1000 < F) (f g : Nat → Int32) (a c d : Int32) : ∃ po' oi' : Nat → Nat, fX1_copy F f g a c d (fun j => nI (po j)) (fun j => nI (oi j)) = some (a, c, d, (fun j => nI (po' j)), (fun j => nI (oi' j))) ∧ PB M po' pl oi' lt b ∧ MR M pl oi' lt b s := by
  obtain ⟨po', e1, h1⟩ := copy_row hF f po
  obtain ⟨oi', e2, h2⟩ := copy_row hF g oi
  refine ⟨po', oi', ?_, PB_congr h' hP h1 h2, MR_congr hs (fun p _ => rfl) (fun l hl => ⟨(h2 l (by omega)).symm, rfl⟩) rfl⟩
  unfold fX1_copy
  rw [e1, xbd_some rfl, e2, xbd_some rfl]
/-! ===== passes that are put by ===== -/
/-- a pass that the class has put by, as the reference holds it -/
def SP (M : Nat) (i : Nat → Int32) (k : Nat → Nat → Int32) (s : Nat → Int32) : Prop := ∃ po pl oi lt : Nat → Nat, ∃ b : Nat, PB M po pl oi lt b ∧ i 2 = nI M ∧ i 3 = nI (bts lt) ∧ i 4 = nI b ∧ k 0 = (fun j => nI (po j)) ∧ k 1 = (fun j => nI (oi j)) ∧ MR M pl oi lt b s
def SH (M n : Nat) (ji : Nat → Nat → Int32) (jk : Nat → Nat → Nat → Int32) (s : Nat → Int32) : Prop := ∀ k, k < n → SP M (ji k) (jk k) (fun j => s (19 * k + j))
theorem SP_congr {M : Nat} {i : Nat → Int32} {k : Nat → Nat → Int32} {s s' : Nat → Int32} (h' : M ≤ 6) (h : SP M i k s) (hs : ∀ j, j < 19 → s' j = s j) : SP M i k s' := by
  obtain ⟨po, pl, oi, lt, b, h1, h2, h3, h4, h5, h6, h7⟩ := h
  exact ⟨po, pl, oi, lt, b, h1, h2, h3, h4, h5, h6, MR_copy h' h7 hs⟩
theorem SP_put {M b : Nat} {po pl oi lt : Nat → Nat} {s : Nat → Int32} (hP : PB M po pl oi lt b) (hs : MR M pl oi lt b s) : SP M (xi3 (nI M) (nI (bts lt)) (nI b)) (xk2 (fun j => nI (po j)) (fun j => nI (oi j))) s :=
  ⟨po, pl, oi, lt, b, hP, rfl, rfl, rfl, rfl, rfl, hs⟩
theorem SH_put {M n : Nat} {ji : Nat → Nat → Int32} {jk : Nat → Nat → Nat → Int32} {s s' now : Nat → Int32} {i : Nat → Int32} {k : Nat → Nat → Int32} (h' : M ≤ 6) (h : SH M n ji jk s) (h0 : ∀ q, q < 19 * n → s' q = s q) (h1 : ∀ j, j < 19 → s' (19 * n + j) = now j) (hp : SP M i k now) : SH M (n + 1) (va_up ji n i) (va_up jk n k) s' := by
  intro m hm
  by_cases e : m = n
  · subst e
    rw [va_up_self, va_up_self]
    exact SP_congr h' hp h1
  · rw [va_up_ne _ _ e, va_up_ne _ _ e]
    exact SP_congr h' (h m (by omega)) (fun j hj => h0 _ (by omega))
theorem SH_rot {M : Nat} {ji : Nat → Nat → Int32} {jk : Nat → Nat → Nat → Int32} {s s' now : Nat → Int32} {i : Nat → Int32} {k : Nat → Nat → Int32} (h' : M ≤ 6) (h : SH M 8 ji jk s) (h0 : ∀ q, q < 133 → s' q = s (q + 19)) (h1 : ∀ j, j < 19 → s' (133 + j) = now j) (hp : SP M i k now) : SH M 8 (va_up (xrot 8 ji) 7 i) (va_up (xrot 8 jk) 7 k) s' := by
  intro m hm
  by_cases e : m = 7
  · subst e
    rw [va_up_self, va_up_self]
    exact SP_congr h' hp h1
  · rw [va_up_ne _ _ e, va_up_ne _ _ e]
    unfold xrot
    rw [if_pos (by omega), if_pos (by omega)]
    refine SP_congr h' (h (m + 1) (by omega)) (fun j hj => ?_)
    show s' (19 * m + j) = s (19 * (m + 1) + j)
    rw [h0 _ (by omega)]
    congr 1
    omega
theorem note_L {k : Int32 → (Nat → Int32) → Option (Int32 × (Nat → Int32))} : ∀ (d i G : Nat) (f : Nat → Int32), i + d = 133 → d < G → ∃ f', fX7_note_L11 k G (nI i) f = k (nI 133) f' ∧ (∀ q, i ≤ q → q < 133 → f' q = f (q + 19)) ∧ (∀ q, q < i → f' q = f q) := by
  intro d
  induction d with
  | zero =>
    intro i G f h1 h2
    obtain ⟨G, rfl⟩ : ∃ G', G = G' + 1 := ⟨G - 1, by omega⟩
    obtain rfl : i = 133 := by omega
    exact ⟨f, by rw [fX7_note_L11, if_pos (show (133 : Int32) ≤ nI 133 from Int32.le_refl _)], fun q h3 h4 => by omega, fun _ _ => rfl⟩
  | succ d ih =>
    intro i G f h1 h2
    obtain ⟨G, rfl⟩ : ∃ G', G = G' + 1 := ⟨G - 1, by omega⟩
    obtain ⟨f', e, g1, g2⟩ := ih (i + 1) G (upd f i (f (i + 19))) (by omega) (by omega)
    refine ⟨f', ?_, fun q h3 h4 => ?_, fun q h3 => ?_⟩
    · rw [fX7_note_L11, if_neg (show ¬ (133 : Int32) ≤ nI i from nI_ge (b := 133) (by omega) (by omega)), show (19 : Int32) = nI 19 from rfl, nI_add, if_neg (nI_in (by omega) (by omega)), if_neg (nI_in (by omega) (by omega)), nI_clamp (by omega), nI_clamp (by omega), nI_1]
      exact e
    · by_cases c : q = i
      · subst c
        rw [g2 q (by omega)]
        unfold upd
        rw [if_pos rfl]
      · rw [g1 q (by omega) h4]
        unfold upd
        rw [if_neg (by omega)]
    · rw [g2 q (by omega)]
      unfold upd
      rw [if_neg (by omega)]
theorem note_n {n : Nat} {now back : Nat → Int32} (hn : n < 8) (F : Nat) (hF : 1000 < F) : ∃ f', fX7_note F (nI n) now back = some (nI (n + 1), f') ∧ (∀ q, q < 19 * n → f' q = back q) ∧ (∀ j, j < 19 → f' (19 * n + j) = now j) := by
  obtain ⟨f', e, g1, g2⟩ := fX7_copy_now_back_n now back (fr := 0) (to := 19 * n) (by omega) (by omega) F (by omega)
  refine ⟨f', ?_, fun q hq => g2 q (fun k hk => by omega), fun j hj => by have := g1 j hj; rw [Nat.zero_add] at this; exact this⟩
  unfold fX7_note
  rw [if_neg (show ¬ nI n = (8 : Int32) from fun z => by have := (nI_eq (b := 8) (by omega) (by omega)).mp z; omega), show (19 : Int32) = nI 19 from rfl, x_mulN, show (0 : Int32) = nI 0 from rfl, e, xbd_some rfl, nI_1]
theorem note_8 {now back : Nat → Int32} (F : Nat) (hF : 1000 < F) : ∃ f', fX7_note F (nI 8) now back = some (nI 8, f') ∧ (∀ q, q < 133 → f' q = back (q + 19)) ∧ (∀ j, j < 19 → f' (133 + j) = now j) := by
  obtain ⟨f0, e0, h1, h2⟩ := note_L (k := fun (v11_1 : Int32) (w11_mok_25 : Nat → Int32) => xbd (fX7_copy_now_back F now w11_mok_25 (0 : Int32) ((19 : Int32) * (nI 8 - (1 : Int32)))) (fun (u65 : (Nat → Int32)) => some (((nI 8 - (1 : Int32)) + (1 : Int32)), u65))) 133 0 F back (by omega) (by omega)
  obtain ⟨f', e, g1, g2⟩ := fX7_copy_now_back_n now f0 (fr := 0) (to := 133) (by omega) (by omega) F (by omega)
  refine ⟨f', ?_, fun q hq => ?_, fun j hj => by have := g1 j hj; rw [Nat.zero_add] at this; exact this⟩
  · unfold fX7_note
    rw [if_pos (show nI 8 = (8 : Int32) from rfl)]
    refine Eq.trans e0 ?_
    rw [show (19 : Int32) * (nI 8 - (1 : Int32)) = nI 133 from rfl, show (0 : Int32) = nI 0 from rfl, e, xbd_some rfl]
    rfl
  · rw [g2 q (fun k hk => by omega), h1 q (by omega) hq]
theorem put8_n {M n b : Nat} {po pl oi lt : Nat → Nat} {now back : Nat → Int32} {jg : Nat → Option Nat} {jb : Nat → Nat} {jr ja : Nat → Nat → Nat} {ji : Nat → Nat → Int32} {jk : Nat → Nat → Nat → Int32} (h' : M ≤ 6) (hn : n ≤ 8) (hg : ∀ k, k < 8 → jg k = some (jb k)) (hS : SH M n ji jk back) (hP : PB M po pl oi lt b) (hs : MR M pl oi lt b now) (F : Nat) (hF : 1000 < F) : ∃ n' : Nat, ∃ jg' : Nat → Option Nat, ∃ jb' : Nat → Nat, ∃ jr' ja' : Nat → Nat → Nat, ∃ ji' : Nat → Nat → Int32, ∃ jk' : Nat → Nat → Nat → Int32, ∃ back' : Nat → Int32, fX4_put8 F (nI n) jg jb jr ja ji jk (nI M) (nI (bts lt)) (nI b) (fun j => nI (po j)) (fun j => nI (oi j)) = some (nI n', jg', jb', jr', ja', ji', jk') ∧ fX7_note F (nI n) now back = some (nI n', back') ∧ n' ≤ 8 ∧ (∀ k, k < 8 → jg' k = some (jb' k)) ∧ SH M n' ji' jk' back' := by
  have cp := fun f g => fX1_copy_n h' hP hs F hF f g (nI M) (nI (bts lt)) (nI b)
  by_cases e : n = 8
  · subst e
    obtain ⟨po', oi', e1, q1, q2⟩ := cp (jk 0 0) (jk 0 1)
    obtain ⟨f', e2, h2, h3⟩ := note_8 (now := now) (back := back) F hF
    refine ⟨8, va_up (va_up (va_up (va_up (va_up (va_up (va_up (va_up jg (0 : Int32).toNatClampNeg (some (jb 1))) (1 : Int32).toNatClampNeg (some (jb 2))) (2 : Int32).toNatClampNeg (some (jb 3))) (3 : Int32).toNatClampNeg (some (jb 4))) (4 : Int32).toNatClampNeg (some (jb 5))) (5 : Int32).toNatClampNeg (some (jb 6))) (6 : Int32).toNatClampNeg (some (jb 7))) (7 : Int32).toNatClampNeg (some (jb 0)), xrot 8 jb, xrot 8 jr, xrot 8 ja, va_up (xrot 8 ji) 7 (xi3 (nI M) (nI (bts lt)) (nI b)), va_up (xrot 8 jk) 7 (xk2 (fun j => nI (po' j)) (fun j => nI (oi' j))), f', ?_, e2, Nat.le_refl _, ?_, SH_rot h' hS h2 h3 (SP_put q1 q2)⟩
    · unfold fX4_put8
      rw [if_pos (xal_iff.mpr hg), if_neg (show ¬ nI 8 = (0 : Int32) by decide), if_neg (show ¬ nI 8 = (1 : Int32) by decide), if_neg (show ¬ nI 8 = (2 : Int32) by decide), if_neg (show ¬ nI 8 = (3 : Int32) by decide), if_neg (show ¬ nI 8 = (4 : Int32) by decide), if_neg (show ¬ nI 8 = (5 : Int32) by decide), if_neg (show ¬ nI 8 = (6 : Int32) by decide), if_neg (show ¬ nI 8 = (7 : Int32) by decide), if_pos (show nI 8 = (8 : Int32) from rfl)]
      unfold fX4_put_8_8
      rw [e1, xbd_some rfl, xbd_some rfl]
      rfl
    · intro k hk
      rcases (show k = 0 ∨ k = 1 ∨ k = 2 ∨ k = 3 ∨ k = 4 ∨ k = 5 ∨ k = 6 ∨ k = 7 by omega) with rfl | rfl | rfl | rfl | rfl | rfl | rfl | rfl <;> rfl
  · obtain ⟨f', e2, h2, h3⟩ := note_n (now := now) (back := back) (show n < 8 by omega) F hF
    obtain ⟨po', oi', e1, q1, q2⟩ := cp (jk n 0) (jk n 1)
    refine ⟨n + 1, jg, jb, jr, ja, va_up ji n (xi3 (nI M) (nI (bts lt)) (nI b)), va_up jk n (xk2 (fun j => nI (po' j)) (fun j => nI (oi' j))), f', ?_, e2, by omega, hg, SH_put h' hS h2 h3 (SP_put q1 q2)⟩
    unfold fX4_put8
    rw [if_pos (xal_iff.mpr hg)]
    rcases (show n = 0 ∨ n = 1 ∨ n = 2 ∨ n = 3 ∨ n = 4 ∨ n = 5 ∨ n = 6 ∨ n = 7 by omega) with rfl | rfl | rfl | rfl | rfl | rfl | rfl | rfl
    · rw [if_pos (show nI 0 = (0 : Int32) from rfl)]
      unfold fX4_put_8_0
      rw [e1, xbd_some rfl, xbd_some rfl]
      rfl
    · rw [if_neg (show ¬ nI 1 = (0 : Int32) by decide), if_pos (show nI 1 = (1 : Int32) from rfl)]
      unfold fX4_put_8_1
      rw [e1, xbd_some rfl, xbd_some rfl]
      rfl
    · rw [if_neg (show ¬ nI 2 = (0 : Int32) by decide), if_neg (show ¬ nI 2 = (1 : Int32) by decide), if_pos (show nI 2 = (2 : Int32) from rfl)]
      unfold fX4_put_8_2
      rw [e1, xbd_some rfl, xbd_some rfl]
      rfl
    · rw [if_neg (show ¬ nI 3 = (0 : Int32) by decide), if_neg (show ¬ nI 3 = (1 : Int32) by decide), if_neg (show ¬ nI 3 = (2 : Int32) by decide), if_pos (show nI 3 = (3 : Int32) from rfl)]
      unfold fX4_put_8_3
      rw [e1, xbd_some rfl, xbd_some rfl]
      rfl
    · rw [if_neg (show ¬ nI 4 = (0 : Int32) by decide), if_neg (show ¬ nI 4 = (1 : Int32) by decide), if_neg (show ¬ nI 4 = (2 : Int32) by decide), if_neg (show ¬ nI 4 = (3 : Int32) by decide), if_pos (show nI 4 = (4 : Int32) from rfl)]
      unfold fX4_put_8_4
      rw [e1, xbd_some rfl, xbd_some rfl]
      rfl
    · rw [if_neg (show ¬ nI 5 = (0 : Int32) by decide), if_neg (show ¬ nI 5 = (1 : Int32) by decide), if_neg (show ¬ nI 5 = (2 : Int32) by decide), if_neg (show ¬ nI 5 = (3 : Int32) by decide), if_neg (show ¬ nI 5 = (4 : Int32) by decide), if_pos (show nI 5 = (5 : Int32) from rfl)]
      unfold fX4_put_8_5
      rw [e1, xbd_some rfl, xbd_some rfl]
      rfl
    · rw [if_neg (show ¬ nI 6 = (0 : Int32) by decide), if_neg (show ¬ nI 6 = (1 : Int32) by decide), if_neg (show ¬ nI 6 = (2 : Int32) by decide), if_neg (show ¬ nI 6 = (3 : Int32) by decide), if_neg (show ¬ nI 6 = (4 : Int32) by decide), if_neg (show ¬ nI 6 = (5 : Int32) by decide), if_pos (show nI 6 = (6 : Int32) from rfl)]
      unfold fX4_put_8_6
      rw [e1, xbd_some rfl, xbd_some rfl]
      rfl
    · rw [if_neg (show ¬ nI 7 = (0 : Int32) by decide), if_neg (show ¬ nI 7 = (1 : Int32) by decide), if_neg (show ¬ nI 7 = (2 : Int32) by decide), if_neg (show ¬ nI 7 = (3 : Int32) by decide), if_neg (show ¬ nI 7 = (4 : Int32) by decide), if_neg (show ¬ nI 7 = (5 : Int32) by decide), if_neg (show ¬ nI 7 = (6 : Int32) by decide), if_pos (show nI 7 = (7 : Int32) from rfl)]
      unfold fX4_put_8_7
      rw [e1, xbd_some rfl, xbd_some rfl]
      rfl
/-- the latest that was put by comes back -/
theorem take8_n {M n : Nat} {back : Nat → Int32} {jg : Nat → Option Nat} {jb : Nat → Nat} {jr ja : Nat → Nat → Nat} {ji : Nat → Nat → Int32} {jk : Nat → Nat → Nat → Int32} (h' : M ≤ 6) (hn : n < 8) (hg : ∀ k, k < 8 → jg k = some (jb k)) (hS : SH M (n + 1) ji jk back) (F : Nat) (hF : 1000 < F) (q2 q3 q4 : Int32) (k0 k1 : Nat → Int32) : ∃ po pl oi lt : Nat → Nat, ∃ b : Nat, fX4_takeLast8 F (nI (n + 1)) jg jb jr ja ji jk q2 q3 q4 k0 k1 = some (1, nI n, nI M, nI (bts lt), nI b, (fun j => nI (po j)), (fun j => nI (oi j))) ∧ PB M po pl oi lt b ∧ MR M pl oi lt b (fun j => back (19 * n + j)) := by
  obtain ⟨po, pl, oi, lt, b, h1, h2, h3, h4, h5, h6, h7⟩ := hS n (by omega)
  obtain ⟨po', oi', e1, g1, g2⟩ := fX1_copy_n h' h1 h7 F hF k0 k1 (nI M) (nI (bts lt)) (nI b)
  rw [← h2, ← h3, ← h4, ← h5, ← h6] at e1
  refine ⟨po', pl, oi', lt, b, ?_, g1, g2⟩
  rw [← h2, ← h3, ← h4]
  unfold fX4_takeLast8
  rw [if_pos (xal_iff.mpr hg)]
  clear h7 g2 hS
  rcases (show n = 0 ∨ n = 1 ∨ n = 2 ∨ n = 3 ∨ n = 4 ∨ n = 5 ∨ n = 6 ∨ n = 7 by omega) with rfl | rfl | rfl | rfl | rfl | rfl | rfl | rfl
  · rw [if_neg (show ¬ nI 1 = (0 : Int32) by decide), if_pos (show nI 1 = (1 : Int32) from rfl)]
    unfold fX4_takeLast_8_1
    rw [e1, xbd_some rfl, xbd2_some rfl]
    rfl
  · rw [if_neg (show ¬ nI 2 = (0 : Int32) by decide), if_neg (show ¬ nI 2 = (1 : Int32) by decide), if_pos (show nI 2 = (2 : Int32) from rfl)]
    unfold fX4_takeLast_8_2
    rw [e1, xbd_some rfl, xbd2_some rfl]
    rfl
  · rw [if_neg (show ¬ nI 3 = (0 : Int32) by decide), if_neg (show ¬ nI 3 = (1 : Int32) by decide), if_neg (show ¬ nI 3 = (2 : Int32) by decide), if_pos (show nI 3 = (3 : Int32) from rfl)]
    unfold fX4_takeLast_8_3
    rw [e1, xbd_some rfl, xbd2_some rfl]
    rfl
  · rw [if_neg (show ¬ nI 4 = (0 : Int32) by decide), if_neg (show ¬ nI 4 = (1 : Int32) by decide), if_neg (show ¬ nI 4 = (2 : Int32) by decide), if_neg (show ¬ nI 4 = (3 : Int32) by decide), if_pos (show nI 4 = (4 : Int32) from rfl)]
    unfold fX4_takeLast_8_4
    rw [e1, xbd_some rfl, xbd2_some rfl]
    rfl
  · rw [if_neg (show ¬ nI 5 = (0 : Int32) by decide), if_neg (show ¬ nI 5 = (1 : Int32) by decide), if_neg (show ¬ nI 5 = (2 : Int32) by decide), if_neg (show ¬ nI 5 = (3 : Int32) by decide), if_neg (show ¬ nI 5 = (4 : Int32) by decide), if_pos (show nI 5 = (5 : Int32) from rfl)]
    unfold fX4_takeLast_8_5
    rw [e1, xbd_some rfl, xbd2_some rfl]
    rfl
  · rw [if_neg (show ¬ nI 6 = (0 : Int32) by decide), if_neg (show ¬ nI 6 = (1 : Int32) by decide), if_neg (show ¬ nI 6 = (2 : Int32) by decide), if_neg (show ¬ nI 6 = (3 : Int32) by decide), if_neg (show ¬ nI 6 = (4 : Int32) by decide), if_neg (show ¬ nI 6 = (5 : Int32) by decide), if_pos (show nI 6 = (6 : Int32) from rfl)]
    unfold fX4_takeLast_8_6
    rw [e1, xbd_some rfl, xbd2_some rfl]
    rfl
  · rw [if_neg (show ¬ nI 7 = (0 : Int32) by decide), if_neg (show ¬ nI 7 = (1 : Int32) by decide), if_neg (show ¬ nI 7 = (2 : Int32) by decide), if_neg (show ¬ nI 7 = (3 : Int32) by decide), if_neg (show ¬ nI 7 = (4 : Int32) by decide), if_neg (show ¬ nI 7 = (5 : Int32) by decide), if_neg (show ¬ nI 7 = (6 : Int32) by decide), if_pos (show nI 7 = (7 : Int32) from rfl)]
    unfold fX4_takeLast_8_7
    rw [e1, xbd_some rfl, xbd2_some rfl]
    rfl
  · rw [if_neg (show ¬ nI 8 = (0 : Int32) by decide), if_neg (show ¬ nI 8 = (1 : Int32) by decide), if_neg (show ¬ nI 8 = (2 : Int32) by decide), if_neg (show ¬ nI 8 = (3 : Int32) by decide), if_neg (show ¬ nI 8 = (4 : Int32) by decide), if_neg (show ¬ nI 8 = (5 : Int32) by decide), if_neg (show ¬ nI 8 = (6 : Int32) by decide), if_neg (show ¬ nI 8 = (7 : Int32) by decide), if_pos (show nI 8 = (8 : Int32) from rfl)]
    unfold fX4_takeLast_8_8
    rw [e1, xbd_some rfl, xbd2_some rfl]
    rfl
theorem take8_0 {jg : Nat → Option Nat} {jb : Nat → Nat} {jr ja : Nat → Nat → Nat} {ji : Nat → Nat → Int32} {jk : Nat → Nat → Nat → Int32} (hg : ∀ k, k < 8 → jg k = some (jb k)) (F : Nat) (q2 q3 q4 : Int32) (k0 k1 : Nat → Int32) : fX4_takeLast8 F (nI 0) jg jb jr ja ji jk q2 q3 q4 k0 k1 = some (0, 0, q2, q3, q4, k0, k1) := by
  unfold fX4_takeLast8
  rw [if_pos (xal_iff.mpr hg), if_pos (show nI 0 = (0 : Int32) from rfl)]
  rfl
theorem op_undo {M n b : Nat} {po pl oi lt : Nat → Nat} {now back : Nat → Int32} {jg : Nat → Option Nat} {jb : Nat → Nat} {jr ja : Nat → Nat → Nat} {ji : Nat → Nat → Int32} {jk : Nat → Nat → Nat → Int32} (h' : M ≤ 6) (hn : n ≤ 8) (hg : ∀ k, k < 8 → jg k = some (jb k)) (hS : SH M n ji jk back) (hP : PB M po pl oi lt b) (hs : MR M pl oi lt b now) (F : Nat) (hF : 1000 < F) : ∃ r : Int32, ∃ po' pl' oi' lt' : Nat → Nat, ∃ b' n' : Nat, ∃ now' : Nat → Int32, fX6_undo F (nI M) (nI (bts lt)) (nI b) (fun j => nI (po j)) (fun j => nI (oi j)) (nI n) jg jb jr ja ji jk = some (r, nI M, nI (bts lt'), nI b', (fun j => nI (po' j)), (fun j => nI (oi' j)), nI n') ∧ fX7_undo F (nI n) now back = some (r, nI n', now') ∧ PB M po' pl' oi' lt' b' ∧ MR M pl' oi' lt' b' now' ∧ n' ≤ n ∧ SH M n' ji jk back := by
  by_cases e : n = 0
  · subst e
    refine ⟨-2, po, pl, oi, lt, b, 0, now, ?_, ?_, hP, hs, Nat.le_refl _, hS⟩
    · unfold fX6_undo
      rw [take8_0 hg, xbd2_some rfl, if_pos rfl]
      rfl
    · unfold fX7_undo
      rw [if_pos (show nI 0 = 0 from rfl)]
  · obtain ⟨n, rfl⟩ : ∃ k, n = k + 1 := ⟨n - 1, by omega⟩
    obtain ⟨po', pl', oi', lt', b', e1, g1, g2⟩ := take8_n (jr := jr) (ja := ja) h' (by omega) hg hS F hF (nI M) (nI (bts lt)) (nI b) (fun j => nI (po j)) (fun j => nI (oi j))
    obtain ⟨f', e2, g3, -⟩ := fX7_copy_back_now_n back now (fr := 19 * n) (to := 0) (by omega) (by omega) F (by omega)
    refine ⟨nI n, po', pl', oi', lt', b', n, f', ?_, ?_, g1, MR_copy h' g2 (fun k hk => by have := g3 k hk; rw [Nat.zero_add] at this; exact this), by omega, fun k hk => hS k (by omega)⟩
    · unfold fX6_undo
      rw [e1, xbd2_some rfl, if_neg (by decide)]
    · unfold fX7_undo
      rw [if_neg (nI_ne0 (by omega) (by omega)), nI_pred, show (19 : Int32) = nI 19 from rfl, x_mulN, show (0 : Int32) = nI 0 from rfl, e2, xbd_some rfl]
theorem op_keep {M n b : Nat} {po pl oi lt : Nat → Nat} {now kp : Nat → Int32} {jg : Nat → Option Nat} {jb : Nat → Nat} {jr ja : Nat → Nat → Nat} {ji : Nat → Nat → Int32} {jk : Nat → Nat → Nat → Int32} (h' : M ≤ 6) (hn : n ≤ 2) (hg : ∀ k, k < 2 → jg k = some (jb k)) (hS : SH M n ji jk kp) (hP : PB M po pl oi lt b) (hs : MR M pl oi lt b now) (F : Nat) (hF : 1000 < F) : ∃ r : Int32, ∃ n' : Nat, ∃ ji' : Nat → Nat → Int32, ∃ jk' : Nat → Nat → Nat → Int32, ∃ kp' : Nat → Int32, fX6_keep F (nI M) (nI (bts lt)) (nI b) (fun j => nI (po j)) (fun j => nI (oi j)) (nI n) jg jb jr ja ji jk = some (r, nI n', jg, jb, jr, ja, ji', jk') ∧ fX7_keep F (nI n) now kp = some (r, nI n', kp') ∧ n' ≤ 2 ∧ SH M n' ji' jk' kp' := by
  by_cases e : n = 2
  · subst e
    refine ⟨-3, 2, ji, jk, kp, ?_, ?_, Nat.le_refl _, hS⟩
    · unfold fX6_keep
      rw [if_neg (by decide)]
    · unfold fX7_keep
      rw [if_pos (show nI 2 = (2 : Int32) from rfl)]
  · obtain ⟨f', e2, g1, g2⟩ := fX7_copy_now_keep_n now kp (fr := 0) (to := 19 * n) (by omega) (by omega) F (by omega)
    obtain ⟨po', oi', e1, q1, q2⟩ := fX1_copy_n h' hP hs F hF (jk n 0) (jk n 1) (nI M) (nI (bts lt)) (nI b)
    refine ⟨nI (n + 1), n + 1, va_up ji n (xi3 (nI M) (nI (bts lt)) (nI b)), va_up jk n (xk2 (fun j => nI (po' j)) (fun j => nI (oi' j))), f', ?_, ?_, by omega, SH_put h' hS (fun q hq => g2 q (fun k hk => by omega)) (fun j hj => by have := g1 j hj; rw [Nat.zero_add] at this; exact this) (SP_put q1 q2)⟩
    · unfold fX6_keep
      rw [if_pos (show nI n < (2 : Int32) from nI_lt (b := 2) (by omega) (by omega))]
      unfold fX4_put2
      rw [if_pos (xal_iff.mpr hg)]
      rcases (show n = 0 ∨ n = 1 by omega) with rfl | rfl
      · rw [if_pos (show nI 0 = (0 : Int32) from rfl)]
        unfold fX4_put_2_0
        rw [e1, xbd_some rfl, xbd_some rfl, xbd_some rfl]
        rfl
      · rw [if_neg (show ¬ nI 1 = (0 : Int32) by decide), if_pos (show nI 1 = (1 : Int32) from rfl)]
        unfold fX4_put_2_1
        rw [e1, xbd_some rfl, xbd_some rfl, xbd_some rfl]
        rfl
    · unfold fX7_keep
      rw [if_neg (show ¬ nI n = (2 : Int32) from fun z => e ((nI_eq (b := 2) (by omega) (by omega)).mp z)), show (19 : Int32) = nI 19 from rfl, x_mulN, show (0 : Int32) = nI 0 from rfl, e2, xbd_some rfl, nI_1]
theorem op_back {M n nu b : Nat} {po pl oi lt : Nat → Nat} {now kp : Nat → Int32} {jg : Nat → Option Nat} {jb : Nat → Nat} {jr ja : Nat → Nat → Nat} {ji : Nat → Nat → Int32} {jk : Nat → Nat → Nat → Int32} (h' : M ≤ 6) (hn : n ≤ 2) (hu : nu ≤ 8) (hg : ∀ k, k < 2 → jg k = some (jb k)) (hS : SH M n ji jk kp) (hP : PB M po pl oi lt b) (hs : MR M pl oi lt b now) (F : Nat) (hF : 1000 < F) : ∃ r : Int32, ∃ po' pl' oi' lt' : Nat → Nat, ∃ b' n' nu' : Nat, ∃ now' : Nat → Int32, fX6_back F (nI M) (nI (bts lt)) (nI b) (fun j => nI (po j)) (fun j => nI (oi j)) (nI nu) (nI n) jg jb jr ja ji jk = some (r, nI M, nI (bts lt'), nI b', (fun j => nI (po' j)), (fun j => nI (oi' j)), nI nu', nI n') ∧ fX7_back F (nI nu) (nI n) now kp = some (r, nI nu', nI n', now') ∧ PB M po' pl' oi' lt' b' ∧ MR M pl' oi' lt' b' now' ∧ n' ≤ n ∧ nu' ≤ nu ∧ SH M n' ji jk kp := by
  by_cases e : n = 0
  · subst e
    refine ⟨-2, po, pl, oi, lt, b, 0, nu, now, ?_, ?_, hP, hs, Nat.le_refl _, Nat.le_refl _, hS⟩
    · unfold fX6_back fX4_takeLast2
      rw [if_pos (xal_iff.mpr hg), if_pos (show nI 0 = (0 : Int32) from rfl)]
      rfl
    · unfold fX7_back
      rw [if_pos (show nI 0 = 0 from rfl)]
  · obtain ⟨n, rfl⟩ : ∃ k, n = k + 1 := ⟨n - 1, by omega⟩
    obtain ⟨po1, pl1, oi1, lt1, b1, h1, h2, h3, h4, h5, h6, h7⟩ := hS n (by omega)
    obtain ⟨po', oi', e1, g1, g2⟩ := fX1_copy_n h' h1 h7 F hF (fun j => nI (po j)) (fun j => nI (oi j)) (nI M) (nI (bts lt1)) (nI b1)
    obtain ⟨f', e2, g3, -⟩ := fX7_copy_keep_now_n kp now (fr := 19 * n) (to := 0) (by omega) (by omega) F (by omega)
    refine ⟨nI n, po', pl1, oi', lt1, b1, n, 0, f', ?_, ?_, g1, MR_copy h' g2 (fun k hk => by have := g3 k hk; rw [Nat.zero_add] at this; exact this), by omega, by omega, fun k hk => hS k (by omega)⟩
    · have e3 : fX4_takeLast2 F (nI (n + 1)) jg jb jr ja ji jk (nI M) (nI (bts lt)) (nI b) (fun j => nI (po j)) (fun j => nI (oi j)) = some (1, nI n, nI M, nI (bts lt1), nI b1, (fun j => nI (po' j)), (fun j => nI (oi' j))) := by
        have e1' := e1
        rw [← h2, ← h3, ← h4, ← h5, ← h6] at e1'
        rw [← h2, ← h3, ← h4]
        unfold fX4_takeLast2
        rw [if_pos (xal_iff.mpr hg)]
        clear h7 g2 hS g3 e2
        rcases (show n = 0 ∨ n = 1 by omega) with rfl | rfl
        · rw [if_neg (show ¬ nI 1 = (0 : Int32) by decide), if_pos (show nI 1 = (1 : Int32) from rfl)]
          unfold fX4_takeLast_2_1
          rw [e1', xbd_some rfl, xbd2_some rfl]
          rfl
        · rw [if_neg (show ¬ nI 2 = (0 : Int32) by decide), if_neg (show ¬ nI 2 = (1 : Int32) by decide), if_pos (show nI 2 = (2 : Int32) from rfl)]
          unfold fX4_takeLast_2_2
          rw [e1', xbd_some rfl, xbd2_some rfl]
          rfl
      unfold fX6_back
      rw [e3, xbd2_some rfl, if_neg (by decide)]
      rfl
    · unfold fX7_back
      rw [if_neg (nI_ne0 (by omega) (by omega)), nI_pred, show (19 : Int32) = nI 19 from rfl, x_mulN, show (0 : Int32) = nI 0 from rfl, e2, xbd_some rfl]
