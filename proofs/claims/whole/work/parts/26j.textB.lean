/-! ===== THE TEXT: what an item tells ===== -/
/-- bounds of what has been read -/
def GB (M st nd : Nat) (kd o0 ch l0 dB dP su : Nat → Nat) : Prop := M ≤ 6 ∧ st ≤ 5 ∧ nd ≤ 6 ∧ (∀ i, i < 6 → kd i ≤ 2 ∧ o0 i ≤ 40 ∧ ch i ≤ 1 ∧ l0 i ≤ 1 ∧ l0 i ≤ o0 i ∧ (ch i = 1 → o0 i = 0)) ∧ (∀ i, M ≤ i → l0 i = 0 ∧ ch i = 0 ∧ (i < 6 → o0 i = 0)) ∧ (∀ i, i < nd → 1 ≤ dB i ∧ dB i ≤ 60 ∧ dP i ≤ 5) ∧ (∀ x, su x ≤ 1)
/-- as the reference has read it -/
def GM (M nd : Nat) (kd o0 ch l0 dB dP : Nat → Nat) (kr orw lr dr : Nat → Int32) : Prop := (∀ i, i < M → kr i = nI (kd i) ∧ orw i = (if ch i = 1 then -1 else nI (o0 i)) ∧ lr i = nI (l0 i)) ∧ (∀ i, i < nd → dr (2 * i) = nI (dB i) ∧ dr (2 * i + 1) = nI (dP i))
def SM (su : Nat → Nat) (sn dk : Int32) : Prop := ∀ x, x < 20000 → fX7_in (nI x) sn dk = some (nI (su x))
abbrev TC := Int32 × Int32 × Int32 × Int32 × Int32 × Int32 × Int32 × (Nat → Int32) × (Nat → Int32) × (Nat → Int32) × (Nat → Int32)
abbrev TR := Int32 × Int32 × Int32 × Int32 × Int32 × Int32 × (Nat → Int32) × (Nat → Int32) × (Nat → Int32) × (Nat → Int32) × (Nat → Int32)
/-- an item that both take, or neither -/
def ITd (nx M st nd : Nat) (sn dk : Int32) (kr orw lr dr : Nat → Int32) (C : Option (Int32 × TC)) (R : Option (Int32 × TR)) : Prop := ((∃ u, C = some (0, u)) ∧ ∃ p' w', R = some (0, p', nI M, nI st, nI nd, sn, dk, w', kr, orw, lr, dr)) ∨ (∃ M' st' nd' : Nat, ∃ kd' o0' ch' l0' dB' dP' su' : Nat → Nat, ∃ sf' sto' sn' dk' : Int32, ∃ w' kr' orw' lr' dr' : Nat → Int32, GB M' st' nd' kd' o0' ch' l0' dB' dP' su' ∧ GM M' nd' kd' o0' ch' l0' dB' dP' kr' orw' lr' dr' ∧ SC su' sf' sto' ∧ SM su' sn' dk' ∧ C = some (1, nI M', nI (bts l0'), nI (bts ch'), nI st', nI nd', sf', sto', (fun j => nI (kd' j)), (fun j => nI (o0' j)), (fun j => nI (dB' j)), (fun j => nI (dP' j))) ∧ R = some (1, nI nx, nI M', nI st', nI nd', sn', dk', w', kr', orw', lr', dr'))
/-- the reference asks for m numbers of an item that has vs -/
def ARm (m : Nat) (vs : List Nat) (nx : Nat) (R : Option (Int32 × Int32 × (Nat → Int32))) : Prop := (vs.length = m ∧ ∃ w', R = some (1, nI nx, w') ∧ ∀ j, j < m → w' j = nI (vs.getD j 0)) ∨ (vs.length ≠ m ∧ ∃ p' w', R = some (0, p', w'))
theorem arm_n {t : Nat → Nat} {L m i nx : Nat} {vs : List Nat} (ht : TX t) (hL : L ≤ 300) (hm : m ≤ 3) (hm1 : 1 ≤ m) (hi : i ≤ L) (F : Nat) (hF : 1000 < F) (w : Nat → Int32) (h : spN t L 3 i = some (vs, nx)) : ARm m vs nx (fX7_areNumbers F (nI L) (nI i) (fun j => nI (t j)) w (nI m)) := by
  rcases are_n ht hL hm hm1 hi F hF w with ⟨vs', nx', w', g1, g2, g3, g4⟩ | ⟨g1, p', w', g2⟩
  · rw [h] at g1
    obtain ⟨z1, z2⟩ := Prod.mk.inj (Option.some.inj g1)
    subst z1 z2
    exact Or.inl ⟨g2, w', g3, g4⟩
  · exact Or.inr ⟨g1 vs nx h, p', w', g2⟩
theorem arm_0 {t : Nat → Nat} {L m i : Nat} (ht : TX t) (hL : L ≤ 300) (hm : m ≤ 3) (hm1 : 1 ≤ m) (hi : i ≤ L) (F : Nat) (hF : 1000 < F) (w : Nat → Int32) (h : spN t L 3 i = none) : ∃ p' w', fX7_areNumbers F (nI L) (nI i) (fun j => nI (t j)) w (nI m) = some (0, p', w') := by
  rcases are_n ht hL hm hm1 hi F hF w with ⟨vs', nx', w', g1, g2, g3, g4⟩ | ⟨g1, p', w', g2⟩
  · rw [h] at g1
    cases g1
  · exact ⟨p', w', g2⟩
theorem bit_set {t : Nat → Nat} {l : Nat} (h : ∀ i, i < 6 → t i ≤ 1) (hl : l < 6) : nI (bts t) ||| ((1 : Int32) <<< (nI l &&& 31)) = nI (bts (updN t l 1)) := by
  have e := bts_set (t := t) (l := l) (v := 1) hl
  have h1 := h l hl
  rw [xb_one l (by omega), xb_or _ (bts_lt h) l hl, bts_bit h hl]
  congr 1
  by_cases c : t l = 1
  · rw [if_pos c]
    rw [c] at e
    omega
  · rw [if_neg c]
    rw [show t l = 0 by omega] at e
    omega
theorem bit_clr {t : Nat → Nat} {l : Nat} (h : ∀ i, i < 6 → t i ≤ 1) (hl : l < 6) : nI (bts t) &&& (((1 : Int32) <<< (nI l &&& 31)) ^^^ (-1 : Int32)) = nI (bts (updN t l 0)) := by
  have e := bts_set (t := t) (l := l) (v := 0) hl
  have h1 := h l hl
  rw [xb_one l (by omega), xb_clr _ (bts_lt h) l hl, bts_bit h hl]
  congr 1
  by_cases c : t l = 1
  · rw [if_pos c]
    rw [c] at e
    omega
  · rw [if_neg c]
    rw [show t l = 0 by omega] at e
    omega
theorem uN_s (f : Nat → Nat) (k v : Nat) : updN f k v k = v := if_pos rfl
theorem uN_n (f : Nat → Nat) {k j : Nat} (v : Nat) (h : j ≠ k) : updN f k v j = f j := if_neg h
theorem uI_s (f : Nat → Int32) (k : Nat) (v : Int32) : upd f k v k = v := if_pos rfl
theorem uI_n (f : Nat → Int32) {k j : Nat} (v : Int32) (h : j ≠ k) : upd f k v j = f j := if_neg h
section ITM
variable {t : Nat → Nat} {L p nx M st nd : Nat} {vs : List Nat} {kd o0 ch l0 dB dP su : Nat → Nat} {sf sto sn dk : Int32} {f w kr orw lr dr : Nat → Int32}
theorem get3 (f : Nat → Int32) (k : Nat) (hk : k < 3) : fX3_get f (nI k) 3 = some (f k) := by
  rw [fX3_get_eq _ _ _ (by omega), rget_n hk (by omega)]
theorem get3_0 (f : Nat → Int32) : fX3_get f (0 : Int32) 3 = some (f 0) := get3 f 0 (by omega)
theorem get3_1 (f : Nat → Int32) : fX3_get f (1 : Int32) 3 = some (f 1) := get3 f 1 (by omega)
theorem get3_2 (f : Nat → Int32) : fX3_get f (2 : Int32) 3 = some (f 2) := get3 f 2 (by omega)
theorem cl_0 : (0 : Int32).toNatClampNeg = 0 := by decide +kernel
theorem cl_1 : (1 : Int32).toNatClampNeg = 1 := by decide +kernel
theorem cl_2 : (2 : Int32).toNatClampNeg = 2 := by decide +kernel
theorem in_ok {v lo hi : Nat} (h1 : lo ≤ v) (h : v ≤ hi) (h2 : hi < 2 ^ 31) : fX7_in (nI v) (nI lo) (nI hi) = some 1 := in_yes h1 h h2
theorem in_hi {v lo hi : Nat} (h : hi < v) (h2 : v < 2 ^ 31) : fX7_in (nI v) (nI lo) (nI hi) = some 0 := in_no (Or.inr (nI_lt h h2))
theorem in_un {v lo hi : Nat} (h : v < lo) (h2 : lo < 2 ^ 31) : fX7_in (nI v) (nI lo) (nI hi) = some 0 := in_no (Or.inl (nI_lt h h2))
theorem it_s (ht : TX t) (hL : L ≤ 300) (hp : p < L) (hs : spN t L 3 (p + 1) = some (vs, nx)) (hf : ∀ j, j < vs.length → f j = nI (vs.getD j 0)) (hG : GB M st nd kd o0 ch l0 dB dP su) (hM : GM M nd kd o0 ch l0 dB dP kr orw lr dr) (hC : SC su sf sto) (hS : SM su sn dk) (F : Nat) (hF : 1000 < F) (hc : t p = 115) : ITd nx M st nd sn dk kr orw lr dr (fX2_tell (nI vs.length) f (nI M) (nI (bts l0)) (nI (bts ch)) (nI st) (nI nd) sf sto (fun j => nI (kd j)) (fun j => nI (o0 j)) (fun j => nI (dB j)) (fun j => nI (dP j)) (nI (t p))) (fX7_isItem F (nI L) (nI p) (nI M) (nI st) (nI nd) sn dk (fun j => nI (t j)) w kr orw lr dr) := by
  have hl := spN_len ht 3 (p + 1) vs nx hs
  have hM6 := hG.1
  have hnd := hG.2.2.1
  rcases arm_n (m := 1) ht hL (by omega) (by omega) (show p + 1 ≤ L by omega) F hF w hs with ⟨q1, w', q2, q3⟩ | ⟨q1, p', w', q2⟩
  · have q2 : fX7_areNumbers F (nI L) (nI (p + 1)) (fun j => nI (t j)) w (1 : Int32) = _ := q2
    have hv0 : vs.getD 0 0 ≤ 99 := hl.2.2.2.2 _ (by rw [List.getD_eq_getElem?_getD, List.getElem?_eq_getElem (by omega)]; exact List.getElem_mem _)
    have e0 : (nI nx, w').2 0 = nI (vs.getD 0 0) := q3 0 (by omega)
    have f0 := hf 0 (by omega)
    generalize vs.getD 0 0 = v0 at hv0 e0 f0
    have eC : nI vs.length = (1 : Int32) := by rw [q1]; rfl
    by_cases c : v0 ≤ 5
    · refine Or.inr ⟨M, v0, nd, kd, o0, ch, l0, dB, dP, su, sf, sto, sn, dk, w', kr, orw, lr, dr, ⟨hG.1, c, hG.2.2⟩, hM, hC, hS, ?_, ?_⟩
      · unfold fX2_tell
        rw [get3_0, xbd_some rfl, get3_1, xbd_some rfl, hc, if_neg (show ¬ nI 115 = (100 : Int32) by decide), if_neg (show ¬ nI 115 = (101 : Int32) by decide), if_neg (show ¬ nI 115 = (109 : Int32) by decide), if_neg (show ¬ nI 115 = (111 : Int32) by decide), if_pos (show nI 115 = (115 : Int32) from rfl)]
        rw [if_pos eC, f0]
        unfold fX5_tellStep
        rw [if_neg (nI_pos (by omega)), if_pos (show nI v0 ≤ (5 : Int32) from nI_le (b := 5) c (by omega)), xbd2_some rfl, if_neg (by decide)]
      · unfold fX7_isItem
        rw [if_neg (nI_in (by omega) (by omega)), nI_clamp (by omega)]
        dsimp only
        rw [if_neg (show ¬ nI (t p) = (100 : Int32) by rw [hc]; decide), if_neg (show ¬ nI (t p) = (101 : Int32) by rw [hc]; decide), if_neg (show ¬ nI (t p) = (109 : Int32) by rw [hc]; decide), if_neg (show ¬ nI (t p) = (111 : Int32) by rw [hc]; decide), if_pos (show nI (t p) = (115 : Int32) by rw [hc]; rfl), nI_1, q2]
        rw [xbd2_some rfl, if_neg (by decide), cl_0]
        rw [e0, show fX7_in (nI v0) (0 : Int32) (5 : Int32) = some 1 from in_ok (lo := 0) (hi := 5) (Nat.zero_le _) c (by omega), xbd_some rfl, if_neg (by decide)]
    · refine Or.inl ⟨?_, ?_⟩
      · unfold fX2_tell
        rw [get3_0, xbd_some rfl, get3_1, xbd_some rfl, hc, if_neg (show ¬ nI 115 = (100 : Int32) by decide), if_neg (show ¬ nI 115 = (101 : Int32) by decide), if_neg (show ¬ nI 115 = (109 : Int32) by decide), if_neg (show ¬ nI 115 = (111 : Int32) by decide), if_pos (show nI 115 = (115 : Int32) from rfl)]
        rw [if_pos eC, f0]
        unfold fX5_tellStep
        rw [if_neg (nI_pos (by omega)), if_neg (show ¬ nI v0 ≤ (5 : Int32) from nI_ge (a := 5) (by omega) (by omega)), xbd2_some rfl, if_pos rfl]
        exact ⟨_, rfl⟩
      · unfold fX7_isItem
        rw [if_neg (nI_in (by omega) (by omega)), nI_clamp (by omega)]
        dsimp only
        rw [if_neg (show ¬ nI (t p) = (100 : Int32) by rw [hc]; decide), if_neg (show ¬ nI (t p) = (101 : Int32) by rw [hc]; decide), if_neg (show ¬ nI (t p) = (109 : Int32) by rw [hc]; decide), if_neg (show ¬ nI (t p) = (111 : Int32) by rw [hc]; decide), if_pos (show nI (t p) = (115 : Int32) by rw [hc]; rfl), nI_1, q2]
        rw [xbd2_some rfl, if_neg (by decide), cl_0]
        rw [e0, show fX7_in (nI v0) (0 : Int32) (5 : Int32) = some 0 from in_hi (lo := 0) (hi := 5) (by omega) (by omega), xbd_some rfl, if_pos rfl]
        exact ⟨_, _, rfl⟩
  · have q2 : fX7_areNumbers F (nI L) (nI (p + 1)) (fun j => nI (t j)) w (1 : Int32) = _ := q2
    refine Or.inl ⟨?_, ?_⟩
    · unfold fX2_tell
      rw [get3_0, xbd_some rfl, get3_1, xbd_some rfl, hc, if_neg (show ¬ nI 115 = (100 : Int32) by decide), if_neg (show ¬ nI 115 = (101 : Int32) by decide), if_neg (show ¬ nI 115 = (109 : Int32) by decide), if_neg (show ¬ nI 115 = (111 : Int32) by decide), if_pos (show nI 115 = (115 : Int32) from rfl)]
      rw [if_neg (show ¬ nI vs.length = (1 : Int32) from fun z => q1 ((nI_eq (b := 1) (by omega) (by omega)).mp z))]
      exact ⟨_, rfl⟩
    · unfold fX7_isItem
      rw [if_neg (nI_in (by omega) (by omega)), nI_clamp (by omega)]
      dsimp only
      rw [if_neg (show ¬ nI (t p) = (100 : Int32) by rw [hc]; decide), if_neg (show ¬ nI (t p) = (101 : Int32) by rw [hc]; decide), if_neg (show ¬ nI (t p) = (109 : Int32) by rw [hc]; decide), if_neg (show ¬ nI (t p) = (111 : Int32) by rw [hc]; decide), if_pos (show nI (t p) = (115 : Int32) by rw [hc]; rfl), nI_1, q2]
      rw [xbd2_some rfl, if_pos rfl]
      exact ⟨_, _, rfl⟩
theorem it_u (ht : TX t) (hL : L ≤ 300) (hp : p < L) (hs : spN t L 3 (p + 1) = some (vs, nx)) (hf : ∀ j, j < vs.length → f j = nI (vs.getD j 0)) (hG : GB M st nd kd o0 ch l0 dB dP su) (hM : GM M nd kd o0 ch l0 dB dP kr orw lr dr) (hC : SC su sf sto) (hS : SM su sn dk) (F : Nat) (hF : 1000 < F) (hc : t p = 117) : ITd nx M st nd sn dk kr orw lr dr (fX2_tell (nI vs.length) f (nI M) (nI (bts l0)) (nI (bts ch)) (nI st) (nI nd) sf sto (fun j => nI (kd j)) (fun j => nI (o0 j)) (fun j => nI (dB j)) (fun j => nI (dP j)) (nI (t p))) (fX7_isItem F (nI L) (nI p) (nI M) (nI st) (nI nd) sn dk (fun j => nI (t j)) w kr orw lr dr) := by
  have hl := spN_len ht 3 (p + 1) vs nx hs
  have hM6 := hG.1
  have hnd := hG.2.2.1
  rcases arm_n (m := 2) ht hL (by omega) (by omega) (show p + 1 ≤ L by omega) F hF w hs with ⟨q1, w', q2, q3⟩ | ⟨q1, p', w', q2⟩
  · have q2 : fX7_areNumbers F (nI L) (nI (p + 1)) (fun j => nI (t j)) w (2 : Int32) = _ := q2
    have hv0 : vs.getD 0 0 ≤ 99 := hl.2.2.2.2 _ (by rw [List.getD_eq_getElem?_getD, List.getElem?_eq_getElem (by omega)]; exact List.getElem_mem _)
    have e0 : (nI nx, w').2 0 = nI (vs.getD 0 0) := q3 0 (by omega)
    have f0 := hf 0 (by omega)
    generalize vs.getD 0 0 = v0 at hv0 e0 f0
    have hv1 : vs.getD 1 0 ≤ 99 := hl.2.2.2.2 _ (by rw [List.getD_eq_getElem?_getD, List.getElem?_eq_getElem (by omega)]; exact List.getElem_mem _)
    have e1 : (nI nx, w').2 1 = nI (vs.getD 1 0) := q3 1 (by omega)
    have f1 := hf 1 (by omega)
    generalize vs.getD 1 0 = v1 at hv1 e1 f1
    have eC : nI vs.length = (2 : Int32) := by rw [q1]; rfl
    by_cases c : v0 ≤ v1 ∧ v1 ≤ 60
    · refine Or.inr ⟨M, st, nd, kd, o0, ch, l0, dB, dP, (fun x => if v0 ≤ x ∧ x ≤ v1 then 1 else 0), nI v0, nI v1, nI v0, nI v1, w', kr, orw, lr, dr, ⟨hG.1, hG.2.1, hG.2.2.1, hG.2.2.2.1, hG.2.2.2.2.1, hG.2.2.2.2.2.1, fun x => by show (if v0 ≤ x ∧ x ≤ v1 then 1 else 0) ≤ 1; split <;> omega⟩, hM, fun x hx => ?_, fun x hx => ?_, ?_, ?_⟩
      · show _ ↔ (if v0 ≤ x ∧ x ≤ v1 then 1 else 0) = 1
        rw [nI_ltI (by omega) (by omega), nI_ltI (by omega) (by omega)]
        by_cases c2 : v0 ≤ x ∧ x ≤ v1
        · rw [if_pos c2]
          exact ⟨fun _ => rfl, fun _ => by omega⟩
        · rw [if_neg c2]
          exact ⟨fun z => by omega, fun z => by omega⟩
      · show _ = some (nI (if v0 ≤ x ∧ x ≤ v1 then 1 else 0))
        by_cases c2 : v0 ≤ x ∧ x ≤ v1
        · rw [if_pos c2, in_ok c2.1 c2.2 (by omega)]
          rfl
        · rw [if_neg c2]
          by_cases c3 : x < v0
          · rw [in_un c3 (by omega)]
            rfl
          · rw [in_hi (show v1 < x by omega) (by omega)]
            rfl
      · unfold fX2_tell
        rw [get3_0, xbd_some rfl, get3_1, xbd_some rfl, hc, if_neg (show ¬ nI 117 = (100 : Int32) by decide), if_neg (show ¬ nI 117 = (101 : Int32) by decide), if_neg (show ¬ nI 117 = (109 : Int32) by decide), if_neg (show ¬ nI 117 = (111 : Int32) by decide), if_neg (show ¬ nI 117 = (115 : Int32) by decide), if_pos (show nI 117 = (117 : Int32) from rfl)]
        rw [if_pos eC, f0, f1]
        unfold fX5_tellSun
        rw [if_neg (nI_pos (by omega)), if_neg (nI_nlt c.1 (by omega)), if_pos (show nI v1 ≤ (60 : Int32) from nI_le (b := 60) c.2 (by omega)), xbd2_some rfl, if_neg (by decide)]
      · unfold fX7_isItem
        rw [if_neg (nI_in (by omega) (by omega)), nI_clamp (by omega)]
        dsimp only
        rw [if_neg (show ¬ nI (t p) = (100 : Int32) by rw [hc]; decide), if_neg (show ¬ nI (t p) = (101 : Int32) by rw [hc]; decide), if_neg (show ¬ nI (t p) = (109 : Int32) by rw [hc]; decide), if_neg (show ¬ nI (t p) = (111 : Int32) by rw [hc]; decide), if_neg (show ¬ nI (t p) = (115 : Int32) by rw [hc]; decide), if_pos (show nI (t p) = (117 : Int32) by rw [hc]; rfl), nI_1, q2]
        rw [xbd2_some rfl, if_neg (by decide), cl_0, cl_1]
        rw [e0, e1, show fX7_in (nI v1) (0 : Int32) (60 : Int32) = some 1 from in_ok (lo := 0) (hi := 60) (Nat.zero_le _) c.2 (by omega), xbd_some rfl, if_neg (by decide), show fX7_in (nI v0) (0 : Int32) (nI v1) = some 1 from in_ok (lo := 0) (Nat.zero_le _) c.1 (by omega), xbd_some rfl, if_neg (by decide)]
    · refine Or.inl ⟨?_, ?_⟩
      · unfold fX2_tell
        rw [get3_0, xbd_some rfl, get3_1, xbd_some rfl, hc, if_neg (show ¬ nI 117 = (100 : Int32) by decide), if_neg (show ¬ nI 117 = (101 : Int32) by decide), if_neg (show ¬ nI 117 = (109 : Int32) by decide), if_neg (show ¬ nI 117 = (111 : Int32) by decide), if_neg (show ¬ nI 117 = (115 : Int32) by decide), if_pos (show nI 117 = (117 : Int32) from rfl)]
        rw [if_pos eC, f0, f1]
        unfold fX5_tellSun
        rw [if_neg (nI_pos (by omega))]
        by_cases c2 : v1 < v0
        · rw [if_pos (nI_lt c2 (by omega)), xbd2_some rfl, if_pos rfl]
          exact ⟨_, rfl⟩
        · rw [if_neg (nI_nlt (by omega) (by omega)), if_neg (show ¬ nI v1 ≤ (60 : Int32) from nI_ge (a := 60) (by omega) (by omega)), xbd2_some rfl, if_pos rfl]
          exact ⟨_, rfl⟩
      · unfold fX7_isItem
        rw [if_neg (nI_in (by omega) (by omega)), nI_clamp (by omega)]
        dsimp only
        rw [if_neg (show ¬ nI (t p) = (100 : Int32) by rw [hc]; decide), if_neg (show ¬ nI (t p) = (101 : Int32) by rw [hc]; decide), if_neg (show ¬ nI (t p) = (109 : Int32) by rw [hc]; decide), if_neg (show ¬ nI (t p) = (111 : Int32) by rw [hc]; decide), if_neg (show ¬ nI (t p) = (115 : Int32) by rw [hc]; decide), if_pos (show nI (t p) = (117 : Int32) by rw [hc]; rfl), nI_1, q2]
        rw [xbd2_some rfl, if_neg (by decide), cl_0, cl_1]
        rw [e0, e1]
        by_cases c2 : v1 ≤ 60
        · rw [show fX7_in (nI v1) (0 : Int32) (60 : Int32) = some 1 from in_ok (lo := 0) (hi := 60) (Nat.zero_le _) c2 (by omega), xbd_some rfl, if_neg (by decide), show fX7_in (nI v0) (0 : Int32) (nI v1) = some 0 from in_hi (lo := 0) (by omega) (by omega), xbd_some rfl, if_pos rfl]
          exact ⟨_, _, rfl⟩
        · rw [show fX7_in (nI v1) (0 : Int32) (60 : Int32) = some 0 from in_hi (lo := 0) (hi := 60) (by omega) (by omega), xbd_some rfl, if_pos rfl]
          exact ⟨_, _, rfl⟩
  · have q2 : fX7_areNumbers F (nI L) (nI (p + 1)) (fun j => nI (t j)) w (2 : Int32) = _ := q2
    refine Or.inl ⟨?_, ?_⟩
    · unfold fX2_tell
      rw [get3_0, xbd_some rfl, get3_1, xbd_some rfl, hc, if_neg (show ¬ nI 117 = (100 : Int32) by decide), if_neg (show ¬ nI 117 = (101 : Int32) by decide), if_neg (show ¬ nI 117 = (109 : Int32) by decide), if_neg (show ¬ nI 117 = (111 : Int32) by decide), if_neg (show ¬ nI 117 = (115 : Int32) by decide), if_pos (show nI 117 = (117 : Int32) from rfl)]
      rw [if_neg (show ¬ nI vs.length = (2 : Int32) from fun z => q1 ((nI_eq (b := 2) (by omega) (by omega)).mp z))]
      exact ⟨_, rfl⟩
    · unfold fX7_isItem
      rw [if_neg (nI_in (by omega) (by omega)), nI_clamp (by omega)]
      dsimp only
      rw [if_neg (show ¬ nI (t p) = (100 : Int32) by rw [hc]; decide), if_neg (show ¬ nI (t p) = (101 : Int32) by rw [hc]; decide), if_neg (show ¬ nI (t p) = (109 : Int32) by rw [hc]; decide), if_neg (show ¬ nI (t p) = (111 : Int32) by rw [hc]; decide), if_neg (show ¬ nI (t p) = (115 : Int32) by rw [hc]; decide), if_pos (show nI (t p) = (117 : Int32) by rw [hc]; rfl), nI_1, q2]
      rw [xbd2_some rfl, if_pos rfl]
      exact ⟨_, _, rfl⟩
theorem it_m (ht : TX t) (hL : L ≤ 300) (hp : p < L) (hs : spN t L 3 (p + 1) = some (vs, nx)) (hf : ∀ j, j < vs.length → f j = nI (vs.getD j 0)) (hG : GB M st nd kd o0 ch l0 dB dP su) (hM : GM M nd kd o0 ch l0 dB dP kr orw lr dr) (hC : SC su sf sto) (hS : SM su sn dk) (F : Nat) (hF : 1000 < F) (hc : t p = 109) : ITd nx M st nd sn dk kr orw lr dr (fX2_tell (nI vs.length) f (nI M) (nI (bts l0)) (nI (bts ch)) (nI st) (nI nd) sf sto (fun j => nI (kd j)) (fun j => nI (o0 j)) (fun j => nI (dB j)) (fun j => nI (dP j)) (nI (t p))) (fX7_isItem F (nI L) (nI p) (nI M) (nI st) (nI nd) sn dk (fun j => nI (t j)) w kr orw lr dr) := by
  have hl := spN_len ht 3 (p + 1) vs nx hs
  have hM6 := hG.1
  have hnd := hG.2.2.1
  rcases arm_n (m := 1) ht hL (by omega) (by omega) (show p + 1 ≤ L by omega) F hF w hs with ⟨q1, w', q2, q3⟩ | ⟨q1, p', w', q2⟩
  · have q2 : fX7_areNumbers F (nI L) (nI (p + 1)) (fun j => nI (t j)) w (1 : Int32) = _ := q2
    have hv0 : vs.getD 0 0 ≤ 99 := hl.2.2.2.2 _ (by rw [List.getD_eq_getElem?_getD, List.getElem?_eq_getElem (by omega)]; exact List.getElem_mem _)
    have e0 : (nI nx, w').2 0 = nI (vs.getD 0 0) := q3 0 (by omega)
    have f0 := hf 0 (by omega)
    generalize vs.getD 0 0 = v0 at hv0 e0 f0
    have eC : nI vs.length = (1 : Int32) := by rw [q1]; rfl
    by_cases c : v0 ≤ 2 ∧ M < 6
    · have hE := hG.2.2.2.1
      refine Or.inr ⟨M + 1, st, nd, updN kd M v0, o0, ch, l0, dB, dP, su, sf, sto, sn, dk, w', upd kr M (nI v0), upd orw M 0, upd lr M 0, dr, ⟨by omega, hG.2.1, hG.2.2.1, fun i hi => ?_, fun i hi => hG.2.2.2.2.1 i (by omega), hG.2.2.2.2.2⟩, ⟨fun i hi => ?_, hM.2⟩, hC, hS, ?_, ?_⟩
      · have q := hE i hi
        by_cases c2 : i = M
        · rw [c2, uN_s]
          rw [c2] at q
          exact ⟨c.1, q.2⟩
        · rw [uN_n _ _ c2]
          exact q
      · by_cases c2 : i = M
        · have q := hG.2.2.2.2.1 M (Nat.le_refl _)
          rw [c2, uN_s, uI_s, uI_s, uI_s, q.2.1, q.1, q.2.2 c.2, if_neg (by omega)]
          exact ⟨rfl, rfl, rfl⟩
        · rw [uN_n _ _ c2, uI_n _ _ c2, uI_n _ _ c2, uI_n _ _ c2]
          exact hM.1 i (by omega)
      · unfold fX2_tell
        rw [get3_0, xbd_some rfl, get3_1, xbd_some rfl, hc, if_neg (show ¬ nI 109 = (100 : Int32) by decide), if_neg (show ¬ nI 109 = (101 : Int32) by decide), if_pos (show nI 109 = (109 : Int32) from rfl)]
        rw [if_pos eC, f0]
        unfold fX5_addMan
        rw [if_neg (show ¬ (6 : Int32) ≤ nI M from nI_ge (b := 6) c.2 (by omega)), if_neg (nI_pos (by omega)), if_pos (show nI v0 ≤ (2 : Int32) from nI_le (b := 2) c.1 (by omega)), fX3_set_eq _ _ _ _ (by omega), rset_n c.2 (by omega), xbd_some rfl, xbd2_some rfl, if_neg (by decide), upd_nI, nI_1]
      · unfold fX7_isItem
        rw [if_neg (nI_in (by omega) (by omega)), nI_clamp (by omega)]
        dsimp only
        rw [if_neg (show ¬ nI (t p) = (100 : Int32) by rw [hc]; decide), if_neg (show ¬ nI (t p) = (101 : Int32) by rw [hc]; decide), if_pos (show nI (t p) = (109 : Int32) by rw [hc]; rfl), nI_1, q2]
        rw [xbd2_some rfl, if_neg (by decide), cl_0]
        rw [e0, show fX7_in (nI v0) (0 : Int32) (2 : Int32) = some 1 from in_ok (lo := 0) (hi := 2) (Nat.zero_le _) c.1 (by omega), xbd_some rfl, if_neg (by decide), if_neg (show ¬ nI M = (6 : Int32) from fun z => by have := (nI_eq (b := 6) (by omega) (by omega)).mp z; omega), if_neg (nI_in (by omega) (by omega)), if_neg (nI_in (by omega) (by omega)), if_neg (nI_in (by omega) (by omega)), nI_clamp (by omega), nI_1]
    · refine Or.inl ⟨?_, ?_⟩
      · unfold fX2_tell
        rw [get3_0, xbd_some rfl, get3_1, xbd_some rfl, hc, if_neg (show ¬ nI 109 = (100 : Int32) by decide), if_neg (show ¬ nI 109 = (101 : Int32) by decide), if_pos (show nI 109 = (109 : Int32) from rfl)]
        rw [if_pos eC, f0]
        unfold fX5_addMan
        by_cases c2 : M < 6
        · rw [if_neg (show ¬ (6 : Int32) ≤ nI M from nI_ge (b := 6) c2 (by omega)), if_neg (nI_pos (by omega)), if_neg (show ¬ nI v0 ≤ (2 : Int32) from nI_ge (a := 2) (by omega) (by omega)), xbd2_some rfl, if_pos rfl]
          exact ⟨_, rfl⟩
        · rw [if_pos (show (6 : Int32) ≤ nI M from nI_le (a := 6) (by omega) (by omega)), xbd2_some rfl, if_pos rfl]
          exact ⟨_, rfl⟩
      · unfold fX7_isItem
        rw [if_neg (nI_in (by omega) (by omega)), nI_clamp (by omega)]
        dsimp only
        rw [if_neg (show ¬ nI (t p) = (100 : Int32) by rw [hc]; decide), if_neg (show ¬ nI (t p) = (101 : Int32) by rw [hc]; decide), if_pos (show nI (t p) = (109 : Int32) by rw [hc]; rfl), nI_1, q2]
        rw [xbd2_some rfl, if_neg (by decide), cl_0]
        rw [e0]
        by_cases c2 : v0 ≤ 2
        · rw [show fX7_in (nI v0) (0 : Int32) (2 : Int32) = some 1 from in_ok (lo := 0) (hi := 2) (Nat.zero_le _) c2 (by omega), xbd_some rfl, if_neg (by decide), if_pos (show nI M = (6 : Int32) by rw [show M = 6 by omega]; rfl)]
          exact ⟨_, _, rfl⟩
        · rw [show fX7_in (nI v0) (0 : Int32) (2 : Int32) = some 0 from in_hi (lo := 0) (hi := 2) (by omega) (by omega), xbd_some rfl, if_pos rfl]
          exact ⟨_, _, rfl⟩
  · have q2 : fX7_areNumbers F (nI L) (nI (p + 1)) (fun j => nI (t j)) w (1 : Int32) = _ := q2
    refine Or.inl ⟨?_, ?_⟩
    · unfold fX2_tell
      rw [get3_0, xbd_some rfl, get3_1, xbd_some rfl, hc, if_neg (show ¬ nI 109 = (100 : Int32) by decide), if_neg (show ¬ nI 109 = (101 : Int32) by decide), if_pos (show nI 109 = (109 : Int32) from rfl)]
      rw [if_neg (show ¬ nI vs.length = (1 : Int32) from fun z => q1 ((nI_eq (b := 1) (by omega) (by omega)).mp z))]
      exact ⟨_, rfl⟩
    · unfold fX7_isItem
      rw [if_neg (nI_in (by omega) (by omega)), nI_clamp (by omega)]
      dsimp only
      rw [if_neg (show ¬ nI (t p) = (100 : Int32) by rw [hc]; decide), if_neg (show ¬ nI (t p) = (101 : Int32) by rw [hc]; decide), if_pos (show nI (t p) = (109 : Int32) by rw [hc]; rfl), nI_1, q2]
      rw [xbd2_some rfl, if_pos rfl]
      exact ⟨_, _, rfl⟩
theorem it_d (ht : TX t) (hL : L ≤ 300) (hp : p < L) (hs : spN t L 3 (p + 1) = some (vs, nx)) (hf : ∀ j, j < vs.length → f j = nI (vs.getD j 0)) (hG : GB M st nd kd o0 ch l0 dB dP su) (hM : GM M nd kd o0 ch l0 dB dP kr orw lr dr) (hC : SC su sf sto) (hS : SM su sn dk) (F : Nat) (hF : 1000 < F) (hc : t p = 100) : ITd nx M st nd sn dk kr orw lr dr (fX2_tell (nI vs.length) f (nI M) (nI (bts l0)) (nI (bts ch)) (nI st) (nI nd) sf sto (fun j => nI (kd j)) (fun j => nI (o0 j)) (fun j => nI (dB j)) (fun j => nI (dP j)) (nI (t p))) (fX7_isItem F (nI L) (nI p) (nI M) (nI st) (nI nd) sn dk (fun j => nI (t j)) w kr orw lr dr) := by
  have hl := spN_len ht 3 (p + 1) vs nx hs
  have hM6 := hG.1
  have hnd := hG.2.2.1
  rcases arm_n (m := 2) ht hL (by omega) (by omega) (show p + 1 ≤ L by omega) F hF w hs with ⟨q1, w', q2, q3⟩ | ⟨q1, p', w', q2⟩
  · have q2 : fX7_areNumbers F (nI L) (nI (p + 1)) (fun j => nI (t j)) w (2 : Int32) = _ := q2
    have hv0 : vs.getD 0 0 ≤ 99 := hl.2.2.2.2 _ (by rw [List.getD_eq_getElem?_getD, List.getElem?_eq_getElem (by omega)]; exact List.getElem_mem _)
    have e0 : (nI nx, w').2 0 = nI (vs.getD 0 0) := q3 0 (by omega)
    have f0 := hf 0 (by omega)
    generalize vs.getD 0 0 = v0 at hv0 e0 f0
    have hv1 : vs.getD 1 0 ≤ 99 := hl.2.2.2.2 _ (by rw [List.getD_eq_getElem?_getD, List.getElem?_eq_getElem (by omega)]; exact List.getElem_mem _)
    have e1 : (nI nx, w').2 1 = nI (vs.getD 1 0) := q3 1 (by omega)
    have f1 := hf 1 (by omega)
    generalize vs.getD 1 0 = v1 at hv1 e1 f1
    have eC : nI vs.length = (2 : Int32) := by rw [q1]; rfl
    by_cases c : (1 ≤ v0 ∧ v0 ≤ 60) ∧ v1 ≤ 5 ∧ nd < 6
    · have hE := hG.2.2.2.2.2.1
      refine Or.inr ⟨M, st, nd + 1, kd, o0, ch, l0, updN dB nd v0, updN dP nd v1, su, sf, sto, sn, dk, w', kr, orw, lr, upd (upd dr (2 * nd) (nI v0)) (2 * nd + 1) (nI v1), ⟨hG.1, hG.2.1, by omega, hG.2.2.2.1, hG.2.2.2.2.1, fun i hi => ?_, hG.2.2.2.2.2.2⟩, ⟨hM.1, fun i hi => ?_⟩, hC, hS, ?_, ?_⟩
      · by_cases c2 : i = nd
        · rw [c2, uN_s, uN_s]
          exact ⟨c.1.1, c.1.2, c.2.1⟩
        · rw [uN_n _ _ c2, uN_n _ _ c2]
          exact hE i (by omega)
      · by_cases c2 : i = nd
        · rw [c2, uN_s, uN_s, uI_s, uI_n _ _ (by omega), uI_s]
          exact ⟨rfl, rfl⟩
        · rw [uN_n _ _ c2, uN_n _ _ c2, uI_n _ _ (by omega), uI_n _ _ (by omega), uI_n _ _ (by omega), uI_n _ _ (by omega)]
          exact hM.2 i (by omega)
      · unfold fX2_tell
        rw [get3_0, xbd_some rfl, get3_1, xbd_some rfl, hc, if_pos (show nI 100 = (100 : Int32) from rfl)]
        rw [if_pos eC, f0, f1]
        unfold fX5_addDraught
        rw [if_neg (show ¬ (6 : Int32) ≤ nI nd from nI_ge (b := 6) c.2.2 (by omega)), if_neg (show ¬ nI v0 < (1 : Int32) from nI_nlt (b := 1) c.1.1 (by omega)), if_neg (show ¬ (60 : Int32) < nI v0 from nI_nlt (a := 60) c.1.2 (by omega)), if_neg (nI_pos (by omega)), if_pos (show nI v1 < (6 : Int32) from nI_lt (b := 6) (by omega) (by omega)), fX3_set_eq _ _ _ _ (by omega), rset_n c.2.2 (by omega), xbd_some rfl, fX3_set_eq _ _ _ _ (by omega), rset_n c.2.2 (by omega), xbd_some rfl, xbd2_some rfl, if_neg (by decide), upd_nI, upd_nI, nI_1]
      · unfold fX7_isItem
        rw [if_neg (nI_in (by omega) (by omega)), nI_clamp (by omega)]
        dsimp only
        rw [if_pos (show nI (t p) = (100 : Int32) by rw [hc]; rfl), nI_1, q2]
        rw [xbd2_some rfl, if_neg (by decide), cl_0, cl_1]
        rw [e0, e1, show fX7_in (nI v0) (1 : Int32) (60 : Int32) = some 1 from in_ok (lo := 1) (hi := 60) c.1.1 c.1.2 (by omega), xbd_some rfl, if_neg (by decide), show fX7_in (nI v1) (0 : Int32) (5 : Int32) = some 1 from in_ok (lo := 0) (hi := 5) (Nat.zero_le _) c.2.1 (by omega), xbd_some rfl, if_neg (by decide), if_neg (show ¬ nI nd = (6 : Int32) from fun z => by have := (nI_eq (b := 6) (by omega) (by omega)).mp z; omega), show (2 : Int32) = nI 2 from rfl, x_mulN, nI_1, if_neg (nI_in (by omega) (by omega)), if_neg (nI_in (by omega) (by omega)), nI_clamp (by omega), nI_clamp (by omega), nI_1]
    · refine Or.inl ⟨?_, ?_⟩
      · unfold fX2_tell
        rw [get3_0, xbd_some rfl, get3_1, xbd_some rfl, hc, if_pos (show nI 100 = (100 : Int32) from rfl)]
        rw [if_pos eC, f0, f1]
        unfold fX5_addDraught
        by_cases c2 : nd < 6
        · rw [if_neg (show ¬ (6 : Int32) ≤ nI nd from nI_ge (b := 6) c2 (by omega))]
          by_cases c3 : v0 < 1
          · rw [if_pos (show nI v0 < (1 : Int32) from nI_lt (b := 1) c3 (by omega)), xbd2_some rfl, if_pos rfl]
            exact ⟨_, rfl⟩
          · rw [if_neg (show ¬ nI v0 < (1 : Int32) from nI_nlt (b := 1) (by omega) (by omega))]
            by_cases c4 : 60 < v0
            · rw [if_pos (show (60 : Int32) < nI v0 from nI_lt (a := 60) c4 (by omega)), xbd2_some rfl, if_pos rfl]
              exact ⟨_, rfl⟩
            · rw [if_neg (show ¬ (60 : Int32) < nI v0 from nI_nlt (a := 60) (by omega) (by omega)), if_neg (nI_pos (by omega)), if_neg (show ¬ nI v1 < (6 : Int32) from nI_nlt (b := 6) (by omega) (by omega)), xbd2_some rfl, if_pos rfl]
              exact ⟨_, rfl⟩
        · rw [if_pos (show (6 : Int32) ≤ nI nd from nI_le (a := 6) (by omega) (by omega)), xbd2_some rfl, if_pos rfl]
          exact ⟨_, rfl⟩
      · unfold fX7_isItem
        rw [if_neg (nI_in (by omega) (by omega)), nI_clamp (by omega)]
        dsimp only
        rw [if_pos (show nI (t p) = (100 : Int32) by rw [hc]; rfl), nI_1, q2]
        rw [xbd2_some rfl, if_neg (by decide), cl_0, cl_1]
        rw [e0, e1]
        by_cases c2 : 1 ≤ v0 ∧ v0 ≤ 60
        · rw [show fX7_in (nI v0) (1 : Int32) (60 : Int32) = some 1 from in_ok (lo := 1) (hi := 60) c2.1 c2.2 (by omega), xbd_some rfl, if_neg (by decide)]
          by_cases c3 : v1 ≤ 5
          · rw [show fX7_in (nI v1) (0 : Int32) (5 : Int32) = some 1 from in_ok (lo := 0) (hi := 5) (Nat.zero_le _) c3 (by omega), xbd_some rfl, if_neg (by decide), if_pos (show nI nd = (6 : Int32) by rw [show nd = 6 by omega]; rfl)]
            exact ⟨_, _, rfl⟩
          · rw [show fX7_in (nI v1) (0 : Int32) (5 : Int32) = some 0 from in_hi (lo := 0) (hi := 5) (by omega) (by omega), xbd_some rfl, if_pos rfl]
            exact ⟨_, _, rfl⟩
        · have e3 : fX7_in (nI v0) (1 : Int32) (60 : Int32) = some 0 := by
            by_cases c3 : v0 < 1
            · exact in_un (lo := 1) (hi := 60) c3 (by omega)
            · exact in_hi (lo := 1) (hi := 60) (by omega) (by omega)
          rw [e3, xbd_some rfl, if_pos rfl]
          exact ⟨_, _, rfl⟩
  · have q2 : fX7_areNumbers F (nI L) (nI (p + 1)) (fun j => nI (t j)) w (2 : Int32) = _ := q2
    refine Or.inl ⟨?_, ?_⟩
    · unfold fX2_tell
      rw [get3_0, xbd_some rfl, get3_1, xbd_some rfl, hc, if_pos (show nI 100 = (100 : Int32) from rfl)]
      rw [if_neg (show ¬ nI vs.length = (2 : Int32) from fun z => q1 ((nI_eq (b := 2) (by omega) (by omega)).mp z))]
      exact ⟨_, rfl⟩
    · unfold fX7_isItem
      rw [if_neg (nI_in (by omega) (by omega)), nI_clamp (by omega)]
      dsimp only
      rw [if_pos (show nI (t p) = (100 : Int32) by rw [hc]; rfl), nI_1, q2]
      rw [xbd2_some rfl, if_pos rfl]
      exact ⟨_, _, rfl⟩
theorem lan_yes {w' : Nat → Int32} {v : Nat} (hM : M ≤ 6) (h : v < M) (he : w' 0 = nI v) : fX7_isLantern (nI M) w' = some 1 := by
  unfold fX7_isLantern
  rw [cl_0, he, show (1 : Int32) = nI 1 from rfl, x_subN (by omega) (by omega), show fX7_in (nI v) (0 : Int32) (nI (M - 1)) = some 1 from in_ok (lo := 0) (Nat.zero_le _) (by omega) (by omega)]
  rfl
theorem lan_no {w' : Nat → Int32} {v : Nat} (hM : M ≤ 6) (h : M ≤ v) (hv : v ≤ 99) (he : w' 0 = nI v) : fX7_isLantern (nI M) w' = some 0 := by
  have e : fX7_in (nI v) (0 : Int32) (nI M - (1 : Int32)) = some 0 := by
    by_cases c : M = 0
    · rw [c]
      unfold fX7_in
      rw [if_neg (nI_pos (by omega)), if_pos]
      rw [x_lt, nI_toInt (by omega), show (nI 0 - (1 : Int32)).toInt = -1 from by decide]
      omega
    · rw [show (1 : Int32) = nI 1 from rfl, x_subN (by omega) (by omega)]
      exact in_hi (lo := 0) (by omega) (by omega)
  unfold fX7_isLantern
  rw [cl_0, he, e]
  rfl
theorem GB_oil {v n z c : Nat} (hG : GB M st nd kd o0 ch l0 dB dP su) (hv : v < M) (hn : n ≤ 40) (hz : z ≤ 1) (hzn : z ≤ n) (hc : c ≤ 1) (hcn : c = 1 → n = 0) : GB M st nd kd (updN o0 v n) (updN ch v c) (updN l0 v z) dB dP su := by
  obtain ⟨h1, h2, h3, h4, h5, h6, h7⟩ := hG
  refine ⟨h1, h2, h3, fun i hi => ?_, fun i hi => ?_, h6, h7⟩
  · have q := h4 i hi
    by_cases e : i = v
    · rw [e, uN_s, uN_s, uN_s]
      rw [e] at q
      exact ⟨q.1, hn, hc, hz, hzn, hcn⟩
    · rw [uN_n _ _ e, uN_n _ _ e, uN_n _ _ e]
      exact q
  · rw [uN_n _ _ (by omega), uN_n _ _ (by omega), uN_n _ _ (by omega)]
    exact h5 i hi
theorem GM_oil {v n z c : Nat} {x : Int32} (hM : GM M nd kd o0 ch l0 dB dP kr orw lr dr) (hx : x = (if c = 1 then -1 else nI n)) : GM M nd kd (updN o0 v n) (updN ch v c) (updN l0 v z) dB dP kr (upd orw v x) (upd lr v (nI z)) dr := by
  refine ⟨fun i hi => ?_, hM.2⟩
  have q := hM.1 i hi
  by_cases e : i = v
  · rw [e, uN_s, uN_s, uN_s, uI_s, uI_s]
    rw [e] at q
    exact ⟨q.1, hx, rfl⟩
  · rw [uN_n _ _ e, uN_n _ _ e, uN_n _ _ e, uI_n _ _ e, uI_n _ _ e]
    exact q
theorem tellOil_yes {v n z : Nat} (hG : GB M st nd kd o0 ch l0 dB dP su) (hv : v < M) (hn : n ≤ 40) (hz : z ≤ 1) (hzn : z ≤ n) : fX5_tellOil (nI M) (nI (bts l0)) (nI (bts ch)) (fun j => nI (o0 j)) (nI v) (nI n) (nI z) = some (1, nI (bts (updN l0 v z)), nI (bts (updN ch v 0)), (fun j => nI (updN o0 v n j))) := by
  have h6 := hG.1
  have e4 := hG.2.2.2.1
  have c1 : ∀ i, i < 6 → l0 i ≤ 1 := fun i hi => (e4 i hi).2.2.2.1
  have c2 : ∀ i, i < 6 → ch i ≤ 1 := fun i hi => (e4 i hi).2.2.1
  unfold fX5_tellOil
  rw [if_neg (nI_pos (by omega)), if_neg (nI_ge hv (by omega)), if_neg (nI_pos (by omega)), if_neg (show ¬ (40 : Int32) < nI n from nI_nlt (a := 40) hn (by omega)), if_neg (nI_pos (by omega)), if_neg (show ¬ (1 : Int32) < nI z from nI_nlt (a := 1) hz (by omega)), if_pos (nI_le hzn (by omega)), fX3_set_eq _ _ _ _ (by omega), rset_n (by omega) (by omega), xbd_some rfl, bit_clr c2 (by omega), upd_nI]
  by_cases c : z = 1
  · rw [c, if_pos (show nI 1 = (1 : Int32) from rfl), bit_set c1 (by omega)]
  · rw [show z = 0 by omega, if_neg (by decide), bit_clr c1 (by omega)]
theorem tellOil_no {v n z : Nat} (h6 : M ≤ 6) (hv : v ≤ 99) (hn : n ≤ 99) (hz : z ≤ 99) (h : ¬ (v < M ∧ n ≤ 40 ∧ z ≤ 1 ∧ z ≤ n)) : ∃ u, fX5_tellOil (nI M) (nI (bts l0)) (nI (bts ch)) (fun j => nI (o0 j)) (nI v) (nI n) (nI z) = some (0, u) := by
  unfold fX5_tellOil
  rw [if_neg (nI_pos (by omega))]
  by_cases c1 : v < M
  · rw [if_neg (nI_ge c1 (by omega)), if_neg (nI_pos (by omega))]
    by_cases c2 : n ≤ 40
    · rw [if_neg (show ¬ (40 : Int32) < nI n from nI_nlt (a := 40) c2 (by omega)), if_neg (nI_pos (by omega))]
      by_cases c3 : z ≤ 1
      · rw [if_neg (show ¬ (1 : Int32) < nI z from nI_nlt (a := 1) c3 (by omega)), if_neg (nI_ge (by omega) (by omega))]
        exact ⟨_, rfl⟩
      · rw [if_pos (show (1 : Int32) < nI z from nI_lt (a := 1) (by omega) (by omega))]
        exact ⟨_, rfl⟩
    · rw [if_pos (show (40 : Int32) < nI n from nI_lt (a := 40) (by omega) (by omega))]
      exact ⟨_, rfl⟩
  · rw [if_pos (nI_le (by omega) (by omega))]
    exact ⟨_, rfl⟩
theorem it_e (ht : TX t) (hL : L ≤ 300) (hp : p < L) (hs : spN t L 3 (p + 1) = some (vs, nx)) (hf : ∀ j, j < vs.length → f j = nI (vs.getD j 0)) (hG : GB M st nd kd o0 ch l0 dB dP su) (hM : GM M nd kd o0 ch l0 dB dP kr orw lr dr) (hC : SC su sf sto) (hS : SM su sn dk) (F : Nat) (hF : 1000 < F) (hc : t p = 101) : ITd nx M st nd sn dk kr orw lr dr (fX2_tell (nI vs.length) f (nI M) (nI (bts l0)) (nI (bts ch)) (nI st) (nI nd) sf sto (fun j => nI (kd j)) (fun j => nI (o0 j)) (fun j => nI (dB j)) (fun j => nI (dP j)) (nI (t p))) (fX7_isItem F (nI L) (nI p) (nI M) (nI st) (nI nd) sn dk (fun j => nI (t j)) w kr orw lr dr) := by
  have hl := spN_len ht 3 (p + 1) vs nx hs
  have hM6 := hG.1
  have hnd := hG.2.2.1
  rcases arm_n (m := 1) ht hL (by omega) (by omega) (show p + 1 ≤ L by omega) F hF w hs with ⟨q1, w', q2, q3⟩ | ⟨q1, p', w', q2⟩
  · have q2 : fX7_areNumbers F (nI L) (nI (p + 1)) (fun j => nI (t j)) w (1 : Int32) = _ := q2
    have hv0 : vs.getD 0 0 ≤ 99 := hl.2.2.2.2 _ (by rw [List.getD_eq_getElem?_getD, List.getElem?_eq_getElem (by omega)]; exact List.getElem_mem _)
    have e0 : (nI nx, w').2 0 = nI (vs.getD 0 0) := q3 0 (by omega)
    have f0 := hf 0 (by omega)
    generalize vs.getD 0 0 = v0 at hv0 e0 f0
    have eC : nI vs.length = (1 : Int32) := by rw [q1]; rfl
    by_cases c : v0 < M
    · have e4 := hG.2.2.2.1
      have c2 : ∀ i, i < 6 → updN ch v0 0 i ≤ 1 := fun i hi => by
        by_cases e : i = v0
        · rw [e, uN_s]
          omega
        · rw [uN_n _ _ e]
          exact (e4 i hi).2.2.1
      have eb : bts (updN (updN ch v0 0) v0 1) = bts (updN ch v0 1) := bts_congr (fun i _ => by
        by_cases e : i = v0
        · rw [e, uN_s, uN_s]
        · rw [uN_n _ _ e, uN_n _ _ e, uN_n _ _ e])
      refine Or.inr ⟨M, st, nd, kd, updN o0 v0 0, updN ch v0 1, updN l0 v0 0, dB, dP, su, sf, sto, sn, dk, w', kr, upd orw v0 (-1), upd lr v0 (nI 0), dr, GB_oil hG c (by omega) (by omega) (by omega) (by omega) (fun _ => rfl), GM_oil hM (if_pos rfl).symm, hC, hS, ?_, ?_⟩
      · unfold fX2_tell
        rw [get3_0, xbd_some rfl, get3_1, xbd_some rfl, hc, if_neg (show ¬ nI 101 = (100 : Int32) by decide), if_pos (show nI 101 = (101 : Int32) from rfl)]
        rw [if_pos eC, f0]
        unfold fX5_tellCheese
        rw [show fX5_tellOil (nI M) (nI (bts l0)) (nI (bts ch)) (fun j => nI (o0 j)) (nI v0) (0 : Int32) (0 : Int32) = _ from tellOil_yes hG c (n := 0) (z := 0) (by omega) (by omega) (by omega), xbd2_some rfl, if_neg (by decide), xbd2_some rfl, if_neg (by decide), bit_set c2 (by omega), eb]
      · unfold fX7_isItem
        rw [if_neg (nI_in (by omega) (by omega)), nI_clamp (by omega)]
        dsimp only
        rw [if_neg (show ¬ nI (t p) = (100 : Int32) by rw [hc]; decide), if_pos (show nI (t p) = (101 : Int32) by rw [hc]; rfl), nI_1, q2]
        rw [xbd2_some rfl, if_neg (by decide), lan_yes hM6 c e0, xbd_some rfl, if_neg (by decide), cl_0, e0, if_neg (nI_in (by omega) (by omega)), if_neg (nI_in (by omega) (by omega)), nI_clamp (by omega)]
        rfl
    · refine Or.inl ⟨?_, ?_⟩
      · unfold fX2_tell
        rw [get3_0, xbd_some rfl, get3_1, xbd_some rfl, hc, if_neg (show ¬ nI 101 = (100 : Int32) by decide), if_pos (show nI 101 = (101 : Int32) from rfl)]
        rw [if_pos eC, f0]
        unfold fX5_tellCheese
        obtain ⟨u, hu⟩ := tellOil_no (l0 := l0) (ch := ch) (o0 := o0) (n := 0) (z := 0) hM6 hv0 (by omega) (by omega) (fun z => c z.1)
        rw [show fX5_tellOil (nI M) (nI (bts l0)) (nI (bts ch)) (fun j => nI (o0 j)) (nI v0) (0 : Int32) (0 : Int32) = _ from hu, xbd2_some rfl, if_pos rfl, xbd2_some rfl, if_pos rfl]
        exact ⟨_, rfl⟩
      · unfold fX7_isItem
        rw [if_neg (nI_in (by omega) (by omega)), nI_clamp (by omega)]
        dsimp only
        rw [if_neg (show ¬ nI (t p) = (100 : Int32) by rw [hc]; decide), if_pos (show nI (t p) = (101 : Int32) by rw [hc]; rfl), nI_1, q2]
        rw [xbd2_some rfl, if_neg (by decide), lan_no hM6 (by omega) hv0 e0, xbd_some rfl, if_pos rfl]
        exact ⟨_, _, rfl⟩
  · have q2 : fX7_areNumbers F (nI L) (nI (p + 1)) (fun j => nI (t j)) w (1 : Int32) = _ := q2
    refine Or.inl ⟨?_, ?_⟩
    · unfold fX2_tell
      rw [get3_0, xbd_some rfl, get3_1, xbd_some rfl, hc, if_neg (show ¬ nI 101 = (100 : Int32) by decide), if_pos (show nI 101 = (101 : Int32) from rfl)]
      rw [if_neg (show ¬ nI vs.length = (1 : Int32) from fun z => q1 ((nI_eq (b := 1) (by omega) (by omega)).mp z))]
      exact ⟨_, rfl⟩
    · unfold fX7_isItem
      rw [if_neg (nI_in (by omega) (by omega)), nI_clamp (by omega)]
      dsimp only
      rw [if_neg (show ¬ nI (t p) = (100 : Int32) by rw [hc]; decide), if_pos (show nI (t p) = (101 : Int32) by rw [hc]; rfl), nI_1, q2]
      rw [xbd2_some rfl, if_pos rfl]
      exact ⟨_, _, rfl⟩
theorem it_o (ht : TX t) (hL : L ≤ 300) (hp : p < L) (hs : spN t L 3 (p + 1) = some (vs, nx)) (hf : ∀ j, j < vs.length → f j = nI (vs.getD j 0)) (hG : GB M st nd kd o0 ch l0 dB dP su) (hM : GM M nd kd o0 ch l0 dB dP kr orw lr dr) (hC : SC su sf sto) (hS : SM su sn dk) (F : Nat) (hF : 1000 < F) (hc : t p = 111) : ITd nx M st nd sn dk kr orw lr dr (fX2_tell (nI vs.length) f (nI M) (nI (bts l0)) (nI (bts ch)) (nI st) (nI nd) sf sto (fun j => nI (kd j)) (fun j => nI (o0 j)) (fun j => nI (dB j)) (fun j => nI (dP j)) (nI (t p))) (fX7_isItem F (nI L) (nI p) (nI M) (nI st) (nI nd) sn dk (fun j => nI (t j)) w kr orw lr dr) := by
  have hl := spN_len ht 3 (p + 1) vs nx hs
  have hM6 := hG.1
  have hnd := hG.2.2.1
  rcases arm_n (m := 3) ht hL (by omega) (by omega) (show p + 1 ≤ L by omega) F hF w hs with ⟨q1, w', q2, q3⟩ | ⟨q1, p', w', q2⟩
  · have q2 : fX7_areNumbers F (nI L) (nI (p + 1)) (fun j => nI (t j)) w (3 : Int32) = _ := q2
    have hv0 : vs.getD 0 0 ≤ 99 := hl.2.2.2.2 _ (by rw [List.getD_eq_getElem?_getD, List.getElem?_eq_getElem (by omega)]; exact List.getElem_mem _)
    have e0 : (nI nx, w').2 0 = nI (vs.getD 0 0) := q3 0 (by omega)
    have f0 := hf 0 (by omega)
    generalize vs.getD 0 0 = v0 at hv0 e0 f0
    have hv1 : vs.getD 1 0 ≤ 99 := hl.2.2.2.2 _ (by rw [List.getD_eq_getElem?_getD, List.getElem?_eq_getElem (by omega)]; exact List.getElem_mem _)
    have e1 : (nI nx, w').2 1 = nI (vs.getD 1 0) := q3 1 (by omega)
    have f1 := hf 1 (by omega)
    generalize vs.getD 1 0 = v1 at hv1 e1 f1
    have hv2 : vs.getD 2 0 ≤ 99 := hl.2.2.2.2 _ (by rw [List.getD_eq_getElem?_getD, List.getElem?_eq_getElem (by omega)]; exact List.getElem_mem _)
    have e2 : (nI nx, w').2 2 = nI (vs.getD 2 0) := q3 2 (by omega)
    have f2 := hf 2 (by omega)
    generalize vs.getD 2 0 = v2 at hv2 e2 f2
    have eC : nI vs.length = (3 : Int32) := by rw [q1]; rfl
    by_cases c : v0 < M ∧ v1 ≤ 40 ∧ v2 ≤ 1 ∧ v2 ≤ v1
    · obtain ⟨c1, c2, c3, c4⟩ := c
      refine Or.inr ⟨M, st, nd, kd, updN o0 v0 v1, updN ch v0 0, updN l0 v0 v2, dB, dP, su, sf, sto, sn, dk, w', kr, upd orw v0 (nI v1), upd lr v0 (nI v2), dr, GB_oil hG c1 c2 c3 c4 (by omega) (fun z => by omega), GM_oil hM (if_neg (by omega)).symm, hC, hS, ?_, ?_⟩
      · unfold fX2_tell
        rw [get3_0, xbd_some rfl, get3_1, xbd_some rfl, hc, if_neg (show ¬ nI 111 = (100 : Int32) by decide), if_neg (show ¬ nI 111 = (101 : Int32) by decide), if_neg (show ¬ nI 111 = (109 : Int32) by decide), if_pos (show nI 111 = (111 : Int32) from rfl)]
        rw [if_pos eC, get3_2, xbd_some rfl, f0, f1, f2, tellOil_yes hG c1 c2 c3 c4, xbd2_some rfl, if_neg (by decide)]
      · unfold fX7_isItem
        rw [if_neg (nI_in (by omega) (by omega)), nI_clamp (by omega)]
        dsimp only
        rw [if_neg (show ¬ nI (t p) = (100 : Int32) by rw [hc]; decide), if_neg (show ¬ nI (t p) = (101 : Int32) by rw [hc]; decide), if_neg (show ¬ nI (t p) = (109 : Int32) by rw [hc]; decide), if_pos (show nI (t p) = (111 : Int32) by rw [hc]; rfl), nI_1, q2]
        rw [xbd2_some rfl, if_neg (by decide), lan_yes hM6 c1 e0, xbd_some rfl, if_neg (by decide), cl_0, cl_1, cl_2]
        rw [e0, e1, e2, show fX7_in (nI v1) (0 : Int32) (40 : Int32) = some 1 from in_ok (lo := 0) (hi := 40) (Nat.zero_le _) c2 (by omega), xbd_some rfl, if_neg (by decide)]
        by_cases c5 : v1 = 0
        · rw [if_pos (show nI v1 ≤ 0 by rw [c5]; exact Int32.le_refl _), show fX7_in (nI v2) (0 : Int32) (0 : Int32) = some 1 from in_ok (lo := 0) (hi := 0) (Nat.zero_le _) (by omega) (by omega), xbd_some rfl, if_neg (by decide), if_neg (nI_in (by omega) (by omega)), if_neg (nI_in (by omega) (by omega)), nI_clamp (by omega)]
        · rw [if_neg (nI_nle (by omega) (by omega)), show fX7_in (nI v2) (0 : Int32) (1 : Int32) = some 1 from in_ok (lo := 0) (hi := 1) (Nat.zero_le _) (by omega) (by omega), xbd_some rfl, if_neg (by decide), if_neg (nI_in (by omega) (by omega)), if_neg (nI_in (by omega) (by omega)), nI_clamp (by omega)]
    · refine Or.inl ⟨?_, ?_⟩
      · unfold fX2_tell
        rw [get3_0, xbd_some rfl, get3_1, xbd_some rfl, hc, if_neg (show ¬ nI 111 = (100 : Int32) by decide), if_neg (show ¬ nI 111 = (101 : Int32) by decide), if_neg (show ¬ nI 111 = (109 : Int32) by decide), if_pos (show nI 111 = (111 : Int32) from rfl)]
        obtain ⟨u, hu⟩ := tellOil_no (l0 := l0) (ch := ch) (o0 := o0) hM6 hv0 hv1 hv2 c
        rw [if_pos eC, get3_2, xbd_some rfl, f0, f1, f2, hu, xbd2_some rfl, if_pos rfl]
        exact ⟨_, rfl⟩
      · unfold fX7_isItem
        rw [if_neg (nI_in (by omega) (by omega)), nI_clamp (by omega)]
        dsimp only
        rw [if_neg (show ¬ nI (t p) = (100 : Int32) by rw [hc]; decide), if_neg (show ¬ nI (t p) = (101 : Int32) by rw [hc]; decide), if_neg (show ¬ nI (t p) = (109 : Int32) by rw [hc]; decide), if_pos (show nI (t p) = (111 : Int32) by rw [hc]; rfl), nI_1, q2]
        rw [xbd2_some rfl, if_neg (by decide)]
        by_cases c1 : v0 < M
        · rw [lan_yes hM6 c1 e0, xbd_some rfl, if_neg (by decide), cl_0, cl_1, cl_2]
          rw [e0, e1, e2]
          by_cases c2 : v1 ≤ 40
          · rw [show fX7_in (nI v1) (0 : Int32) (40 : Int32) = some 1 from in_ok (lo := 0) (hi := 40) (Nat.zero_le _) c2 (by omega), xbd_some rfl, if_neg (by decide)]
            by_cases c5 : v1 = 0
            · rw [if_pos (show nI v1 ≤ 0 by rw [c5]; exact Int32.le_refl _), show fX7_in (nI v2) (0 : Int32) (0 : Int32) = some 0 from in_hi (lo := 0) (hi := 0) (by omega) (by omega), xbd_some rfl, if_pos rfl]
              exact ⟨_, _, rfl⟩
            · rw [if_neg (nI_nle (by omega) (by omega)), show fX7_in (nI v2) (0 : Int32) (1 : Int32) = some 0 from in_hi (lo := 0) (hi := 1) (by omega) (by omega), xbd_some rfl, if_pos rfl]
              exact ⟨_, _, rfl⟩
          · rw [show fX7_in (nI v1) (0 : Int32) (40 : Int32) = some 0 from in_hi (lo := 0) (hi := 40) (by omega) (by omega), xbd_some rfl, if_pos rfl]
            exact ⟨_, _, rfl⟩
        · rw [lan_no hM6 (by omega) hv0 e0, xbd_some rfl, if_pos rfl]
          exact ⟨_, _, rfl⟩
  · have q2 : fX7_areNumbers F (nI L) (nI (p + 1)) (fun j => nI (t j)) w (3 : Int32) = _ := q2
    refine Or.inl ⟨?_, ?_⟩
    · unfold fX2_tell
      rw [get3_0, xbd_some rfl, get3_1, xbd_some rfl, hc, if_neg (show ¬ nI 111 = (100 : Int32) by decide), if_neg (show ¬ nI 111 = (101 : Int32) by decide), if_neg (show ¬ nI 111 = (109 : Int32) by decide), if_pos (show nI 111 = (111 : Int32) from rfl)]
      rw [if_neg (show ¬ nI vs.length = (3 : Int32) from fun z => q1 ((nI_eq (b := 3) (by omega) (by omega)).mp z))]
      exact ⟨_, rfl⟩
    · unfold fX7_isItem
      rw [if_neg (nI_in (by omega) (by omega)), nI_clamp (by omega)]
      dsimp only
      rw [if_neg (show ¬ nI (t p) = (100 : Int32) by rw [hc]; decide), if_neg (show ¬ nI (t p) = (101 : Int32) by rw [hc]; decide), if_neg (show ¬ nI (t p) = (109 : Int32) by rw [hc]; decide), if_pos (show nI (t p) = (111 : Int32) by rw [hc]; rfl), nI_1, q2]
      rw [xbd2_some rfl, if_pos rfl]
      exact ⟨_, _, rfl⟩
theorem item_n (ht : TX t) (hL : L ≤ 300) (hp : p < L) (hs : spN t L 3 (p + 1) = some (vs, nx)) (hf : ∀ j, j < vs.length → f j = nI (vs.getD j 0)) (hG : GB M st nd kd o0 ch l0 dB dP su) (hM : GM M nd kd o0 ch l0 dB dP kr orw lr dr) (hC : SC su sf sto) (hS : SM su sn dk) (F : Nat) (hF : 1000 < F) : ITd nx M st nd sn dk kr orw lr dr (fX2_tell (nI vs.length) f (nI M) (nI (bts l0)) (nI (bts ch)) (nI st) (nI nd) sf sto (fun j => nI (kd j)) (fun j => nI (o0 j)) (fun j => nI (dB j)) (fun j => nI (dP j)) (nI (t p))) (fX7_isItem F (nI L) (nI p) (nI M) (nI st) (nI nd) sn dk (fun j => nI (t j)) w kr orw lr dr) := by
  have hb := ht p
  by_cases c1 : t p = 100
  · exact it_d ht hL hp hs hf hG hM hC hS F hF c1
  by_cases c2 : t p = 101
  · exact it_e ht hL hp hs hf hG hM hC hS F hF c2
  by_cases c3 : t p = 109
  · exact it_m ht hL hp hs hf hG hM hC hS F hF c3
  by_cases c4 : t p = 111
  · exact it_o ht hL hp hs hf hG hM hC hS F hF c4
  by_cases c5 : t p = 115
  · exact it_s ht hL hp hs hf hG hM hC hS F hF c5
  by_cases c6 : t p = 117
  · exact it_u ht hL hp hs hf hG hM hC hS F hF c6
  have n : ∀ k, k < 256 → t p ≠ k → ¬ nI (t p) = nI k := fun k hk h z => h ((nI_eq (by omega) (by omega)).mp z)
  have n1 : ¬ nI (t p) = (100 : Int32) := n 100 (by omega) c1
  have n2 : ¬ nI (t p) = (101 : Int32) := n 101 (by omega) c2
  have n3 : ¬ nI (t p) = (109 : Int32) := n 109 (by omega) c3
  have n4 : ¬ nI (t p) = (111 : Int32) := n 111 (by omega) c4
  have n5 : ¬ nI (t p) = (115 : Int32) := n 115 (by omega) c5
  have n6 : ¬ nI (t p) = (117 : Int32) := n 117 (by omega) c6
  refine Or.inl ⟨?_, ?_⟩
  · unfold fX2_tell
    rw [get3_0, xbd_some rfl, get3_1, xbd_some rfl, if_neg n1, if_neg n2, if_neg n3, if_neg n4, if_neg n5, if_neg n6]
    exact ⟨_, rfl⟩
  · unfold fX7_isItem
    rw [if_neg (nI_in (by omega) (by omega)), nI_clamp (by omega)]
    dsimp only
    rw [if_neg n1, if_neg n2, if_neg n3, if_neg n4, if_neg n5, if_neg n6]
    exact ⟨_, _, rfl⟩
theorem item_0 (ht : TX t) (hL : L ≤ 300) (hp : p < L) (hs : spN t L 3 (p + 1) = none) (F : Nat) (hF : 1000 < F) : ∃ p' w', (fX7_isItem F (nI L) (nI p) (nI M) (nI st) (nI nd) sn dk (fun j => nI (t j)) w kr orw lr dr) = some (0, p', nI M, nI st, nI nd, sn, dk, w', kr, orw, lr, dr) := by
  have hb := ht p
  have n : ∀ k, k < 256 → t p ≠ k → ¬ nI (t p) = nI k := fun k hk h z => h ((nI_eq (by omega) (by omega)).mp z)
  have ar : ∀ m, m ≤ 3 → 1 ≤ m → ∃ p' w', fX7_areNumbers F (nI L) (nI (p + 1)) (fun j => nI (t j)) w (nI m) = some (0, p', w') := fun m h1 h2 => arm_0 ht hL h1 h2 (by omega) F hF w hs
  unfold fX7_isItem
  rw [if_neg (nI_in (by omega) (by omega)), nI_clamp (by omega), nI_1]
  dsimp only
  by_cases c100 : t p = 100
  · obtain ⟨p', w', e⟩ := ar 2 (by omega) (by omega)
    rw [if_pos (show nI (t p) = (100 : Int32) by rw [c100]; rfl), show fX7_areNumbers F (nI L) (nI (p + 1)) (fun j => nI (t j)) w (2 : Int32) = _ from e, xbd2_some rfl, if_pos rfl]
    exact ⟨_, _, rfl⟩
  rw [if_neg (show ¬ nI (t p) = (100 : Int32) from n 100 (by omega) c100)]
  by_cases c101 : t p = 101
  · obtain ⟨p', w', e⟩ := ar 1 (by omega) (by omega)
    rw [if_pos (show nI (t p) = (101 : Int32) by rw [c101]; rfl), show fX7_areNumbers F (nI L) (nI (p + 1)) (fun j => nI (t j)) w (1 : Int32) = _ from e, xbd2_some rfl, if_pos rfl]
    exact ⟨_, _, rfl⟩
  rw [if_neg (show ¬ nI (t p) = (101 : Int32) from n 101 (by omega) c101)]
  by_cases c109 : t p = 109
  · obtain ⟨p', w', e⟩ := ar 1 (by omega) (by omega)
    rw [if_pos (show nI (t p) = (109 : Int32) by rw [c109]; rfl), show fX7_areNumbers F (nI L) (nI (p + 1)) (fun j => nI (t j)) w (1 : Int32) = _ from e, xbd2_some rfl, if_pos rfl]
    exact ⟨_, _, rfl⟩
  rw [if_neg (show ¬ nI (t p) = (109 : Int32) from n 109 (by omega) c109)]
  by_cases c111 : t p = 111
  · obtain ⟨p', w', e⟩ := ar 3 (by omega) (by omega)
    rw [if_pos (show nI (t p) = (111 : Int32) by rw [c111]; rfl), show fX7_areNumbers F (nI L) (nI (p + 1)) (fun j => nI (t j)) w (3 : Int32) = _ from e, xbd2_some rfl, if_pos rfl]
    exact ⟨_, _, rfl⟩
  rw [if_neg (show ¬ nI (t p) = (111 : Int32) from n 111 (by omega) c111)]
  by_cases c115 : t p = 115
  · obtain ⟨p', w', e⟩ := ar 1 (by omega) (by omega)
    rw [if_pos (show nI (t p) = (115 : Int32) by rw [c115]; rfl), show fX7_areNumbers F (nI L) (nI (p + 1)) (fun j => nI (t j)) w (1 : Int32) = _ from e, xbd2_some rfl, if_pos rfl]
    exact ⟨_, _, rfl⟩
  rw [if_neg (show ¬ nI (t p) = (115 : Int32) from n 115 (by omega) c115)]
  by_cases c117 : t p = 117
  · obtain ⟨p', w', e⟩ := ar 2 (by omega) (by omega)
    rw [if_pos (show nI (t p) = (117 : Int32) by rw [c117]; rfl), show fX7_areNumbers F (nI L) (nI (p + 1)) (fun j => nI (t j)) w (2 : Int32) = _ from e, xbd2_some rfl, if_pos rfl]
    exact ⟨_, _, rfl⟩
  rw [if_neg (show ¬ nI (t p) = (117 : Int32) from n 117 (by omega) c117)]
  exact ⟨_, _, rfl⟩
end ITM
