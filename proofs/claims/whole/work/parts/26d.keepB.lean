/-! ===== KEEP: the class ===== -/
theorem xb_and1 : ∀ s, s < 64 → ∀ l, l < 6 → (nI s &&& nI (2 ^ l) = 0 ↔ s / 2 ^ l % 2 = 0) := by decide +kernel
theorem bn_L {M st set p : Nat} (h : 2 ≤ M) (h' : M ≤ 6) (hst : st ≤ 5) (hset : set < 64) (hp : p < 6) : ∀ i G, i < G → i ≤ 100 → fX5_bellsNeeded_L3 (nI M) (nI st) (nI p) (nI set) (fun (v3_4 : Int32) => some (0 : Int32)) G (nI i + (-1)) = some (nI (bnN M st set p i)) := by
  intro i
  induction i with
  | zero =>
    intro G hG _
    obtain ⟨G, rfl⟩ : ∃ G', G = G' + 1 := ⟨G - 1, by omega⟩
    rw [fX5_bellsNeeded_L3, if_pos (show nI 0 + (-1) < 0 by decide)]
    rfl
  | succ i ih =>
    intro G hG hi
    obtain ⟨G, rfl⟩ : ∃ G', G = G' + 1 := ⟨G - 1, by omega⟩
    have hk : i * st ≤ 100 * 5 := Nat.mul_le_mul (by omega) hst
    rw [nI_dec, fX5_bellsNeeded_L3, if_neg (nI_pos (by omega)), x_mulN, nI_add, fX5_round_n h h' (by omega), xbd_some rfl, xb_btl hset (by have := Nat.mod_lt (p + i * st) (show 0 < M by omega); omega), nI_1]
    have hb := btl_le set ((p + i * st) % M)
    unfold bnN
    by_cases c : btl set ((p + i * st) % M) = 1
    · rw [if_pos ((nI_is1 hb).mpr c), if_pos c]
    · rw [if_neg (fun z => c ((nI_is1 hb).mp z)), if_neg c]
      exact ih G (by omega) (by omega)
theorem bellsNeeded_n {M st set p n : Nat} (h : 2 ≤ M) (h' : M ≤ 6) (hst : st ≤ 5) (hset : set < 64) (hp : p < 6) (hn : n ≤ 20) (F : Nat) (hF : 1000 < F) : fX5_bellsNeeded F (nI M) (nI st) (nI p) (nI set) (nI n) = some (nI (bnN M st set p (n + 1))) := by
  unfold fX5_bellsNeeded
  rw [← nI_dec n]
  exact bn_L h h' hst hset hp (n + 1) F (by omega) (by omega)
/-! bits of a long -/
theorem lb_one : ∀ u, u < 64 → ∀ v, v < 64 → ((1 : Int64) <<< ((nI u).toInt64 &&& 63)).toBitVec.getLsbD v = decide (v = u) := by decide +kernel
theorem lb_or (x y : Int64) (v : Nat) : (x ||| y).toBitVec.getLsbD v = (x.toBitVec.getLsbD v || y.toBitVec.getLsbD v) := by
  rw [show (x ||| y).toBitVec = x.toBitVec ||| y.toBitVec from rfl, BitVec.getLsbD_or]
theorem lb_sh : ∀ u, u < 64 → (((nI u).toInt64.toUInt64 &&& Int64.toUInt64 63).toBitVec % 64#64).toNat = u := by decide +kernel
theorem bv_bit (y : BitVec 64) (i : Nat) : (y &&& 1#64).getLsbD i = (if i = 0 then y.getLsbD 0 else false) := by
  rw [BitVec.getLsbD_and]
  by_cases c : i = 0
  · subst c
    rw [if_pos rfl, show (1#64).getLsbD 0 = true from rfl, Bool.and_true]
  · rw [if_neg c, BitVec.getLsbD_one]
    simp [c]
theorem bv_one (y : BitVec 64) : (y &&& 1#64) = 1#64 ↔ y.getLsbD 0 = true := by
  constructor
  · intro h
    have e := bv_bit y 0
    rw [if_pos rfl, h] at e
    exact e.symm
  · intro h
    apply BitVec.eq_of_getLsbD_eq
    intro i hi
    rw [bv_bit, h, BitVec.getLsbD_one]
    by_cases c : i = 0 <;> simp [c]
theorem bv_zero (y : BitVec 64) : (y &&& 1#64) = 0#64 ↔ y.getLsbD 0 = false := by
  constructor
  · intro h
    have e := bv_bit y 0
    rw [if_pos rfl, h] at e
    exact e.symm
  · intro h
    apply BitVec.eq_of_getLsbD_eq
    intro i hi
    rw [bv_bit, h]
    by_cases c : i = 0 <;> simp [c]
theorem lb_test (x : Int64) {u : Nat} (hu : u < 64) : lg_cmp (((x.toUInt64 >>> ((nI u).toInt64.toUInt64 &&& Int64.toUInt64 63)).toInt64) &&& (1 : Int64)) (1 : Int64) = 0 ↔ x.toBitVec.getLsbD u = true := by
  rw [lg_cmp_eq, ← Int64.toBitVec_inj]
  have e : ((((x.toUInt64 >>> ((nI u).toInt64.toUInt64 &&& Int64.toUInt64 63)).toInt64) &&& (1 : Int64))).toBitVec = (x.toBitVec >>> (((nI u).toInt64.toUInt64 &&& Int64.toUInt64 63).toBitVec % 64#64).toNat) &&& 1#64 := rfl
  rw [e, lb_sh u hu, show (1 : Int64).toBitVec = 1#64 from rfl, bv_one, BitVec.getLsbD_ushiftRight, Nat.add_zero]
theorem lb_last (x : Int64) : lg_cmp (x &&& (1 : Int64)) (0 : Int64) = 0 ↔ x.toBitVec.getLsbD 0 = false := by
  rw [lg_cmp_eq, ← Int64.toBitVec_inj]
  rw [show (x &&& (1 : Int64)).toBitVec = x.toBitVec &&& 1#64 from rfl, show (0 : Int64).toBitVec = 0#64 from rfl, bv_zero]
def QF (oi lt D : Nat → Nat) (x : Int64) (u at' need l : Nat) : Prop := btl u l = 0 ∧ x.toBitVec.getLsbD (u + 2 ^ l) = true ∧ need ≤ LFd oi lt D l at'
theorem ftf_L {M u at' need : Nat} {oi lt D : Nat → Nat} {x : Int64} (h' : M ≤ 6) (hu : u < 2 ^ M) (ha : at' < 6) (p1 : ∀ i, i < 6 → lt i ≤ 1) (hoi : ∀ l, l < M → oi l < 10000) (hD : D at' ≤ 1000000) (hneed : need < 1000) : ∀ (d i G : Nat), i + d = M → d < G → (∀ l, l < i → ¬ QF oi lt D x u at' need l) → (∃ l, l < M ∧ QF oi lt D x u at' need l ∧ (∀ l', l' < l → ¬ QF oi lt D x u at' need l') ∧ fX6_firstThatFinishes_L3 (nI M) (nI (bts lt)) (fun j => nI (oi j)) (fun j => nI (D j)) (nI u) (nI at') (nI need) x (fun (v3_6 : Int32) => some (-4 : Int32)) G (nI i) = some (nI l)) ∨ ((∀ l, l < M → ¬ QF oi lt D x u at' need l) ∧ fX6_firstThatFinishes_L3 (nI M) (nI (bts lt)) (fun j => nI (oi j)) (fun j => nI (D j)) (nI u) (nI at') (nI need) x (fun (v3_6 : Int32) => some (-4 : Int32)) G (nI i) = some (-4)) := by
  have h64 := two_le64 h'
  intro d
  induction d with
  | zero =>
    intro i G h1 h2 h3
    obtain ⟨G, rfl⟩ : ∃ G', G = G' + 1 := ⟨G - 1, by omega⟩
    obtain rfl : i = M := by omega
    exact Or.inr ⟨h3, by rw [fX6_firstThatFinishes_L3, if_pos (Int32.le_refl _)]⟩
  | succ d ih =>
    intro i G h1 h2 h3
    obtain ⟨G, rfl⟩ : ∃ G', G = G' + 1 := ⟨G - 1, by omega⟩
    have go : ¬ QF oi lt D x u at' need i → ∀ l, l < i + 1 → ¬ QF oi lt D x u at' need l := by
      intro z l hl
      by_cases e : l = i
      · rw [e]; exact z
      · exact h3 l (by omega)
    have ih' := fun z => ih (i + 1) G (by omega) (by omega) (go z)
    rw [fX6_firstThatFinishes_L3, if_neg (nI_ge (by omega) (by omega)), xb_one i (by omega), nI_1]
    by_cases c1 : btl u i = 0
    · have hr : u + 2 ^ i < 64 := by have := xb_room M (by omega) u hu i (by omega) c1; omega
      have c1' : ¬ u / 2 ^ i % 2 = 1 := by unfold btl at c1; omega
      rw [if_pos ((xb_and1 u (by omega) i (by omega)).mpr c1), xb_or u (by omega) i (by omega), if_neg c1']
      by_cases c2 : x.toBitVec.getLsbD (u + 2 ^ i) = true
      · rw [if_pos ((lb_test x hr).mpr c2), fX3_get_eq _ _ _ (by omega), rget_n (by omega) (by omega), xbd_some rfl, fX1_litFor_n p1 (by omega) (hoi i (by omega)) hD, xbd_some rfl]
        have hL : (if lt i = 1 then min (oi i) (D at') else 0) = LFd oi lt D i at' := rfl
        have hLb : LFd oi lt D i at' < 10000 := by
          unfold LFd
          have := hoi i (by omega)
          split <;> omega
        rw [hL]
        by_cases c3 : need ≤ LFd oi lt D i at'
        · exact Or.inl ⟨i, by omega, ⟨c1, c2, c3⟩, h3, by rw [if_neg (nI_nlt c3 (by omega))]⟩
        · rw [if_pos (nI_lt (by omega) (by omega))]
          exact ih' (fun z => c3 z.2.2)
      · rw [if_neg (fun z => c2 ((lb_test x hr).mp z))]
        exact ih' (fun z => c2 z.2.1)
    · rw [if_neg (fun z => c1 ((xb_and1 u (by omega) i (by omega)).mp z))]
      exact ih' (fun z => c1 z.1)
theorem ftf_n {M u at' need : Nat} {oi lt D : Nat → Nat} {x : Int64} (h' : M ≤ 6) (hu : u < 2 ^ M) (ha : at' < 6) (p1 : ∀ i, i < 6 → lt i ≤ 1) (hoi : ∀ l, l < M → oi l < 10000) (hD : D at' ≤ 1000000) (hneed : need < 1000) (F : Nat) (hF : 1000 < F) : (∃ l, l < M ∧ QF oi lt D x u at' need l ∧ (∀ l', l' < l → ¬ QF oi lt D x u at' need l') ∧ fX6_firstThatFinishes F (nI M) (nI (bts lt)) (fun j => nI (oi j)) (fun j => nI (D j)) (nI u) (nI at') (nI need) x = some (nI l)) ∨ ((∀ l, l < M → ¬ QF oi lt D x u at' need l) ∧ fX6_firstThatFinishes F (nI M) (nI (bts lt)) (fun j => nI (oi j)) (fun j => nI (D j)) (nI u) (nI at') (nI need) x = some (-4)) :=
  ftf_L h' hu ha p1 hoi hD hneed M 0 F (by omega) (by omega) (fun l z => absurd z (Nat.not_lt_zero _))
def pcN (w : Nat) : Nat := w % 2 + w / 2 % 2 + w / 4 % 2 + w / 8 % 2 + w / 16 % 2 + w / 32 % 2
theorem pc_add : ∀ u, u < 64 → ∀ l, l < 6 → u / 2 ^ l % 2 = 0 → pcN (u + 2 ^ l) = pcN u + 1 := by decide +kernel
theorem pc_lt : ∀ M, M < 7 → ∀ u, u < 2 ^ M - 1 → pcN u < M := by decide +kernel
theorem pc_all : ∀ M, M < 7 → pcN (2 ^ M - 1) = M := by decide +kernel
theorem all_n : ∀ M, M < 7 → 2 ≤ M → (((1 : Int32) <<< (nI M &&& 31)) - (1 : Int32)) = nI (2 ^ M - 1) ∧ ((((1 : Int32) <<< (nI M &&& 31)) - (1 : Int32)) - (1 : Int32)) = nI (2 ^ M - 1) + (-1) := by decide +kernel
theorem ways_L {M st nd set n : Nat} {oi lt D : Nat → Nat} (h : 2 ≤ M) (h' : M ≤ 6) (hst : st ≤ 5) (hset : set < 64) (hn : n ≤ 20) (p1 : ∀ i, i < 6 → lt i ≤ 1) (hoi : ∀ l, l < M → oi l < 10000) (hD : ∀ q, q < M → D q ≤ 1000000) (F : Nat) (hF : 1000 < F) : ∀ (c G : Nat) (x : Int64), c < G → c ≤ 2 ^ M - 1 → (∀ w, c ≤ w → w < 2 ^ M → (x.toBitVec.getLsbD w = true ↔ finP M (okP M st set n oi lt D) (M - pcN w) w)) → (∀ w, w < c → x.toBitVec.getLsbD w = false) → ∃ x' : Int64, fX6_waysToFinish_L22 (nI M) (nI st) (nI (bts lt)) (fun j => nI (oi j)) (fun j => nI (D j)) (nI set) (nI n) F (fun (v22_6 : Int32) (v22_4 : Int64) => some v22_4) G (nI c + (-1)) x = some x' ∧ ∀ w, w < 2 ^ M → (x'.toBitVec.getLsbD w = true ↔ finP M (okP M st set n oi lt D) (M - pcN w) w) := by
  have h64 := two_le64 h'
  intro c
  induction c with
  | zero =>
    intro G x hG _ h1 h2
    obtain ⟨G, rfl⟩ : ∃ G', G = G' + 1 := ⟨G - 1, by omega⟩
    exact ⟨x, by rw [fX6_waysToFinish_L22, if_pos (show nI 0 + (-1) < 0 by decide)], fun w hw => h1 w (Nat.zero_le _) hw⟩
  | succ c ih =>
    intro G x hG hc h1 h2
    obtain ⟨G, rfl⟩ : ∃ G', G = G' + 1 := ⟨G - 1, by omega⟩
    have hp := pc_lt M (by omega) c (by omega)
    have hbn := bnN_lt M st set (pcN c) (n + 1)
    -- what is first found, in the words of ways
    have hQ : (∃ l, l < M ∧ QF oi lt D x c (pcN c) (bnN M st set (pcN c) (n + 1)) l) ↔ finP M (okP M st set n oi lt D) (M - pcN c) c := by
      rw [show M - pcN c = (M - pcN c - 1) + 1 by omega, finP_succ h]
      have key : ∀ l, l < M → (QF oi lt D x c (pcN c) (bnN M st set (pcN c) (n + 1)) l ↔ btl c l = 0 ∧ okP M st set n oi lt D (M - (M - pcN c - 1 + 1)) l ∧ finP M (okP M st set n oi lt D) (M - pcN c - 1) (c + 2 ^ l)) := by
        intro l hl
        rw [show M - (M - pcN c - 1 + 1) = pcN c by omega]
        have e2 : 0 < 2 ^ l := Nat.pow_pos (by omega)
        constructor
        · rintro ⟨q1, q2, q3⟩
          have hr := xb_room M (by omega) c (by omega) l hl q1
          have q4 := (h1 (c + 2 ^ l) (by omega) hr).mp q2
          rw [pc_add c (by omega) l (by omega) q1, show M - (pcN c + 1) = M - pcN c - 1 by omega] at q4
          exact ⟨q1, q3, q4⟩
        · rintro ⟨q1, q3, q4⟩
          have hr := xb_room M (by omega) c (by omega) l hl q1
          refine ⟨q1, (h1 (c + 2 ^ l) (by omega) hr).mpr ?_, q3⟩
          rw [pc_add c (by omega) l (by omega) q1, show M - (pcN c + 1) = M - pcN c - 1 by omega]
          exact q4
      exact ⟨fun ⟨l, hl, q⟩ => ⟨l, hl, (key l hl).mp q⟩, fun ⟨l, hl, q⟩ => ⟨l, hl, (key l hl).mpr q⟩⟩
    have eb : fJ6_bitCount_0f7a4 (nI c) = some (nI (pcN c)) := fJ6_bitCount_eq c (by omega)
    rw [nI_dec, fX6_waysToFinish_L22, if_neg (nI_pos (by omega)), eb, xbd_some rfl, bellsNeeded_n h h' hst hset (by omega) hn F hF, xbd_some rfl, show nI c + -1 = nI c + (-1) from rfl]
    rcases ftf_n (x := x) h' (show c < 2 ^ M by omega) (show pcN c < 6 by omega) p1 hoi (hD _ hp) (show bnN M st set (pcN c) (n + 1) < 1000 by omega) F hF with ⟨l, hl, q1, _, e⟩ | ⟨q1, e⟩
    · rw [e, xbd_some rfl, if_neg (show ¬ nI l = (-4 : Int32) from fun z => nI_pos (n := l) (by omega) (by rw [z]; decide))]
      refine ih G _ (by omega) (by omega) (fun w w1 w2 => ?_) (fun w w1 => ?_)
      · rw [lb_or, lb_one c (by omega) w (by omega), Bool.or_eq_true, decide_eq_true_iff]
        by_cases ew : w = c
        · subst ew
          exact ⟨fun _ => hQ.mp ⟨l, hl, q1⟩, fun _ => Or.inr rfl⟩
        · exact ⟨fun z => (h1 w (by omega) w2).mp (z.resolve_right ew), fun z => Or.inl ((h1 w (by omega) w2).mpr z)⟩
      · rw [lb_or, lb_one c (by omega) w (by omega), h2 w (by omega), Bool.false_or, decide_eq_false_iff_not]
        omega
    · rw [e, xbd_some rfl, if_pos rfl]
      refine ih G x (by omega) (by omega) (fun w w1 w2 => ?_) (fun w w1 => h2 w (by omega))
      by_cases ew : w = c
      · subst ew
        rw [h2 w (by omega)]
        refine ⟨fun z => absurd z (by decide), fun z => ?_⟩
        obtain ⟨l, hl, q⟩ := hQ.mpr z
        exact absurd q (q1 l hl)
      · exact h1 w (by omega) w2
theorem ways_n {M st nd set n : Nat} {oi lt D : Nat → Nat} (h : 2 ≤ M) (h' : M ≤ 6) (hst : st ≤ 5) (hset : set < 64) (hn : n ≤ 20) (p1 : ∀ i, i < 6 → lt i ≤ 1) (hoi : ∀ l, l < M → oi l < 10000) (hD : ∀ q, q < M → D q ≤ 1000000) (F : Nat) (hF : 1000 < F) : ∃ x : Int64, fX6_waysToFinish F (nI M) (nI st) (nI (bts lt)) (fun j => nI (oi j)) (fun j => nI (D j)) (nI set) (nI n) = some x ∧ ∀ w, w < 2 ^ M → (x.toBitVec.getLsbD w = true ↔ finP M (okP M st set n oi lt D) (M - pcN w) w) := by
  have h64 := two_le64 h'
  have h4 : 2 ^ 2 ≤ 2 ^ M := Nat.pow_le_pow_right (by omega) h
  unfold fX6_waysToFinish
  rw [(all_n M (by omega) h).2, (all_n M (by omega) h).1]
  refine ways_L (nd := nd) h h' hst hset hn p1 hoi hD F hF (2 ^ M - 1) F _ (by omega) (Nat.le_refl _) (fun w w1 w2 => ?_) (fun w w1 => ?_)
  · have e : w = 2 ^ M - 1 := by omega
    rw [lb_one _ (by omega) w (by omega), decide_eq_true_iff, e, pc_all M (by omega), Nat.sub_self]
    exact ⟨fun _ => ⟨0, by rw [Nat.pow_zero]; omega, trivial⟩, fun _ => rfl⟩
  · rw [lb_one _ (by omega) w (by omega), decide_eq_false_iff_not]
    omega
/-- the class finds the least way, figure by figure -/
theorem keep_L {M st nd set n c : Nat} {po pl oi lt D : Nat → Nat} {x : Int64} {a3 : Int32} (h : 2 ≤ M) (h' : M ≤ 6) (hst : st ≤ 5) (hset : set < 64) (hn : n ≤ 20) (hpm : PM M po pl) (p1 : ∀ i, i < 6 → lt i ≤ 1) (hoi : ∀ l, l < M → oi l < 10000) (hD : ∀ q, q < M → D q ≤ 1000000) (hx : ∀ w, w < 2 ^ M → (x.toBitVec.getLsbD w = true ↔ finP M (okP M st set n oi lt D) (M - pcN w) w)) (F : Nat) (hF : 1000 < F) : ∀ (d i u G : Nat), i + d = M → d < G → u < 2 ^ M → pcN u = i → minP M (okP M st set n oi lt D) d u (c % M ^ d) → (∀ q, q < i → ¬ nI q = a3) → fX6_keepLit_L83 (nI M) (nI st) (nI (bts lt)) (fun j => nI (po j)) (fun j => nI (oi j)) (nI set) (nI n) a3 F (fun j => nI (D j)) x (fun (v83_8 : Int32) (v83_7 : Int32) (v83_6 : Int32) => some (v83_7, (fun j => nI (D j)))) G (nI i) (nI (sumN i (fun q => if dgN M c q = pl q then 0 else 1))) (nI u) = some ((if a3.toInt < 0 ∨ (M : Int) ≤ a3.toInt then nI (sumN M (fun q => if dgN M c q = pl q then 0 else 1)) else nI (dgN M c a3.toInt.toNat)), (fun j => nI (D j))) := by
  have h64 := two_le64 h'
  intro d
  induction d with
  | zero =>
    intro i u G h1 h2 h3 h4 h5 h6
    obtain ⟨G, rfl⟩ : ∃ G', G = G' + 1 := ⟨G - 1, by omega⟩
    obtain rfl : i = M := by omega
    rw [fX6_keepLit_L83, if_pos (Int32.le_refl _), if_pos]
    by_cases e : a3.toInt < 0
    · exact Or.inl e
    · refine Or.inr (Int.not_lt.mp fun z => h6 a3.toInt.toNat (by omega) ?_)
      apply Int32.toInt_inj.mp
      rw [nI_toInt (by omega)]
      omega
  | succ d ih =>
    intro i u G h1 h2 h3 h4 h5 h6
    obtain ⟨G, rfl⟩ : ∃ G', G = G' + 1 := ⟨G - 1, by omega⟩
    have hbn := bnN_lt M st set i (n + 1)
    have eP : c % M ^ (d + 1) / M ^ d = dgN M c i := by
      unfold dgN
      rw [Nat.pow_succ, Nat.mod_mul_right_div_self, show M - 1 - i = d by omega]
    have eR : c % M ^ (d + 1) % M ^ d = c % M ^ d := Nat.mod_mod_of_dvd _ (Nat.pow_dvd_pow M (Nat.le_succ d))
    obtain ⟨m1, m2, m3, m4, m5, m6⟩ := minP_succ h h5
    rw [eP] at m1 m2 m3 m4 m5 m6
    rw [eR] at m6
    rw [show M - (d + 1) = i by omega] at m3 m5
    have hr := xb_room M (by omega) u h3 _ m1 m2
    have key : ∀ l, l < M → btl u l = 0 → (x.toBitVec.getLsbD (u + 2 ^ l) = true ↔ finP M (okP M st set n oi lt D) d (u + 2 ^ l)) := by
      intro l hl q1
      have hr2 := xb_room M (by omega) u h3 l hl q1
      have q := hx (u + 2 ^ l) hr2
      rw [pc_add u (by omega) l (by omega) q1, h4, show M - (i + 1) = d by omega] at q
      exact q
    have hl0 : QF oi lt D x u i (bnN M st set i (n + 1)) (dgN M c i) := ⟨m2, (key _ m1 m2).mpr m4, m3⟩
    have el : fX6_firstThatFinishes F (nI M) (nI (bts lt)) (fun j => nI (oi j)) (fun j => nI (D j)) (nI u) (nI i) (nI (bnN M st set i (n + 1))) x = some (nI (dgN M c i)) := by
      rcases ftf_n (x := x) h' h3 (show i < 6 by omega) p1 hoi (hD i (by omega)) (show bnN M st set i (n + 1) < 1000 by omega) F hF with ⟨l, hl, q1, q2, e⟩ | ⟨q1, e⟩
      · have e3 : l = dgN M c i := by
          rcases Nat.lt_trichotomy l (dgN M c i) with t | t | t
          · exact absurd ((key l hl q1.1).mp q1.2.1) (m5 l t q1.1 q1.2.2)
          · exact t
          · exact absurd hl0 (q2 _ t)
        rw [e, e3]
      · exact absurd hl0 (q1 _ m1)
    rw [fX6_keepLit_L83, if_neg (nI_ge (by omega) (by omega)), bellsNeeded_n h h' hst hset (by omega) hn F hF, xbd_some rfl, el, xbd_some rfl]
    by_cases c1 : nI i = a3
    · have e5 : a3.toInt = i := by rw [← c1, nI_toInt (by omega)]
      rw [if_pos c1, if_neg (by omega), e5]
      rfl
    · have ih' := ih (i + 1) (u + 2 ^ dgN M c i) G (by omega) (by omega) hr (by rw [pc_add u (by omega) _ (by omega) m2, h4]) m6 (fun q hq => by
        by_cases e : q = i
        · rw [e]; exact c1
        · exact h6 q (by omega))
      have m2' : ¬ u / 2 ^ dgN M c i % 2 = 1 := by unfold btl at m2; omega
      rw [if_neg c1, fX3_get_eq _ _ _ (by omega), rget_n (by omega) (by omega), xbd_some rfl, xb_one _ (by omega), xb_or u (by omega) _ (by omega), if_neg m2', nI_1]
      by_cases c2 : dgN M c i = pl i
      · have e6 : po (dgN M c i) = i := by rw [c2, (hpm.2 i (by omega)).2]
        have e7 : sumN (i + 1) (fun q => if dgN M c q = pl q then 0 else 1) = sumN i (fun q => if dgN M c q = pl q then 0 else 1) := by
          show sumN i _ + (if dgN M c i = pl i then 0 else 1) = _
          rw [if_pos c2, Nat.add_zero]
        rw [e7] at ih'
        rw [if_pos (by rw [e6])]
        exact ih'
      · have e6 : ¬ po (dgN M c i) = i := fun z => c2 (by rw [← (hpm.1 _ m1).2, z])
        have hpo := (hpm.1 _ m1).1
        have e7 : sumN (i + 1) (fun q => if dgN M c q = pl q then 0 else 1) = sumN i (fun q => if dgN M c q = pl q then 0 else 1) + 1 := by
          show sumN i _ + (if dgN M c i = pl i then 0 else 1) = _
          rw [if_neg c2]
        rw [e7] at ih'
        rw [if_neg (fun z => e6 ((nI_eq (by omega) (by omega)).mp z)), nI_1]
        exact ih'
