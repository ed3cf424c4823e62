/-! ===== KEEP: the reference; the call ===== -/
theorem mixN_lt {i j : Nat} {f g : Nat → Nat} (h : j < i) : mixN i f g j = f j := if_pos h
theorem mixN_ge {i j : Nat} {f g : Nat → Nat} (h : i ≤ j) : mixN i f g j = g j := if_neg (Nat.not_lt.mpr h)
theorem set_yes {M s : Nat} (h : 2 ≤ M) (h' : M ≤ 6) (hs : s < 2 ^ M) : fX6_isSet (nI M) (nI s) = some 1 ∧ fX7_isSet (nI M) (nI s) = some 1 := by
  have h64 := two_le64 h'
  constructor
  · unfold fX6_isSet
    rw [if_neg (nI_pos (by omega)), xb_one M (by omega), if_neg (nI_ge hs (by omega))]
  · unfold fX7_isSet
    rw [(all_n M (by omega) h).1, show (0 : Int32) = nI 0 from rfl, in_yes (Nat.zero_le _) (by omega) (by omega)]
    rfl
theorem set_no {M : Nat} {a : Int32} (h : 2 ≤ M) (h' : M ≤ 6) (ha : a < nI 0 ∨ nI (2 ^ M - 1) < a) : fX6_isSet (nI M) a = some 0 ∧ fX7_isSet (nI M) a = some 0 := by
  have h64 := two_le64 h'
  have h4 : 2 ^ 2 ≤ 2 ^ M := Nat.pow_le_pow_right (by omega) h
  constructor
  · unfold fX6_isSet
    by_cases c : a < 0
    · rw [if_pos c]
    · rw [if_neg c, xb_one M (by omega), if_pos]
      have c2 := ha.resolve_left c
      rw [x_lt, nI_toInt (by omega)] at c2
      rw [x_le, nI_toInt (by omega)]
      omega
  · unfold fX7_isSet
    rw [(all_n M (by omega) h).1, show (0 : Int32) = nI 0 from rfl, in_no ha]
    rfl
theorem xb_and2 : ∀ u, u < 64 → ∀ v, v < 64 → (nI u &&& nI v = 0 ↔ ∀ q, q < 6 → v / 2 ^ q % 2 = 1 → u / 2 ^ q % 2 = 0) := by decide +kernel
theorem isKept_n {M st nd b set n : Nat} {kd o0 ch l0 dB dP su po pl oi lt D : Nat → Nat} {sn dk aP : Int32} {kr orw lr dr s mv : Nat → Int32} (hT : TB M st nd kd o0 ch l0 dB dP su) (hM : TM M st nd kd o0 ch l0 dB dP su sn dk kr orw lr dr) (hP : PB M po pl oi lt b) (hD : isD (Bl dB dP nd) M st b D) (hs : MR M pl oi lt b s) (hset : set < 2 ^ M) (hn : n ≤ 20) (F : Nat) (hF : 1000 < F) : ∃ s' m', fX7_isKept F (nI M) (nI st) (nI nd) (-1) aP dr s mv (nI set) (nI n) = some (nI (tv (∀ j, j ≤ n → ∀ q, q < M → btl set q = 1 → ltN po oi lt D j (plN M st pl j q) = 1)), s', m') := by
  have hT' := hT
  obtain ⟨h, h', hst, hnd, hk, hl, hd, hsu⟩ := hT'
  have hP' := hP
  obtain ⟨hpm, p1, p2, p3, p4⟩ := hP'
  have h64 := two_le64 h'
  have hX := BX_none (nd := nd) (dB := dB) (dP := dP) (aP := aP) (M := M) (b := b) (n := 21) (by omega)
  have hbit : ∀ q, q < 6 → ¬ q < M → btl set q = 0 := by
    intro q hq hq2
    unfold btl
    have : 2 ^ M ≤ 2 ^ q := Nat.pow_le_pow_right (by omega) (by omega)
    rw [Nat.div_eq_of_lt (by omega)]
  have key : ∀ (d i G : Nat) (s v : Nat → Int32) (P : Prop), i + d = n + 1 → d + 1 < G → MR M (plN M st pl i) (oiN po oi lt D i) (ltN po oi lt D i) (b + i) s → (P ↔ ∀ j, j < i → ∀ q, q < M → btl set q = 1 → ltN po oi lt D j (plN M st pl j q) = 1) → ∃ s' m', fX7_isKept_L5 (nI M) (nI st) (nI nd) (-1) aP dr (nI set) (nI n) F (fun (v5_4 : Int32) (v5_3 : Int32) (w5_mok_23 : Nat → Int32) (w5_mok_33 : Nat → Int32) => if v5_3 = 0 ∨ v5_3 = 1 then some (v5_3, (w5_mok_23, w5_mok_33)) else none) G (nI i) (nI (tv P)) s v = some (nI (tv (∀ j, j ≤ n → ∀ q, q < M → btl set q = 1 → ltN po oi lt D j (plN M st pl j q) = 1)), s', m') := by
    intro d
    induction d with
    | zero =>
      intro i G s v P h1 h2 h3 h4
      obtain ⟨G, rfl⟩ : ∃ G', G = G' + 1 := ⟨G - 1, by omega⟩
      obtain rfl : i = n + 1 := by omega
      have e : P ↔ ∀ j, j ≤ n → ∀ q, q < M → btl set q = 1 → ltN po oi lt D j (plN M st pl j q) = 1 := h4.trans ⟨fun z j hj => z j (by omega), fun z j hj => z j (by omega)⟩
      refine ⟨s, v, ?_⟩
      rw [fX7_isKept_L5, if_pos (nI_lt (by omega) (by omega)), tv_congr e]
      have := tv_le (P := ∀ j, j ≤ n → ∀ q, q < M → btl set q = 1 → ltN po oi lt D j (plN M st pl j q) = 1)
      rcases (show tv (∀ j, j ≤ n → ∀ q, q < M → btl set q = 1 → ltN po oi lt D j (plN M st pl j q) = 1) = 0 ∨ tv (∀ j, j ≤ n → ∀ q, q < M → btl set q = 1 → ltN po oi lt D j (plN M st pl j q) = 1) = 1 by omega) with e2 | e2 <;> rw [e2] <;> rfl
    | succ d ih =>
      intro i G s v P h1 h2 h3 h4
      obtain ⟨G, rfl⟩ : ∃ G', G = G' + 1 := ⟨G - 1, by omega⟩
      by_cases hp : P
      · have hli : ∀ l, l < M → ltN po oi lt D i l ≤ 1 := fun l _ => ltN_le
        have hpl : ∀ p, p < M → plN M st pl i p < M := fun p _ => (hpm.2 _ (bk_lt h)).1
        obtain ⟨s1, m1, g1, g2⟩ := ring_tried_s hT hM hP hX hD (show i < 21 by omega) (by omega) h3 F (by omega) (mv := v)
        have hmx : ∀ q, q < 6 → mixN M (fun p => 1 - ltN po oi lt D i (plN M st pl i p)) (fun _ => 0) q ≤ 1 := by
          intro q hq
          by_cases c : q < M
          · rw [mixN_lt c]
            omega
          · rw [mixN_ge (by omega)]
            omega
        have hdark : (nI (bts (mixN M (fun p => 1 - ltN po oi lt D i (plN M st pl i p)) (fun _ => 0))) &&& nI set = 0) ↔ ∀ q, q < M → btl set q = 1 → ltN po oi lt D i (plN M st pl i q) = 1 := by
          rw [xb_and2 _ (bts_lt hmx) set (by omega)]
          constructor
          · intro z q hq hb
            have w := z q (by omega) hb
            rw [bts_bit hmx (by omega)] at w
            rw [mixN_lt hq] at w
            have := ltN_le (po := po) (oi := oi) (lt := lt) (D := D) (n := i) (l := plN M st pl i q)
            omega
          · intro z q hq hb
            rw [bts_bit hmx (by omega)]
            by_cases c : q < M
            · rw [mixN_lt c, z q c hb]
            · rw [mixN_ge (by omega)]
        rw [fX7_isKept_L5, if_neg (nI_nlt (by omega) (by omega)), tv_pos hp, if_neg (by decide), fX7_darkIn_tried_n h' h3 hpl hli F (by omega), xbd_some rfl]
        by_cases c : ∀ q, q < M → btl set q = 1 → ltN po oi lt D i (plN M st pl i q) = 1
        · rw [if_pos (hdark.mpr c), g1, xbd_some rfl, nI_1]
          obtain ⟨s', m', e1⟩ := ih (i + 1) G s1 m1 True (by omega) (by omega) g2 ⟨fun _ j hj q hq hb => by
            by_cases e : j = i
            · subst e
              exact c q hq hb
            · exact h4.mp hp j (by omega) q hq hb, fun _ => trivial⟩
          rw [tv_pos trivial] at e1
          exact ⟨s', m', e1⟩
        · rw [if_neg (fun z => c (hdark.mp z)), g1, xbd_some rfl, nI_1]
          obtain ⟨s', m', e1⟩ := ih (i + 1) G s1 m1 False (by omega) (by omega) g2 ⟨fun z => z.elim, fun z => c (z i (by omega))⟩
          rw [tv_neg (fun z => z)] at e1
          exact ⟨s', m', e1⟩
      · refine ⟨s, v, ?_⟩
        rw [fX7_isKept_L5, if_neg (nI_nlt (by omega) (by omega)), tv_neg hp, if_pos (show nI 0 = 0 from rfl)]
        have e : ¬ ∀ j, j ≤ n → ∀ q, q < M → btl set q = 1 → ltN po oi lt D j (plN M st pl j q) = 1 := fun z => hp (h4.mpr fun j hj => z j (by omega))
        rw [tv_neg e]
        rfl
  obtain ⟨s', m', e⟩ := key (n + 1) 0 F s mv True (by omega) (by omega) (MR_0 h h' hpm (fun l hl => ⟨p1 l (by omega), (p3 l hl).1⟩) hD hs) ⟨fun _ j hj => absurd hj (Nat.not_lt_zero _), fun _ => trivial⟩
  refine ⟨s', m', ?_⟩
  unfold fX7_isKept
  rw [tv_pos trivial] at e
  exact e
theorem codes_L {M : Nat} (h' : M ≤ 6) (k : Int32 → Int32 → Option (Int32 × (Nat → Int32) × (Nat → Int32))) : ∀ (d i G : Nat), i + d = M → d < G → fX7_firstWay_L5 (nI M) k G (nI i) (nI (M ^ i)) = k (nI M) (nI (M ^ M)) := by
  intro d
  induction d with
  | zero =>
    intro i G h1 h2
    obtain ⟨G, rfl⟩ : ∃ G', G = G' + 1 := ⟨G - 1, by omega⟩
    obtain rfl : i = M := by omega
    rw [fX7_firstWay_L5, if_pos (Int32.le_refl _)]
  | succ d ih =>
    intro i G h1 h2
    obtain ⟨G, rfl⟩ : ∃ G', G = G' + 1 := ⟨G - 1, by omega⟩
    rw [fX7_firstWay_L5, if_neg (nI_ge (by omega) (by omega)), x_mulN, nI_1, ← Nat.pow_succ]
    exact ih (i + 1) G (by omega) (by omega)
theorem MM_le {M : Nat} (h : 2 ≤ M) (h' : M ≤ 6) : M ^ M ≤ 46656 := by
  rcases M_cases h h' with rfl | rfl | rfl | rfl | rfl <;> decide
noncomputable def mtN (M c i : Nat) (l : Nat) : Nat := tv (∃ q, i ≤ q ∧ q < M ∧ dgN M c q = l)
theorem mt_step {M c i : Nat} (hi : i < M) (l : Nat) : mtN M c i l = updN (mtN M c (i + 1)) (dgN M c i) 1 l := by
  unfold updN mtN
  by_cases e : l = dgN M c i
  · rw [if_pos e]
    exact tv_pos ⟨i, Nat.le_refl _, hi, e.symm⟩
  · rw [if_neg e]
    refine tv_congr ⟨fun ⟨q, h1, h2, h3⟩ => ⟨q, ?_, h2, h3⟩, fun ⟨q, h1, h2, h3⟩ => ⟨q, by omega, h2, h3⟩⟩
    by_cases e2 : q = i
    · subst e2
      exact absurd h3.symm e
    · omega
theorem met_L {M c : Nat} (h : 2 ≤ M) (h' : M ≤ 6) (hc : c < M ^ M) (k : Int32 → Int32 → Int32 → (Nat → Int32) → Option (Int32 × (Nat → Int32) × (Nat → Int32))) : ∀ (i G : Nat) (f : Nat → Int32), i < G → i ≤ M → (∀ q, i ≤ q → q < M → f q = nI (dgN M c q)) → ∃ (v : Int32) (f' : Nat → Int32), fX7_firstWay_L64 (nI M) k G (nI i + (-1)) (nI (bts (mtN M c i))) (nI (c / M ^ (M - i))) f = k (nI 0 + (-1)) (nI (bts (mtN M c 0))) v f' ∧ (∀ q, q < M → f' q = nI (dgN M c q)) ∧ (∀ q, M ≤ q → f' q = f q) := by
  have hMM := MM_le h h'
  intro i
  induction i with
  | zero =>
    intro G f h1 h2 h3
    obtain ⟨G, rfl⟩ : ∃ G', G = G' + 1 := ⟨G - 1, by omega⟩
    exact ⟨_, f, by rw [fX7_firstWay_L64, if_pos (show nI 0 + (-1) < 0 by decide)], fun q hq => h3 q (Nat.zero_le _) hq, fun _ _ => rfl⟩
  | succ i ih =>
    intro G f h1 h2 h3
    obtain ⟨G, rfl⟩ : ∃ G', G = G' + 1 := ⟨G - 1, by omega⟩
    have hle : c / M ^ (M - (i + 1)) ≤ c := Nat.div_le_self _ _
    have hne : ¬ nI M = 0 := nI_ne0 (by omega) (by omega)
    have ed : c / M ^ (M - (i + 1)) % M = dgN M c i := by
      unfold dgN
      rw [show M - (i + 1) = M - 1 - i by omega]
    have en : c / M ^ (M - (i + 1)) / M = c / M ^ (M - i) := by
      rw [Nat.div_div_eq_div_mul, ← Nat.pow_succ, show (M - (i + 1)).succ = M - i by omega]
    have hlt := dgN_lt (M := M) (c := c) (p := i) h
    have t1 : ∀ q, q < 6 → mtN M c (i + 1) q ≤ 1 := fun q _ => tv_le
    have eb : nI (bts (mtN M c (i + 1))) ||| ((1 : Int32) <<< (nI (dgN M c i) &&& 31)) = nI (bts (mtN M c i)) := by
      have e1 : bts (mtN M c i) = bts (updN (mtN M c (i + 1)) (dgN M c i) 1) := bts_congr (fun q _ => mt_step (by omega) q)
      have e2 := bts_set (t := mtN M c (i + 1)) (l := dgN M c i) (v := 1) (by omega)
      have e3 := t1 (dgN M c i) (by omega)
      rw [xb_one _ (by omega), xb_or _ (bts_lt t1) _ (by omega), bts_bit t1 (by omega), e1]
      congr 1
      by_cases c1 : mtN M c (i + 1) (dgN M c i) = 1
      · rw [if_pos c1]
        rw [c1] at e2
        omega
      · rw [if_neg c1]
        rw [show mtN M c (i + 1) (dgN M c i) = 0 by omega] at e2
        omega
    obtain ⟨v, f', g1, g2, g3⟩ := ih G (upd f i (nI (dgN M c i))) (by omega) (by omega) (fun q q1 q2 => by
      unfold upd
      by_cases e : q = i
      · rw [if_pos e, e]
      · rw [if_neg e, h3 q (by omega) q2])
    refine ⟨v, f', ?_, g2, fun q hq => by rw [g3 q hq]; unfold upd; rw [if_neg (by omega)]⟩
    rw [nI_dec, fX7_firstWay_L64, if_neg (nI_pos (by omega)), if_neg hne, if_neg (nI_in (by omega) (by omega)), if_neg hne, if_neg hne, x_remN (by omega) (by omega) (by omega), x_divN (by omega) (by omega) (by omega), nI_clamp (by omega), ed, en, eb]
    exact g1
theorem all_met {M : Nat} {t : Nat → Nat} (h : 2 ≤ M) (h' : M ≤ 6) (h1 : ∀ i, i < 6 → t i ≤ 1) (h2 : ∀ i, M ≤ i → t i = 0) : bts t = 2 ^ M - 1 ↔ ∀ l, l < M → t l = 1 := by
  have a0 := h1 0 (by omega)
  have a1 := h1 1 (by omega)
  have a2 := h1 2 (by omega)
  have a3 := h1 3 (by omega)
  have a4 := h1 4 (by omega)
  have a5 := h1 5 (by omega)
  have b2 := h2 2
  have b3 := h2 3
  have b4 := h2 4
  have b5 := h2 5
  unfold bts
  rcases M_cases h h' with rfl | rfl | rfl | rfl | rfl
  · rw [show 2 ^ 2 - 1 = 3 from rfl]
    refine ⟨fun z l hl => ?_, fun z => ?_⟩
    · rcases (show l = 0 ∨ l = 1 by omega) with rfl | rfl <;> omega
    · have := z 0 (by omega); have := z 1 (by omega); omega
  · rw [show 2 ^ 3 - 1 = 7 from rfl]
    refine ⟨fun z l hl => ?_, fun z => ?_⟩
    · rcases (show l = 0 ∨ l = 1 ∨ l = 2 by omega) with rfl | rfl | rfl <;> omega
    · have := z 0 (by omega); have := z 1 (by omega); have := z 2 (by omega); omega
  · rw [show 2 ^ 4 - 1 = 15 from rfl]
    refine ⟨fun z l hl => ?_, fun z => ?_⟩
    · rcases (show l = 0 ∨ l = 1 ∨ l = 2 ∨ l = 3 by omega) with rfl | rfl | rfl | rfl <;> omega
    · have := z 0 (by omega); have := z 1 (by omega); have := z 2 (by omega); have := z 3 (by omega); omega
  · rw [show 2 ^ 5 - 1 = 31 from rfl]
    refine ⟨fun z l hl => ?_, fun z => ?_⟩
    · rcases (show l = 0 ∨ l = 1 ∨ l = 2 ∨ l = 3 ∨ l = 4 by omega) with rfl | rfl | rfl | rfl | rfl <;> omega
    · have := z 0 (by omega); have := z 1 (by omega); have := z 2 (by omega); have := z 3 (by omega); have := z 4 (by omega); omega
  · rw [show 2 ^ 6 - 1 = 63 from rfl]
    refine ⟨fun z l hl => ?_, fun z => ?_⟩
    · rcases (show l = 0 ∨ l = 1 ∨ l = 2 ∨ l = 3 ∨ l = 4 ∨ l = 5 by omega) with rfl | rfl | rfl | rfl | rfl | rfl <;> omega
    · have := z 0 (by omega); have := z 1 (by omega); have := z 2 (by omega); have := z 3 (by omega); have := z 4 (by omega); have := z 5 (by omega); omega
theorem met_all {M c : Nat} (h : 2 ≤ M) (h' : M ≤ 6) : (nI (bts (mtN M c 0)) = ((1 : Int32) <<< (nI M &&& 31)) - (1 : Int32)) ↔ (∀ q p, q < p → p < M → dgN M c q ≠ dgN M c p) := by
  have h64 := two_le64 h'
  have h1 : ∀ i, i < 6 → mtN M c 0 i ≤ 1 := fun _ _ => tv_le
  have h2 : ∀ i, M ≤ i → mtN M c 0 i = 0 := fun i hi => tv_neg fun ⟨q, _, q2, q3⟩ => by
    have := dgN_lt (M := M) (c := c) (p := q) h
    omega
  have hb := bts_lt h1
  rw [(all_n M (by omega) h).1, nI_eq (by omega) (by omega), all_met h h' h1 h2, ← sur_iff_inj (fun p _ => dgN_lt h)]
  exact ⟨fun z l hl => by
    obtain ⟨q, _, q2, q3⟩ := tv_one.mp (z l hl)
    exact ⟨q, q2, q3⟩, fun z l hl => by
    obtain ⟨q, q2, q3⟩ := z l hl
    exact tv_one.mpr ⟨q, Nat.zero_le _, q2, q3⟩⟩
theorem firstWay_n {M st nd b set n : Nat} {kd o0 ch l0 dB dP su po pl oi lt D : Nat → Nat} {sn dk aP : Int32} {kr orw lr dr now tr mv : Nat → Int32} (hT : TB M st nd kd o0 ch l0 dB dP su) (hM : TM M st nd kd o0 ch l0 dB dP su sn dk kr orw lr dr) (hP : PB M po pl oi lt b) (hD : isD (Bl dB dP nd) M st b D) (hs : MR M pl oi lt b now) (hset : set < 2 ^ M) (hn : n ≤ 20) (F : Nat) (hF : 100000 < F) : ∃ s' m', (∃ c, minP M (okP M st set n oi lt D) M 0 c ∧ fX7_firstWay F (nI M) (nI st) (nI nd) (-1) aP dr now tr mv (nI set) (nI n) = some (nI c, s', m')) ∨ ((∀ c, c < M ^ M → ¬ VV M (okP M st set n oi lt D) M 0 c) ∧ fX7_firstWay F (nI M) (nI st) (nI nd) (-1) aP dr now tr mv (nI set) (nI n) = some (-4, s', m')) := by
  have hT' := hT
  obtain ⟨h, h', hst, hnd, hk, hl, hd, hsu⟩ := hT'
  have hP' := hP
  obtain ⟨hpm, p1, p2, p3, p4⟩ := hP'
  have hMM := MM_le h h'
  have key : ∀ (d i G : Nat) (s v : Nat → Int32), i + d = M ^ M → d < G → (∀ c, c < i → ¬ VV M (okP M st set n oi lt D) M 0 c) → ∃ s' m', (∃ c, minP M (okP M st set n oi lt D) M 0 c ∧ fX7_firstWay_L30 (nI M) (nI st) (nI nd) (-1) aP dr now (nI set) (nI n) F (nI (M ^ M)) (fun (v30_4 : Int32) (w30_mok_23 : Nat → Int32) (w30_mok_33 : Nat → Int32) => some ((-4 : Int32), (w30_mok_23, w30_mok_33))) G (nI i) s v = some (nI c, s', m')) ∨ ((∀ c, c < M ^ M → ¬ VV M (okP M st set n oi lt D) M 0 c) ∧ fX7_firstWay_L30 (nI M) (nI st) (nI nd) (-1) aP dr now (nI set) (nI n) F (nI (M ^ M)) (fun (v30_4 : Int32) (w30_mok_23 : Nat → Int32) (w30_mok_33 : Nat → Int32) => some ((-4 : Int32), (w30_mok_23, w30_mok_33))) G (nI i) s v = some (-4, s', m')) := by
    intro d
    induction d with
    | zero =>
      intro i G s v h1 h2 h3
      obtain ⟨G, rfl⟩ : ∃ G', G = G' + 1 := ⟨G - 1, by omega⟩
      obtain rfl : i = M ^ M := by omega
      exact ⟨s, v, Or.inr ⟨h3, by rw [fX7_firstWay_L30, if_pos (Int32.le_refl _)]⟩⟩
    | succ d ih =>
      intro i G s v h1 h2 h3
      obtain ⟨G, rfl⟩ : ∃ G', G = G' + 1 := ⟨G - 1, by omega⟩
      have hi : i < M ^ M := by omega
      obtain ⟨f1, c1, c2, c3⟩ := fX7_copy_now_tried_n now s (fr := 0) (to := 0) (by omega) (by omega) F (by omega)
      have c2' : ∀ k, k < 19 → f1 k = now k := fun k hk => by have := c2 k hk; rw [Nat.zero_add] at this; exact this
      obtain ⟨w, f2, g1, g2, g3⟩ := met_L h h' hi (fun (v64_7 : Int32) (v64_6 : Int32) (v64_5 : Int32) (w64_mok_23 : Nat → Int32) => if v64_6 = (((1 : Int32) <<< (nI M &&& 31)) - (1 : Int32)) then (xbd2 (fX7_isKept F (nI M) (nI st) (nI nd) (-1) aP dr w64_mok_23 v (nI set) (nI n)) (fun (r128 : Int32) (u128 : (Nat → Int32) × (Nat → Int32)) => if r128 = 0 then (fX7_firstWay_L30 (nI M) (nI st) (nI nd) (-1) aP dr now (nI set) (nI n) F (nI (M ^ M)) (fun (v30_4 : Int32) (w30_mok_23 : Nat → Int32) (w30_mok_33 : Nat → Int32) => some ((-4 : Int32), (w30_mok_23, w30_mok_33))) G (nI i + 1) u128.1 u128.2) else (some (nI i, (u128.1, u128.2))))) else (fX7_firstWay_L30 (nI M) (nI st) (nI nd) (-1) aP dr now (nI set) (nI n) F (nI (M ^ M)) (fun (v30_4 : Int32) (w30_mok_23 : Nat → Int32) (w30_mok_33 : Nat → Int32) => some ((-4 : Int32), (w30_mok_23, w30_mok_33))) G (nI i + 1) w64_mok_23 v)) M F f1 (by omega) (Nat.le_refl _) (fun q q1 q2 => by omega)
      have em : nI (bts (mtN M i M)) = (0 : Int32) := by
        have : bts (mtN M i M) = bts (fun _ => 0) := bts_congr (fun q _ => tv_neg fun ⟨x, x1, x2, _⟩ => by omega)
        rw [this]
        rfl
      rw [em, Nat.sub_self, Nat.pow_zero, Nat.div_one] at g1
      have e0 : nI M - (1 : Int32) = nI M + (-1) := Int32.sub_eq_add_neg _ _
      have ej : ∀ R, (if nI (bts (mtN M i 0)) = (((1 : Int32) <<< (nI M &&& 31)) - (1 : Int32)) then (xbd2 (fX7_isKept F (nI M) (nI st) (nI nd) (-1) aP dr f2 v (nI set) (nI n)) (fun (r128 : Int32) (u128 : (Nat → Int32) × (Nat → Int32)) => if r128 = 0 then (fX7_firstWay_L30 (nI M) (nI st) (nI nd) (-1) aP dr now (nI set) (nI n) F (nI (M ^ M)) (fun (v30_4 : Int32) (w30_mok_23 : Nat → Int32) (w30_mok_33 : Nat → Int32) => some ((-4 : Int32), (w30_mok_23, w30_mok_33))) G (nI i + 1) u128.1 u128.2) else (some (nI i, (u128.1, u128.2))))) else (fX7_firstWay_L30 (nI M) (nI st) (nI nd) (-1) aP dr now (nI set) (nI n) F (nI (M ^ M)) (fun (v30_4 : Int32) (w30_mok_23 : Nat → Int32) (w30_mok_33 : Nat → Int32) => some ((-4 : Int32), (w30_mok_23, w30_mok_33))) G (nI i + 1) f2 v)) = R → fX7_firstWay_L30 (nI M) (nI st) (nI nd) (-1) aP dr now (nI set) (nI n) F (nI (M ^ M)) (fun (v30_4 : Int32) (w30_mok_23 : Nat → Int32) (w30_mok_33 : Nat → Int32) => some ((-4 : Int32), (w30_mok_23, w30_mok_33))) (G + 1) (nI i) s v = R := by
        intro R hR
        rw [fX7_firstWay_L30, if_neg (nI_ge hi (by omega)), show (0 : Int32) = nI 0 from rfl, c1, xbd_some rfl, e0]
        exact g1.trans hR
      have next : ∀ s v, ¬ VV M (okP M st set n oi lt D) M 0 i → _ := fun s v z => ih (i + 1) G s v (by omega) (by omega) (fun c hc => by
        by_cases e : c = i
        · rw [e]; exact z
        · exact h3 c (by omega))
      by_cases hinj : ∀ q p, q < p → p < M → dgN M i q ≠ dgN M i p
      · obtain ⟨po', hpm'⟩ := PM_of (fun p _ => dgN_lt (M := M) (c := i) (p := p) h) hinj
        have hP2 : PB M po' (dgN M i) oi lt b := ⟨hpm', p1, p2, p3, p4⟩
        have hs2 : MR M (dgN M i) oi lt b f2 := ⟨g2, fun l hl => by rw [g3 _ (by omega), c2' _ (by omega), hs.2.1 l hl], fun l hl => by rw [g3 _ (by omega), c2' _ (by omega), hs.2.2.1 l hl], by rw [g3 _ (by omega), c2' _ (by omega), hs.2.2.2]⟩
        obtain ⟨s3, m3, e3⟩ := isKept_n (mv := v) (aP := aP) hT hM hP2 hD hs2 hset hn F (by omega)
        have hV : (∀ j, j ≤ n → ∀ q, q < M → btl set q = 1 → ltN po' oi lt D j (plN M st (dgN M i) j q) = 1) ↔ VV M (okP M st set n oi lt D) M 0 i := by
          rw [lit_iff h h' hpm', VV_all h h' hi]
          exact ⟨fun z => ⟨z, hinj⟩, fun z => z.1⟩
        have ej2 := ej _ ((if_pos ((met_all h h').mpr hinj)).trans (xbd2_some e3))
        by_cases hv : VV M (okP M st set n oi lt D) M 0 i
        · refine ⟨s3, m3, Or.inl ⟨i, ⟨hi, hv, h3⟩, ej2.trans ?_⟩⟩
          rw [tv_pos (hV.mpr hv), if_neg (by decide)]
        · obtain ⟨s4, m4, q⟩ := next s3 m3 hv
          have ej3 := ej2.trans (if_pos (by rw [tv_neg (fun z => hv (hV.mp z))]; rfl))
          rw [nI_1] at ej3
          refine ⟨s4, m4, ?_⟩
          rw [ej3]
          exact q
      · have hv : ¬ VV M (okP M st set n oi lt D) M 0 i := fun z => hinj ((VV_all h h' hi).mp z).2
        obtain ⟨s4, m4, q⟩ := next f2 v hv
        have ej3 := ej _ (if_neg (fun z => hinj ((met_all h h').mp z)))
        rw [nI_1] at ej3
        refine ⟨s4, m4, ?_⟩
        rw [ej3]
        exact q
  unfold fX7_firstWay
  have e5 := codes_L h' (fun (v5_4 : Int32) (v5_3 : Int32) => fX7_firstWay_L30 (nI M) (nI st) (nI nd) (-1) aP dr now (nI set) (nI n) F v5_3 (fun (v30_4 : Int32) (w30_mok_23 : Nat → Int32) (w30_mok_33 : Nat → Int32) => some ((-4 : Int32), (w30_mok_23, w30_mok_33))) F (0 : Int32) tr mv) M 0 F (by omega) (by omega)
  rw [Nat.pow_zero] at e5
  obtain ⟨s', m', q⟩ := key (M ^ M) 0 F tr mv (by omega) (by omega) (fun c hc => absurd hc (Nat.not_lt_zero _))
  refine ⟨s', m', ?_⟩
  rw [show (fX7_firstWay_L5 (nI M) (fun (v5_4 : Int32) (v5_3 : Int32) => fX7_firstWay_L30 (nI M) (nI st) (nI nd) (-1) aP dr now (nI set) (nI n) F v5_3 (fun (v30_4 : Int32) (w30_mok_23 : Nat → Int32) (w30_mok_33 : Nat → Int32) => some ((-4 : Int32), (w30_mok_23, w30_mok_33))) F (0 : Int32) tr mv) F (0 : Int32) (1 : Int32)) = _ from e5]
  exact q
theorem figs_L {M c : Nat} {pl : Nat → Nat} {now : Nat → Int32} {a3 : Int32} (h : 2 ≤ M) (h' : M ≤ 6) (hc : c < M ^ M) (hpl : ∀ p, p < M → pl p < M ∧ now p = nI (pl p)) (k : Int32 → Int32 → Int32 → Int32 → Option (Int32 × (Nat → Int32) × (Nat → Int32))) : ∀ (i G many : Nat) (th : Int32), i < G → i ≤ M → ∃ v1 v2 : Int32, fX7_keepLit_L66 (nI M) now a3 k G (nI i + (-1)) th (nI many) (nI (c / M ^ (M - i))) = k v1 (if a3.toInt < 0 ∨ (i : Int) ≤ a3.toInt then th else nI (dgN M c a3.toInt.toNat)) (nI (many + sumN i (fun q => if dgN M c q = pl q then 0 else 1))) v2 := by
  have hMM := MM_le h h'
  intro i
  induction i with
  | zero =>
    intro G many th h1 h2
    obtain ⟨G, rfl⟩ : ∃ G', G = G' + 1 := ⟨G - 1, by omega⟩
    refine ⟨nI 0 + (-1), nI (c / M ^ (M - 0)), ?_⟩
    rw [fX7_keepLit_L66, if_pos (show nI 0 + (-1) < 0 by decide), if_pos (by omega)]
    rfl
  | succ i ih =>
    intro G many th h1 h2
    obtain ⟨G, rfl⟩ : ∃ G', G = G' + 1 := ⟨G - 1, by omega⟩
    have hle : c / M ^ (M - (i + 1)) ≤ c := Nat.div_le_self _ _
    have hne : ¬ nI M = 0 := nI_ne0 (by omega) (by omega)
    have ed : c / M ^ (M - (i + 1)) % M = dgN M c i := by
      unfold dgN
      rw [show M - (i + 1) = M - 1 - i by omega]
    have en : c / M ^ (M - (i + 1)) / M = c / M ^ (M - i) := by
      rw [Nat.div_div_eq_div_mul, ← Nat.pow_succ, show (M - (i + 1)).succ = M - i by omega]
    have hlt := dgN_lt (M := M) (c := c) (p := i) h
    have hp := hpl i (by omega)
    have es : sumN (i + 1) (fun q => if dgN M c q = pl q then 0 else 1) = sumN i (fun q => if dgN M c q = pl q then 0 else 1) + (if dgN M c i = pl i then 0 else 1) := rfl
    have et : (if nI i = a3 then nI (dgN M c i) else th) = (if nI i = a3 then nI (dgN M c i) else th) := rfl
    have fin' : ∀ th', (if a3.toInt < 0 ∨ (i : Int) ≤ a3.toInt then (if nI i = a3 then nI (dgN M c i) else th') else nI (dgN M c a3.toInt.toNat)) = (if a3.toInt < 0 ∨ ((i + 1 : Nat) : Int) ≤ a3.toInt then th' else nI (dgN M c a3.toInt.toNat)) := by
      intro th'
      by_cases e : nI i = a3
      · have e5 : a3.toInt = i := by rw [← e, nI_toInt (by omega)]
        rw [if_pos (Or.inr (by omega)), if_pos e, if_neg (by omega), e5]
        rfl
      · have e5 : ¬ a3.toInt = i := fun z => e (Int32.toInt_inj.mp (by rw [nI_toInt (by omega), z]))
        rw [if_neg e]
        by_cases c1 : a3.toInt < 0 ∨ (i : Int) ≤ a3.toInt
        · rw [if_pos c1, if_pos (by omega)]
        · rw [if_neg c1, if_neg (by omega)]
    rw [nI_dec, fX7_keepLit_L66, if_neg (nI_pos (by omega))]
    simp only [if_neg hne]
    rw [if_neg (nI_in (by omega) (by omega)), x_remN (by omega) (by omega) (by omega), x_divN (by omega) (by omega) (by omega), nI_clamp (by omega), ed, en, hp.2, es]
    by_cases c1 : dgN M c i = pl i
    · rw [if_pos (by rw [c1]), if_pos c1, Nat.add_zero, show nI many + (0 : Int32) = nI many from Int32.add_zero _]
      by_cases c2 : nI i = a3
      · obtain ⟨v1, v2, e⟩ := ih G many (nI (dgN M c i)) (by omega) (by omega)
        have f1 := fin' th
        rw [if_pos c2] at f1
        rw [f1] at e
        exact ⟨v1, v2, by rw [if_pos c2]; exact e⟩
      · obtain ⟨v1, v2, e⟩ := ih G many th (by omega) (by omega)
        have f1 := fin' th
        rw [if_neg c2] at f1
        rw [f1] at e
        exact ⟨v1, v2, by rw [if_neg c2]; exact e⟩
    · rw [if_neg (fun z => c1 ((nI_eq (by omega) (by omega)).mp z)), if_neg c1, nI_1, show many + (sumN i (fun q => if dgN M c q = pl q then 0 else 1) + 1) = (many + 1) + sumN i (fun q => if dgN M c q = pl q then 0 else 1) by omega]
      by_cases c2 : nI i = a3
      · obtain ⟨v1, v2, e⟩ := ih G (many + 1) (nI (dgN M c i)) (by omega) (by omega)
        have f1 := fin' th
        rw [if_pos c2] at f1
        rw [f1] at e
        exact ⟨v1, v2, by rw [if_pos c2]; exact e⟩
      · obtain ⟨v1, v2, e⟩ := ih G (many + 1) th (by omega) (by omega)
        have f1 := fin' th
        rw [if_neg c2] at f1
        rw [f1] at e
        exact ⟨v1, v2, by rw [if_neg c2]; exact e⟩
theorem op_keepLit {M st nd b : Nat} {kd o0 ch l0 dB dP su po pl oi lt : Nat → Nat} {sn dk aP : Int32} {kr orw lr dr now tr mv zf : Nat → Int32} (hT : TB M st nd kd o0 ch l0 dB dP su) (hM : TM M st nd kd o0 ch l0 dB dP su sn dk kr orw lr dr) (hP : PB M po pl oi lt b) (hs : MR M pl oi lt b now) (F : Nat) (hF : 100000 < F) (a1 a2 a3 : Int32) : ∃ r zf' tr' mv', fX6_keepLit F (nI M) (nI st) (nI nd) (fun j => nI (dB j)) (fun j => nI (dP j)) (nI (bts lt)) (nI b) (fun j => nI (po j)) (fun j => nI (oi j)) zf a1 a2 a3 = some (r, zf') ∧ fX7_keepLit F (nI M) (nI st) (nI nd) (-1) aP dr now tr mv a1 a2 a3 = some (r, tr', mv') := by
  have hT' := hT
  obtain ⟨h, h', hst, hnd, hk, hl, hd, hsu⟩ := hT'
  have hP' := hP
  obtain ⟨hpm, p1, p2, p3, p4⟩ := hP'
  obtain ⟨z, rfl⟩ := row_nI zf
  have h64 := two_le64 h'
  have h4 : 2 ^ 2 ≤ 2 ^ M := Nat.pow_le_pow_right (by omega) h
  have hMM := MM_le h h'
  rcases rng a1 (lo := 0) (hi := 2 ^ M - 1) (by omega) (by omega) with ⟨set, _, hset, rfl⟩ | hset
  · have hset' : set < 2 ^ M := by omega
    rcases rng a2 (lo := 0) (hi := 20) (by omega) (by omega) with ⟨n, _, hn, rfl⟩ | hn
    · have g1 : ¬ nI n < 0 := nI_pos (by omega)
      have g2 : ¬ (20 : Int32) < nI n := nI_nlt (b := n) (a := 20) hn (by omega)
      have g3 : fX7_in (nI n) 0 20 = some 1 := in_yes (lo := 0) (hi := 20) (Nat.zero_le _) hn (by omega)
      by_cases ha : a3 < (-1 : Int32) ∨ nI (M - 1) < a3
      · refine ⟨-1, (fun j => nI (z j)), tr, mv, ?_, ?_⟩
        · unfold fX6_keepLit
          rw [(set_yes h h' hset').1, xbd_some rfl, if_neg (by decide), if_neg g1, if_neg g2]
          by_cases c : a3 < (-1 : Int32)
          · rw [if_pos c]
          · rw [if_neg c, if_neg (fun w => ?_)]
            have q := ha.resolve_left c
            rw [x_lt, nI_toInt (by omega)] at q
            rw [x_lt, nI_toInt (by omega)] at w
            omega
        · unfold fX7_keepLit
          rw [(set_yes h h' hset').2, xbd_some rfl, if_neg (by decide), g3, xbd_some rfl, if_neg (by decide), show (1 : Int32) = nI 1 from rfl, x_subN (by omega) (by omega)]
          unfold fX7_in
          by_cases c : a3 < (-1 : Int32)
          · rw [show (-nI 1 : Int32) = -1 from rfl, if_pos c, xbd_some rfl, if_pos rfl]
          · rw [show (-nI 1 : Int32) = -1 from rfl, if_neg c, if_pos (ha.resolve_left c), xbd_some rfl, if_pos rfl]
      · have ha1 : ¬ a3 < (-1 : Int32) := fun q => ha (Or.inl q)
        have ha2 : ¬ nI (M - 1) < a3 := fun q => ha (Or.inr q)
        have hi3 : -1 ≤ a3.toInt ∧ a3.toInt < M := by
          rw [x_lt] at ha1
          rw [x_lt, nI_toInt (by omega)] at ha2
          have e : (-1 : Int32).toInt = -1 := rfl
          omega
        obtain ⟨D, hD, eD⟩ := fX5_reckonDraughts_n h h' hst hnd (show b < 10000 by omega) (fun i hi => ⟨(hd i hi).2.1, (hd i hi).2.2⟩) F (by omega) z
        have hD1 : ∀ q, q < M → D q ≤ 1000000 := fun q hq => (hD q hq).2.1
        have hoi : ∀ l, l < M → oi l < 10000 := fun l hl => by have := (p3 l hl).2; omega
        obtain ⟨x, ex, hx⟩ := ways_n (nd := nd) (set := set) (n := n) h h' hst (by omega) hn p1 hoi hD1 F (by omega)
        have hx0 := hx 0 (by omega)
        rw [show pcN 0 = 0 from rfl, Nat.sub_zero] at hx0
        have e6 : ∀ R, (if (lg_cmp (x &&& (1 : Int64)) (0 : Int64)) = 0 then (some ((-4 : Int32), (fun j => nI (D j)))) else (fX6_keepLit_L83 (nI M) (nI st) (nI (bts lt)) (fun j => nI (po j)) (fun j => nI (oi j)) (nI set) (nI n) a3 F (fun j => nI (D j)) x (fun (v83_8 : Int32) (v83_7 : Int32) (v83_6 : Int32) => some (v83_7, (fun j => nI (D j)))) F (0 : Int32) (0 : Int32) (0 : Int32))) = R → fX6_keepLit F (nI M) (nI st) (nI nd) (fun j => nI (dB j)) (fun j => nI (dP j)) (nI (bts lt)) (nI b) (fun j => nI (po j)) (fun j => nI (oi j)) (fun j => nI (z j)) (nI set) (nI n) a3 = R := by
          intro R hR
          unfold fX6_keepLit
          rw [(set_yes h h' hset').1, xbd_some rfl, if_neg (by decide), if_neg g1, if_neg g2, if_neg ha1, if_pos (show a3 < nI M by rw [x_lt, nI_toInt (by omega)]; exact hi3.2), eD, xbd_some rfl, ex, xbd_some rfl]
          exact hR
        have e7 : fX7_in a3 (-1 : Int32) (nI M - (1 : Int32)) = some 1 := by
          rw [show (1 : Int32) = nI 1 from rfl, x_subN (by omega) (by omega)]
          unfold fX7_in
          rw [show (-nI 1 : Int32) = -1 from rfl, if_neg ha1, if_neg ha2]
          rfl
        obtain ⟨s', m', q⟩ := firstWay_n (tr := tr) (mv := mv) (aP := aP) hT hM hP hD hs hset' hn F hF
        rcases q with ⟨c, hc, e⟩ | ⟨hno, e⟩
        · have hcl := hc.1
          have hfin : finP M (okP M st set n oi lt D) M 0 := ⟨c, hc.1, hc.2.1⟩
          have hmin : minP M (okP M st set n oi lt D) M 0 (c % M ^ M) := by rw [Nat.mod_eq_of_lt hcl]; exact hc
          have k6 := keep_L (nd := nd) (c := c) (a3 := a3) h h' hst (by omega) hn hpm p1 hoi hD1 hx F (by omega) M 0 0 F (by omega) (by omega) (by omega) rfl hmin (fun q hq => absurd hq (Nat.not_lt_zero _))
          obtain ⟨v1, v2, k7⟩ := figs_L (pl := pl) (now := now) (a3 := a3) h h' hcl (fun p hp => ⟨(hpm.2 p hp).1, hs.1 p hp⟩) (fun (v66_7 : Int32) (v66_6 : Int32) (v66_5 : Int32) (v66_4 : Int32) => if 0 ≤ a3 then (some (v66_6, (s', m'))) else (some (v66_5, (s', m')))) M F 0 0 (by omega) (Nat.le_refl _)
          rw [Nat.sub_self, Nat.pow_zero, Nat.div_one, Nat.zero_add] at k7
          refine ⟨_, _, s', m', e6 _ ((if_neg (fun w => ?_)).trans k6), ?_⟩
          · have w2 := (lb_last x).mp w
            rw [hx0.mpr hfin] at w2
            cases w2
          · unfold fX7_keepLit
            rw [(set_yes h h' hset').2, xbd_some rfl, if_neg (by decide), g3, xbd_some rfl, if_neg (by decide), e7, xbd_some rfl, if_neg (by decide), e, xbd2_some rfl, if_neg (show ¬ nI c = (-4 : Int32) from fun w => nI_pos (n := c) (by omega) (by rw [w]; decide))]
            rw [Int32.sub_eq_add_neg]
            refine Eq.trans k7 ?_
            by_cases c9 : a3.toInt < 0
            · rw [if_neg (show ¬ 0 ≤ a3 by rw [x_le]; exact fun w => by have e : (0 : Int32).toInt = 0 := rfl; omega), if_pos (Or.inl c9)]
            · rw [if_pos (show 0 ≤ a3 by rw [x_le]; have e : (0 : Int32).toInt = 0 := rfl; omega), if_neg (by omega)]
              rw [if_neg (by omega)]
        · refine ⟨-4, (fun j => nI (D j)), s', m', e6 _ (if_pos ?_), ?_⟩
          · rw [lb_last]
            refine Bool.eq_false_iff.mpr fun w => ?_
            obtain ⟨r, r1, r2⟩ := hx0.mp w
            exact hno r r1 r2
          · unfold fX7_keepLit
            rw [(set_yes h h' hset').2, xbd_some rfl, if_neg (by decide), g3, xbd_some rfl, if_neg (by decide), e7, xbd_some rfl, if_neg (by decide), e, xbd2_some rfl, if_pos rfl]
    · refine ⟨-1, (fun j => nI (z j)), tr, mv, ?_, ?_⟩
      · unfold fX6_keepLit
        rw [(set_yes h h' hset').1, xbd_some rfl, if_neg (by decide)]
        by_cases c : a2 < 0
        · rw [if_pos c]
        · rw [if_neg c, if_pos (show (20 : Int32) < a2 from hn.resolve_left c)]
      · unfold fX7_keepLit
        rw [(set_yes h h' hset').2, xbd_some rfl, if_neg (by decide), show fX7_in a2 0 20 = some 0 from in_no hn, xbd_some rfl, if_pos (by decide)]
  · refine ⟨-1, (fun j => nI (z j)), tr, mv, ?_, ?_⟩
    · unfold fX6_keepLit
      rw [(set_no h h' hset).1, xbd_some rfl, if_pos (by decide)]
    · unfold fX7_keepLit
      rw [(set_no h h' hset).2, xbd_some rfl, if_pos (by decide)]
