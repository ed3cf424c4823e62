/-! ===== what a row shows ===== -/
def toN (lit sun : Nat) : Nat := if lit = 1 ∨ sun = 1 then 1 else 0
def wmN (kd t : Nat) : Nat := if kd = 0 then t else if kd = 2 then 1 - t else 0
theorem toN_le (a b : Nat) : toN a b ≤ 1 := by
  unfold toN
  split <;> omega
theorem wmN_le {a b : Nat} (h : b ≤ 1) : wmN a b ≤ 1 := by
  unfold wmN
  split
  · exact h
  · split <;> omega
def sumN : Nat → (Nat → Nat) → Nat
  | 0, _ => 0
  | n + 1, f => sumN n f + f n
theorem sumN_le {n c : Nat} {f : Nat → Nat} (h : ∀ i, i < n → f i ≤ c) : sumN n f ≤ n * c := by
  induction n with
  | zero => exact Nat.zero_le _
  | succ n ih =>
    have h1 := ih (fun i hi => h i (by omega))
    have h2 := h n (by omega)
    show sumN n f + f n ≤ _
    rw [Nat.succ_mul]
    omega
theorem sumN_congr {n : Nat} {f g : Nat → Nat} (h : ∀ i, i < n → f i = g i) : sumN n f = sumN n g := by
  induction n with
  | zero => rfl
  | succ n ih =>
    show sumN n f + f n = sumN n g + g n
    rw [ih (fun i hi => h i (by omega)), h n (by omega)]
theorem sum_six {M : Nat} {t : Nat → Nat} (h : 2 ≤ M) (h' : M ≤ 6) (h0 : ∀ l, M ≤ l → t l = 0) : t 0 + t 1 + t 2 + t 3 + t 4 + t 5 = sumN M t := by
  have g : ∀ l, M ≤ l → t l = 0 := h0
  rcases M_cases h h' with rfl | rfl | rfl | rfl | rfl
  · simp only [sumN, g 2 (by omega), g 3 (by omega), g 4 (by omega), g 5 (by omega)]; omega
  · simp only [sumN, g 3 (by omega), g 4 (by omega), g 5 (by omega)]; omega
  · simp only [sumN, g 4 (by omega), g 5 (by omega)]; omega
  · simp only [sumN, g 5 (by omega)]; omega
  · simp only [sumN]; omega
theorem fX1_litCount_n {M : Nat} {t : Nat → Nat} (h : 2 ≤ M) (h' : M ≤ 6) (ht : ∀ i, i < 6 → t i ≤ 1) (h0 : ∀ l, M ≤ l → t l = 0) : fX1_litCount (nI (bts t)) = some (nI (sumN M t)) := by
  unfold fX1_litCount
  rw [bts_count ht, xbd_some rfl, sum_six h h' h0]
theorem fX1_oilInAll_n {M : Nat} {oi : Nat → Nat} (h' : M ≤ 6) (F : Nat) (hF : 6 < F) : fX1_oilInAll F (nI M) (fun j => nI (oi j)) = some (nI (sumN M oi)) := by
  have key : ∀ (d i F : Nat), i + d = M → d < F → fX1_oilInAll_L4 (nI M) (fun j => nI (oi j)) (fun (v4_2 : Int32) (v4_1 : Int32) => some v4_1) F (nI i) (nI (sumN i oi)) = some (nI (sumN M oi)) := by
    intro d
    induction d with
    | zero =>
      intro i F h1 h2
      obtain ⟨F, rfl⟩ : ∃ F', F = F' + 1 := ⟨F - 1, by omega⟩
      obtain rfl : i = M := by omega
      rw [fX1_oilInAll_L4, if_pos (Int32.le_refl _)]
    | succ d ih =>
      intro i F h1 h2
      obtain ⟨F, rfl⟩ : ∃ F', F = F' + 1 := ⟨F - 1, by omega⟩
      rw [fX1_oilInAll_L4, if_neg (nI_ge (by omega) (by omega)), fX3_get_eq _ _ _ (by omega), rget_n (by omega) (by omega), xbd_some rfl, nI_1, nI_add]
      exact ih (i + 1) F (by omega) (by omega)
  exact key M 0 F (by omega) (by omega)
/-! warm -/
theorem fX5_isWarm_n {sf sto : Int32} {b lit kd sb : Nat} (hsu : (¬ nI b < sf ∧ ¬ sto < nI b) ↔ sb = 1) (hl : lit ≤ 1) (hs : sb ≤ 1) (hk : kd ≤ 2) : fX5_isWarm sf sto (nI kd) (nI lit) (nI b) = some (nI (wmN kd (toN lit sb))) := by
  unfold fX5_isWarm
  rcases (show lit = 0 ∨ lit = 1 by omega) with rfl | rfl
  · by_cases h1 : nI b < sf
    · have e : sb = 0 := by
        by_cases e : sb = 1
        · exact absurd h1 (hsu.mpr e).1
        · omega
      subst e
      rw [if_pos (by decide), if_pos h1]
      rcases (show kd = 0 ∨ kd = 1 ∨ kd = 2 by omega) with rfl | rfl | rfl <;> rfl
    · by_cases h2 : sto < nI b
      · have e : sb = 0 := by
          by_cases e : sb = 1
          · exact absurd h2 (hsu.mpr e).2
          · omega
        subst e
        rw [if_pos (by decide), if_neg h1, if_pos h2]
        rcases (show kd = 0 ∨ kd = 1 ∨ kd = 2 by omega) with rfl | rfl | rfl <;> rfl
      · have e : sb = 1 := hsu.mp ⟨h1, h2⟩
        subst e
        rw [if_pos (by decide), if_neg h1, if_neg h2]
        rcases (show kd = 0 ∨ kd = 1 ∨ kd = 2 by omega) with rfl | rfl | rfl <;> rfl
  · rw [if_neg (by decide)]
    rcases (show sb = 0 ∨ sb = 1 by omega) with rfl | rfl <;> rcases (show kd = 0 ∨ kd = 1 ∨ kd = 2 by omega) with rfl | rfl | rfl <;> rfl
/-- a set told up, one after another -/
theorem acc_or {i : Nat} {g : Nat → Nat} (hi : i < 6) (hg : ∀ j, j < 6 → g j ≤ 1) (h1 : g i = 1) : nI (bts (mixN i g (fun _ => 0))) ||| ((1 : Int32) <<< (nI i &&& 31)) = nI (bts (mixN (i + 1) g (fun _ => 0))) := by
  have htm : ∀ j, j < 6 → mixN i g (fun _ => 0) j ≤ 1 := by
    intro j hj
    unfold mixN
    split
    · exact hg j hj
    · exact Nat.zero_le _
  have e4 := bts_set (t := mixN i g (fun _ => 0)) (l := i) (v := 1) hi
  rw [mixN_succ h1.symm, mixN_at] at e4
  rw [xb_one i (by omega), xb_or _ (bts_lt htm) i hi, bts_bit htm hi, mixN_at, if_neg (by omega)]
  congr 1
  omega
theorem acc_no {i : Nat} {g : Nat → Nat} (h0 : g i = 0) : mixN (i + 1) g (fun _ => 0) = mixN i g (fun _ => 0) := mixN_same h0
theorem mixN_0 {f g : Nat → Nat} : mixN 0 f g = g := funext fun j => if_neg (Nat.not_lt_zero _)
theorem bts_0 : bts (fun _ => 0) = 0 := rfl


theorem fX7_isLit_now_n {M p b : Nat} {pl oi lt : Nat → Nat} {s : Nat → Int32} (h' : M ≤ 6) (hs : MR M pl oi lt b s) (hp : p < M) (hpl : pl p < M) (hl : lt (pl p) ≤ 1) : fX7_isLit_now s (nI p) = some (nI (lt (pl p))) := by
  unfold fX7_isLit_now
  rw [if_neg (nI_in (by omega) (by omega)), nI_clamp (by omega), hs.1 p hp, show (12 : Int32) = nI 12 from rfl, nI_add, if_neg (nI_in (by omega) (by omega)), nI_clamp (by omega), hs.2.2.1 _ hpl]
  exact xb_flag hl
theorem fX7_isWarm_now_n {M p b sb : Nat} {pl oi lt kd : Nat → Nat} {s kr : Nat → Int32} {sn dk aC : Int32} (h' : M ≤ 6) (hs : MR M pl oi lt b s) (hp : p < M) (hpl : pl p < M) (hl : lt (pl p) ≤ 1) (hkr : kr p = nI (kd p)) (hkd : kd p ≤ 2) (hsu : fX7_in (nI b) sn dk = some (nI sb)) (hsb : sb ≤ 1) : fX7_isWarm_now sn dk aC kr s (nI p) = some (nI (wmN (if nI p = aC then 1 else kd p) (toN (lt (pl p)) sb))) := by
  unfold fX7_isWarm_now
  rw [fX7_isLit_now_n h' hs hp hpl hl, xbd_some rfl, show (18 : Int32).toNatClampNeg = 18 from rfl, hs.2.2.2, hsu]
  have eC : nI p < 0 ∨ 6 ≤ p ↔ False := ⟨nI_inc (by omega) (by omega), False.elim⟩
  simp only [eC, if_false, nI_clamp (show p < 2 ^ 31 by omega), hkr]
  by_cases hc : nI p = aC
  · simp only [if_pos hc]
    rcases (show lt (pl p) = 0 ∨ lt (pl p) = 1 by omega) with e | e <;> rw [e]
    · rw [if_pos (by decide), xbd_some rfl]
      rcases (show sb = 0 ∨ sb = 1 by omega) with rfl | rfl <;> rfl
    · rw [if_neg (by decide)]
      rfl
  · simp only [if_neg hc]
    rcases (show kd p = 0 ∨ kd p = 1 ∨ kd p = 2 by omega) with e2 | e2 | e2 <;> rw [e2] <;> rcases (show lt (pl p) = 0 ∨ lt (pl p) = 1 by omega) with e | e <;> rw [e] <;> rcases (show sb = 0 ∨ sb = 1 by omega) with rfl | rfl <;> rfl
theorem fX7_litOf_now_n {M b : Nat} {pl oi lt : Nat → Nat} {s : Nat → Int32} (h' : M ≤ 6) (hs : MR M pl oi lt b s) (F : Nat) (hF : 6 < F) : fX7_litOf_now F (nI M) s = some (nI (sumN M lt)) := by
  have key : ∀ (d i F : Nat), i + d = M → d < F → fX7_litOf_now_L4 (nI M) s (fun (v4_3 : Int32) (v4_2 : Int32) => some v4_2) F (nI i) (nI (sumN i lt)) = some (nI (sumN M lt)) := by
    intro d
    induction d with
    | zero =>
      intro i F h1 h2
      obtain ⟨F, rfl⟩ : ∃ F', F = F' + 1 := ⟨F - 1, by omega⟩
      obtain rfl : i = M := by omega
      rw [fX7_litOf_now_L4, if_pos (Int32.le_refl _)]
    | succ d ih =>
      intro i F h1 h2
      obtain ⟨F, rfl⟩ : ∃ F', F = F' + 1 := ⟨F - 1, by omega⟩
      rw [fX7_litOf_now_L4, if_neg (nI_ge (by omega) (by omega)), show (12 : Int32) = nI 12 from rfl, nI_add, if_neg (nI_in (by omega) (by omega)), nI_clamp (by omega), hs.2.2.1 i (by omega), nI_1, nI_add]
      exact ih (i + 1) F (by omega) (by omega)
  exact key M 0 F (by omega) (by omega)
theorem fX7_oilOf_now_n {M b : Nat} {pl oi lt : Nat → Nat} {s : Nat → Int32} (h' : M ≤ 6) (hs : MR M pl oi lt b s) (F : Nat) (hF : 6 < F) : fX7_oilOf_now F (nI M) s = some (nI (sumN M oi)) := by
  have key : ∀ (d i F : Nat), i + d = M → d < F → fX7_oilOf_now_L4 (nI M) s (fun (v4_3 : Int32) (v4_2 : Int32) => some v4_2) F (nI i) (nI (sumN i oi)) = some (nI (sumN M oi)) := by
    intro d
    induction d with
    | zero =>
      intro i F h1 h2
      obtain ⟨F, rfl⟩ : ∃ F', F = F' + 1 := ⟨F - 1, by omega⟩
      obtain rfl : i = M := by omega
      rw [fX7_oilOf_now_L4, if_pos (Int32.le_refl _)]
    | succ d ih =>
      intro i F h1 h2
      obtain ⟨F, rfl⟩ : ∃ F', F = F' + 1 := ⟨F - 1, by omega⟩
      rw [fX7_oilOf_now_L4, if_neg (nI_ge (by omega) (by omega)), show (6 : Int32) = nI 6 from rfl, nI_add, if_neg (nI_in (by omega) (by omega)), nI_clamp (by omega), hs.2.1 i (by omega), nI_1, nI_add]
      exact ih (i + 1) F (by omega) (by omega)
  exact key M 0 F (by omega) (by omega)
theorem fX7_darkIn_now_n {M b : Nat} {pl oi lt : Nat → Nat} {s : Nat → Int32} (h' : M ≤ 6) (hs : MR M pl oi lt b s) (hpl : ∀ p, p < M → pl p < M) (hl : ∀ l, l < M → lt l ≤ 1) (F : Nat) (hF : 6 < F) : fX7_darkIn_now F (nI M) s = some (nI (bts (mixN M (fun p => 1 - lt (pl p)) (fun _ => 0)))) := by
  have key : ∀ (d i F : Nat), i + d = M → d < F → fX7_darkIn_now_L4 (nI M) s (fun (v4_3 : Int32) (v4_2 : Int32) => some v4_2) F (nI i) (nI (bts (mixN i (fun p => 1 - lt (pl p)) (fun _ => 0)))) = some (nI (bts (mixN M (fun p => 1 - lt (pl p)) (fun _ => 0)))) := by
    intro d
    induction d with
    | zero =>
      intro i F h1 h2
      obtain ⟨F, rfl⟩ : ∃ F', F = F' + 1 := ⟨F - 1, by omega⟩
      obtain rfl : i = M := by omega
      rw [fX7_darkIn_now_L4, if_pos (Int32.le_refl _)]
    | succ d ih =>
      intro i F h1 h2
      obtain ⟨F, rfl⟩ : ∃ F', F = F' + 1 := ⟨F - 1, by omega⟩
      have q1 := hpl i (by omega)
      have q2 := hl _ q1
      rw [fX7_darkIn_now_L4, if_neg (nI_ge (by omega) (by omega)), fX7_isLit_now_n h' hs (by omega) q1 q2, xbd_some rfl]
      rcases (show lt (pl i) = 0 ∨ lt (pl i) = 1 by omega) with e | e
      · rw [e, if_pos (by decide), nI_1, acc_or (g := fun p => 1 - lt (pl p)) (by omega) (fun j _ => by show 1 - lt (pl j) ≤ 1; omega) (by show 1 - lt (pl i) = 1; omega)]
        exact ih (i + 1) F (by omega) (by omega)
      · rw [e, if_neg (by decide), nI_1, Int32.or_zero, ← acc_no (i := i) (g := fun p => 1 - lt (pl p)) (by show 1 - lt (pl i) = 0; omega)]
        exact ih (i + 1) F (by omega) (by omega)
  have := key M 0 F (by omega) (by omega)
  rw [mixN_0] at this
  exact this
theorem fX7_begin_now_n {M : Nat} {o0 ch l0 : Nat → Nat} {kr lr s : Nat → Int32} (h' : M ≤ 6) (hk : ∀ i, i < 6 → (ch i = 1 → o0 i = 0) ∧ o0 i < 10000 ∧ kr i = (if ch i = 1 then -1 else nI (o0 i)) ∧ lr i = nI (l0 i)) (F : Nat) (hF : 6 < F) : ∃ s', fX7_begin_now F kr lr s = some s' ∧ MR M (fun p => p) o0 l0 0 s' := by
  have key : ∀ (d i F : Nat) (f : Nat → Int32), i + d = 6 → d < F → (∀ j, j < i → f j = nI j ∧ f (6 + j) = nI (o0 j) ∧ f (12 + j) = nI (l0 j)) → ∃ f', (∀ j, j < 6 → f' j = nI j ∧ f' (6 + j) = nI (o0 j) ∧ f' (12 + j) = nI (l0 j)) ∧ fX7_begin_now_L2 kr lr (fun (v2_2 : Int32) (w : Nat → Int32) => some (upd w (18 : Int32).toNatClampNeg (0 : Int32))) F (nI i) f = some (upd f' 18 0) := by
    intro d
    induction d with
    | zero =>
      intro i F f h1 h2 h3
      obtain ⟨F, rfl⟩ : ∃ F', F = F' + 1 := ⟨F - 1, by omega⟩
      obtain rfl : i = 6 := by omega
      refine ⟨f, h3, ?_⟩
      rw [fX7_begin_now_L2, if_pos (by decide)]
      rfl
    | succ d ih =>
      intro i F f h1 h2 h3
      obtain ⟨F, rfl⟩ : ∃ F', F = F' + 1 := ⟨F - 1, by omega⟩
      obtain ⟨k1, k2, k3, k4⟩ := hk i (by omega)
      obtain ⟨f', h4, h5⟩ := ih (i + 1) F (upd (upd (upd f i (nI i)) (6 + i) (nI (o0 i))) (12 + i) (nI (l0 i))) (by omega) (by omega) (by
        intro j hj
        by_cases e : j = i
        · subst e
          refine ⟨?_, ?_, ?_⟩
          · rw [pk_un (by omega), pk_un (by omega), pk_us]
          · rw [pk_un (by omega), pk_us]
          · rw [pk_us]
        · have := h3 j (by omega)
          refine ⟨?_, ?_, ?_⟩
          · rw [pk_un (by omega), pk_un (by omega), pk_un (by omega), this.1]
          · rw [pk_un (by omega), pk_un (by omega), pk_un (by omega), this.2.1]
          · rw [pk_un (by omega), pk_un (by omega), pk_un (by omega), this.2.2])
      refine ⟨f', h4, ?_⟩
      have g19 : nI i < 0 ∨ 19 ≤ i ↔ False := ⟨nI_inc (by omega) (by omega), False.elim⟩
      have g6 : nI i < 0 ∨ 6 ≤ i ↔ False := ⟨nI_inc (by omega) (by omega), False.elim⟩
      have ga : nI (6 + i) < 0 ∨ 19 ≤ 6 + i ↔ False := ⟨nI_inc (by omega) (by omega), False.elim⟩
      have gb : nI (12 + i) < 0 ∨ 19 ≤ 12 + i ↔ False := ⟨nI_inc (by omega) (by omega), False.elim⟩
      rw [fX7_begin_now_L2, show (6 : Int32) = nI 6 from rfl, show (12 : Int32) = nI 12 from rfl, if_neg (nI_ge (by omega) (by omega)), nI_add, nI_add]
      simp only [g19, g6, ga, gb, if_false, nI_clamp (show i < 2 ^ 31 by omega), nI_clamp (show 6 + i < 2 ^ 31 by omega), nI_clamp (show 12 + i < 2 ^ 31 by omega), k3, k4, nI_1]
      by_cases hc : ch i = 1
      · rw [k1 hc] at h5
        rw [if_pos hc, if_neg (by decide)]
        exact h5
      · rw [if_neg hc, if_pos (nI_pos' (by omega))]
        exact h5
  obtain ⟨f', h4, h5⟩ := key 6 0 F s (by omega) (by omega) (fun j z => absurd z (Nat.not_lt_zero _))
  refine ⟨upd f' 18 0, h5, fun p hp => ?_, fun l hl => ?_, fun l hl => ?_, pk_us⟩
  · rw [pk_un (by omega), (h4 p (by omega)).1]
  · rw [pk_un (by omega), (h4 l (by omega)).2.1]
  · rw [pk_un (by omega), (h4 l (by omega)).2.2]


theorem fX7_isLit_tried_n {M p b : Nat} {pl oi lt : Nat → Nat} {s : Nat → Int32} (h' : M ≤ 6) (hs : MR M pl oi lt b s) (hp : p < M) (hpl : pl p < M) (hl : lt (pl p) ≤ 1) : fX7_isLit_tried s (nI p) = some (nI (lt (pl p))) := by
  unfold fX7_isLit_tried
  rw [if_neg (nI_in (by omega) (by omega)), nI_clamp (by omega), hs.1 p hp, show (12 : Int32) = nI 12 from rfl, nI_add, if_neg (nI_in (by omega) (by omega)), nI_clamp (by omega), hs.2.2.1 _ hpl]
  exact xb_flag hl
theorem fX7_isWarm_tried_n {M p b sb : Nat} {pl oi lt kd : Nat → Nat} {s kr : Nat → Int32} {sn dk aC : Int32} (h' : M ≤ 6) (hs : MR M pl oi lt b s) (hp : p < M) (hpl : pl p < M) (hl : lt (pl p) ≤ 1) (hkr : kr p = nI (kd p)) (hkd : kd p ≤ 2) (hsu : fX7_in (nI b) sn dk = some (nI sb)) (hsb : sb ≤ 1) : fX7_isWarm_tried sn dk aC kr s (nI p) = some (nI (wmN (if nI p = aC then 1 else kd p) (toN (lt (pl p)) sb))) := by
  unfold fX7_isWarm_tried
  rw [fX7_isLit_tried_n h' hs hp hpl hl, xbd_some rfl, show (18 : Int32).toNatClampNeg = 18 from rfl, hs.2.2.2, hsu]
  have eC : nI p < 0 ∨ 6 ≤ p ↔ False := ⟨nI_inc (by omega) (by omega), False.elim⟩
  simp only [eC, if_false, nI_clamp (show p < 2 ^ 31 by omega), hkr]
  by_cases hc : nI p = aC
  · simp only [if_pos hc]
    rcases (show lt (pl p) = 0 ∨ lt (pl p) = 1 by omega) with e | e <;> rw [e]
    · rw [if_pos (by decide), xbd_some rfl]
      rcases (show sb = 0 ∨ sb = 1 by omega) with rfl | rfl <;> rfl
    · rw [if_neg (by decide)]
      rfl
  · simp only [if_neg hc]
    rcases (show kd p = 0 ∨ kd p = 1 ∨ kd p = 2 by omega) with e2 | e2 | e2 <;> rw [e2] <;> rcases (show lt (pl p) = 0 ∨ lt (pl p) = 1 by omega) with e | e <;> rw [e] <;> rcases (show sb = 0 ∨ sb = 1 by omega) with rfl | rfl <;> rfl
theorem fX7_litOf_tried_n {M b : Nat} {pl oi lt : Nat → Nat} {s : Nat → Int32} (h' : M ≤ 6) (hs : MR M pl oi lt b s) (F : Nat) (hF : 6 < F) : fX7_litOf_tried F (nI M) s = some (nI (sumN M lt)) := by
  have key : ∀ (d i F : Nat), i + d = M → d < F → fX7_litOf_tried_L4 (nI M) s (fun (v4_3 : Int32) (v4_2 : Int32) => some v4_2) F (nI i) (nI (sumN i lt)) = some (nI (sumN M lt)) := by
    intro d
    induction d with
    | zero =>
      intro i F h1 h2
      obtain ⟨F, rfl⟩ : ∃ F', F = F' + 1 := ⟨F - 1, by omega⟩
      obtain rfl : i = M := by omega
      rw [fX7_litOf_tried_L4, if_pos (Int32.le_refl _)]
    | succ d ih =>
      intro i F h1 h2
      obtain ⟨F, rfl⟩ : ∃ F', F = F' + 1 := ⟨F - 1, by omega⟩
      rw [fX7_litOf_tried_L4, if_neg (nI_ge (by omega) (by omega)), show (12 : Int32) = nI 12 from rfl, nI_add, if_neg (nI_in (by omega) (by omega)), nI_clamp (by omega), hs.2.2.1 i (by omega), nI_1, nI_add]
      exact ih (i + 1) F (by omega) (by omega)
  exact key M 0 F (by omega) (by omega)
theorem fX7_oilOf_tried_n {M b : Nat} {pl oi lt : Nat → Nat} {s : Nat → Int32} (h' : M ≤ 6) (hs : MR M pl oi lt b s) (F : Nat) (hF : 6 < F) : fX7_oilOf_tried F (nI M) s = some (nI (sumN M oi)) := by
  have key : ∀ (d i F : Nat), i + d = M → d < F → fX7_oilOf_tried_L4 (nI M) s (fun (v4_3 : Int32) (v4_2 : Int32) => some v4_2) F (nI i) (nI (sumN i oi)) = some (nI (sumN M oi)) := by
    intro d
    induction d with
    | zero =>
      intro i F h1 h2
      obtain ⟨F, rfl⟩ : ∃ F', F = F' + 1 := ⟨F - 1, by omega⟩
      obtain rfl : i = M := by omega
      rw [fX7_oilOf_tried_L4, if_pos (Int32.le_refl _)]
    | succ d ih =>
      intro i F h1 h2
      obtain ⟨F, rfl⟩ : ∃ F', F = F' + 1 := ⟨F - 1, by omega⟩
      rw [fX7_oilOf_tried_L4, if_neg (nI_ge (by omega) (by omega)), show (6 : Int32) = nI 6 from rfl, nI_add, if_neg (nI_in (by omega) (by omega)), nI_clamp (by omega), hs.2.1 i (by omega), nI_1, nI_add]
      exact ih (i + 1) F (by omega) (by omega)
  exact key M 0 F (by omega) (by omega)
theorem fX7_darkIn_tried_n {M b : Nat} {pl oi lt : Nat → Nat} {s : Nat → Int32} (h' : M ≤ 6) (hs : MR M pl oi lt b s) (hpl : ∀ p, p < M → pl p < M) (hl : ∀ l, l < M → lt l ≤ 1) (F : Nat) (hF : 6 < F) : fX7_darkIn_tried F (nI M) s = some (nI (bts (mixN M (fun p => 1 - lt (pl p)) (fun _ => 0)))) := by
  have key : ∀ (d i F : Nat), i + d = M → d < F → fX7_darkIn_tried_L4 (nI M) s (fun (v4_3 : Int32) (v4_2 : Int32) => some v4_2) F (nI i) (nI (bts (mixN i (fun p => 1 - lt (pl p)) (fun _ => 0)))) = some (nI (bts (mixN M (fun p => 1 - lt (pl p)) (fun _ => 0)))) := by
    intro d
    induction d with
    | zero =>
      intro i F h1 h2
      obtain ⟨F, rfl⟩ : ∃ F', F = F' + 1 := ⟨F - 1, by omega⟩
      obtain rfl : i = M := by omega
      rw [fX7_darkIn_tried_L4, if_pos (Int32.le_refl _)]
    | succ d ih =>
      intro i F h1 h2
      obtain ⟨F, rfl⟩ : ∃ F', F = F' + 1 := ⟨F - 1, by omega⟩
      have q1 := hpl i (by omega)
      have q2 := hl _ q1
      rw [fX7_darkIn_tried_L4, if_neg (nI_ge (by omega) (by omega)), fX7_isLit_tried_n h' hs (by omega) q1 q2, xbd_some rfl]
      rcases (show lt (pl i) = 0 ∨ lt (pl i) = 1 by omega) with e | e
      · rw [e, if_pos (by decide), nI_1, acc_or (g := fun p => 1 - lt (pl p)) (by omega) (fun j _ => by show 1 - lt (pl j) ≤ 1; omega) (by show 1 - lt (pl i) = 1; omega)]
        exact ih (i + 1) F (by omega) (by omega)
      · rw [e, if_neg (by decide), nI_1, Int32.or_zero, ← acc_no (i := i) (g := fun p => 1 - lt (pl p)) (by show 1 - lt (pl i) = 0; omega)]
        exact ih (i + 1) F (by omega) (by omega)
  have := key M 0 F (by omega) (by omega)
  rw [mixN_0] at this
  exact this
theorem fX7_begin_tried_n {M : Nat} {o0 ch l0 : Nat → Nat} {kr lr s : Nat → Int32} (h' : M ≤ 6) (hk : ∀ i, i < 6 → (ch i = 1 → o0 i = 0) ∧ o0 i < 10000 ∧ kr i = (if ch i = 1 then -1 else nI (o0 i)) ∧ lr i = nI (l0 i)) (F : Nat) (hF : 6 < F) : ∃ s', fX7_begin_tried F kr lr s = some s' ∧ MR M (fun p => p) o0 l0 0 s' := by
  have key : ∀ (d i F : Nat) (f : Nat → Int32), i + d = 6 → d < F → (∀ j, j < i → f j = nI j ∧ f (6 + j) = nI (o0 j) ∧ f (12 + j) = nI (l0 j)) → ∃ f', (∀ j, j < 6 → f' j = nI j ∧ f' (6 + j) = nI (o0 j) ∧ f' (12 + j) = nI (l0 j)) ∧ fX7_begin_tried_L2 kr lr (fun (v2_2 : Int32) (w : Nat → Int32) => some (upd w (18 : Int32).toNatClampNeg (0 : Int32))) F (nI i) f = some (upd f' 18 0) := by
    intro d
    induction d with
    | zero =>
      intro i F f h1 h2 h3
      obtain ⟨F, rfl⟩ : ∃ F', F = F' + 1 := ⟨F - 1, by omega⟩
      obtain rfl : i = 6 := by omega
      refine ⟨f, h3, ?_⟩
      rw [fX7_begin_tried_L2, if_pos (by decide)]
      rfl
    | succ d ih =>
      intro i F f h1 h2 h3
      obtain ⟨F, rfl⟩ : ∃ F', F = F' + 1 := ⟨F - 1, by omega⟩
      obtain ⟨k1, k2, k3, k4⟩ := hk i (by omega)
      obtain ⟨f', h4, h5⟩ := ih (i + 1) F (upd (upd (upd f i (nI i)) (6 + i) (nI (o0 i))) (12 + i) (nI (l0 i))) (by omega) (by omega) (by
        intro j hj
        by_cases e : j = i
        · subst e
          refine ⟨?_, ?_, ?_⟩
          · rw [pk_un (by omega), pk_un (by omega), pk_us]
          · rw [pk_un (by omega), pk_us]
          · rw [pk_us]
        · have := h3 j (by omega)
          refine ⟨?_, ?_, ?_⟩
          · rw [pk_un (by omega), pk_un (by omega), pk_un (by omega), this.1]
          · rw [pk_un (by omega), pk_un (by omega), pk_un (by omega), this.2.1]
          · rw [pk_un (by omega), pk_un (by omega), pk_un (by omega), this.2.2])
      refine ⟨f', h4, ?_⟩
      have g19 : nI i < 0 ∨ 19 ≤ i ↔ False := ⟨nI_inc (by omega) (by omega), False.elim⟩
      have g6 : nI i < 0 ∨ 6 ≤ i ↔ False := ⟨nI_inc (by omega) (by omega), False.elim⟩
      have ga : nI (6 + i) < 0 ∨ 19 ≤ 6 + i ↔ False := ⟨nI_inc (by omega) (by omega), False.elim⟩
      have gb : nI (12 + i) < 0 ∨ 19 ≤ 12 + i ↔ False := ⟨nI_inc (by omega) (by omega), False.elim⟩
      rw [fX7_begin_tried_L2, show (6 : Int32) = nI 6 from rfl, show (12 : Int32) = nI 12 from rfl, if_neg (nI_ge (by omega) (by omega)), nI_add, nI_add]
      simp only [g19, g6, ga, gb, if_false, nI_clamp (show i < 2 ^ 31 by omega), nI_clamp (show 6 + i < 2 ^ 31 by omega), nI_clamp (show 12 + i < 2 ^ 31 by omega), k3, k4, nI_1]
      by_cases hc : ch i = 1
      · rw [k1 hc] at h5
        rw [if_pos hc, if_neg (by decide)]
        exact h5
      · rw [if_neg hc, if_pos (nI_pos' (by omega))]
        exact h5
  obtain ⟨f', h4, h5⟩ := key 6 0 F s (by omega) (by omega) (fun j z => absurd z (Nat.not_lt_zero _))
  refine ⟨upd f' 18 0, h5, fun p hp => ?_, fun l hl => ?_, fun l hl => ?_, pk_us⟩
  · rw [pk_un (by omega), (h4 p (by omega)).1]
  · rw [pk_un (by omega), (h4 l (by omega)).2.1]
  · rw [pk_un (by omega), (h4 l (by omega)).2.2]

/-! ===== copies ===== -/

theorem fX7_copy_now_tried_n (s f : Nat → Int32) {fr to : Nat} (h1 : fr + 19 ≤ 19) (h2 : to + 19 ≤ 19) (F : Nat) (hF : 19 < F) : ∃ f', fX7_copy_now_tried F s f (nI fr) (nI to) = some f' ∧ (∀ k, k < 19 → f' (to + k) = s (fr + k)) ∧ (∀ j, (∀ k, k < 19 → j ≠ to + k) → f' j = f j) := by
  have key : ∀ (d i F : Nat) (g : Nat → Int32), i + d = 19 → d < F → (∀ k, k < i → g (to + k) = s (fr + k)) → (∀ j, (∀ k, k < 19 → j ≠ to + k) → g j = f j) → ∃ f', (∀ k, k < 19 → f' (to + k) = s (fr + k)) ∧ (∀ j, (∀ k, k < 19 → j ≠ to + k) → f' j = f j) ∧ fX7_copy_now_tried_L3 s (nI fr) (nI to) (fun (v3_4 : Int32) (w : Nat → Int32) => some w) F (nI i) g = some f' := by
    intro d
    induction d with
    | zero =>
      intro i F g h3 h4 h5 h6
      obtain ⟨F, rfl⟩ : ∃ F', F = F' + 1 := ⟨F - 1, by omega⟩
      obtain rfl : i = 19 := by omega
      refine ⟨g, h5, h6, ?_⟩
      rw [fX7_copy_now_tried_L3, if_pos (by decide)]
    | succ d ih =>
      intro i F g h3 h4 h5 h6
      obtain ⟨F, rfl⟩ : ∃ F', F = F' + 1 := ⟨F - 1, by omega⟩
      obtain ⟨f', g1, g2, g3⟩ := ih (i + 1) F (upd g (to + i) (s (fr + i))) (by omega) (by omega) (by
        intro k hk
        by_cases e : k = i
        · rw [e, pk_us]
        · rw [pk_un (by omega), h5 k (by omega)]) (by
        intro j hj
        rw [pk_un (hj i (by omega)), h6 j hj])
      refine ⟨f', g1, g2, ?_⟩
      rw [fX7_copy_now_tried_L3, show (19 : Int32) = nI 19 from rfl, if_neg (nI_ge (by omega) (by omega)), nI_add, nI_add, if_neg (nI_in (by omega) (by omega)), if_neg (nI_in (by omega) (by omega)), nI_clamp (by omega), nI_clamp (by omega), nI_1]
      exact g3
  obtain ⟨f', g1, g2, g3⟩ := key 19 0 F f (by omega) (by omega) (fun k z => absurd z (Nat.not_lt_zero _)) (fun _ _ => rfl)
  exact ⟨f', g3, g1, g2⟩


theorem fX7_copy_now_back_n (s f : Nat → Int32) {fr to : Nat} (h1 : fr + 19 ≤ 19) (h2 : to + 19 ≤ 152) (F : Nat) (hF : 19 < F) : ∃ f', fX7_copy_now_back F s f (nI fr) (nI to) = some f' ∧ (∀ k, k < 19 → f' (to + k) = s (fr + k)) ∧ (∀ j, (∀ k, k < 19 → j ≠ to + k) → f' j = f j) := by
  have key : ∀ (d i F : Nat) (g : Nat → Int32), i + d = 19 → d < F → (∀ k, k < i → g (to + k) = s (fr + k)) → (∀ j, (∀ k, k < 19 → j ≠ to + k) → g j = f j) → ∃ f', (∀ k, k < 19 → f' (to + k) = s (fr + k)) ∧ (∀ j, (∀ k, k < 19 → j ≠ to + k) → f' j = f j) ∧ fX7_copy_now_back_L3 s (nI fr) (nI to) (fun (v3_4 : Int32) (w : Nat → Int32) => some w) F (nI i) g = some f' := by
    intro d
    induction d with
    | zero =>
      intro i F g h3 h4 h5 h6
      obtain ⟨F, rfl⟩ : ∃ F', F = F' + 1 := ⟨F - 1, by omega⟩
      obtain rfl : i = 19 := by omega
      refine ⟨g, h5, h6, ?_⟩
      rw [fX7_copy_now_back_L3, if_pos (by decide)]
    | succ d ih =>
      intro i F g h3 h4 h5 h6
      obtain ⟨F, rfl⟩ : ∃ F', F = F' + 1 := ⟨F - 1, by omega⟩
      obtain ⟨f', g1, g2, g3⟩ := ih (i + 1) F (upd g (to + i) (s (fr + i))) (by omega) (by omega) (by
        intro k hk
        by_cases e : k = i
        · rw [e, pk_us]
        · rw [pk_un (by omega), h5 k (by omega)]) (by
        intro j hj
        rw [pk_un (hj i (by omega)), h6 j hj])
      refine ⟨f', g1, g2, ?_⟩
      rw [fX7_copy_now_back_L3, show (19 : Int32) = nI 19 from rfl, if_neg (nI_ge (by omega) (by omega)), nI_add, nI_add, if_neg (nI_in (by omega) (by omega)), if_neg (nI_in (by omega) (by omega)), nI_clamp (by omega), nI_clamp (by omega), nI_1]
      exact g3
  obtain ⟨f', g1, g2, g3⟩ := key 19 0 F f (by omega) (by omega) (fun k z => absurd z (Nat.not_lt_zero _)) (fun _ _ => rfl)
  exact ⟨f', g3, g1, g2⟩


theorem fX7_copy_back_now_n (s f : Nat → Int32) {fr to : Nat} (h1 : fr + 19 ≤ 152) (h2 : to + 19 ≤ 19) (F : Nat) (hF : 19 < F) : ∃ f', fX7_copy_back_now F f s (nI fr) (nI to) = some f' ∧ (∀ k, k < 19 → f' (to + k) = s (fr + k)) ∧ (∀ j, (∀ k, k < 19 → j ≠ to + k) → f' j = f j) := by
  have key : ∀ (d i F : Nat) (g : Nat → Int32), i + d = 19 → d < F → (∀ k, k < i → g (to + k) = s (fr + k)) → (∀ j, (∀ k, k < 19 → j ≠ to + k) → g j = f j) → ∃ f', (∀ k, k < 19 → f' (to + k) = s (fr + k)) ∧ (∀ j, (∀ k, k < 19 → j ≠ to + k) → f' j = f j) ∧ fX7_copy_back_now_L3 s (nI fr) (nI to) (fun (v3_4 : Int32) (w : Nat → Int32) => some w) F (nI i) g = some f' := by
    intro d
    induction d with
    | zero =>
      intro i F g h3 h4 h5 h6
      obtain ⟨F, rfl⟩ : ∃ F', F = F' + 1 := ⟨F - 1, by omega⟩
      obtain rfl : i = 19 := by omega
      refine ⟨g, h5, h6, ?_⟩
      rw [fX7_copy_back_now_L3, if_pos (by decide)]
    | succ d ih =>
      intro i F g h3 h4 h5 h6
      obtain ⟨F, rfl⟩ : ∃ F', F = F' + 1 := ⟨F - 1, by omega⟩
      obtain ⟨f', g1, g2, g3⟩ := ih (i + 1) F (upd g (to + i) (s (fr + i))) (by omega) (by omega) (by
        intro k hk
        by_cases e : k = i
        · rw [e, pk_us]
        · rw [pk_un (by omega), h5 k (by omega)]) (by
        intro j hj
        rw [pk_un (hj i (by omega)), h6 j hj])
      refine ⟨f', g1, g2, ?_⟩
      rw [fX7_copy_back_now_L3, show (19 : Int32) = nI 19 from rfl, if_neg (nI_ge (by omega) (by omega)), nI_add, nI_add, if_neg (nI_in (by omega) (by omega)), if_neg (nI_in (by omega) (by omega)), nI_clamp (by omega), nI_clamp (by omega), nI_1]
      exact g3
  obtain ⟨f', g1, g2, g3⟩ := key 19 0 F f (by omega) (by omega) (fun k z => absurd z (Nat.not_lt_zero _)) (fun _ _ => rfl)
  exact ⟨f', g3, g1, g2⟩


theorem fX7_copy_now_keep_n (s f : Nat → Int32) {fr to : Nat} (h1 : fr + 19 ≤ 19) (h2 : to + 19 ≤ 38) (F : Nat) (hF : 19 < F) : ∃ f', fX7_copy_now_keep F s f (nI fr) (nI to) = some f' ∧ (∀ k, k < 19 → f' (to + k) = s (fr + k)) ∧ (∀ j, (∀ k, k < 19 → j ≠ to + k) → f' j = f j) := by
  have key : ∀ (d i F : Nat) (g : Nat → Int32), i + d = 19 → d < F → (∀ k, k < i → g (to + k) = s (fr + k)) → (∀ j, (∀ k, k < 19 → j ≠ to + k) → g j = f j) → ∃ f', (∀ k, k < 19 → f' (to + k) = s (fr + k)) ∧ (∀ j, (∀ k, k < 19 → j ≠ to + k) → f' j = f j) ∧ fX7_copy_now_keep_L3 s (nI fr) (nI to) (fun (v3_4 : Int32) (w : Nat → Int32) => some w) F (nI i) g = some f' := by
    intro d
    induction d with
    | zero =>
      intro i F g h3 h4 h5 h6
      obtain ⟨F, rfl⟩ : ∃ F', F = F' + 1 := ⟨F - 1, by omega⟩
      obtain rfl : i = 19 := by omega
      refine ⟨g, h5, h6, ?_⟩
      rw [fX7_copy_now_keep_L3, if_pos (by decide)]
    | succ d ih =>
      intro i F g h3 h4 h5 h6
      obtain ⟨F, rfl⟩ : ∃ F', F = F' + 1 := ⟨F - 1, by omega⟩
      obtain ⟨f', g1, g2, g3⟩ := ih (i + 1) F (upd g (to + i) (s (fr + i))) (by omega) (by omega) (by
        intro k hk
        by_cases e : k = i
        · rw [e, pk_us]
        · rw [pk_un (by omega), h5 k (by omega)]) (by
        intro j hj
        rw [pk_un (hj i (by omega)), h6 j hj])
      refine ⟨f', g1, g2, ?_⟩
      rw [fX7_copy_now_keep_L3, show (19 : Int32) = nI 19 from rfl, if_neg (nI_ge (by omega) (by omega)), nI_add, nI_add, if_neg (nI_in (by omega) (by omega)), if_neg (nI_in (by omega) (by omega)), nI_clamp (by omega), nI_clamp (by omega), nI_1]
      exact g3
  obtain ⟨f', g1, g2, g3⟩ := key 19 0 F f (by omega) (by omega) (fun k z => absurd z (Nat.not_lt_zero _)) (fun _ _ => rfl)
  exact ⟨f', g3, g1, g2⟩


theorem fX7_copy_keep_now_n (s f : Nat → Int32) {fr to : Nat} (h1 : fr + 19 ≤ 38) (h2 : to + 19 ≤ 19) (F : Nat) (hF : 19 < F) : ∃ f', fX7_copy_keep_now F f s (nI fr) (nI to) = some f' ∧ (∀ k, k < 19 → f' (to + k) = s (fr + k)) ∧ (∀ j, (∀ k, k < 19 → j ≠ to + k) → f' j = f j) := by
  have key : ∀ (d i F : Nat) (g : Nat → Int32), i + d = 19 → d < F → (∀ k, k < i → g (to + k) = s (fr + k)) → (∀ j, (∀ k, k < 19 → j ≠ to + k) → g j = f j) → ∃ f', (∀ k, k < 19 → f' (to + k) = s (fr + k)) ∧ (∀ j, (∀ k, k < 19 → j ≠ to + k) → f' j = f j) ∧ fX7_copy_keep_now_L3 s (nI fr) (nI to) (fun (v3_4 : Int32) (w : Nat → Int32) => some w) F (nI i) g = some f' := by
    intro d
    induction d with
    | zero =>
      intro i F g h3 h4 h5 h6
      obtain ⟨F, rfl⟩ : ∃ F', F = F' + 1 := ⟨F - 1, by omega⟩
      obtain rfl : i = 19 := by omega
      refine ⟨g, h5, h6, ?_⟩
      rw [fX7_copy_keep_now_L3, if_pos (by decide)]
    | succ d ih =>
      intro i F g h3 h4 h5 h6
      obtain ⟨F, rfl⟩ : ∃ F', F = F' + 1 := ⟨F - 1, by omega⟩
      obtain ⟨f', g1, g2, g3⟩ := ih (i + 1) F (upd g (to + i) (s (fr + i))) (by omega) (by omega) (by
        intro k hk
        by_cases e : k = i
        · rw [e, pk_us]
        · rw [pk_un (by omega), h5 k (by omega)]) (by
        intro j hj
        rw [pk_un (hj i (by omega)), h6 j hj])
      refine ⟨f', g1, g2, ?_⟩
      rw [fX7_copy_keep_now_L3, show (19 : Int32) = nI 19 from rfl, if_neg (nI_ge (by omega) (by omega)), nI_add, nI_add, if_neg (nI_in (by omega) (by omega)), if_neg (nI_in (by omega) (by omega)), nI_clamp (by omega), nI_clamp (by omega), nI_1]
      exact g3
  obtain ⟨f', g1, g2, g3⟩ := key 19 0 F f (by omega) (by omega) (fun k z => absurd z (Nat.not_lt_zero _)) (fun _ _ => rfl)
  exact ⟨f', g3, g1, g2⟩


theorem MR_copy {M b : Nat} {pl oi lt : Nat → Nat} {s f : Nat → Int32} (h' : M ≤ 6) (hs : MR M pl oi lt b s) (hf : ∀ k, k < 19 → f k = s k) : MR M pl oi lt b f :=
  ⟨fun p hp => by rw [hf p (by omega), hs.1 p hp], fun l hl => by rw [hf _ (by omega), hs.2.1 l hl], fun l hl => by rw [hf _ (by omega), hs.2.2.1 l hl], by rw [hf 18 (by omega), hs.2.2.2]⟩
