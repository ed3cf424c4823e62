/-! ===== the class's pass in closed words ===== -/
def bts (t : Nat → Nat) : Nat := t 0 + 2 * t 1 + 4 * t 2 + 8 * t 3 + 16 * t 4 + 32 * t 5
theorem six {l : Nat} (h : l < 6) : l = 0 ∨ l = 1 ∨ l = 2 ∨ l = 3 ∨ l = 4 ∨ l = 5 := by omega
theorem bts_lt {t : Nat → Nat} (h : ∀ i, i < 6 → t i ≤ 1) : bts t < 64 := by
  have h0 := h 0 (by omega)
  have h1 := h 1 (by omega)
  have h2 := h 2 (by omega)
  have h3 := h 3 (by omega)
  have h4 := h 4 (by omega)
  have h5 := h 5 (by omega)
  unfold bts
  omega
theorem bts_bit {t : Nat → Nat} (h : ∀ i, i < 6 → t i ≤ 1) {l : Nat} (hl : l < 6) : bts t / 2 ^ l % 2 = t l := by
  have h0 := h 0 (by omega)
  have h1 := h 1 (by omega)
  have h2 := h 2 (by omega)
  have h3 := h 3 (by omega)
  have h4 := h 4 (by omega)
  have h5 := h 5 (by omega)
  unfold bts
  rcases six hl with rfl | rfl | rfl | rfl | rfl | rfl <;> omega
theorem bts_set {t : Nat → Nat} {l v : Nat} (hl : l < 6) : bts (updN t l v) + 2 ^ l * t l = bts t + 2 ^ l * v := by
  unfold bts
  rcases six hl with rfl | rfl | rfl | rfl | rfl | rfl <;> simp [updN] <;> omega
theorem bts_congr {t t' : Nat → Nat} (h : ∀ i, i < 6 → t i = t' i) : bts t = bts t' := by
  unfold bts
  rw [h 0 (by omega), h 1 (by omega), h 2 (by omega), h 3 (by omega), h 4 (by omega), h 5 (by omega)]
theorem bts_count {t : Nat → Nat} (h : ∀ i, i < 6 → t i ≤ 1) : fJ6_bitCount_0f7a4 (nI (bts t)) = some (nI (t 0 + t 1 + t 2 + t 3 + t 4 + t 5)) := by
  rw [fJ6_bitCount_eq _ (bts_lt h)]
  have e0 := bts_bit h (show 0 < 6 by omega)
  have e1 := bts_bit h (show 1 < 6 by omega)
  have e2 := bts_bit h (show 2 < 6 by omega)
  have e3 := bts_bit h (show 3 < 6 by omega)
  have e4 := bts_bit h (show 4 < 6 by omega)
  have e5 := bts_bit h (show 5 < 6 by omega)
  simp only [Nat.pow_zero, Nat.div_one, Nat.pow_one] at e0 e1
  rw [show (2 : Nat) ^ 2 = 4 from rfl] at e2
  rw [show (2 : Nat) ^ 3 = 8 from rfl] at e3
  rw [show (2 : Nat) ^ 4 = 16 from rfl] at e4
  rw [show (2 : Nat) ^ 5 = 32 from rfl] at e5
  rw [e0, e1, e2, e3, e4, e5]
theorem xb_get {t : Nat → Nat} (h : ∀ i, i < 6 → t i ≤ 1) {l : Nat} (hl : l < 6) : (nI (bts t) >>> (nI l &&& 31)) &&& 1 = nI (t l) := by
  rw [xb_bit _ (bts_lt h) l hl, bts_bit h hl]
theorem nI_is1 {v : Nat} (h : v ≤ 1) : nI v = (1 : Int32) ↔ v = 1 := by
  rw [show (1 : Int32) = nI 1 from rfl, nI_eq (by omega) (by omega)]
theorem nI_is0 {v : Nat} (h : v < 2 ^ 31) : nI v = (0 : Int32) ↔ v = 0 := by
  rw [show (0 : Int32) = nI 0 from rfl, nI_eq h (by omega)]
theorem xb_flag {v : Nat} (h : v ≤ 1) : (if nI v = (1 : Int32) then some (1 : Int32) else some (0 : Int32)) = some (nI v) := by
  rcases (show v = 0 ∨ v = 1 by omega) with rfl | rfl <;> rfl
theorem fX1_isLit_n {t : Nat → Nat} (h : ∀ i, i < 6 → t i ≤ 1) {l : Nat} (hl : l < 6) : fX1_isLit (nI (bts t)) (nI l) = some (nI (t l)) := by
  unfold fX1_isLit
  rw [xb_get h hl]
  exact xb_flag (h l hl)
theorem fX1_litFor_n {t oi : Nat → Nat} (h : ∀ i, i < 6 → t i ≤ 1) {l d : Nat} (hl : l < 6) (ho : oi l < 10000) (hd : d ≤ 1000000) : fX1_litFor (nI (bts t)) (fun j => nI (oi j)) (nI l) (nI d) = some (nI (if t l = 1 then min (oi l) d else 0)) := by
  have h1 := h l hl
  unfold fX1_litFor
  rw [fX1_isLit_n h hl, xbd_some rfl]
  by_cases e : t l = 1
  · rw [if_pos e, e, if_neg (by decide), fX3_get_eq _ _ _ (by omega), rget_n (by omega) (by omega), xbd_some rfl, x_minN (by omega) (by omega)]
  · rw [if_neg e, show t l = 0 by omega]
    rfl
theorem fX1_lanternAt_L2_n {M p : Nat} {po pl : Nat → Nat} (h' : M ≤ 6) (hpm : PM M po pl) (hp : p < M) (k : Int32 → Option Int32) : ∀ (d i F : Nat), i + d = M → d < F → (∀ l, l < i → po l ≠ p) → fX1_lanternAt_L2 (nI M) (fun j => nI (po j)) (nI p) k F (nI i) = some (nI (pl p)) := by
  intro d
  induction d with
  | zero =>
    intro i F h1 h2 h3
    exact absurd (hpm.2 p hp).2 (h3 (pl p) (by have := (hpm.2 p hp).1; omega))
  | succ d ih =>
    intro i F h1 h2 h3
    obtain ⟨F, rfl⟩ : ∃ F', F = F' + 1 := ⟨F - 1, by omega⟩
    have hi := (hpm.1 i (by omega)).1
    rw [fX1_lanternAt_L2, if_neg (nI_ge (by omega) (by omega)), fX3_get_eq _ _ _ (by omega), rget_n (by omega) (by omega), xbd_some rfl]
    by_cases e : po i = p
    · rw [if_pos (by rw [e]), ← e, (hpm.1 i (by omega)).2]
    · rw [if_neg (fun z => e ((nI_eq (by omega) (by omega)).mp z)), nI_1, ih (i + 1) F (by omega) (by omega) (fun l hl => by
        by_cases e2 : l = i
        · rw [e2]; exact e
        · exact h3 l (by omega))]
theorem fX1_lanternAt_n {M p : Nat} {po pl : Nat → Nat} (h' : M ≤ 6) (hpm : PM M po pl) (hp : p < M) (F : Nat) (hF : 6 < F) : fX1_lanternAt F (nI M) (fun j => nI (po j)) (nI p) = some (nI (pl p)) := by
  unfold fX1_lanternAt
  rw [show (0 : Int32) = nI 0 from rfl]
  exact fX1_lanternAt_L2_n h' hpm hp _ M 0 F (by omega) (by omega) (fun l z => absurd z (Nat.not_lt_zero _))
theorem fX6_isLitBehind_n {M st n p : Nat} {po pl oi lt D : Nat → Nat} (h : 2 ≤ M) (h' : M ≤ 6) (hst : st ≤ 5) (hpm : PM M po pl) (ht : ∀ i, i < 6 → lt i ≤ 1) (hoi : ∀ l, l < M → oi l < 10000) (hD : ∀ q, q < M → D q ≤ 1000000) (hn : n < 10000) (hp : p < M) (F : Nat) (hF : 6 < F) : fX6_isLitBehind F (nI M) (nI st) (nI M) (nI (bts lt)) (fun j => nI (po j)) (fun j => nI (oi j)) (fun j => nI (D j)) (nI n) (nI p) = some (nI (ltN po oi lt D n (plN M st pl n p))) := by
  have hb := bk_lt (M := M) (p := p) (k := n * st) h
  have hq := hpm.2 _ hb
  have hDq := hD _ hb
  have ho := hoi _ hq.1
  unfold fX6_isLitBehind
  rw [fX5_postBefore_n h h' (by omega) hst hn, xbd_some rfl, fX1_lanternAt_n h' hpm hb F hF, xbd_some rfl, fX3_get_eq _ _ _ (by omega), rget_n (by omega) (by omega), xbd_some rfl, fX1_litFor_n ht (by omega) ho hDq, xbd_some rfl]
  show (if nI (if lt (plN M st pl n p) = 1 then min (oi (plN M st pl n p)) (D (bk M p (n * st))) else 0) ≤ nI n then some (0 : Int32) else some (1 : Int32)) = _
  have e : (if lt (plN M st pl n p) = 1 then min (oi (plN M st pl n p)) (D (bk M p (n * st))) else 0) = litF po oi lt D (plN M st pl n p) := by
    unfold litF
    rw [show po (plN M st pl n p) = bk M p (n * st) from hq.2]
  rw [e]
  have hlf : litF po oi lt D (plN M st pl n p) ≤ 1000000 := by
    rw [← e]
    split <;> omega
  unfold ltN
  by_cases hc : n < litF po oi lt D (plN M st pl n p)
  · rw [if_pos hc, if_neg (nI_ge hc (by omega))]
    rfl
  · rw [if_neg hc, if_pos (nI_le (by omega) (by omega))]
    rfl
/-! the bells -/
def mixN (i : Nat) (f g : Nat → Nat) (j : Nat) : Nat := if j < i then f j else g j
theorem mixN_at {i : Nat} {f g : Nat → Nat} : mixN i f g i = g i := if_neg (Nat.lt_irrefl _)
theorem mixN_succ {i v : Nat} {f g : Nat → Nat} (h : v = f i) : updN (mixN i f g) i v = mixN (i + 1) f g := by
  funext j
  unfold updN mixN
  by_cases e : j = i
  · subst e
    rw [if_pos rfl, if_pos (by omega), h]
  · rw [if_neg e]
    by_cases e2 : j < i
    · rw [if_pos e2, if_pos (by omega)]
    · rw [if_neg e2, if_neg (by omega)]
theorem mixN_same {i : Nat} {f g : Nat → Nat} (h : f i = g i) : mixN (i + 1) f g = mixN i f g := by
  funext j
  unfold mixN
  by_cases e : j = i
  · subst e
    rw [if_pos (by omega), if_neg (by omega), h]
  · by_cases e2 : j < i
    · rw [if_pos e2, if_pos (by omega)]
    · rw [if_neg e2, if_neg (by omega)]
theorem fX1_goOn_L3_n {M st n : Nat} {po oi lt D : Nat → Nat} (h : 2 ≤ M) (h' : M ≤ 6) (hst : st ≤ 5) (hn : n < 1000) (hpo : ∀ l, l < M → po l < M) (ht : ∀ i, i < 6 → lt i ≤ 1) (hoi : ∀ l, l < M → oi l < 10000) (hD : ∀ q, q < M → 1 ≤ D q ∧ D q ≤ 1000000) (k : Int32 → Int32 → (Nat → Int32) → (Nat → Int32) → Option (Int32 × Int32 × (Nat → Int32) × (Nat → Int32))) : ∀ (d i F : Nat), i + d = M → d < F → fX1_goOn_L3 (nI M) (nI M) (nI st) (fun j => nI (D j)) (nI n) 6 k F (nI i) (nI (bts (mixN i (ltN po oi lt D n) lt))) (fun j => nI (mixN i (fun l => (po l + n * st) % M) po j)) (fun j => nI (mixN i (oiN po oi lt D n) oi j)) = k (nI M) (nI (bts (mixN M (ltN po oi lt D n) lt))) (fun j => nI (mixN M (fun l => (po l + n * st) % M) po j)) (fun j => nI (mixN M (oiN po oi lt D n) oi j)) := by
  have hltN : ∀ l, ltN po oi lt D n l ≤ 1 := by
    intro l
    unfold ltN
    split <;> omega
  have hk : n * st ≤ 1000 * 5 := Nat.mul_le_mul (by omega) hst
  intro d
  induction d with
  | zero =>
    intro i F h1 h2
    obtain ⟨F, rfl⟩ : ∃ F', F = F' + 1 := ⟨F - 1, by omega⟩
    obtain rfl : i = M := by omega
    rw [fX1_goOn_L3, if_pos (Int32.le_refl _)]
  | succ d ih =>
    intro i F h1 h2
    obtain ⟨F, rfl⟩ : ∃ F', F = F' + 1 := ⟨F - 1, by omega⟩
    have p1 := hpo i (by omega)
    have o1 := hoi i (by omega)
    have d1 := hD _ p1
    have t1 := ht i (by omega)
    have htm : ∀ j, j < 6 → mixN i (ltN po oi lt D n) lt j ≤ 1 := by
      intro j hj
      unfold mixN
      split
      · exact hltN j
      · exact ht j hj
    have ih' := ih (i + 1) F (by omega) (by omega)
    rw [fX1_goOn_L3, if_neg (nI_ge (by omega) (by omega)), fX3_get_eq _ _ _ (by omega), rget_n (by omega) (by omega), mixN_at, xbd_some rfl, fX3_get_eq _ _ _ (by omega), rget_n (by omega) (by omega), xbd_some rfl, fX1_isLit_n htm (by omega), mixN_at, xbd_some rfl]
    have hp' : updN (mixN i (fun l => (po l + n * st) % M) po) i ((po i + n * st) % M) = mixN (i + 1) (fun l => (po l + n * st) % M) po := mixN_succ rfl
    by_cases hl1 : lt i = 1
    · rw [hl1, if_neg (by decide), fX3_get_eq _ _ _ (by omega), rget_n (by omega) (by omega), mixN_at, xbd_some rfl, fX1_litFor_n htm (by omega) (by rw [mixN_at]; omega) (by omega), mixN_at, mixN_at, hl1, if_pos rfl, xbd_some rfl]
      have e0 : litF po oi lt D i = min (oi i) (D (po i)) := by unfold litF; rw [if_pos hl1]
      have e1 : oiN po oi lt D n i = oi i - min n (min (oi i) (D (po i) - 1)) := by unfold oiN; rw [if_pos hl1]
      have hset : nI (oi i) - (if (if nI (D (po i)) - (1 : Int32) < nI (oi i) then nI (D (po i)) - (1 : Int32) else nI (oi i)) < nI n then (if nI (D (po i)) - (1 : Int32) < nI (oi i) then nI (D (po i)) - (1 : Int32) else nI (oi i)) else nI n) = nI (oiN po oi lt D n i) := by
        rw [show (1 : Int32) = nI 1 from rfl, x_subN d1.1 (by omega), x_minN (by omega) (by omega), x_minN (by omega) (by omega), x_subN (by omega) (by omega), e1]
      by_cases hc : n < min (oi i) (D (po i))
      · have e2 : ltN po oi lt D n i = lt i := by unfold ltN; rw [e0, if_pos hc, hl1]
        rw [if_pos (nI_lt hc (by omega)), xbd_some rfl, hset, fX3_set_eq _ _ _ _ (by omega), rset_n (by omega) (by omega), xbd_some rfl, x_mulN, nI_add, fX5_round_n h h' (by omega), xbd_some rfl, fX3_set_eq _ _ _ _ (by omega), rset_n (by omega) (by omega), xbd_some rfl, upd_nI, upd_nI, hp', mixN_succ rfl, nI_1, ← mixN_same e2]
        exact ih'
      · have e2 : ltN po oi lt D n i = 0 := by unfold ltN; rw [e0, if_neg hc]
        have e3 : nI (bts (mixN i (ltN po oi lt D n) lt)) &&& (((1 : Int32) <<< (nI i &&& 31)) ^^^ (-1 : Int32)) = nI (bts (mixN (i + 1) (ltN po oi lt D n) lt)) := by
          rw [xb_one i (by omega), xb_clr _ (bts_lt htm) i (by omega), bts_bit htm (by omega), mixN_at, if_pos hl1]
          have e4 := bts_set (t := mixN i (ltN po oi lt D n) lt) (l := i) (v := 0) (by omega)
          rw [mixN_succ e2.symm, mixN_at, hl1] at e4
          congr 1
          omega
        rw [if_neg (nI_nlt (by omega) (by omega)), xbd_some rfl, hset, fX3_set_eq _ _ _ _ (by omega), rset_n (by omega) (by omega), xbd_some rfl, x_mulN, nI_add, fX5_round_n h h' (by omega), xbd_some rfl, fX3_set_eq _ _ _ _ (by omega), rset_n (by omega) (by omega), xbd_some rfl, upd_nI, upd_nI, hp', mixN_succ rfl, nI_1, e3]
        exact ih'
    · have e0 : lt i = 0 := by omega
      have e1 : oiN po oi lt D n i = oi i := by unfold oiN; rw [if_neg hl1]; rfl
      have e2 : ltN po oi lt D n i = lt i := by unfold ltN litF; rw [if_neg hl1, if_neg (by omega), e0]
      rw [e0, if_pos (by decide), x_mulN, nI_add, fX5_round_n h h' (by omega), xbd_some rfl, fX3_set_eq _ _ _ _ (by omega), rset_n (by omega) (by omega), xbd_some rfl, upd_nI, hp', nI_1, ← mixN_same e2, ← mixN_same e1]
      exact ih'
theorem fX1_goOn_n {M st n b : Nat} {po oi lt D : Nat → Nat} (h : 2 ≤ M) (h' : M ≤ 6) (hst : st ≤ 5) (hn : n < 1000) (hpo : ∀ l, l < M → po l < M) (ht : ∀ i, i < 6 → lt i ≤ 1) (hoi : ∀ l, l < M → oi l < 10000) (hD : ∀ q, q < M → 1 ≤ D q ∧ D q ≤ 1000000) (F : Nat) (hF : 6 < F) : fX1_goOn F (nI M) (nI (bts lt)) (nI b) (fun j => nI (po j)) (fun j => nI (oi j)) (nI M) (nI st) (fun j => nI (D j)) (nI n) 6 = some (nI (bts (mixN M (ltN po oi lt D n) lt)), nI (b + n), (fun j => nI (mixN M (fun l => (po l + n * st) % M) po j)), (fun j => nI (mixN M (oiN po oi lt D n) oi j))) := by
  have e := fX1_goOn_L3_n h h' hst hn hpo ht hoi hD (fun (v3_4 : Int32) (w3_qi_3 : Int32) (w3_qk_0 : Nat → Int32) (w3_qk_1 : Nat → Int32) => some (w3_qi_3, (nI b + nI n), w3_qk_0, w3_qk_1)) M 0 F (by omega) (by omega)
  have z : ∀ f g : Nat → Nat, mixN 0 f g = g := fun f g => funext fun j => if_neg (Nat.not_lt_zero _)
  rw [z, z, z, nI_add] at e
  unfold fX1_goOn
  rw [show (0 : Int32) = nI 0 from rfl, nI_add]
  exact e
