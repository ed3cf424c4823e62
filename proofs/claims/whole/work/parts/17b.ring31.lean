/-! ===== the pass in closed words: posts go round ===== -/
theorem x_mulN (a b : Nat) : nI a * nI b = nI (a * b) := (Int32.ofNat_mul a b).symm
theorem x_subN {a b : Nat} (h : b ≤ a) (ha : a < 2 ^ 31) : nI a - nI b = nI (a - b) := by
  refine Int32.toInt_inj.mp ?_
  rw [x_sub (by rw [nI_toInt ha, nI_toInt (by omega)]; omega) (by rw [nI_toInt ha, nI_toInt (by omega)]; omega), nI_toInt ha, nI_toInt (by omega), nI_toInt (by omega)]
  omega
theorem x_remN {a b : Nat} (hb : 0 < b) (ha : a < 2 ^ 31) (hb' : b < 2 ^ 31) : nI a - nI a / nI b * nI b = nI (a % b) := by
  have h0 := Nat.mod_lt a hb
  refine Int32.toInt_inj.mp ?_
  rw [x_rem (by rw [nI_toInt hb']; omega), nI_toInt ha, nI_toInt hb', nI_toInt (by omega)]
  rfl
theorem nI_inc {c N : Nat} (h : c < N) (hN : c < 2 ^ 31) : ¬ (nI c < 0 ∨ N ≤ c) := by
  rintro (z | z)
  · exact nI_pos hN z
  · omega
def bk (M p k : Nat) : Nat := (p + (M - k % M)) % M
theorem bk_lt {M p k : Nat} (h : 2 ≤ M) : bk M p k < M := Nat.mod_lt _ (by omega)
theorem M_cases {M : Nat} (h : 2 ≤ M) (h' : M ≤ 6) : M = 2 ∨ M = 3 ∨ M = 4 ∨ M = 5 ∨ M = 6 := by omega
theorem bk_fw {M p k : Nat} (h : 2 ≤ M) (h' : M ≤ 6) (hp : p < M) : (bk M p k + k) % M = p := by
  rcases M_cases h h' with rfl | rfl | rfl | rfl | rfl <;> simp only [bk] <;> omega
theorem fw_bk {M p k : Nat} (h : 2 ≤ M) (h' : M ≤ 6) (hp : p < M) : bk M ((p + k) % M) k = p := by
  rcases M_cases h h' with rfl | rfl | rfl | rfl | rfl <;> simp only [bk] <;> omega
theorem bk_bk {M p k m : Nat} (h : 2 ≤ M) (h' : M ≤ 6) : bk M (bk M p k) m = bk M p (k + m) := by
  rcases M_cases h h' with rfl | rfl | rfl | rfl | rfl <;> simp only [bk] <;> omega
theorem fw_fw {M p k m : Nat} (h : 2 ≤ M) (h' : M ≤ 6) : ((p + k) % M + m) % M = (p + (k + m)) % M := by
  rcases M_cases h h' with rfl | rfl | rfl | rfl | rfl <;> omega
theorem bk_0 {M p : Nat} (h : 2 ≤ M) (h' : M ≤ 6) (hp : p < M) : bk M p 0 = p := by
  rcases M_cases h h' with rfl | rfl | rfl | rfl | rfl <;> simp only [bk] <;> omega
theorem bk_iff {M p q k : Nat} (h : 2 ≤ M) (h' : M ≤ 6) (hp : p < M) (hq : q < M) : bk M q k = p ↔ q = (p + k) % M := by
  constructor
  · intro e
    rw [← e, bk_fw h h' hq]
  · intro e
    rw [e, fw_bk h h' hp]
theorem rnd_n {M a : Nat} (h : 2 ≤ M) (h' : M ≤ 6) (ha : a < 2 ^ 31) : rnd (nI M) (nI a) = nI (a % M) := by
  unfold rnd
  rw [nI_toInt (by omega), nI_toInt ha, if_pos (by omega)]
  rfl
theorem rnd_bk {M p k : Nat} (h : 2 ≤ M) (h' : M ≤ 6) (hp : p < 100) (hk : k < 100000) : rnd (nI M) (nI p - nI k) = nI (bk M p k) := by
  have e : (nI p - nI k).toInt = (p : Int) - k := by
    rw [x_sub (by rw [nI_toInt (by omega), nI_toInt (by omega)]; omega) (by rw [nI_toInt (by omega), nI_toInt (by omega)]; omega), nI_toInt (by omega), nI_toInt (by omega)]
  unfold rnd
  rw [nI_toInt (by omega), if_pos (by omega), e]
  refine Int32.toInt_inj.mp ?_
  rcases M_cases h h' with rfl | rfl | rfl | rfl | rfl <;> rw [x_ofInt (by omega) (by omega), nI_toInt (by simp only [bk]; omega)] <;> simp only [bk] <;> omega
theorem fX5_postBefore_n {M st p n : Nat} (h : 2 ≤ M) (h' : M ≤ 6) (hp : p < 100) (hs : st ≤ 5) (hn : n < 10000) : fX5_postBefore (nI M) (nI st) (nI p) (nI n) = some (nI (bk M p (n * st))) := by
  have hk : n * st ≤ n * 5 := Nat.mul_le_mul_left n hs
  unfold fX5_postBefore
  rw [x_mulN, fX5_round_eq, rnd_bk h h' hp (by omega)]
  rfl
theorem fX5_round_n {M a : Nat} (h : 2 ≤ M) (h' : M ≤ 6) (ha : a < 2 ^ 31) : fX5_round (nI M) (nI a) = some (nI (a % M)) := by
  rw [fX5_round_eq, rnd_n h h' ha]
/-! ===== how long a draught is off ===== -/
def updN (f : Nat → Nat) (k v : Nat) : Nat → Nat := fun j => if j = k then v else f j
theorem upd_nI (f : Nat → Nat) (k v : Nat) : upd (fun i => nI (f i)) k (nI v) = fun i => nI (updN f k v i) := by
  funext j
  unfold upd updN
  split <;> rfl
def isD (B : Nat → Nat → Prop) (M st b : Nat) (D : Nat → Nat) : Prop := ∀ p, p < M → 1 ≤ D p ∧ D p ≤ 1000000 ∧ ∀ j, j < 1000 → j < D p → (B (b + j + 1) ((p + (j + 1) * st) % M) ↔ D p = j + 1)
theorem isD_never (M st b : Nat) (D : Nat → Nat) (hD : ∀ p, p < M → D p = 1000000) : isD (fun _ _ => False) M st b D := by
  intro p hp
  rw [hD p hp]
  refine ⟨by omega, by omega, fun j h1 h2 => ⟨fun z => z.elim, fun z => by omega⟩⟩
theorem isD_add {B : Nat → Nat → Prop} {M st b : Nat} {D : Nat → Nat} {a q : Nat} (h : 2 ≤ M) (h' : M ≤ 6) (hq : q < M) (ha : 1 ≤ a) (hD : isD B M st b D) : isD (fun x y => B x y ∨ (x = b + a ∧ y = q)) M st b (updN D (bk M q (a * st)) (min a (D (bk M q (a * st))))) := by
  intro p hp
  obtain ⟨d1, d2, d3⟩ := hD p hp
  by_cases e : p = bk M q (a * st)
  · have e2 : q = (p + a * st) % M := by rw [e, bk_fw h h' hq]
    rw [← e, show updN D p (min a (D p)) p = min a (D p) from if_pos rfl]
    refine ⟨by omega, by omega, fun j h1 h2 => ?_⟩
    have d4 := d3 j h1 (by omega)
    constructor
    · rintro (z | ⟨z, _⟩)
      · have := d4.mp z
        omega
      · omega
    · intro z
      by_cases e3 : a = j + 1
      · refine Or.inr ⟨by omega, ?_⟩
        rw [e2, e3]
      · exact Or.inl (d4.mpr (by omega))
  · rw [show updN D (bk M q (a * st)) (min a (D (bk M q (a * st)))) p = D p from if_neg e]
    refine ⟨d1, d2, fun j h1 h2 => ?_⟩
    rw [← d3 j h1 h2]
    constructor
    · rintro (z | ⟨z1, z2⟩)
      · exact z
      · refine absurd ?_ e
        have z3 : a = j + 1 := by omega
        rw [z3, ← z2, fw_bk h h' hp]
    · exact Or.inl
theorem isD_congr {B B' : Nat → Nat → Prop} {M st b : Nat} {D : Nat → Nat} (hB : ∀ x y, y < M → b < x → (B x y ↔ B' x y)) (h : 2 ≤ M) (hD : isD B M st b D) : isD B' M st b D := by
  intro p hp
  obtain ⟨d1, d2, d3⟩ := hD p hp
  refine ⟨d1, d2, fun j h1 h2 => ?_⟩
  rw [← d3 j h1 h2]
  exact (hB _ _ (Nat.mod_lt _ (by omega)) (by omega)).symm
/-- the draughts of a list, the first n of them -/
def Bl (dB dP : Nat → Nat) (n x y : Nat) : Prop := ∃ i, i < n ∧ dB i = x ∧ dP i = y
theorem Bl_succ {dB dP : Nat → Nat} {n x y : Nat} : Bl dB dP (n + 1) x y ↔ Bl dB dP n x y ∨ (x = dB n ∧ y = dP n) := by
  constructor
  · rintro ⟨i, h1, h2, h3⟩
    by_cases e : i = n
    · subst e
      exact Or.inr ⟨h2.symm, h3.symm⟩
    · exact Or.inl ⟨i, by omega, h2, h3⟩
  · rintro (⟨i, h1, h2, h3⟩ | ⟨h1, h2⟩)
    · exact ⟨i, by omega, h2, h3⟩
    · exact ⟨n, by omega, h1.symm, h2.symm⟩
theorem x_minN {a b : Nat} (ha : a < 2 ^ 31) (hb : b < 2 ^ 31) : (if nI b < nI a then nI b else nI a) = nI (min a b) := by
  by_cases h : b < a
  · rw [if_pos ((nI_ltI hb ha).mpr h), show min a b = b by omega]
  · rw [if_neg (fun z => h ((nI_ltI hb ha).mp z)), show min a b = a by omega]
theorem fX5_reckonDraughts_L2_n {M : Nat} (h' : M ≤ 6) (k : Int32 → (Nat → Int32) → Option (Nat → Int32)) : ∀ (d i F : Nat) (f : Nat → Nat), i + d = M → d < F → fX5_reckonDraughts_L2 (nI M) 6 k F (nI i) (fun j => nI (f j)) = k (nI M) (fun j => nI (if i ≤ j ∧ j < M then 1000000 else f j)) := by
  intro d
  induction d with
  | zero =>
    intro i F f h1 h2
    obtain ⟨F, rfl⟩ : ∃ F', F = F' + 1 := ⟨F - 1, by omega⟩
    rw [fX5_reckonDraughts_L2, if_pos (by rw [show i = M by omega]; exact Int32.le_refl _), show i = M by omega]
    congr 1
    funext j
    rw [if_neg (by omega)]
  | succ d ih =>
    intro i F f h1 h2
    obtain ⟨F, rfl⟩ : ∃ F', F = F' + 1 := ⟨F - 1, by omega⟩
    rw [fX5_reckonDraughts_L2, if_neg (nI_ge (by omega) (by omega)), fX3_set_eq _ _ _ _ (by omega), rset_n (by omega) (by omega)]
    rw [xbd_some rfl, nI_1, show (1000000 : Int32) = nI 1000000 from rfl, upd_nI, ih (i + 1) F _ (by omega) (by omega)]
    congr 1
    funext j
    congr 1
    unfold updN
    by_cases hj : j = i
    · subst hj
      rw [if_neg (by omega), if_pos rfl, if_pos ⟨by omega, by omega⟩]
    · rw [if_neg hj]
      by_cases hj2 : i + 1 ≤ j ∧ j < M
      · rw [if_pos hj2, if_pos ⟨by omega, by omega⟩]
      · rw [if_neg hj2, if_neg (by omega)]
theorem fX5_reckonDraughts_L25_n {M st nd b : Nat} {dB dP : Nat → Nat} (h : 2 ≤ M) (h' : M ≤ 6) (hs : st ≤ 5) (hnd : nd ≤ 6) (hb : b < 10000) (hB : ∀ i, i < nd → dB i ≤ 60 ∧ dP i < M) (k : Int32 → (Nat → Int32) → Option (Nat → Int32)) : ∀ (d i F : Nat) (f : Nat → Nat), i + d = nd → d < F → isD (Bl dB dP i) M st b f → ∃ f', isD (Bl dB dP nd) M st b f' ∧ fX5_reckonDraughts_L25 (nI M) (nI st) (nI nd) (fun j => nI (dB j)) (fun j => nI (dP j)) (nI b) 6 k F (nI i) (fun j => nI (f j)) = k (nI nd) (fun j => nI (f' j)) := by
  intro d
  induction d with
  | zero =>
    intro i F f h1 h2 h3
    obtain ⟨F, rfl⟩ : ∃ F', F = F' + 1 := ⟨F - 1, by omega⟩
    obtain rfl : i = nd := by omega
    refine ⟨f, h3, ?_⟩
    rw [fX5_reckonDraughts_L25, if_pos (Int32.le_refl _)]
  | succ d ih =>
    intro i F f h1 h2 h3
    obtain ⟨F, rfl⟩ : ∃ F', F = F' + 1 := ⟨F - 1, by omega⟩
    obtain ⟨hB1, hB2⟩ := hB i (by omega)
    have e1 : (nI (dB i) - nI b).toInt = (dB i : Int) - b := by
      rw [x_sub (by rw [nI_toInt (by omega), nI_toInt (by omega)]; omega) (by rw [nI_toInt (by omega), nI_toInt (by omega)]; omega), nI_toInt (by omega), nI_toInt (by omega)]
    by_cases hc : dB i < b + 1
    · obtain ⟨f', h4, h5⟩ := ih (i + 1) F f (by omega) (by omega) (isD_congr (fun x y hy hx => by rw [Bl_succ]; exact ⟨Or.inl, fun z => z.elim id (fun z => by omega)⟩) h h3)
      refine ⟨f', h4, ?_⟩
      rw [fX5_reckonDraughts_L25, if_neg (nI_ge (by omega) (by omega)), fX3_get_eq _ _ _ (by omega), rget_n (by omega) (by omega), xbd_some rfl, if_pos (by rw [x_lt, e1]; show _ < (1 : Int); omega), nI_1, h5]
    · have h6 := isD_add h h' hB2 (show 1 ≤ dB i - b by omega) h3
      have h7 := (h3 (bk M (dP i) ((dB i - b) * st)) (bk_lt h)).2.1
      obtain ⟨f', h4, h5⟩ := ih (i + 1) F _ (by omega) (by omega) (isD_congr (fun x y hy hx => by rw [Bl_succ, show b + (dB i - b) = dB i by omega]) h h6)
      refine ⟨f', h4, ?_⟩
      have hbl := bk_lt (M := M) (p := dP i) (k := (dB i - b) * st) h
      rw [fX5_reckonDraughts_L25, if_neg (nI_ge (by omega) (by omega)), fX3_get_eq _ _ _ (by omega), rget_n (by omega) (by omega), xbd_some rfl, if_neg (by rw [x_lt, e1]; show ¬ _ < (1 : Int); omega)]
      rw [fX3_get_eq _ _ _ (by omega), rget_n (by omega) (by omega), xbd_some rfl, x_subN (by omega) (by omega), fX5_postBefore_n h h' (by omega) hs (by omega), xbd_some rfl, fX3_get_eq _ _ _ (by omega), rget_n (by omega) (by omega), xbd_some rfl, x_minN (by omega) (by omega), fX3_set_eq _ _ _ _ (by omega), rset_n (by omega) (by omega), xbd_some rfl, upd_nI, nI_1, h5]
theorem fX5_reckonDraughts_n {M st nd b : Nat} {dB dP : Nat → Nat} (h : 2 ≤ M) (h' : M ≤ 6) (hs : st ≤ 5) (hnd : nd ≤ 6) (hb : b < 10000) (hB : ∀ i, i < nd → dB i ≤ 60 ∧ dP i < M) (F : Nat) (hF : 6 < F) (f : Nat → Nat) : ∃ f', isD (Bl dB dP nd) M st b f' ∧ fX5_reckonDraughts F (nI M) (nI st) (nI nd) (fun j => nI (dB j)) (fun j => nI (dP j)) (fun j => nI (f j)) (nI b) 6 = some (fun j => nI (f' j)) := by
  obtain ⟨f', h1, h2⟩ := fX5_reckonDraughts_L25_n h h' hs hnd hb hB (fun _ w => some w) nd 0 F (fun j => if 0 ≤ j ∧ j < M then 1000000 else f j) (by omega) (by omega) (isD_congr (fun x y _ _ => ⟨fun z => z.elim, fun ⟨i, z, _⟩ => by omega⟩) h (isD_never M st b _ (fun p hp => if_pos ⟨by omega, hp⟩)))
  refine ⟨f', h1, ?_⟩
  unfold fX5_reckonDraughts
  rw [show (0 : Int32) = nI 0 from rfl, fX5_reckonDraughts_L2_n h' _ M 0 F f (by omega) (by omega)]
  exact h2
