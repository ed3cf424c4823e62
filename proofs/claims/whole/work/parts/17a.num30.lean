/-! ===== numbers: Int32 by its value ===== -/
theorem x_lt (a b : Int32) : a < b ↔ a.toInt < b.toInt := Int32.lt_iff_toInt_lt
theorem x_le (a b : Int32) : a ≤ b ↔ a.toInt ≤ b.toInt := Int32.le_iff_toInt_le
theorem x_eq (a b : Int32) : a = b ↔ a.toInt = b.toInt := Int32.toInt_inj.symm
theorem x_cl (i : Int32) : i.toNatClampNeg = i.toInt.toNat := rfl
theorem x_ofInt {n : Int} (h1 : -2147483648 ≤ n) (h2 : n < 2147483648) : (Int32.ofInt n).toInt = n := by
  rw [Int32.toInt_ofInt, show Int32.size = 4294967296 from rfl]
  exact Int.bmod_eq_of_le (by omega) (by omega)
theorem x_rng (a : Int32) : -2147483648 ≤ a.toInt ∧ a.toInt < 2147483648 := ⟨Int32.le_toInt a, Int32.toInt_lt a⟩
theorem x_add {a b : Int32} (h1 : -2147483648 ≤ a.toInt + b.toInt) (h2 : a.toInt + b.toInt < 2147483648) : (a + b).toInt = a.toInt + b.toInt := by
  rw [Int32.toInt_add]; exact Int.bmod_eq_of_le (by omega) (by omega)
theorem x_sub {a b : Int32} (h1 : -2147483648 ≤ a.toInt - b.toInt) (h2 : a.toInt - b.toInt < 2147483648) : (a - b).toInt = a.toInt - b.toInt := by
  rw [Int32.toInt_sub]; exact Int.bmod_eq_of_le (by omega) (by omega)
theorem x_mul {a b : Int32} (h1 : -2147483648 ≤ a.toInt * b.toInt) (h2 : a.toInt * b.toInt < 2147483648) : (a * b).toInt = a.toInt * b.toInt := by
  rw [Int32.toInt_mul]; exact Int.bmod_eq_of_le (by omega) (by omega)
theorem x_div {a b : Int32} (h : 0 < b.toInt) : (a / b).toInt = a.toInt.tdiv b.toInt := by
  rw [Int32.toInt_div]
  have r := x_rng a
  have h1 := Int.natAbs_tdiv_le_natAbs a.toInt b.toInt
  by_cases hz : 0 ≤ a.toInt
  · have h2 : 0 ≤ a.toInt.tdiv b.toInt := Int.tdiv_nonneg hz (by omega)
    exact Int.bmod_eq_of_le (by omega) (by omega)
  · by_cases hm : a.toInt.natAbs = 2147483648
    · exact Int.bmod_eq_of_le (by omega) (by
        have h3 : a.toInt.tdiv b.toInt ≤ 0 := by
          have := Int.tdiv_nonneg (a := -a.toInt) (b := b.toInt) (by omega) (by omega)
          rw [Int.neg_tdiv] at this
          omega
        omega)
    · exact Int.bmod_eq_of_le (by omega) (by omega)
theorem x_rem {a b : Int32} (h : 0 < b.toInt) : (a - a / b * b).toInt = a.toInt.tmod b.toInt := by
  have hd := x_div (a := a) h
  have r := x_rng a
  have e := Int.mul_tdiv_add_tmod a.toInt b.toInt
  have e' : a.toInt.tdiv b.toInt * b.toInt = a.toInt - a.toInt.tmod b.toInt := by rw [Int.mul_comm]; omega
  have hm : (a.toInt.tmod b.toInt).natAbs ≤ a.toInt.natAbs := by
    by_cases hz : 0 ≤ a.toInt
    · have h1 := Int.tmod_nonneg b.toInt hz
      have h2 : a.toInt.tmod b.toInt ≤ a.toInt := by
        rw [Int.tmod_eq_emod_of_nonneg hz]
        have h3 := Int.mul_nonneg (Int.le_of_lt h) (Int.ediv_nonneg hz (Int.le_of_lt h))
        rw [Int.emod_def]
        omega
      omega
    · have h1 := Int.tmod_nonneg (a := -a.toInt) b.toInt (by omega)
      have h2 : (-a.toInt).tmod b.toInt ≤ -a.toInt := by
        rw [Int.tmod_eq_emod_of_nonneg (by omega)]
        have h3 := Int.mul_nonneg (Int.le_of_lt h) (Int.ediv_nonneg (a := -a.toInt) (by omega) (Int.le_of_lt h))
        rw [Int.emod_def]
        omega
      rw [Int.neg_tmod] at h1 h2
      omega
  have hs : (0 ≤ a.toInt → 0 ≤ a.toInt.tmod b.toInt) ∧ (a.toInt ≤ 0 → a.toInt.tmod b.toInt ≤ 0) := by
    refine ⟨fun hz => Int.tmod_nonneg b.toInt hz, fun hz => ?_⟩
    have h1 := Int.tmod_nonneg (a := -a.toInt) b.toInt (by omega)
    rw [Int.neg_tmod] at h1
    omega
  have hp : (a / b * b).toInt = a.toInt - a.toInt.tmod b.toInt := by
    rw [x_mul (by rw [hd, e']; omega) (by rw [hd, e']; omega), hd, e']
  rw [x_sub (by rw [hp]; omega) (by rw [hp]; omega), hp]
  omega
theorem x_xor_pos (a b : Int32) (h : 0 < b.toInt) : 0 ≤ a ^^^ b ↔ 0 ≤ a.toInt := by
  have h1 : (a ^^^ b).toInt < 0 ↔ (a ^^^ b).toBitVec.msb = true := by rw [BitVec.msb_eq_toInt]; exact decide_eq_true_iff.symm
  have h2 : a.toInt < 0 ↔ a.toBitVec.msb = true := by rw [BitVec.msb_eq_toInt]; exact decide_eq_true_iff.symm
  have h3 : b.toBitVec.msb = false := by rw [BitVec.msb_eq_toInt]; simp only [decide_eq_false_iff_not]; show ¬ b.toInt < 0; omega
  rw [x_le]
  show (0 : Int) ≤ _ ↔ _
  rw [← Int.not_lt, ← Int.not_lt, h1, h2, Int32.toBitVec_xor, BitVec.msb_xor, h3]
  simp
/-! ===== rows, in closed words ===== -/
def rget (n : Nat) (f : Nat → Int32) (i : Int32) : Int32 := if 0 ≤ i.toInt ∧ i.toInt < n then f i.toInt.toNat else 0
def rset (n : Nat) (f : Nat → Int32) (i v : Int32) : Nat → Int32 := if 0 ≤ i.toInt ∧ i.toInt < n then upd f i.toInt.toNat v else f
def rnd (men p : Int32) : Int32 := if 1 ≤ men.toInt then Int32.ofInt (p.toInt % men.toInt) else 0
theorem x_nIle {n : Nat} (h : n < 2 ^ 31) (i : Int32) : nI n ≤ i ↔ (n : Int) ≤ i.toInt := by rw [x_le, nI_toInt h]
theorem x_z : (0 : Int32).toInt = 0 := rfl
theorem fX3_get_eq (f : Nat → Int32) (i : Int32) (n : Nat) (h : n < 2 ^ 31) : fX3_get f i n = some (rget n f i) := by
  unfold fX3_get rget
  by_cases h1 : i < 0
  · rw [if_pos h1, if_neg (by rw [x_lt, x_z] at h1; omega)]
  · have h1' := h1
    rw [x_lt, x_z] at h1'
    rw [if_neg h1]
    by_cases h2 : nI n ≤ i
    · rw [if_pos h2, if_neg (by rw [x_nIle h] at h2; omega)]
    · have h2' := h2
      rw [x_nIle h] at h2'
      rw [if_neg h2, if_neg (by rw [x_cl]; rintro (h3 | h3); exact h1 h3; omega), if_pos ⟨by omega, by omega⟩, x_cl]
theorem fX3_set_eq (f : Nat → Int32) (i v : Int32) (n : Nat) (h : n < 2 ^ 31) : fX3_set f i v n = some (rset n f i v) := by
  unfold fX3_set rset
  by_cases h1 : i < 0
  · rw [if_pos h1, if_neg (by rw [x_lt, x_z] at h1; omega)]
  · have h1' := h1
    rw [x_lt, x_z] at h1'
    rw [if_neg h1]
    by_cases h2 : nI n ≤ i
    · rw [if_pos h2, if_neg (by rw [x_nIle h] at h2; omega)]
    · have h2' := h2
      rw [x_nIle h] at h2'
      rw [if_neg h2, if_neg (by rw [x_cl]; rintro (h3 | h3); exact h1 h3; omega), if_pos ⟨by omega, by omega⟩, x_cl]
theorem fJ9_floorMod_eq (a b : Int32) (h : 0 < b.toInt) : fJ9_floorMod_7cf53 a b = some (Int32.ofInt (a.toInt % b.toInt)) := by
  have hr := x_rem (a := a) h
  have rb := x_rng b
  have ra := x_rng a
  have hm0 := Int.emod_nonneg a.toInt (b := b.toInt) (by omega)
  have hm1 := Int.emod_lt_of_pos a.toInt h
  unfold fJ9_floorMod_7cf53
  rw [if_neg (by rw [x_eq, x_z]; omega)]
  by_cases h1 : 0 ≤ a ^^^ b
  · rw [if_pos h1]
    rw [x_xor_pos a b h] at h1
    rw [Int.tmod_eq_emod_of_nonneg h1] at hr
    refine congrArg some (Int32.toInt_inj.mp ?_)
    rw [hr, x_ofInt (by omega) (by omega)]
  · rw [if_neg h1]
    rw [x_xor_pos a b h] at h1
    have e1 := Int.tmod_eq_emod (a := a.toInt) (b := b.toInt)
    have hna : (b.toInt.natAbs : Int) = b.toInt := by omega
    by_cases h2 : a - a / b * b = 0
    · rw [if_pos h2]
      rw [x_eq, x_z, hr] at h2
      have hd : b.toInt ∣ a.toInt := Int.dvd_of_tmod_eq_zero h2
      have h3 : a.toInt % b.toInt = 0 := Int.emod_eq_zero_of_dvd hd
      refine congrArg some (Int32.toInt_inj.mp ?_)
      rw [hr, x_ofInt (by omega) (by omega), h2, h3]
    · rw [if_neg h2]
      rw [x_eq, x_z, hr] at h2
      have hd : ¬ b.toInt ∣ a.toInt := fun z => h2 (Int.tmod_eq_zero_of_dvd z)
      rw [if_neg (by rintro (z | z); exact h1 z; exact hd z), hna] at e1
      refine congrArg some (Int32.toInt_inj.mp ?_)
      rw [x_add (by rw [hr]; omega) (by rw [hr]; omega), hr, x_ofInt (by omega) (by omega)]
      omega
theorem fX5_round_eq (men a : Int32) : fX5_round men a = some (rnd men a) := by
  unfold fX5_round rnd
  by_cases h : (1 : Int32) ≤ men
  · have h' : (1 : Int) ≤ men.toInt := (x_le _ _).mp h
    rw [if_pos h, if_pos h', fJ9_floorMod_eq a men (by omega)]
    rfl
  · have h' : ¬ (1 : Int) ≤ men.toInt := fun z => h ((x_le _ _).mpr z)
    rw [if_neg h, if_neg h']
theorem fJ6_bitCount_eq : ∀ n, n < 64 → fJ6_bitCount_0f7a4 (nI n) = some (nI (n % 2 + n / 2 % 2 + n / 4 % 2 + n / 8 % 2 + n / 16 % 2 + n / 32 % 2)) := by decide +kernel
theorem xb_bit : ∀ s, s < 64 → ∀ l, l < 6 → ((nI s >>> (nI l &&& 31)) &&& 1) = nI (s / 2 ^ l % 2) := by decide +kernel
theorem xb_one : ∀ l, l < 7 → ((1 : Int32) <<< (nI l &&& 31)) = nI (2 ^ l) := by decide +kernel
theorem xb_or : ∀ s, s < 64 → ∀ l, l < 6 → nI s ||| nI (2 ^ l) = nI (if s / 2 ^ l % 2 = 1 then s else s + 2 ^ l) := by decide +kernel
theorem xb_clr : ∀ s, s < 64 → ∀ l, l < 6 → nI s &&& (nI (2 ^ l) ^^^ (-1)) = nI (if s / 2 ^ l % 2 = 1 then s - 2 ^ l else s) := by decide +kernel
/-! rows at a place that is a number -/
theorem rget_n {n : Nat} {f : Nat → Int32} {j : Nat} (hj : j < n) (hn : n < 2 ^ 31) : rget n f (nI j) = f j := by
  unfold rget
  rw [nI_toInt (by omega), if_pos ⟨by omega, by omega⟩]
  rfl
theorem rset_n {n : Nat} {f : Nat → Int32} {j : Nat} {v : Int32} (hj : j < n) (hn : n < 2 ^ 31) : rset n f (nI j) v = upd f j v := by
  unfold rset
  rw [nI_toInt (by omega), if_pos ⟨by omega, by omega⟩]
  rfl
theorem fX3_copy_L (n gn : Nat) (g : Nat → Int32) (hn : n < 2 ^ 31) (hg : gn < 2 ^ 31) (k : Int32 → (Nat → Int32) → Option (Nat → Int32)) : ∀ (d i F : Nat) (f : Nat → Int32), i + d = n → d < F → fX3_copy_L2 g n gn k F (nI i) f = k (nI n) (fun j => if i ≤ j ∧ j < n then rget gn g (nI j) else f j) := by
  intro d
  induction d with
  | zero =>
    intro i F f h1 h2
    obtain ⟨F, rfl⟩ : ∃ F', F = F' + 1 := ⟨F - 1, by omega⟩
    rw [fX3_copy_L2, if_pos (by rw [show i = n by omega]; exact Int32.le_refl _)]
    rw [show i = n by omega]
    congr 1
    funext j
    rw [if_neg (by omega)]
  | succ d ih =>
    intro i F f h1 h2
    obtain ⟨F, rfl⟩ : ∃ F', F = F' + 1 := ⟨F - 1, by omega⟩
    rw [fX3_copy_L2, if_neg (nI_ge (by omega) hn), fX3_get_eq g (nI i) gn hg]
    show (if _ then _ else _) = _
    rw [if_neg (by rw [nI_clamp (by omega)]; rintro (h | h); exact nI_pos (by omega) h; omega), nI_clamp (by omega), nI_1, ih (i + 1) F _ (by omega) (by omega)]
    congr 1
    funext j
    by_cases hj : j = i
    · subst hj
      rw [if_neg (by omega), if_pos ⟨by omega, by omega⟩]
      simp [upd]
    · by_cases hj2 : i + 1 ≤ j ∧ j < n
      · rw [if_pos hj2, if_pos ⟨by omega, by omega⟩]
      · rw [if_neg hj2, if_neg (by omega)]
        simp [upd, hj]
theorem fX3_copy_eq (F n gn : Nat) (f g : Nat → Int32) (hn : n < 2 ^ 31) (hg : gn < 2 ^ 31) (hF : n < F) : fX3_copy F f g n gn = some (fun j => if j < n then rget gn g (nI j) else f j) := by
  unfold fX3_copy
  rw [show (0 : Int32) = nI 0 from rfl, fX3_copy_L n gn g hn hg _ n 0 F f (by omega) hF]
  simp
theorem fX3_clear_L (n : Nat) (hn : n < 2 ^ 31) (k : Int32 → (Nat → Int32) → Option (Nat → Int32)) : ∀ (d i F : Nat) (f : Nat → Int32), i + d = n → d < F → fX3_clear_L2 n k F (nI i) f = k (nI n) (fun j => if i ≤ j ∧ j < n then 0 else f j) := by
  intro d
  induction d with
  | zero =>
    intro i F f h1 h2
    obtain ⟨F, rfl⟩ : ∃ F', F = F' + 1 := ⟨F - 1, by omega⟩
    rw [fX3_clear_L2, if_pos (by rw [show i = n by omega]; exact Int32.le_refl _)]
    rw [show i = n by omega]
    congr 1
    funext j
    rw [if_neg (by omega)]
  | succ d ih =>
    intro i F f h1 h2
    obtain ⟨F, rfl⟩ : ∃ F', F = F' + 1 := ⟨F - 1, by omega⟩
    rw [fX3_clear_L2, if_neg (nI_ge (by omega) hn)]
    rw [if_neg (by rw [nI_clamp (by omega)]; rintro (h | h); exact nI_pos (by omega) h; omega), nI_clamp (by omega), nI_1, ih (i + 1) F _ (by omega) (by omega)]
    congr 1
    funext j
    by_cases hj : j = i
    · subst hj
      rw [if_neg (by omega), if_pos ⟨by omega, by omega⟩]
      simp [upd]
    · by_cases hj2 : i + 1 ≤ j ∧ j < n
      · rw [if_pos hj2, if_pos ⟨by omega, by omega⟩]
      · rw [if_neg hj2, if_neg (by omega)]
        simp [upd, hj]
theorem fX3_clear_eq (F n : Nat) (f : Nat → Int32) (hn : n < 2 ^ 31) (hF : n < F) : fX3_clear F f n = some (fun j => if j < n then 0 else f j) := by
  have e := fX3_clear_L n hn (fun _ w => some w) n 0 F f (by omega) hF
  unfold fX3_clear
  refine Eq.trans e ?_
  show some _ = some _
  congr 1
  funext j
  by_cases c : j < n
  · rw [if_pos c, if_pos ⟨Nat.zero_le _, c⟩]
  · rw [if_neg c, if_neg (fun z => c z.2)]
