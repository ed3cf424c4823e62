/-! ===== write ===== -/
theorem sh_u : ∀ k, k < 8 → ((((8 : Int32) * nI k).toInt64.toUInt64 &&& Int64.toUInt64 63).toBitVec % 64#64).toNat = 8 * k := by decide +kernel
theorem sh_s : ∀ k, k < 8 → ((((8 : Int32) * nI k).toInt64 &&& 63).toBitVec.smod 64#64).toNat = 8 * k := by decide +kernel
theorem m32 : ∀ i, i < 32 → (255#32).getLsbD i = decide (i < 8) := by decide +kernel
theorem m64 : ∀ i, i < 32 → (255#64).getLsbD i = decide (i < 8) := by decide +kernel
theorem byte_eq (v : Int64) {k : Nat} (hk : k < 8) : ((((v.toUInt64 >>> (((8 : Int32) * nI k).toInt64.toUInt64 &&& Int64.toUInt64 63)).toInt64).toInt32) &&& (255 : Int32)) = ((v >>> (((8 : Int32) * nI k).toInt64 &&& 63)) &&& (255 : Int64)).toInt32 := by
  rw [← Int32.toBitVec_inj]
  have e1 : ((((v.toUInt64 >>> (((8 : Int32) * nI k).toInt64.toUInt64 &&& Int64.toUInt64 63)).toInt64).toInt32) &&& (255 : Int32)).toBitVec = ((v.toBitVec >>> ((((8 : Int32) * nI k).toInt64.toUInt64 &&& Int64.toUInt64 63).toBitVec % 64#64).toNat).signExtend 32) &&& 255#32 := rfl
  have e2 : (((v >>> (((8 : Int32) * nI k).toInt64 &&& 63)) &&& (255 : Int64)).toInt32).toBitVec = ((v.toBitVec.sshiftRight ((((8 : Int32) * nI k).toInt64 &&& 63).toBitVec.smod 64#64).toNat) &&& 255#64).signExtend 32 := rfl
  rw [e1, e2, sh_u k hk, sh_s k hk]
  apply BitVec.eq_of_getLsbD_eq
  intro i hi
  rw [BitVec.getLsbD_and, BitVec.getLsbD_signExtend, BitVec.getLsbD_signExtend, BitVec.getLsbD_ushiftRight, BitVec.getLsbD_and, BitVec.getLsbD_sshiftRight, m32 i hi, m64 i hi]
  by_cases c : i < 8
  · simp [c, show i < 32 by omega, show i < 64 by omega, show ¬ 64 ≤ i by omega, show 8 * k + i < 64 by omega]
  · simp [c]
    intro _ h
    omega
theorem byte_n (y : Int32) : ∃ b : Nat, b < 256 ∧ y &&& (255 : Int32) = nI b := by
  refine ⟨(y &&& (255 : Int32)).toUInt32.toNat, ?_, (congrArg UInt32.toInt32 (UInt32.ofNat_toNat (x := (y &&& (255 : Int32)).toUInt32))).symm⟩
  have e : (y &&& (255 : Int32)).toUInt32.toNat = (y.toBitVec &&& 255#32).toNat := rfl
  rw [e, BitVec.toNat_and]
  have : y.toBitVec.toNat &&& 255 ≤ 255 := Nat.and_le_right
  exact Nat.lt_succ_of_le this
def TX (t : Nat → Nat) : Prop := ∀ j, t j < 256
theorem write_L {L n : Nat} {v : Int64} (hn : n ≤ 8) (hL : L + n ≤ 300) : ∀ (c : Nat) (G G' : Nat) (t : Nat → Nat), c < G → c < G' → c ≤ n → TX t → ∃ t', TX t' ∧ fX6_write_L33 v (fun (v33_4 : Int32) (w33_xl : Int32) (w33_gf : Nat → Int32) => some (w33_xl, (w33_xl, w33_gf))) G (nI c + (-1)) (nI (L + (n - c))) (fun j => nI (t j)) = some (nI (L + n), nI (L + n), (fun j => nI (t' j))) ∧ fX7_write_L30 (nI L) (nI n) v (fun (v30_4 : Int32) (w30_mok_1 : Nat → Int32) => some ((nI L + nI n), ((nI L + nI n), w30_mok_1))) G' (nI (n - c)) (fun j => nI (t j)) = some (nI (L + n), nI (L + n), (fun j => nI (t' j))) := by
  intro c
  induction c with
  | zero =>
    intro G G' t h1 h2 h3 h4
    obtain ⟨G, rfl⟩ : ∃ H, G = H + 1 := ⟨G - 1, by omega⟩
    obtain ⟨G', rfl⟩ : ∃ H, G' = H + 1 := ⟨G' - 1, by omega⟩
    refine ⟨t, h4, ?_, ?_⟩
    · rw [fX6_write_L33, if_pos (show nI 0 + (-1) < 0 by decide), Nat.sub_zero]
    · rw [fX7_write_L30, Nat.sub_zero, if_pos (Int32.le_refl _), nI_add]
  | succ c ih =>
    intro G G' t h1 h2 h3 h4
    obtain ⟨G, rfl⟩ : ∃ H, G = H + 1 := ⟨G - 1, by omega⟩
    obtain ⟨G', rfl⟩ : ∃ H, G' = H + 1 := ⟨G' - 1, by omega⟩
    obtain ⟨b, hb, eb⟩ := byte_n (((v.toUInt64 >>> (((8 : Int32) * nI c).toInt64.toUInt64 &&& Int64.toUInt64 63)).toInt64).toInt32)
    have eb2 := (byte_eq v (show c < 8 by omega)).symm.trans eb
    have hT : TX (updN t (L + (n - (c + 1))) b) := by
      intro j
      unfold updN
      split
      · exact hb
      · exact h4 j
    obtain ⟨t', q1, q2, q3⟩ := ih G G' _ (by omega) (by omega) (by omega) hT
    have e1 : nI n - (1 : Int32) - nI (n - (c + 1)) = nI c := by
      rw [show (1 : Int32) = nI 1 from rfl, x_subN (by omega) (by omega), x_subN (by omega) (by omega)]
      congr 1
      omega
    refine ⟨t', q1, ?_, ?_⟩
    · rw [nI_dec, fX6_write_L33, if_neg (nI_pos (by omega)), fX3_set_eq _ _ _ _ (by omega), rset_n (by omega) (by omega), eb, xbd_some rfl, upd_nI, nI_1, show L + (n - (c + 1)) + 1 = L + (n - c) by omega]
      exact q2
    · rw [fX7_write_L30, if_neg (nI_ge (by omega) (by omega)), nI_add, if_neg (nI_in (by omega) (by omega)), nI_clamp (by omega), e1, eb2, upd_nI, nI_1, show n - (c + 1) + 1 = n - c by omega]
      exact q3
theorem op_write {L : Nat} {t : Nat → Nat} (hL : L ≤ 300) (ht : TX t) (F : Nat) (hF : 1000 < F) (a1 : Int32) (a2 : Int64) : ∃ (r : Int32) (L' : Nat) (t' : Nat → Nat), fX6_write F (nI L) (fun j => nI (t j)) a1 a2 = some (r, nI L', (fun j => nI (t' j))) ∧ fX7_write F (nI L) (fun j => nI (t j)) a1 a2 = some (r, nI L', (fun j => nI (t' j))) ∧ L' ≤ 300 ∧ TX t' := by
  rcases rng a1 (lo := 1) (hi := 8) (by omega) (by omega) with ⟨n, hn1, hn, rfl⟩ | hn
  · have c1 : ¬ nI n < (1 : Int32) := nI_nlt (b := 1) hn1 (by omega)
    have c2 : nI n ≤ (8 : Int32) := nI_le (b := 8) hn (by omega)
    have e7 : fX7_in (nI n) 1 8 = some 1 := in_yes (lo := 1) (hi := 8) hn1 hn (by omega)
    by_cases c3 : L + n ≤ 300
    · obtain ⟨t', q1, q2, q3⟩ := write_L (v := a2) hn c3 n F F t (by omega) (by omega) (Nat.le_refl _) ht
      rw [Nat.sub_self, Nat.add_zero] at q2
      rw [Nat.sub_self] at q3
      refine ⟨nI (L + n), L + n, t', ?_, ?_, c3, q1⟩
      · unfold fX6_write
        rw [if_neg c1, if_pos c2, nI_add, if_pos (show nI (L + n) ≤ (300 : Int32) from nI_le (b := 300) c3 (by omega)), Int32.sub_eq_add_neg]
        exact q2
      · unfold fX7_write
        rw [e7, xbd_some rfl, if_neg (by decide), nI_add, if_pos (show nI (L + n) ≤ (300 : Int32) from nI_le (b := 300) c3 (by omega))]
        rw [nI_add] at q3
        exact q3
    · refine ⟨-3, L, t, ?_, ?_, hL, ht⟩
      · unfold fX6_write
        rw [if_neg c1, if_pos c2, nI_add, if_neg (show ¬ nI (L + n) ≤ (300 : Int32) from nI_ge (b := L + n) (a := 300) (by omega) (by omega))]
      · unfold fX7_write
        rw [e7, xbd_some rfl, if_neg (by decide), nI_add, if_neg (show ¬ nI (L + n) ≤ (300 : Int32) from nI_ge (b := L + n) (a := 300) (by omega) (by omega))]
  · refine ⟨-1, L, t, ?_, ?_, hL, ht⟩
    · unfold fX6_write
      by_cases c : a1 < (1 : Int32)
      · rw [if_pos c]
      · rw [if_neg c, if_neg (show ¬ a1 ≤ (8 : Int32) from fun y => ?_)]
        have q := hn.resolve_left c
        rw [x_lt, nI_toInt (by omega)] at q
        rw [x_le] at y
        have e : (8 : Int32).toInt = 8 := rfl
        omega
    · unfold fX7_write
      rw [show fX7_in a1 1 8 = some 0 from in_no hn, xbd_some rfl, if_pos (by decide)]
