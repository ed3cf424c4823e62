/-! ===== what the two hold when they are new ===== -/
theorem addMan_yes {M v : Nat} {kd : Nat → Nat} (h : M < 6) (hv : v ≤ 2) : fX5_addMan (nI M) (fun j => nI (kd j)) (nI v) = some (1, nI (M + 1), (fun j => nI (updN kd M v j))) := by
  unfold fX5_addMan
  rw [if_neg (show ¬ (6 : Int32) ≤ nI M from nI_ge (b := 6) h (by omega)), if_neg (nI_pos (by omega)), if_pos (show nI v ≤ (2 : Int32) from nI_le (b := 2) hv (by omega)), fX3_set_eq _ _ _ _ (by omega), rset_n h (by omega), xbd_some rfl, upd_nI]
  rw [show nI M + (1 : Int32) = nI (M + 1) from nI_1 M]
def s0_kd : Nat → Nat := updN (updN (updN (fun _ => 0) 0 0) 1 0) 2 0
def s0_o1 : Nat → Nat := updN (fun _ => 0) 0 5
def s0_o0 : Nat → Nat := updN s0_o1 1 9
def s0_l1 : Nat → Nat := updN (fun _ => 0) 0 1
def s0_l0 : Nat → Nat := updN s0_l1 1 0
def s0_ch : Nat → Nat := updN (updN (fun _ => 0) 0 0) 1 0
theorem s0_zero (v : Nat → Nat) (h : v = fun _ => 0) (k : Nat) : updN v k 0 = fun _ => 0 := by
  funext j
  unfold updN
  rw [h]
  split <;> rfl
theorem s0_kd_0 : s0_kd = fun _ => 0 := s0_zero _ (s0_zero _ (s0_zero _ rfl 0) 1) 2
theorem s0_ch_0 : s0_ch = fun _ => 0 := s0_zero _ (s0_zero _ rfl 0) 1
theorem s0_o0_v (i : Nat) : s0_o0 i = if i = 1 then 9 else if i = 0 then 5 else 0 := rfl
theorem s0_l0_v (i : Nat) : s0_l0 i = if i = 1 then 0 else if i = 0 then 1 else 0 := rfl
theorem s0_GB (kd : Nat → Nat) (h : kd = fun _ => 0) (ch o0 l0 : Nat → Nat) (hch : ch = fun _ => 0) (ho : ∀ i, o0 i ≤ 40 ∧ (3 ≤ i → o0 i = 0)) (hl : ∀ i, l0 i ≤ 1 ∧ l0 i ≤ o0 i ∧ (3 ≤ i → l0 i = 0)) : GB 3 1 0 kd o0 ch l0 (fun _ => 0) (fun _ => 0) (fun _ => 0) := by
  subst h hch
  refine ⟨by omega, by omega, by omega, fun i _ => ⟨Nat.zero_le _, (ho i).1, Nat.zero_le _, (hl i).1, (hl i).2.1, fun z => by dsimp only at z; omega⟩, fun i hi => ⟨(hl i).2.2 hi, rfl, fun _ => (ho i).2 hi⟩, fun i hi => absurd hi (Nat.not_lt_zero _), fun _ => Nat.zero_le _⟩
theorem s0_T : TB 3 1 0 s0_kd s0_o0 s0_ch s0_l0 (fun _ => 0) (fun _ => 0) (fun _ => 0) := by
  rw [s0_kd_0, s0_ch_0]
  refine ⟨by omega, by omega, by omega, by omega, fun i _ => ?_, fun i hi => ?_, fun i hi => absurd hi (Nat.not_lt_zero _), fun _ => Nat.zero_le _⟩
  · rw [s0_o0_v, s0_l0_v]
    refine ⟨Nat.zero_le _, ?_, Nat.zero_le _, ?_, ?_, fun z => by dsimp only at z; omega⟩
    · split
      · omega
      · split <;> omega
    · split
      · omega
      · split <;> omega
    · split
      · omega
      · split <;> omega
  · rw [s0_l0_v, if_neg (by omega), if_neg (by omega)]
theorem s0_6 (F : Nat) (hF : 1000 < F) : ∃ po oi : Nat → Nat, fX6_init F = some (nI 3, nI (bts s0_l0), nI 0, (fun j => nI (po j)), (fun j => nI (oi j)), nI 3, nI (bts s0_l0), nI (bts s0_ch), (fun j => nI (s0_kd j)), (fun j => nI (s0_o0 j))) ∧ (∀ j, j < 3 → po j = j) ∧ (∀ j, j < 6 → oi j = s0_o0 j) := by
  obtain ⟨po, oi, eb, g1, g2⟩ := begin_n (M := 3) (o0 := s0_o0) (by omega) F hF (fun _ => 0) (fun _ => 0) (nI (bts s0_l0))
  refine ⟨po, oi, ?_, g1, g2⟩
  have a1 : fX5_addMan (0 : Int32) (fun _ => 0) (0 : Int32) = some (1, nI 1, (fun j => nI (updN (fun _ => 0) 0 0 j))) := addMan_yes (M := 0) (v := 0) (kd := fun _ => 0) (by omega) (by omega)
  have a2 : fX5_addMan (nI 1) (fun j => nI (updN (fun _ => 0) 0 0 j)) (0 : Int32) = some (1, nI 2, (fun j => nI (updN (updN (fun _ => 0) 0 0) 1 0 j))) := addMan_yes (M := 1) (v := 0) (by omega) (by omega)
  have a3 : fX5_addMan (nI 2) (fun j => nI (updN (updN (fun _ => 0) 0 0) 1 0 j)) (0 : Int32) = some (1, nI 3, (fun j => nI (s0_kd j))) := addMan_yes (M := 2) (v := 0) (by omega) (by omega)
  have b1 : fX5_tellOil (nI 3) (0 : Int32) (0 : Int32) (fun _ => 0) (0 : Int32) (5 : Int32) (1 : Int32) = some (1, nI (bts s0_l1), nI (bts (updN (fun _ => 0) 0 0)), (fun j => nI (s0_o1 j))) := tellOil_yes (v := 0) (n := 5) (z := 1) (s0_GB (fun _ => 0) rfl (fun _ => 0) (fun _ => 0) (fun _ => 0) rfl (fun _ => ⟨Nat.zero_le _, fun _ => rfl⟩) (fun _ => ⟨Nat.zero_le _, Nat.le_refl _, fun _ => rfl⟩)) (by omega) (by omega) (by omega) (by omega)
  have b2 : fX5_tellOil (nI 3) (nI (bts s0_l1)) (nI (bts (updN (fun _ => 0) 0 0))) (fun j => nI (s0_o1 j)) (1 : Int32) (9 : Int32) (0 : Int32) = some (1, nI (bts s0_l0), nI (bts s0_ch), (fun j => nI (s0_o0 j))) := tellOil_yes (v := 1) (n := 9) (z := 0) (s0_GB (fun _ => 0) rfl (updN (fun _ => 0) 0 0) s0_o1 s0_l1 (s0_zero _ rfl 0) (fun i => by
      show (if i = 0 then 5 else 0) ≤ 40 ∧ (3 ≤ i → (if i = 0 then 5 else 0) = 0)
      split <;> omega) (fun i => by
      show (if i = 0 then 1 else 0) ≤ 1 ∧ (if i = 0 then 1 else 0) ≤ (if i = 0 then 5 else 0) ∧ (3 ≤ i → (if i = 0 then 1 else 0) = 0)
      split <;> omega)) (by omega) (by omega) (by omega) (by omega)
  unfold fX6_init
  rw [a1, xbd2_some rfl]
  dsimp only
  rw [a2, xbd2_some rfl]
  dsimp only
  rw [a3, xbd2_some rfl]
  dsimp only
  rw [b1, xbd2_some rfl]
  dsimp only
  rw [b2, xbd2_some rfl]
  dsimp only
  rw [eb, xbd_some rfl]
  rfl
theorem s0_orw (i : Nat) : (upd (upd (fun _ => 0) (0 : Int32).toNatClampNeg (5 : Int32)) (1 : Int32).toNatClampNeg (9 : Int32)) i = nI (s0_o0 i) := by
  rw [s0_o0_v]
  show (if i = 1 then (9 : Int32) else if i = 0 then (5 : Int32) else 0) = _
  split
  · rfl
  · split <;> rfl
theorem s0_lr (i : Nat) : (upd (fun _ => 0) (0 : Int32).toNatClampNeg (1 : Int32)) i = nI (s0_l0 i) := by
  rw [s0_l0_v]
  show (if i = 0 then (1 : Int32) else 0) = _
  by_cases c : i = 0
  · rw [c]
    rfl
  · rw [if_neg c, if_neg c]
    split <;> rfl
theorem s0_7 (F : Nat) (hF : 1000 < F) {po oi : Nat → Nat} (hp : ∀ j, j < 3 → po j = j) (ho : ∀ j, j < 6 → oi j = s0_o0 j) : ∃ orw lr now : Nat → Int32, fX7_init F = some (nI 3, nI 1, (1 : Int32), orw, lr, now) ∧ TM 3 1 0 s0_kd s0_o0 s0_ch s0_l0 (fun _ => 0) (fun _ => 0) (fun _ => 0) (1 : Int32) (0 : Int32) (fun _ => 0) orw lr (fun _ => 0) ∧ SC (fun _ => 0) (1000000 : Int32) (1000000 : Int32) ∧ PB 3 po (fun p => p) oi s0_l0 0 ∧ MR 3 (fun p => p) oi s0_l0 0 now := by
  have hT := s0_T
  have hch : ∀ i, ¬ s0_ch i = 1 := fun i => by
    rw [s0_ch_0]
    exact fun z => absurd (show (0 : Nat) = 1 from z) (by decide)
  obtain ⟨now, f5, f6⟩ := fX7_begin_now_n (M := 3) (o0 := s0_o0) (ch := s0_ch) (l0 := s0_l0) (kr := upd (upd (fun _ => 0) (0 : Int32).toNatClampNeg (5 : Int32)) (1 : Int32).toNatClampNeg (9 : Int32)) (lr := upd (fun _ => 0) (0 : Int32).toNatClampNeg (1 : Int32)) (s := fun _ => 0) (by omega) (fun i hi => ⟨fun z => absurd z (hch i), by have := (hT.2.2.2.2.1 i hi).2.1; omega, by rw [if_neg (hch i)]; exact s0_orw i, s0_lr i⟩) F (by omega)
  have hTM : TM 3 1 0 s0_kd s0_o0 s0_ch s0_l0 (fun _ => 0) (fun _ => 0) (fun _ => 0) (1 : Int32) (0 : Int32) (fun _ => 0) (upd (upd (fun _ => 0) (0 : Int32).toNatClampNeg (5 : Int32)) (1 : Int32).toNatClampNeg (9 : Int32)) (upd (fun _ => 0) (0 : Int32).toNatClampNeg (1 : Int32)) (fun _ => 0) := by
    refine ⟨fun i hi => ⟨fun _ => ?_, ?_, s0_lr i⟩, fun i hi => absurd hi (Nat.not_lt_zero _), sun_none.2⟩
    · rw [s0_kd_0]
      rfl
    · rw [if_neg (hch i)]
      exact s0_orw i
  have hPB : PB 3 po (fun p => p) oi s0_l0 0 := by
    refine ⟨⟨fun l hl => ?_, fun p hp2 => ⟨hp2, hp p hp2⟩⟩, fun l hl => (hT.2.2.2.2.1 l hl).2.2.2.1, fun l hl => hT.2.2.2.2.2.1 l hl, fun l hl => ?_, by omega⟩
    · rw [hp l hl]
      exact ⟨hl, rfl⟩
    · rw [ho l (by omega)]
      have := hT.2.2.2.2.1 l (by omega)
      omega
  refine ⟨_, _, now, ?_, hTM, sun_none.1, hPB, MR_congr f6 (fun _ _ => rfl) (fun l hl => ⟨(ho l (by omega)).symm, rfl⟩) rfl⟩
  unfold fX7_init
  exact xbd_some f5
