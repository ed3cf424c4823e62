/-! ===== THE TEXT: the first fault ===== -/
abbrev ffK : Int32 → Int32 → Int32 → (Nat → Int32) → Int32 → Int32 → Int32 → Int32 → Int32 → Int32 → Int32 → (Nat → Int32) → (Nat → Int32) → (Nat → Int32) → (Nat → Int32) → Option (Int32 × Int32 × (Nat → Int32) × TC) := fun (v10_5 : Int32) (v10_4 : Int32) (w10_di_1 : Int32) (w10_dk_0 : Nat → Int32) (w10_ti_4 : Int32) (w10_ti_5 : Int32) (w10_ti_6 : Int32) (w10_ti_7 : Int32) (w10_ti_8 : Int32) (w10_ti_9 : Int32) (w10_ti_10 : Int32) (w10_tk_0 : Nat → Int32) (w10_tk_1 : Nat → Int32) (w10_tk_2 : Nat → Int32) (w10_tk_3 : Nat → Int32) => some ((-4 : Int32), (w10_di_1, w10_dk_0, w10_ti_4, w10_ti_5, w10_ti_6, w10_ti_7, w10_ti_8, w10_ti_9, w10_ti_10, w10_tk_0, w10_tk_1, w10_tk_2, w10_tk_3))
abbrev frK : Int32 → Int32 → Int32 → Int32 → Int32 → Int32 → (Nat → Int32) → (Nat → Int32) → (Nat → Int32) → (Nat → Int32) → (Nat → Int32) → Option (Int32 × TR) := fun (w30_moi_2 : Int32) (w30_moi_4 : Int32) (w30_moi_8 : Int32) (w30_moi_9 : Int32) (w30_moi_11 : Int32) (w30_moi_12 : Int32) (w30_mok_3 : Nat → Int32) (w30_mok_5 : Nat → Int32) (w30_mok_6 : Nat → Int32) (w30_mok_7 : Nat → Int32) (w30_mok_10 : Nat → Int32) => some ((-4 : Int32), (w30_moi_2, w30_moi_4, w30_moi_8, w30_moi_9, w30_moi_11, w30_moi_12, w30_mok_3, w30_mok_5, w30_mok_6, w30_mok_7, w30_mok_10))
def FFd (C : Option (Int32 × Int32 × (Nat → Int32) × TC)) (R : Option (Int32 × TR)) : Prop := (∃ q : Nat, q < 300 ∧ (∃ u, C = some (nI q, u)) ∧ ∃ p' : Int32, ∃ M' st' nd' : Nat, ∃ sn' dk' : Int32, ∃ w' kr' orw' lr' dr' : Nat → Int32, nd' ≤ 6 ∧ R = some (nI q, p', nI M', nI st', nI nd', sn', dk', w', kr', orw', lr', dr')) ∨ (∃ M st nd : Nat, ∃ kd o0 ch l0 dB dP su : Nat → Nat, ∃ sf sto sn dk di p' : Int32, ∃ dd w kr orw lr dr : Nat → Int32, GB M st nd kd o0 ch l0 dB dP su ∧ GM M nd kd o0 ch l0 dB dP kr orw lr dr ∧ SC su sf sto ∧ SM su sn dk ∧ C = some (-4, di, dd, nI M, nI (bts l0), nI (bts ch), nI st, nI nd, sf, sto, (fun j => nI (kd j)), (fun j => nI (o0 j)), (fun j => nI (dB j)), (fun j => nI (dP j))) ∧ R = some (-4, p', nI M, nI st, nI nd, sn, dk, w, kr, orw, lr, dr))
theorem ff_L {t : Nat → Nat} {L : Nat} (ht : TX t) (hL : L ≤ 300) (F : Nat) (hF : 1000 < F) : ∀ (d p it G G' M st nd : Nat) (kd o0 ch l0 dB dP su : Nat → Nat) (sf sto sn dk di : Int32) (dd w kr orw lr dr : Nat → Int32), L ≤ p + d → p ≤ L → it ≤ p → d < G → d < G' → GB M st nd kd o0 ch l0 dB dP su → GM M nd kd o0 ch l0 dB dP kr orw lr dr → SC su sf sto → SM su sn dk → FFd (fX2_firstFault_L10 (fun j => nI (t j)) (nI L) 300 F ffK G (nI it) (nI p) di dd (nI M) (nI (bts l0)) (nI (bts ch)) (nI st) (nI nd) sf sto (fun j => nI (kd j)) (fun j => nI (o0 j)) (fun j => nI (dB j)) (fun j => nI (dP j))) (fX7_findFault_L30 (nI L) (fun j => nI (t j)) F frK G' (nI p) (nI M) (nI st) (nI nd) sn dk w kr orw lr dr) := by
  intro d
  induction d with
  | zero =>
    intro p it G G' M st nd kd o0 ch l0 dB dP su sf sto sn dk di dd w kr orw lr dr h1 h2 h3 h4 h5 hG hM hC hS
    obtain ⟨G, rfl⟩ : ∃ H, G = H + 1 := ⟨G - 1, by omega⟩
    obtain ⟨G', rfl⟩ : ∃ H, G' = H + 1 := ⟨G' - 1, by omega⟩
    refine Or.inr ⟨M, st, nd, kd, o0, ch, l0, dB, dP, su, sf, sto, sn, dk, di, nI p, dd, w, kr, orw, lr, dr, hG, hM, hC, hS, ?_, ?_⟩
    · rw [fX2_firstFault_L10]
      by_cases c : L ≤ it
      · rw [if_pos (nI_le c (by omega))]
      · rw [if_neg (nI_ge (by omega) (by omega)), if_pos (nI_le (by omega) (by omega))]
    · rw [fX7_findFault_L30, if_pos (nI_le (by omega) (by omega))]
  | succ d ih =>
    intro p it G G' M st nd kd o0 ch l0 dB dP su sf sto sn dk di dd w kr orw lr dr h1 h2 h3 h4 h5 hG hM hC hS
    obtain ⟨G, rfl⟩ : ∃ H, G = H + 1 := ⟨G - 1, by omega⟩
    obtain ⟨G', rfl⟩ : ∃ H, G' = H + 1 := ⟨G' - 1, by omega⟩
    by_cases c0 : p < L
    · have e0 := fX2_firstFault_L10.eq_2 (fun j => nI (t j)) (nI L) 300 F ffK (nI it) (nI p) di dd (nI M) (nI (bts l0)) (nI (bts ch)) (nI st) (nI nd) sf sto (fun j => nI (kd j)) (fun j => nI (o0 j)) (fun j => nI (dB j)) (fun j => nI (dP j)) G
      have f0 := fX7_findFault_L30.eq_2 (nI L) (fun j => nI (t j)) F frK (nI p) (nI M) (nI st) (nI nd) sn dk w kr orw lr dr G'
      replace e0 := e0.trans ((if_neg (nI_ge (show it < L by omega) (by omega))).trans (if_neg (nI_ge c0 (by omega))))
      replace f0 := f0.trans (if_neg (nI_ge c0 (by omega)))
      have es : fX2_splitItem F dd (fun j => nI (t j)) (nI p) (nI L) 300 = fX2_splitItem_L16 (fun j => nI (t j)) (nI L) 300 spK F (nI (p + 1)) 0 0 (nI 0) dd := by
        unfold fX2_splitItem
        rw [nI_1]
        rfl
      rcases split_n ht hL 3 0 (p + 1) F dd (by omega) (by omega) (by omega) with ⟨s1, c', w', s2⟩ | ⟨vs, nx, w', s1, s2, s3, s4⟩
      · have s5 := es.trans s2
        replace e0 := e0.trans ((xbd2_some s5).trans (if_pos rfl))
        obtain ⟨p', w2, r1⟩ := item_0 (M := M) (st := st) (nd := nd) (sn := sn) (dk := dk) (w := w) (kr := kr) (orw := orw) (lr := lr) (dr := dr) ht hL c0 s1 F hF
        replace f0 := f0.trans ((xbd2_some r1).trans (if_pos rfl))
        exact Or.inl ⟨p, by omega, ⟨_, e0⟩, p', M, st, nd, sn, dk, w2, kr, orw, lr, dr, hG.2.2.1, f0⟩
      · have hl := spN_len ht 3 (p + 1) vs nx s1
        rw [Nat.zero_add] at s2
        have s5 := es.trans s2
        have hg : fX3_get (fun j => nI (t j)) (nI p) 300 = some (nI (t p)) := by rw [fX3_get_eq _ _ _ (by omega), rget_n (by omega) (by omega)]
        replace e0 := e0.trans ((xbd2_some s5).trans ((if_neg (show ¬ nI nx = (-4 : Int32) from fun z => nI_pos (n := nx) (by omega) (by rw [z]; decide))).trans (xbd_some hg)))
        rcases item_n (w := w) (f := w') ht hL c0 s1 (fun j hj => by have := s3 j hj; rw [Nat.zero_add] at this; exact this) hG hM hC hS F hF with ⟨⟨u, r1⟩, p', w2, r2⟩ | ⟨M', st', nd', kd', o0', ch', l0', dB', dP', su', sf', sto', sn', dk', w2, kr', orw', lr', dr', hG', hM', hC', hS', r1, r2⟩
        · replace e0 := e0.trans ((xbd2_some r1).trans (if_pos rfl))
          replace f0 := f0.trans ((xbd2_some r2).trans (if_pos rfl))
          exact Or.inl ⟨p, by omega, ⟨_, e0⟩, p', M, st, nd, sn, dk, w2, kr, orw, lr, dr, hG.2.2.1, f0⟩
        · replace e0 := e0.trans ((xbd2_some r1).trans (if_neg (by decide)))
          replace f0 := f0.trans ((xbd2_some r2).trans (if_neg (by decide)))
          rw [nI_1] at e0
          have q := ih nx (it + 1) G G' M' st' nd' kd' o0' ch' l0' dB' dP' su' sf' sto' sn' dk' (nI vs.length) w' w2 kr' orw' lr' dr' (by omega) (by omega) (by omega) (by omega) (by omega) hG' hM' hC' hS'
          rw [e0, f0]
          exact q
    · refine Or.inr ⟨M, st, nd, kd, o0, ch, l0, dB, dP, su, sf, sto, sn, dk, di, nI p, dd, w, kr, orw, lr, dr, hG, hM, hC, hS, ?_, ?_⟩
      · rw [fX2_firstFault_L10]
        by_cases c : L ≤ it
        · rw [if_pos (nI_le c (by omega))]
        · rw [if_neg (nI_ge (by omega) (by omega)), if_pos (nI_le (by omega) (by omega))]
      · rw [fX7_findFault_L30, if_pos (nI_le (by omega) (by omega))]
theorem sun_none : SC (fun _ => 0) (1000000 : Int32) (1000000 : Int32) ∧ SM (fun _ => 0) (1 : Int32) (0 : Int32) := by
  constructor
  · intro x hx
    refine ⟨fun z => ?_, fun z => by cases z⟩
    exact absurd (nI_lt (b := 1000000) (by omega) (by omega)) z.1
  · intro x hx
    unfold fX7_in
    by_cases c : nI x < (1 : Int32)
    · rw [if_pos c]
      rfl
    · rw [if_neg c, if_pos]
      · rfl
      · refine nI_lt (a := 0) (Nat.pos_of_ne_zero fun z => c ?_) (by omega)
        rw [z]
        decide
theorem GB_0 (dB dP : Nat → Nat) : GB 0 1 0 (fun _ => 0) (fun _ => 0) (fun _ => 0) (fun _ => 0) dB dP (fun _ => 0) :=
  ⟨by omega, by omega, by omega, fun i hi => ⟨Nat.zero_le _, Nat.zero_le _, Nat.zero_le _, Nat.zero_le _, Nat.zero_le _, fun _ => rfl⟩, fun i _ => ⟨rfl, rfl, fun _ => rfl⟩, fun i hi => by omega, fun x => Nat.zero_le _⟩
theorem clr_row {F : Nat} (hF : 1000 < F) (f : Nat → Int32) : ∃ z : Nat → Nat, fX3_clear F f 6 = some (fun j => nI (z j)) ∧ ∀ j, j < 6 → z j = 0 := by
  obtain ⟨g, rfl⟩ := row_nI f
  refine ⟨fun j => if j < 6 then 0 else g j, ?_, fun j hj => if_pos hj⟩
  rw [fX3_clear_eq F 6 _ (by omega) (by omega)]
  refine congrArg some (funext fun j => ?_)
  show (if j < 6 then 0 else nI (g j)) = nI (if j < 6 then 0 else g j)
  by_cases c : j < 6
  · rw [if_pos c, if_pos c]
    rfl
  · rw [if_neg c, if_neg c]
theorem firstFault_n {t : Nat → Nat} {L : Nat} (ht : TX t) (hL : L ≤ 300) (F : Nat) (hF : 1000 < F) (di : Int32) (dd k0 k1 k2 k3 w kr orw lr dr : Nat → Int32) : FFd (fX2_firstFault F di dd (fun j => nI (t j)) k0 k1 k2 k3 (nI L) 300) (fX7_findFault F (nI L) (fun j => nI (t j)) w kr orw lr dr) := by
  obtain ⟨z0, e0, g0⟩ := clr_row hF k0
  obtain ⟨z1, e1, g1⟩ := clr_row hF k1
  obtain ⟨z2, rfl⟩ := row_nI k2
  obtain ⟨z3, rfl⟩ := row_nI k3
  have hc : fX5_clear F k0 k1 = some ((0 : Int32), (0 : Int32), (0 : Int32), (1 : Int32), (0 : Int32), (1000000 : Int32), (1000000 : Int32), (fun j => nI (z0 j)), (fun j => nI (z1 j))) := by
    unfold fX5_clear
    rw [e0, xbd_some rfl, e1, xbd_some rfl]
  have hG : GB 0 1 0 z0 z1 (fun _ => 0) (fun _ => 0) z2 z3 (fun _ => 0) := by
    obtain ⟨a1, a2, a3, a4, a5, a6, a7⟩ := GB_0 z2 z3
    refine ⟨a1, a2, a3, fun i hi => ?_, fun i hi => ⟨rfl, rfl, fun h => g1 i h⟩, a6, a7⟩
    rw [g0 i hi, g1 i hi]
    exact a4 i hi
  have q := ff_L ht hL F hF 300 0 0 F F 0 1 0 z0 z1 (fun _ => 0) (fun _ => 0) z2 z3 (fun _ => 0) 1000000 1000000 1 0 di dd w kr orw lr dr (by omega) (Nat.zero_le _) (Nat.le_refl _) (by omega) (by omega) hG ⟨fun i hi => by omega, fun i hi => by omega⟩ sun_none.1 sun_none.2
  unfold fX2_firstFault fX7_findFault
  rw [hc, xbd_some rfl]
  exact q
theorem op_fault {t : Nat → Nat} {L : Nat} (ht : TX t) (hL : L ≤ 300) (F : Nat) (hF : 1000 < F) (di : Int32) (dd k0 k1 k2 k3 w kr orw lr dr : Nat → Int32) : ∃ r u u', fX6_fault F (nI L) (fun j => nI (t j)) di dd k0 k1 k2 k3 = some (r, u) ∧ fX7_fault F (nI L) (fun j => nI (t j)) w kr orw lr dr = some (r, u') := by
  unfold fX6_fault fX7_fault
  rcases firstFault_n ht hL F hF di dd k0 k1 k2 k3 w kr orw lr dr with ⟨q, hq, ⟨u, e1⟩, p', M', st', nd', sn', dk', w', kr', orw', lr', dr', _, e2⟩ | ⟨M, st, nd, kd, o0, ch, l0, dB, dP, su, sf, sto, sn, dk, di', p', dd', w', kr', orw', lr', dr', _, _, _, _, e1, e2⟩
  · exact ⟨nI q, _, _, xbd2_some e1, xbd2_some e2⟩
  · exact ⟨-4, _, _, xbd2_some e1, xbd2_some e2⟩
