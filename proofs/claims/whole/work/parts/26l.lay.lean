/-! ===== lay ===== -/
theorem can_n {M nd : Nat} {dP : Nat → Nat} (hM : M ≤ 6) (hnd : nd ≤ 6) (hd : ∀ i, i < nd → dP i ≤ 5) : ∀ (d i G : Nat), i + d = nd → d < G → (∀ j, j < i → dP j < M) → (fX5_canBeLaid_L2 (nI M) (nI nd) (fun j => nI (dP j)) (fun (v2_1 : Int32) => if nI M < (2 : Int32) then (some (0 : Int32)) else (some (1 : Int32))) G (nI i) = some 1 ∧ 2 ≤ M ∧ (∀ j, j < nd → dP j < M)) ∨ (fX5_canBeLaid_L2 (nI M) (nI nd) (fun j => nI (dP j)) (fun (v2_1 : Int32) => if nI M < (2 : Int32) then (some (0 : Int32)) else (some (1 : Int32))) G (nI i) = some 0 ∧ ¬ (2 ≤ M ∧ (∀ j, j < nd → dP j < M))) := by
  intro d
  induction d with
  | zero =>
    intro i G h1 h2 h3
    obtain ⟨G, rfl⟩ : ∃ G', G = G' + 1 := ⟨G - 1, by omega⟩
    obtain rfl : i = nd := by omega
    rw [fX5_canBeLaid_L2, if_pos (Int32.le_refl _)]
    by_cases c : M < 2
    · rw [if_pos (show nI M < (2 : Int32) from nI_lt (b := 2) c (by omega))]
      exact Or.inr ⟨rfl, fun z => by omega⟩
    · rw [if_neg (show ¬ nI M < (2 : Int32) from nI_nlt (b := 2) (by omega) (by omega))]
      exact Or.inl ⟨rfl, by omega, h3⟩
  | succ d ih =>
    intro i G h1 h2 h3
    obtain ⟨G, rfl⟩ : ∃ G', G = G' + 1 := ⟨G - 1, by omega⟩
    have hb := hd i (by omega)
    rw [fX5_canBeLaid_L2, if_neg (nI_ge (by omega) (by omega)), fX3_get_eq _ _ _ (by omega), rget_n (by omega) (by omega), xbd_some rfl]
    by_cases c : dP i < M
    · rw [if_pos (nI_lt c (by omega)), nI_1]
      exact ih (i + 1) G (by omega) (by omega) (fun j hj => by
        by_cases e : j = i
        · rw [e]; exact c
        · exact h3 j (by omega))
    · rw [if_neg (nI_nlt (by omega) (by omega))]
      exact Or.inr ⟨rfl, fun z => c (z.2 i (by omega))⟩
abbrev TL := Int32 × Int32 × Int32 × Int32 × Int32 × Int32 × Int32 × Int32 × Int32 × Int32 × Int32 × Int32 × Int32 × Int32 × (Nat → Int32) × (Nat → Int32) × (Nat → Int32) × (Nat → Int32) × (Nat → Int32) × (Nat → Int32) × (Nat → Int32) × (Nat → Int32) × (Nat → Int32) × (Nat → Int32)
section LAY
variable {u : TR}
theorem lay_25_0 {nd : Nat} (hn : u.2.2.2.1 = nI nd) (hnd : nd ≤ 6) (k : Int32 → Int32 → Option (Int32 × TL)) : ∀ (d i G : Nat), i + d = nd → d < G → fX7_lay_L25 u k G (nI i) 0 = k (nI nd) 0 := by
  intro d
  induction d with
  | zero =>
    intro i G h1 h2
    obtain ⟨G, rfl⟩ : ∃ G', G = G' + 1 := ⟨G - 1, by omega⟩
    obtain rfl : i = nd := by omega
    rw [fX7_lay_L25, hn, if_pos (Int32.le_refl _)]
  | succ d ih =>
    intro i G h1 h2
    obtain ⟨G, rfl⟩ : ∃ G', G = G' + 1 := ⟨G - 1, by omega⟩
    rw [fX7_lay_L25, hn, if_neg (nI_ge (by omega) (by omega)), if_pos rfl, nI_1]
    exact ih (i + 1) G (by omega) (by omega)
theorem lay_25_1 {M nd : Nat} {dP : Nat → Nat} (hn : u.2.2.2.1 = nI nd) (hM : u.2.1 = nI M) (h6 : M ≤ 6) (hnd : nd ≤ 6) (hd : ∀ i, i < nd → dP i ≤ 5 ∧ u.2.2.2.2.2.2.2.2.2.2 (2 * i + 1) = nI (dP i)) (k : Int32 → Int32 → Option (Int32 × TL)) : ∀ (d i G : Nat), i + d = nd → d < G → (∀ j, j < i → dP j < M) → (fX7_lay_L25 u k G (nI i) 1 = k (nI nd) 1 ∧ (∀ j, j < nd → dP j < M)) ∨ (fX7_lay_L25 u k G (nI i) 1 = k (nI nd) 0 ∧ ¬ (∀ j, j < nd → dP j < M)) := by
  intro d
  induction d with
  | zero =>
    intro i G h1 h2 h3
    obtain ⟨G, rfl⟩ : ∃ G', G = G' + 1 := ⟨G - 1, by omega⟩
    obtain rfl : i = nd := by omega
    exact Or.inl ⟨by rw [fX7_lay_L25, hn, if_pos (Int32.le_refl _)], h3⟩
  | succ d ih =>
    intro i G h1 h2 h3
    obtain ⟨G, rfl⟩ : ∃ G', G = G' + 1 := ⟨G - 1, by omega⟩
    have q := hd i (by omega)
    rw [fX7_lay_L25, hn, if_neg (nI_ge (by omega) (by omega)), if_neg (by decide), show (2 : Int32) = nI 2 from rfl, x_mulN, nI_1, if_neg (nI_in (by omega) (by omega)), nI_clamp (by omega), hM, q.2, nI_1]
    by_cases c : dP i < M
    · rw [if_neg (nI_ge c (by omega))]
      exact ih (i + 1) G (by omega) (by omega) (fun j hj => by
        by_cases e : j = i
        · rw [e]; exact c
        · exact h3 j (by omega))
    · rw [if_pos (nI_le (by omega) (by omega))]
      exact Or.inr ⟨lay_25_0 hn hnd k d (i + 1) G (by omega) (by omega), fun z => c (z i (by omega))⟩
theorem lay_83 {M : Nat} (hM : u.2.1 = nI M) (h6 : M ≤ 6) (k : Int32 → (Nat → Int32) → (Nat → Int32) → (Nat → Int32) → Option (Int32 × TL)) : ∀ (d i G : Nat) (f g h : Nat → Int32), i + d = 6 → d < G → ∃ f' g' h', fX7_lay_L83 u k G (nI i) f g h = k (nI 6) f' g' h' ∧ (∀ j, i ≤ j → j < 6 → f' j = u.2.2.2.2.2.2.2.1 j ∧ g' j = (if j < M then u.2.2.2.2.2.2.2.2.1 j else 0) ∧ h' j = (if j < M then u.2.2.2.2.2.2.2.2.2.1 j else 0)) ∧ (∀ j, j < i → f' j = f j ∧ g' j = g j ∧ h' j = h j) := by
  intro d
  induction d with
  | zero =>
    intro i G f g h h1 h2
    obtain ⟨G, rfl⟩ : ∃ G', G = G' + 1 := ⟨G - 1, by omega⟩
    obtain rfl : i = 6 := by omega
    exact ⟨f, g, h, by rw [fX7_lay_L83, if_pos (show (6 : Int32) ≤ nI 6 from Int32.le_refl _)], fun j h3 h4 => by omega, fun _ _ => ⟨rfl, rfl, rfl⟩⟩
  | succ d ih =>
    intro i G f g h h1 h2
    obtain ⟨G, rfl⟩ : ∃ G', G = G' + 1 := ⟨G - 1, by omega⟩
    have key : ∀ x y z : Int32, x = u.2.2.2.2.2.2.2.1 i → y = (if i < M then u.2.2.2.2.2.2.2.2.1 i else 0) → z = (if i < M then u.2.2.2.2.2.2.2.2.2.1 i else 0) → ∃ f' g' h', fX7_lay_L83 u k G (nI (i + 1)) (upd f i x) (upd g i y) (upd h i z) = k (nI 6) f' g' h' ∧ (∀ j, i ≤ j → j < 6 → f' j = u.2.2.2.2.2.2.2.1 j ∧ g' j = (if j < M then u.2.2.2.2.2.2.2.2.1 j else 0) ∧ h' j = (if j < M then u.2.2.2.2.2.2.2.2.2.1 j else 0)) ∧ (∀ j, j < i → f' j = f j ∧ g' j = g j ∧ h' j = h j) := by
      intro x y z hx hy hz
      obtain ⟨f', g', h', e, q1, q2⟩ := ih (i + 1) G (upd f i x) (upd g i y) (upd h i z) (by omega) (by omega)
      refine ⟨f', g', h', e, fun j h3 h4 => ?_, fun j h3 => ?_⟩
      · by_cases c : j = i
        · have q := q2 i (by omega)
          rw [uI_s, uI_s, uI_s] at q
          rw [c, q.1, q.2.1, q.2.2]
          exact ⟨hx, hy, hz⟩
        · exact q1 j (by omega) h4
      · have q := q2 j (by omega)
        rw [uI_n _ _ (by omega), uI_n _ _ (by omega), uI_n _ _ (by omega)] at q
        exact q
    rw [fX7_lay_L83, if_neg (show ¬ (6 : Int32) ≤ nI i from nI_ge (b := 6) (by omega) (by omega)), if_neg (nI_in (by omega) (by omega)), if_neg (nI_in (by omega) (by omega)), hM]
    have idx : ¬ (nI i < 0 ∨ 6 ≤ (nI i).toNatClampNeg) := nI_in (by omega) (by omega)
    simp only [if_neg idx]
    rw [nI_clamp (by omega), nI_1]
    by_cases c : i < M
    · rw [if_neg (nI_ge c (by omega)), if_neg (nI_ge c (by omega))]
      exact key _ _ _ rfl (if_pos c).symm (if_pos c).symm
    · rw [if_pos (nI_le (by omega) (by omega)), if_pos (nI_le (by omega) (by omega))]
      exact key _ _ _ rfl (if_neg c).symm (if_neg c).symm
theorem lay_173 (k : Int32 → (Nat → Int32) → Option (Int32 × TL)) : ∀ (d i G : Nat) (f : Nat → Int32), i + d = 12 → d < G → ∃ f', fX7_lay_L173 u k G (nI i) f = k (nI 12) f' ∧ (∀ j, i ≤ j → j < 12 → f' j = u.2.2.2.2.2.2.2.2.2.2 j) ∧ (∀ j, j < i → f' j = f j) := by
  intro d
  induction d with
  | zero =>
    intro i G f h1 h2
    obtain ⟨G, rfl⟩ : ∃ G', G = G' + 1 := ⟨G - 1, by omega⟩
    obtain rfl : i = 12 := by omega
    exact ⟨f, by rw [fX7_lay_L173, if_pos (show (12 : Int32) ≤ nI 12 from Int32.le_refl _)], fun j h3 h4 => by omega, fun _ _ => rfl⟩
  | succ d ih =>
    intro i G f h1 h2
    obtain ⟨G, rfl⟩ : ∃ G', G = G' + 1 := ⟨G - 1, by omega⟩
    obtain ⟨f', e, q1, q2⟩ := ih (i + 1) G (upd f i (u.2.2.2.2.2.2.2.2.2.2 i)) (by omega) (by omega)
    refine ⟨f', ?_, fun j h3 h4 => ?_, fun j h3 => ?_⟩
    · rw [fX7_lay_L173, if_neg (show ¬ (12 : Int32) ≤ nI i from nI_ge (b := 12) (by omega) (by omega)), if_neg (nI_in (by omega) (by omega)), if_neg (nI_in (by omega) (by omega)), nI_clamp (by omega), nI_1]
      exact e
    · by_cases c : j = i
      · rw [c, q2 i (by omega), uI_s]
      · exact q1 j (by omega) h4
    · rw [q2 j (by omega), uI_n _ _ (by omega)]
end LAY
theorem begin_L {M : Nat} (h6 : M ≤ 6) (k : Int32 → (Nat → Int32) → Option (Int32 × Int32 × Int32 × (Nat → Int32) × (Nat → Int32))) : ∀ (d i G : Nat) (f : Nat → Nat), i + d = M → d < G → (∀ j, j < i → f j = j) → ∃ f' : Nat → Nat, fX1_begin_L10 (nI M) k G (nI i) (fun j => nI (f j)) = k (nI M) (fun j => nI (f' j)) ∧ ∀ j, j < M → f' j = j := by
  intro d
  induction d with
  | zero =>
    intro i G f h1 h2 h3
    obtain ⟨G, rfl⟩ : ∃ G', G = G' + 1 := ⟨G - 1, by omega⟩
    obtain rfl : i = M := by omega
    exact ⟨f, by rw [fX1_begin_L10, if_pos (Int32.le_refl _)], h3⟩
  | succ d ih =>
    intro i G f h1 h2 h3
    obtain ⟨G, rfl⟩ : ∃ G', G = G' + 1 := ⟨G - 1, by omega⟩
    obtain ⟨f', e, q⟩ := ih (i + 1) G (updN f i i) (by omega) (by omega) (fun j hj => by
      by_cases c : j = i
      · rw [c, uN_s]
      · rw [uN_n _ _ c]
        exact h3 j (by omega))
    refine ⟨f', ?_, q⟩
    rw [fX1_begin_L10, if_neg (nI_ge (by omega) (by omega)), fX3_set_eq _ _ _ _ (by omega), rset_n (by omega) (by omega), xbd_some rfl, upd_nI, nI_1]
    exact e
theorem begin_n {M : Nat} {o0 : Nat → Nat} (h6 : M ≤ 6) (F : Nat) (hF : 1000 < F) (f g : Nat → Int32) (x : Int32) : ∃ po oi : Nat → Nat, fX1_begin F f g (nI M) x (fun j => nI (o0 j)) = some (nI M, x, 0, (fun j => nI (po j)), (fun j => nI (oi j))) ∧ (∀ j, j < M → po j = j) ∧ (∀ j, j < 6 → oi j = o0 j) := by
  obtain ⟨z, rfl⟩ := row_nI f
  obtain ⟨oi, e1, q1⟩ := copy_row hF g o0
  obtain ⟨po, e, q⟩ := begin_L h6 (fun (v10_2 : Int32) (w10_qk_0 : Nat → Int32) => xbd (fX3_copy F g (fun j => nI (o0 j)) 6 6) (fun (u41 : (Nat → Int32)) => some (nI M, x, (0 : Int32), w10_qk_0, u41))) M 0 F z (by omega) (by omega) (fun j hj => absurd hj (Nat.not_lt_zero _))
  refine ⟨po, oi, ?_, q, q1⟩
  unfold fX1_begin
  refine Eq.trans e ?_
  rw [e1, xbd_some rfl]
theorem op_lay {t : Nat → Nat} {L : Nat} (ht : TX t) (hL : L ≤ 300) (F : Nat) (hF : 1000 < F) (xt b : Nat) (di yi jc kc q2 q3 q4 m13 m17 m18 m20 m21 m24 m26 m28 : Int32) (dd k0 k1 k2 k3 qk0 qk1 w kr orw lr dr m14 m15 m16 m19 m22 : Nat → Int32) : (∃ di' i4 i5 i6 i7 i8 i9 i10 p' a4 a8 a9 a11 a12 : Int32, ∃ dd' k0' k1' k2' k3' w' kr' orw' lr' dr' : Nat → Int32, fX6_lay F (nI L) xt (fun j => nI (t j)) di dd k0 k1 k2 k3 yi jc kc q2 q3 q4 qk0 qk1 b = some (-2, xt, b, di', dd', i4, i5, i6, i7, i8, i9, i10, k0', k1', k2', k3', yi, jc, kc, q2, q3, q4, qk0, qk1) ∧ fX7_lay F (nI L) m13 m17 m18 m20 m21 m24 m26 m28 (fun j => nI (t j)) w kr orw lr dr m14 m15 m16 m19 m22 = some (-2, p', a4, a8, a9, a11, a12, m13, m17, m18, m20, m21, m24, m26, m28, w', kr', orw', lr', dr', m14, m15, m16, m19, m22)) ∨ (∃ M st nd : Nat, ∃ kd o0 ch l0 dB dP su po oi : Nat → Nat, ∃ sf sto sn dk di' p' : Int32, ∃ dd' w' kr' orw' lr' dr' n14 n15 n16 n19 now : Nat → Int32, TB M st nd kd o0 ch l0 dB dP su ∧ TM M st nd kd o0 ch l0 dB dP su sn dk n14 n15 n16 n19 ∧ SC su sf sto ∧ PB M po (fun p => p) oi l0 0 ∧ MR M (fun p => p) oi l0 0 now ∧ fX6_lay F (nI L) xt (fun j => nI (t j)) di dd k0 k1 k2 k3 yi jc kc q2 q3 q4 qk0 qk1 b = some (nI M, b, xt, di', dd', nI M, nI (bts l0), nI (bts ch), nI st, nI nd, sf, sto, (fun j => nI (kd j)), (fun j => nI (o0 j)), (fun j => nI (dB j)), (fun j => nI (dP j)), nI 0, nI 0, nI 0, nI M, nI (bts l0), nI 0, (fun j => nI (po j)), (fun j => nI (oi j))) ∧ fX7_lay F (nI L) m13 m17 m18 m20 m21 m24 m26 m28 (fun j => nI (t j)) w kr orw lr dr m14 m15 m16 m19 m22 = some (nI M, p', nI M, nI st, nI nd, sn, dk, nI M, nI st, nI nd, sn, dk, nI 0, nI 0, nI 0, w', kr', orw', lr', dr', n14, n15, n16, n19, now)) := by
  unfold fX6_lay fX7_lay
  rcases firstFault_n ht hL F hF di dd k0 k1 k2 k3 w kr orw lr dr with ⟨q, hq, ⟨u, e1⟩, p', M', st', nd', sn', dk', w', kr', orw', lr', dr', hnd, e2⟩ | ⟨M, st, nd, kd, o0, ch, l0, dB, dP, su, sf, sto, sn, dk, di', p', dd', w', kr', orw', lr', dr', hG, hM, hC, hS, e1, e2⟩
  · have hne : ¬ nI q = (-4 : Int32) := fun z => nI_pos (n := q) (by omega) (by rw [z]; decide)
    have k7 := lay_25_0 (u := (p', nI M', nI st', nI nd', sn', dk', w', kr', orw', lr', dr')) (nd := nd') rfl hnd
    obtain ⟨u1, u2, u3, u4, u5, u6, u7, u8, u9, u10, u11, u12, u13⟩ := u
    refine Or.inl ⟨u1, u3, u4, u5, u6, u7, u8, u9, p', nI M', nI st', nI nd', sn', dk', u2, u10, u11, u12, u13, w', kr', orw', lr', dr', ?_, ?_⟩
    · exact (xbd2_some e1).trans (if_neg hne)
    · exact (xbd2_some e2).trans ((if_neg hne).trans ((k7 _ nd' 0 F (by omega) (by omega)).trans (if_pos rfl)))
  · have h6 := hG.1
    have hnd := hG.2.2.1
    have hE := hG.2.2.2.2.2.1
    have hc := can_n h6 hnd (fun i hi => (hE i hi).2.2) nd 0 F (by omega) (by omega) (fun j hj => absurd hj (Nat.not_lt_zero _))
    have k0 := lay_25_0 (u := (p', nI M, nI st, nI nd, sn, dk, w', kr', orw', lr', dr')) (nd := nd) rfl hnd
    have k1 := lay_25_1 (u := (p', nI M, nI st, nI nd, sn, dk, w', kr', orw', lr', dr')) (nd := nd) (M := M) (dP := dP) rfl rfl h6 hnd (fun i hi => ⟨(hE i hi).2.2, (hM.2 i hi).2⟩)
    by_cases hy : 2 ≤ M ∧ (∀ j, j < nd → dP j < M)
    · have hcan : fX5_canBeLaid F (nI M) (nI nd) (fun j => nI (dP j)) = some 1 := by
        rcases hc with ⟨a, _⟩ | ⟨_, a⟩
        · exact a
        · exact absurd hy a
      obtain ⟨po, oi, eb, g1, g2⟩ := begin_n (o0 := o0) h6 F hF qk0 qk1 (nI (bts l0))
      have hT : TB M st nd kd o0 ch l0 dB dP su := ⟨hy.1, h6, hG.2.1, hnd, hG.2.2.2.1, fun i hi => (hG.2.2.2.2.1 i hi).1, fun i hi => ⟨(hE i hi).1, (hE i hi).2.1, hy.2 i hi⟩, hG.2.2.2.2.2.2⟩
      -- what is laid, as the reference copies it
      have rows : ∀ n14 n15 n16 n19 : Nat → Int32, (∀ j, 0 ≤ j → j < 6 → n14 j = kr' j ∧ n15 j = (if j < M then orw' j else 0) ∧ n16 j = (if j < M then lr' j else 0)) → (∀ j, 0 ≤ j → j < 12 → n19 j = dr' j) → TM M st nd kd o0 ch l0 dB dP su sn dk n14 n15 n16 n19 := by
        intro n14 n15 n16 n19 r1 r2
        refine ⟨fun i hi => ?_, fun i hi => ?_, hS⟩
        · have q := r1 i (Nat.zero_le _) hi
          by_cases c : i < M
          · have q3 := hM.1 i c
            rw [if_pos c, if_pos c] at q
            exact ⟨fun _ => q.1.trans q3.1, q.2.1.trans q3.2.1, q.2.2.trans q3.2.2⟩
          · have q3 := hG.2.2.2.2.1 i (by omega)
            rw [if_neg c, if_neg c] at q
            refine ⟨fun z => absurd z c, ?_, ?_⟩
            · rw [q.2.1, q3.2.1, q3.2.2 hi, if_neg (by omega)]
              rfl
            · rw [q.2.2, q3.1]
              rfl
        · have := hM.2 i hi
          rw [r2 (2 * i) (Nat.zero_le _) (by omega), r2 (2 * i + 1) (Nat.zero_le _) (by omega)]
          exact this
      obtain ⟨n14, n15, n16, f1, f2, -⟩ := lay_83 (u := (p', nI M, nI st, nI nd, sn, dk, w', kr', orw', lr', dr')) (M := M) rfl h6 (fun (v83_2 : Int32) (w83_mok_14 : Nat → Int32) (w83_mok_15 : Nat → Int32) (w83_mok_16 : Nat → Int32) => fX7_lay_L173 (p', nI M, nI st, nI nd, sn, dk, w', kr', orw', lr', dr') (fun (v173_2 : Int32) (w173_mok_19 : Nat → Int32) => xbd (fX7_begin_now F w83_mok_15 w83_mok_16 m22) (fun (u218 : (Nat → Int32)) => some (nI M, (p', nI M, nI st, nI nd, sn, dk, nI M, nI st, nI nd, sn, dk, (0 : Int32), (0 : Int32), (0 : Int32), w', kr', orw', lr', dr', w83_mok_14, w83_mok_15, w83_mok_16, w173_mok_19, u218)))) F (0 : Int32) m19) 6 0 F m14 m15 m16 (by omega) (by omega)
      obtain ⟨n19, f3, f4, -⟩ := lay_173 (u := (p', nI M, nI st, nI nd, sn, dk, w', kr', orw', lr', dr')) (fun (v173_2 : Int32) (w173_mok_19 : Nat → Int32) => xbd (fX7_begin_now F n15 n16 m22) (fun (u218 : (Nat → Int32)) => some (nI M, (p', nI M, nI st, nI nd, sn, dk, nI M, nI st, nI nd, sn, dk, (0 : Int32), (0 : Int32), (0 : Int32), w', kr', orw', lr', dr', n14, n15, n16, w173_mok_19, u218)))) 12 0 F m19 (by omega) (by omega)
      have hTM := rows n14 n15 n16 n19 f2 f4
      obtain ⟨now, f5, f6⟩ := fX7_begin_now_n (M := M) (o0 := o0) (ch := ch) (l0 := l0) (kr := n15) (lr := n16) (s := m22) h6 (fun i hi => ⟨(hG.2.2.2.1 i hi).2.2.2.2.2, by have := (hG.2.2.2.1 i hi).2.1; omega, (hTM.1 i hi).2.1, (hTM.1 i hi).2.2⟩) F (by omega)
      have hPB : PB M po (fun p => p) oi l0 0 := by
        refine ⟨⟨fun l hl => ?_, fun p hp => ⟨hp, g1 p hp⟩⟩, fun l hl => (hG.2.2.2.1 l hl).2.2.2.1, fun l hl => (hG.2.2.2.2.1 l hl).1, fun l hl => ?_, by omega⟩
        · rw [g1 l hl]
          exact ⟨hl, rfl⟩
        · rw [g2 l (by omega)]
          have := hG.2.2.2.1 l (by omega)
          omega
      have hMR : MR M (fun p => p) oi l0 0 now := MR_congr f6 (fun _ _ => rfl) (fun l hl => ⟨(g2 l (by omega)).symm, rfl⟩) rfl
      refine Or.inr ⟨M, st, nd, kd, o0, ch, l0, dB, dP, su, po, oi, sf, sto, sn, dk, di', p', dd', w', kr', orw', lr', dr', n14, n15, n16, n19, now, hT, hTM, hC, hPB, hMR, ?_, ?_⟩
      · refine (xbd2_some e1).trans ((if_pos rfl).trans ((xbd_some hcan).trans ((if_neg (by decide)).trans ((xbd_some eb).trans ?_))))
        rfl
      · have hle : ¬ nI M ≤ (1 : Int32) := nI_ge (a := 1) (by omega) (by omega)
        rcases k1 (fun (v25_2 : Int32) (v25_1 : Int32) => if v25_1 = 0 then (some ((-2 : Int32), (p', nI M, nI st, nI nd, sn, dk, m13, m17, m18, m20, m21, m24, m26, m28, w', kr', orw', lr', dr', m14, m15, m16, m19, m22))) else (fX7_lay_L83 (p', nI M, nI st, nI nd, sn, dk, w', kr', orw', lr', dr') (fun (v83_2 : Int32) (w83_mok_14 : Nat → Int32) (w83_mok_15 : Nat → Int32) (w83_mok_16 : Nat → Int32) => fX7_lay_L173 (p', nI M, nI st, nI nd, sn, dk, w', kr', orw', lr', dr') (fun (v173_2 : Int32) (w173_mok_19 : Nat → Int32) => xbd (fX7_begin_now F w83_mok_15 w83_mok_16 m22) (fun (u218 : (Nat → Int32)) => some (nI M, (p', nI M, nI st, nI nd, sn, dk, nI M, nI st, nI nd, sn, dk, (0 : Int32), (0 : Int32), (0 : Int32), w', kr', orw', lr', dr', w83_mok_14, w83_mok_15, w83_mok_16, w173_mok_19, u218)))) F (0 : Int32) m19) F (0 : Int32) m14 m15 m16)) nd 0 F (by omega) (by omega) (fun j hj => absurd hj (Nat.not_lt_zero _)) with ⟨a, _⟩ | ⟨_, a⟩
        · refine (xbd2_some e2).trans ((if_pos rfl).trans ((if_neg hle).trans (a.trans ((if_neg (by decide)).trans (f1.trans (f3.trans ((xbd_some f5).trans ?_)))))))
          rfl
        · exact absurd hy.2 a
    · have hcan : fX5_canBeLaid F (nI M) (nI nd) (fun j => nI (dP j)) = some 0 := by
        rcases hc with ⟨_, a⟩ | ⟨a, _⟩
        · exact absurd a hy
        · exact a
      refine Or.inl ⟨di', nI M, nI (bts l0), nI (bts ch), nI st, nI nd, sf, sto, p', nI M, nI st, nI nd, sn, dk, dd', (fun j => nI (kd j)), (fun j => nI (o0 j)), (fun j => nI (dB j)), (fun j => nI (dP j)), w', kr', orw', lr', dr', ?_, ?_⟩
      · exact (xbd2_some e1).trans ((if_pos rfl).trans ((xbd_some hcan).trans (if_pos rfl)))
      · by_cases c : M ≤ 1
        · have hle : nI M ≤ (1 : Int32) := nI_le (b := 1) c (by omega)
          exact (xbd2_some e2).trans ((if_pos rfl).trans ((if_pos hle).trans ((k0 _ nd 0 F (by omega) (by omega)).trans (if_pos rfl))))
        · have hle : ¬ nI M ≤ (1 : Int32) := nI_ge (a := 1) (by omega) (by omega)
          refine (xbd2_some e2).trans ((if_pos rfl).trans ((if_neg hle).trans ?_))
          rcases k1 _ nd 0 F (by omega) (by omega) (fun j hj => absurd hj (Nat.not_lt_zero _)) with ⟨_, a⟩ | ⟨a, _⟩
          · exact absurd ⟨by omega, a⟩ hy
          · exact a.trans (if_pos rfl)
