/-! ===== NIGHT ===== -/
theorem lN_toInt63 {n : Nat} (h : n < 2 ^ 63) : (lN n).toInt = (n : Int) := lg_ofNat_toInt h
theorem lN_rem {a b : Nat} (hb : 0 < b) (ha : a < 2 ^ 62) (hb' : b < 2 ^ 31) : lN a - lN a / lN b * lN b = lN (a % b) := by
  have ed : lN a / lN b = lN (a / b) := by
    have h2 : a / b ≤ a := Nat.div_le_self _ _
    apply Int64.toInt_inj.mp
    rw [Int64.toInt_div, lN_toInt63 (by omega), lN_toInt63 (by omega), lN_toInt63 (by omega)]
    have e : (a : Int).tdiv (b : Int) = ((a / b : Nat) : Int) := rfl
    rw [e]
    generalize a / b = q at h2
    exact Int.bmod_eq_of_le (by omega) (by omega)
  have h3 : a / b * b ≤ a := Nat.div_mul_le_self _ _
  rw [ed, lN_mul, lN_sub h3]
  congr 1
  have := Nat.div_add_mod a b
  rw [Nat.mul_comm] at this
  omega
def dwN (z k : Nat) : Nat := (7919 * z + 6151 * k + 1) * (7919 * z + 6151 * k + 1) % 65521
theorem dwN_lt (z k : Nat) : dwN z k < 65521 := Nat.mod_lt _ (by omega)
theorem draw_n {z k : Nat} (hz : z ≤ 9999) (hk : k ≤ 60) : (((((((7919 : Int64) * (nI z).toInt64) + ((6151 : Int64) * (nI k).toInt64)) + (1 : Int64)) * ((((7919 : Int64) * (nI z).toInt64) + ((6151 : Int64) * (nI k).toInt64)) + (1 : Int64))) - (((((7919 : Int64) * (nI z).toInt64) + ((6151 : Int64) * (nI k).toInt64)) + (1 : Int64)) * ((((7919 : Int64) * (nI z).toInt64) + ((6151 : Int64) * (nI k).toInt64)) + (1 : Int64))) / (65521 : Int64) * (65521 : Int64)).toInt32) = nI (dwN z k) := by
  have hX : 7919 * z + 6151 * k + 1 ≤ 80000000 := by omega
  have hXX : (7919 * z + 6151 * k + 1) * (7919 * z + 6151 * k + 1) ≤ 80000000 * 80000000 := Nat.mul_le_mul hX hX
  rw [nI_l (by omega), nI_l (by omega), show (7919 : Int64) = lN 7919 from rfl, show (6151 : Int64) = lN 6151 from rfl, show (65521 : Int64) = lN 65521 from rfl, show (1 : Int64) = lN 1 from rfl, lN_mul, lN_mul, lN_add, lN_add, lN_mul, lN_rem (by omega) (by omega) (by omega), lN_i]
  rfl
/-- the draughts of a night, up to the k-th bell, besides those told -/
def BN (M b z n : Nat) (B : Nat → Nat → Prop) : Nat → Nat → Prop := fun x y => B x y ∨ ∃ k, 1 ≤ k ∧ k ≤ n ∧ dwN z k / 8 % 4 = 0 ∧ x = b + k ∧ y = dwN z k % M
theorem night_L54 {M st b z n : Nat} {B : Nat → Nat → Prop} (h : 2 ≤ M) (h' : M ≤ 6) (hst : st ≤ 5) (hz : z ≤ 9999) (hn : n ≤ 60) (k : Int32 → (Nat → Int32) → Option (Int32 × Int32 × Int32 × Int32 × (Nat → Int32) × (Nat → Int32) × (Nat → Int32))) : ∀ (d i G : Nat) (D : Nat → Nat), i + d = n → d < G → isD (BN M b z i B) M st b D → ∃ D', isD (BN M b z n B) M st b D' ∧ fX6_night_L54 (nI M) (nI st) (nI z) (nI n) k G (nI (i + 1)) (fun j => nI (D j)) = k (nI (n + 1)) (fun j => nI (D' j)) := by
  intro d
  induction d with
  | zero =>
    intro i G D h1 h2 h3
    obtain ⟨G, rfl⟩ : ∃ G', G = G' + 1 := ⟨G - 1, by omega⟩
    obtain rfl : i = n := by omega
    exact ⟨D, h3, by rw [fX6_night_L54, if_pos (nI_lt (by omega) (by omega))]⟩
  | succ d ih =>
    intro i G D h1 h2 h3
    obtain ⟨G, rfl⟩ : ∃ G', G = G' + 1 := ⟨G - 1, by omega⟩
    have hw := dwN_lt z (i + 1)
    have e6 : fX6_drawOf (nI z) (nI (i + 1)) = some (nI (dwN z (i + 1))) := by
      unfold fX6_drawOf
      rw [draw_n hz (by omega)]
    rw [fX6_night_L54, if_neg (nI_nlt (by omega) (by omega)), e6, xbd_some rfl, show (8 : Int32) = nI 8 from rfl, show (4 : Int32) = nI 4 from rfl, x_divN (by omega) (by omega) (by omega), x_remN (by omega) (by omega) (by omega)]
    by_cases c : dwN z (i + 1) / 8 % 4 = 0
    · have hq : dwN z (i + 1) % M < M := Nat.mod_lt _ (by omega)
      have hbk := bk_lt (M := M) (p := dwN z (i + 1) % M) (k := (i + 1) * st) h
      have hDb := (h3 _ hbk).2.1
      have hadd := isD_add h h' hq (show 1 ≤ i + 1 by omega) h3
      have hD2 : isD (BN M b z (i + 1) B) M st b (updN D (bk M (dwN z (i + 1) % M) ((i + 1) * st)) (min (i + 1) (D (bk M (dwN z (i + 1) % M) ((i + 1) * st))))) := by
        refine isD_congr (fun x y _ _ => ?_) h hadd
        unfold BN
        constructor
        · rintro ((q | ⟨k, k1, k2, k3, k4⟩) | q)
          · exact Or.inl q
          · exact Or.inr ⟨k, k1, by omega, k3, k4⟩
          · exact Or.inr ⟨i + 1, by omega, Nat.le_refl _, c, q⟩
        · rintro (q | ⟨k, k1, k2, k3, k4⟩)
          · exact Or.inl (Or.inl q)
          · by_cases e : k = i + 1
            · subst e
              exact Or.inr k4
            · exact Or.inl (Or.inr ⟨k, k1, by omega, k3, k4⟩)
      obtain ⟨D', g1, g2⟩ := ih (i + 1) G _ (by omega) (by omega) hD2
      refine ⟨D', g1, ?_⟩
      rw [if_pos (by rw [c]; rfl), fX5_round_n h h' (by omega), xbd_some rfl, fX5_postBefore_n h h' (by omega) hst (by omega), xbd_some rfl, fX3_get_eq _ _ _ (by omega), rget_n (by omega) (by omega), xbd_some rfl, x_minN (by omega) (by omega), fX3_set_eq _ _ _ _ (by omega), rset_n (by omega) (by omega), xbd_some rfl, upd_nI, nI_1]
      exact g2
    · have hD2 : isD (BN M b z (i + 1) B) M st b D := by
        refine isD_congr (fun x y _ _ => ?_) h h3
        unfold BN
        constructor
        · rintro (q | ⟨k, k1, k2, k3, k4⟩)
          · exact Or.inl q
          · exact Or.inr ⟨k, k1, by omega, k3, k4⟩
        · rintro (q | ⟨k, k1, k2, k3, k4⟩)
          · exact Or.inl q
          · by_cases e : k = i + 1
            · subst e
              exact absurd k3 c
            · exact Or.inr ⟨k, k1, by omega, k3, k4⟩
      obtain ⟨D', g1, g2⟩ := ih (i + 1) G D (by omega) (by omega) hD2
      refine ⟨D', g1, ?_⟩
      rw [if_neg (fun w => c ((nI_is0 (by omega)).mp w)), nI_1]
      exact g2
theorem night_L48 {M st nd b z n : Nat} {kd o0 ch l0 dB dP su po pl oi lt D : Nat → Nat} {sn dk : Int32} {kr orw lr dr : Nat → Int32} (hT : TB M st nd kd o0 ch l0 dB dP su) (hM : TM M st nd kd o0 ch l0 dB dP su sn dk kr orw lr dr) (hP : PB M po pl oi lt b) (hz : z ≤ 9999) (hn : n ≤ 60) (hD : isD (BN M b z n (Bl dB dP nd)) M st b D) (F : Nat) (hF : 1000 < F) (k : Int32 → Int32 → Int32 → (Nat → Int32) → (Nat → Int32) → Option (Int32 × Int32 × Int32 × (Nat → Int32) × (Nat → Int32))) : ∀ (d i G : Nat) (aB aP : Int32) (s v : Nat → Int32), i + d = n → d < G → MR M (plN M st pl i) (oiN po oi lt D i) (ltN po oi lt D i) (b + i) s → ∃ aB' aP' s' m', fX7_night_L48 (nI M) (nI st) (nI nd) dr (nI z) (nI n) F k G (nI (i + 1)) aB aP s v = k (nI (n + 1)) aB' aP' s' m' ∧ MR M (plN M st pl n) (oiN po oi lt D n) (ltN po oi lt D n) (b + n) s' := by
  obtain ⟨h, h', hst, hnd, hk, hl, hd, hsu⟩ := hT
  obtain ⟨hpm, p1, p2, p3, p4⟩ := hP
  intro d
  induction d with
  | zero =>
    intro i G aB aP s v h1 h2 h3
    obtain ⟨G, rfl⟩ : ∃ G', G = G' + 1 := ⟨G - 1, by omega⟩
    obtain rfl : i = n := by omega
    exact ⟨aB, aP, s, v, by rw [fX7_night_L48, if_pos (nI_lt (by omega) (by omega))], h3⟩
  | succ d ih =>
    intro i G aB aP s v h1 h2 h3
    obtain ⟨G, rfl⟩ : ∃ G', G = G' + 1 := ⟨G - 1, by omega⟩
    have hw := dwN_lt z (i + 1)
    have hq : dwN z (i + 1) % M < M := Nat.mod_lt _ (by omega)
    have hne : ¬ nI M = 0 := nI_ne0 (by omega) (by omega)
    have e18 : s (18 : Int32).toNatClampNeg = nI (b + i) := by rw [show (18 : Int32) = nI 18 from rfl, nI_clamp (by omega), h3.2.2.2]
    have ring : ∀ aB : Int32, (aB = nI (b + i + 1) ↔ dwN z (i + 1) / 8 % 4 = 0) → ∃ s' m', fX7_ring_tried F (nI M) (nI st) (nI nd) aB (nI (dwN z (i + 1) % M)) dr s v = some (s', m') ∧ MR M (plN M st pl (i + 1)) (oiN po oi lt D (i + 1)) (ltN po oi lt D (i + 1)) (b + (i + 1)) s' := by
      intro aB haB
      refine ring_tried_c h h' hst hnd (by omega) (by omega) (fun i hi => ⟨(hM.2.1 i hi).1, (hM.2.1 i hi).2, (hd i hi).2.1, (hd i hi).2.2⟩) (fun _ => ⟨_, hq, rfl⟩) hpm (fun l hl => ⟨p1 l (by omega), (p3 l hl).1, by have := (p3 l hl).2; omega⟩) (BN M b z n (Bl dB dP nd)) (fun y hy => ?_) hD h3 F (by omega)
      unfold BN
      constructor
      · rintro (q | ⟨q1, q2⟩)
        · exact Or.inl q
        · exact Or.inr ⟨i + 1, by omega, by omega, haB.mp q1, by omega, ((nI_eq (by omega) (by omega)).mp q2).symm⟩
      · rintro (q | ⟨k, k1, k2, k3, k4, k5⟩)
        · exact Or.inl q
        · have e : k = i + 1 := by omega
          subst e
          exact Or.inr ⟨haB.mpr k3, by rw [k5]⟩
    rw [fX7_night_L48, if_neg (nI_nlt (by omega) (by omega)), draw_n hz (by omega), show (8 : Int32) = nI 8 from rfl, show (4 : Int32) = nI 4 from rfl, x_divN (by omega) (by omega) (by omega), x_remN (by omega) (by omega) (by omega), x_remN (by omega) (by omega) (by omega)]
    by_cases c : dwN z (i + 1) / 8 % 4 = 0
    · obtain ⟨s1, m1, g1, g2⟩ := ring (nI (b + i + 1)) ⟨fun _ => c, fun _ => rfl⟩
      obtain ⟨aB', aP', s', m', g3, g4⟩ := ih (i + 1) G (nI (b + i + 1)) (nI (dwN z (i + 1) % M)) s1 m1 (by omega) (by omega) g2
      refine ⟨aB', aP', s', m', ?_, g4⟩
      rw [if_pos (by rw [c]; rfl), if_neg hne, e18, nI_1, nI_1, g1, xbd_some rfl]
      exact g3
    · obtain ⟨s1, m1, g1, g2⟩ := ring (-1) ⟨fun w => absurd w (fun w => nI_pos (n := b + i + 1) (by omega) (by rw [← w]; decide)), fun w => absurd w c⟩
      obtain ⟨aB', aP', s', m', g3, g4⟩ := ih (i + 1) G (-1) (nI (dwN z (i + 1) % M)) s1 m1 (by omega) (by omega) g2
      refine ⟨aB', aP', s', m', ?_, g4⟩
      rw [if_neg (fun w => c ((nI_is0 (by omega)).mp w)), if_neg hne, g1, xbd_some rfl, nI_1]
      exact g3
theorem op_night {M st nd b : Nat} {kd o0 ch l0 dB dP su po pl oi lt : Nat → Nat} {sn dk aP n2 n3 n4 : Int32} {kr orw lr dr now tr mv zf nk0 nk1 : Nat → Int32} (hT : TB M st nd kd o0 ch l0 dB dP su) (hM : TM M st nd kd o0 ch l0 dB dP su sn dk kr orw lr dr) (hP : PB M po pl oi lt b) (hs : MR M pl oi lt b now) (F : Nat) (hF : 1000 < F) (a1 a2 a3 : Int32) : ∃ r n2' n3' n4' nk0' nk1' zf' aP' tr' mv', fX6_night F (nI M) (nI st) (nI nd) (fun j => nI (dB j)) (fun j => nI (dP j)) (nI M) (nI (bts lt)) (nI b) (fun j => nI (po j)) (fun j => nI (oi j)) n2 n3 n4 nk0 nk1 zf a1 a2 a3 = some (r, n2', n3', n4', nk0', nk1', zf') ∧ fX7_night F (nI M) (nI st) (nI nd) (-1) aP dr now tr mv a1 a2 a3 = some (r, -1, aP', tr', mv') := by
  have hT' := hT
  obtain ⟨h, h', hst, hnd, hk, hl, hd, hsu⟩ := hT'
  have hP' := hP
  obtain ⟨hpm, p1, p2, p3, p4⟩ := hP'
  obtain ⟨z0, rfl⟩ := row_nI zf
  rcases rng a1 (lo := 0) (hi := 9999) (by omega) (by omega) with ⟨z, _, hz, rfl⟩ | hz
  · have z1 : ¬ nI z < 0 := nI_pos (by omega)
    have z2 : ¬ (9999 : Int32) < nI z := nI_nlt (b := z) (a := 9999) hz (by omega)
    have z3 : fX7_in (nI z) 0 9999 = some 1 := in_yes (lo := 0) (hi := 9999) (Nat.zero_le _) hz (by omega)
    rcases rng a2 (lo := 1) (hi := 60) (by omega) (by omega) with ⟨n, hn1, hn, rfl⟩ | hn
    · have n1 : ¬ nI n < (1 : Int32) := nI_nlt (b := 1) hn1 (by omega)
      have n2a : ¬ (60 : Int32) < nI n := nI_nlt (b := n) (a := 60) hn (by omega)
      have n3a : fX7_in (nI n) 1 60 = some 1 := in_yes (lo := 1) (hi := 60) hn1 hn (by omega)
      rcases rng a3 (lo := 0) (hi := 1) (by omega) (by omega) with ⟨w, _, hw, rfl⟩ | hw
      · have w1 : ¬ nI w < 0 := nI_pos (by omega)
        have w2 : nI w ≤ (1 : Int32) := nI_le (b := 1) hw (by omega)
        have w3 : fX7_in (nI w) 0 1 = some 1 := in_yes (lo := 0) (hi := 1) (Nat.zero_le _) hw (by omega)
        obtain ⟨D0, hD0, eD0⟩ := fX5_reckonDraughts_n h h' hst hnd (show b < 10000 by omega) (fun i hi => ⟨(hd i hi).2.1, (hd i hi).2.2⟩) F (by omega) z0
        have hDs : isD (BN M b z 0 (Bl dB dP nd)) M st b D0 := isD_congr (fun x y _ _ => ⟨fun q => Or.inl q, fun q => q.elim id (fun ⟨k, k1, k2, _⟩ => by omega)⟩) h hD0
        obtain ⟨po', oi', ec, hP2, hs2⟩ := fX1_copy_n h' hP hs F hF nk0 nk1 (nI M) (nI (bts lt)) (nI b)
        obtain ⟨hpm2, q1, q2, q3, q4⟩ := hP2
        obtain ⟨D, hD, eD⟩ := night_L54 h h' hst hz hn (fun (v54_4 : Int32) (w54_zf : Nat → Int32) => xbd (fX1_copy F nk0 nk1 (nI M) (nI (bts lt)) (nI b) (fun j => nI (po j)) (fun j => nI (oi j))) (fun (u135 : Int32 × Int32 × Int32 × (Nat → Int32) × (Nat → Int32)) => xbd (fX1_goOn F u135.1 u135.2.1 u135.2.2.1 u135.2.2.2.1 u135.2.2.2.2 (nI M) (nI st) w54_zf (nI n) 6) (fun (u151 : Int32 × Int32 × (Nat → Int32) × (Nat → Int32)) => if nI w = 0 then (xbd (fX1_litCount u151.1) (fun (r162 : Int32) => some (r162, (u135.1, u151.1, u151.2.1, u151.2.2.1, u151.2.2.2, w54_zf)))) else (xbd (fX1_oilInAll F u135.1 u151.2.2.2) (fun (r172 : Int32) => some (r172, (u135.1, u151.1, u151.2.1, u151.2.2.1, u151.2.2.2, w54_zf))))))) n 0 F D0 (by omega) (by omega) hDs
        have eg := fX1_goOn_n (b := b) (n := n) (po := po') (oi := oi') (D := D) h h' hst (by omega) (fun l hl => (hpm2.1 l hl).1) q1 (fun l hl => by have := (q3 l hl).2; omega) (fun q hq => ⟨(hD q hq).1, (hD q hq).2.1⟩) F (by omega)
        obtain ⟨f1, c1, c2, -⟩ := fX7_copy_now_tried_n now tr (fr := 0) (to := 0) (by omega) (by omega) F (by omega)
        have hs1 : MR M pl oi' lt b f1 := MR_copy h' hs2 (fun k hk => by have := c2 k hk; rw [Nat.zero_add] at this; exact this)
        obtain ⟨aB', aP', s', m', g1, g2⟩ := night_L48 hT hM ⟨hpm2, q1, q2, q3, q4⟩ hz hn hD F hF (fun (v48_4 : Int32) (w48_moi_30 : Int32) (w48_moi_31 : Int32) (w48_mok_23 : Nat → Int32) (w48_mok_33 : Nat → Int32) => if nI w = 0 then (xbd (fX7_litOf_tried F (nI M) w48_mok_23) (fun (r150 : Int32) => some (r150, ((-1 : Int32), w48_moi_31, w48_mok_23, w48_mok_33)))) else (xbd (fX7_oilOf_tried F (nI M) w48_mok_23) (fun (r161 : Int32) => some (r161, ((-1 : Int32), w48_moi_31, w48_mok_23, w48_mok_33))))) n 0 F (-1) aP f1 mv (by omega) (by omega) (MR_0 h h' hpm2 (fun l hl => ⟨q1 l (by omega), (q3 l hl).1⟩) hD hs1)
        have e6 : ∀ R, fX6_night_L54 (nI M) (nI st) (nI z) (nI n) (fun (v54_4 : Int32) (w54_zf : Nat → Int32) => xbd (fX1_copy F nk0 nk1 (nI M) (nI (bts lt)) (nI b) (fun j => nI (po j)) (fun j => nI (oi j))) (fun (u135 : Int32 × Int32 × Int32 × (Nat → Int32) × (Nat → Int32)) => xbd (fX1_goOn F u135.1 u135.2.1 u135.2.2.1 u135.2.2.2.1 u135.2.2.2.2 (nI M) (nI st) w54_zf (nI n) 6) (fun (u151 : Int32 × Int32 × (Nat → Int32) × (Nat → Int32)) => if nI w = 0 then (xbd (fX1_litCount u151.1) (fun (r162 : Int32) => some (r162, (u135.1, u151.1, u151.2.1, u151.2.2.1, u151.2.2.2, w54_zf)))) else (xbd (fX1_oilInAll F u135.1 u151.2.2.2) (fun (r172 : Int32) => some (r172, (u135.1, u151.1, u151.2.1, u151.2.2.1, u151.2.2.2, w54_zf))))))) F (nI (0 + 1)) (fun j => nI (D0 j)) = R → fX6_night F (nI M) (nI st) (nI nd) (fun j => nI (dB j)) (fun j => nI (dP j)) (nI M) (nI (bts lt)) (nI b) (fun j => nI (po j)) (fun j => nI (oi j)) n2 n3 n4 nk0 nk1 (fun j => nI (z0 j)) (nI z) (nI n) (nI w) = R := by
          intro R hR
          unfold fX6_night
          rw [if_neg z1, if_neg z2, if_neg n1, if_neg n2a, if_neg w1, if_pos w2, eD0, xbd_some rfl]
          exact hR
        have e7 : ∀ R, fX7_night_L48 (nI M) (nI st) (nI nd) dr (nI z) (nI n) F (fun (v48_4 : Int32) (w48_moi_30 : Int32) (w48_moi_31 : Int32) (w48_mok_23 : Nat → Int32) (w48_mok_33 : Nat → Int32) => if nI w = 0 then (xbd (fX7_litOf_tried F (nI M) w48_mok_23) (fun (r150 : Int32) => some (r150, ((-1 : Int32), w48_moi_31, w48_mok_23, w48_mok_33)))) else (xbd (fX7_oilOf_tried F (nI M) w48_mok_23) (fun (r161 : Int32) => some (r161, ((-1 : Int32), w48_moi_31, w48_mok_23, w48_mok_33))))) F (nI (0 + 1)) (-1) aP f1 mv = R → fX7_night F (nI M) (nI st) (nI nd) (-1) aP dr now tr mv (nI z) (nI n) (nI w) = R := by
          intro R hR
          unfold fX7_night
          rw [z3, xbd_some rfl, if_neg (by decide), n3a, xbd_some rfl, if_neg (by decide), w3, xbd_some rfl, if_neg (by decide), show fX7_copy_now_tried F now tr (0 : Int32) (0 : Int32) = some f1 from c1, xbd_some rfl]
          exact hR
        have t1 : ∀ l, l < 6 → mixN M (ltN po' oi' lt D n) lt l ≤ 1 := by
          intro l hl
          unfold mixN
          split
          · exact ltN_le
          · exact q1 l hl
        have t2 : ∀ l, M ≤ l → mixN M (ltN po' oi' lt D n) lt l = 0 := by
          intro l hl
          unfold mixN
          rw [if_neg (by omega)]
          exact q2 l hl
        have sL : sumN M (mixN M (ltN po' oi' lt D n) lt) = sumN M (ltN po' oi' lt D n) := sumN_congr (fun l hl => by unfold mixN; rw [if_pos hl])
        have sO : sumN M (mixN M (oiN po' oi' lt D n) oi') = sumN M (oiN po' oi' lt D n) := sumN_congr (fun l hl => by unfold mixN; rw [if_pos hl])
        rcases (show w = 0 ∨ w = 1 by omega) with rfl | rfl
        · refine ⟨nI (sumN M (ltN po' oi' lt D n)), nI M, nI (bts (mixN M (ltN po' oi' lt D n) lt)), nI (b + n), (fun j => nI (mixN M (fun l => (po' l + n * st) % M) po' j)), (fun j => nI (mixN M (oiN po' oi' lt D n) oi' j)), (fun j => nI (D j)), aP', s', m', e6 _ (eD.trans ?_), e7 _ (g1.trans ?_)⟩
          · refine Eq.trans (xbd_some ec) (Eq.trans (xbd_some eg) ?_)
            rw [if_pos (show nI 0 = 0 from rfl), fX1_litCount_n h h' t1 t2, xbd_some rfl, sL]
          · rw [if_pos (show nI 0 = 0 from rfl), fX7_litOf_tried_n h' g2 F (by omega), xbd_some rfl]
        · refine ⟨nI (sumN M (oiN po' oi' lt D n)), nI M, nI (bts (mixN M (ltN po' oi' lt D n) lt)), nI (b + n), (fun j => nI (mixN M (fun l => (po' l + n * st) % M) po' j)), (fun j => nI (mixN M (oiN po' oi' lt D n) oi' j)), (fun j => nI (D j)), aP', s', m', e6 _ (eD.trans ?_), e7 _ (g1.trans ?_)⟩
          · refine Eq.trans (xbd_some ec) (Eq.trans (xbd_some eg) ?_)
            rw [if_neg (show ¬ nI 1 = 0 by decide), fX1_oilInAll_n h' F (by omega), xbd_some rfl, sO]
          · rw [if_neg (show ¬ nI 1 = 0 by decide), fX7_oilOf_tried_n h' g2 F (by omega), xbd_some rfl]
      · refine ⟨-1, n2, n3, n4, nk0, nk1, (fun j => nI (z0 j)), aP, tr, mv, ?_, ?_⟩
        · unfold fX6_night
          rw [if_neg z1, if_neg z2, if_neg n1, if_neg n2a]
          by_cases c : a3 < 0
          · rw [if_pos c]
          · rw [if_neg c, if_neg (show ¬ a3 ≤ (1 : Int32) from fun y => ?_)]
            have q := hw.resolve_left c
            rw [x_lt, nI_toInt (by omega)] at q
            rw [x_le] at y
            have e : (1 : Int32).toInt = 1 := rfl
            omega
        · unfold fX7_night
          rw [z3, xbd_some rfl, if_neg (by decide), n3a, xbd_some rfl, if_neg (by decide), show fX7_in a3 0 1 = some 0 from in_no hw, xbd_some rfl, if_pos (by decide)]
    · refine ⟨-1, n2, n3, n4, nk0, nk1, (fun j => nI (z0 j)), aP, tr, mv, ?_, ?_⟩
      · unfold fX6_night
        rw [if_neg z1, if_neg z2]
        by_cases c : a2 < (1 : Int32)
        · rw [if_pos c]
        · rw [if_neg c, if_pos (show (60 : Int32) < a2 from hn.resolve_left c)]
      · unfold fX7_night
        rw [z3, xbd_some rfl, if_neg (by decide), show fX7_in a2 1 60 = some 0 from in_no hn, xbd_some rfl, if_pos (by decide)]
  · refine ⟨-1, n2, n3, n4, nk0, nk1, (fun j => nI (z0 j)), aP, tr, mv, ?_, ?_⟩
    · unfold fX6_night
      by_cases c : a1 < 0
      · rw [if_pos c]
      · rw [if_neg c, if_pos (show (9999 : Int32) < a1 from hz.resolve_left c)]
    · unfold fX7_night
      rw [show fX7_in a1 0 9999 = some 0 from in_no hz, xbd_some rfl, if_pos (by decide)]
