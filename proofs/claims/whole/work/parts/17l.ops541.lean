/-! ===== letOut, seen, forget ===== -/
theorem op_letOut {M st nd cnt : Nat} {kd o0 ch l0 dB dP su fp fn fw : Nat → Nat} {sf sto sn dk aP : Int32} {kr orw lr dr sr tr mv ff : Nat → Int32} (hT : TB M st nd kd o0 ch l0 dB dP su) (hM : TM M st nd kd o0 ch l0 dB dP su sn dk kr orw lr dr) (hC : SC su sf sto) (hf : FB M cnt fp fn fw) (hfm : FM cnt fp fn fw sr) (F : Nat) (hF : 1000 < F) (a1 : Int32) : ∃ r ff' aP' tr' mv', fX6_letOut F (nI M) (nI (bts l0)) (nI st) (nI nd) sf sto (fun j => nI (kd j)) (fun j => nI (o0 j)) (fun j => nI (dB j)) (fun j => nI (dP j)) ff (nI cnt) (fun j => nI (fp j)) (fun j => nI (fn j)) (fun j => nI (fw j)) a1 = some (r, ff') ∧ fX7_letOut F (nI M) (nI st) (nI nd) sn dk (nI cnt) (-1) aP (-1) kr orw lr dr tr sr mv a1 = some (r, -1, aP', tr', mv') := by
  have hT' := hT
  obtain ⟨h, h', hst, hnd, hk, hl, hd, hsu⟩ := hT'
  obtain ⟨z, rfl⟩ := row_nI ff
  have hl6 : ∀ i, i < 6 → l0 i ≤ 1 := fun i hi => (hk i hi).2.2.2.1
  have hb64 := bts_lt hl6
  obtain ⟨D, hD, eD⟩ := fX5_reckonLit_n hT hb64 F hF z
  have hbl : ∀ l, l < M → btl (bts l0) l = l0 l := fun l hl2 => bts_bit hl6 (by omega)
  have hPB : PB M (fun p => p) (fun p => p) o0 l0 0 := ⟨id_PM M, hl6, hl, fun l hl2 => ⟨(hk l (by omega)).2.2.2.2.1, by have := (hk l (by omega)).2.1; omega⟩, by omega⟩
  rcases rng a1 (lo := 0) (hi := 1) (by omega) (by omega) with ⟨wh, _, hwh, rfl⟩ | hw
  · -- the row of the class, and whether it fits with one draught more
    let R : Nat → Nat := mixN M (litF (fun p => p) o0 (btl (bts l0)) D) D
    let DD : Nat → Nat → Nat → Nat := fun n p => updN D (bk M p (n * st)) (min n (D (bk M p (n * st))))
    let A : Nat → Nat → Prop := fun n p => agP M st cnt kd su fp fn fw o0 l0 (DD n p) (-1)
    have hDD : ∀ n p, 1 ≤ n → p < M → isD (fun x y => Bl dB dP nd x y ∨ (x = 0 + n ∧ y = p)) M st 0 (DD n p) := fun n p hn hp => isD_add h h' hp hn hD
    have hR : ∀ q, q < M → R q ≤ 1000000 := by
      intro q hq
      have hdq := hD q hq
      show (if q < M then (if btl (bts l0) q = 1 then min (o0 q) (D q) else 0) else D q) ≤ 1000000
      rw [if_pos hq]
      split <;> omega
    have cls : ∀ n p, 1 ≤ n → n ≤ 60 → p < M → fX6_fitsWithDraught F (nI M) (nI st) sf sto (fun j => nI (kd j)) (fun j => nI (R j)) (nI cnt) (fun j => nI (fp j)) (fun j => nI (fn j)) (fun j => nI (fw j)) (nI n) (nI p) = some (nI (tv (A n p)), (fun j => nI (R j))) := by
      intro n p hn hn2 hp
      have hb := bk_lt (M := M) (p := p) (k := n * st) h
      have hRb := hR _ hb
      have eback : updN (updN R (bk M p (n * st)) (min n (R (bk M p (n * st))))) (bk M p (n * st)) (R (bk M p (n * st))) = R := by
        funext j
        unfold updN
        by_cases c : j = bk M p (n * st)
        · rw [if_pos c, c]
        · rw [if_neg c, if_neg c]
      unfold fX6_fitsWithDraught
      rw [fX5_postBefore_n h h' (by omega) hst (by omega), xbd_some rfl, fX3_get_eq _ _ _ (by omega), rget_n (by omega) (by omega), xbd_some rfl, x_minN (by omega) (by omega), fX3_set_eq _ _ _ _ (by omega), rset_n (by omega) (by omega), xbd_some rfl, upd_nI, fX0_agrees_n hT hC hf (G := updN R (bk M p (n * st)) (min n (R (bk M p (n * st))))) (fun q hq => by
        have := hR q hq
        unfold updN
        split <;> omega) F hF, xbd_some rfl, fX3_set_eq _ _ _ _ (by omega), rset_n (by omega) (by omega), xbd_some rfl, upd_nI, eback]
      have eA : tv (∀ i, i < cnt → okN M st fp fn fw kd (updN R (bk M p (n * st)) (min n (R (bk M p (n * st))))) su (-1) i) = tv (A n p) := by
        refine tv_congr ?_
        have key : ∀ i, i < cnt → (okN M st fp fn fw kd (updN R (bk M p (n * st)) (min n (R (bk M p (n * st))))) su (-1) i ↔ okN M st fp fn fw kd (litF (fun p => p) o0 l0 (DD n p)) su (-1) i) := fun i hi => okN_congr h (fun q hq => by
          have hRq : R q = (if l0 q = 1 then min (o0 q) (D q) else 0) := by
            show (if q < M then (if btl (bts l0) q = 1 then min (o0 q) (D q) else 0) else D q) = _
            rw [if_pos hq, hbl q hq]
          show _ ↔ fn i < (if l0 q = 1 then min (o0 q) (updN D (bk M p (n * st)) (min n (D (bk M p (n * st)))) q) else 0)
          unfold updN
          by_cases c : q = bk M p (n * st)
          · rw [if_pos c, if_pos c, ← c, hRq]
            split <;> omega
          · rw [if_neg c, if_neg c, hRq])
        exact ⟨fun z i hi => (key i hi).mp (z i hi), fun z i hi => (key i hi).mpr (z i hi)⟩
      rw [eA]
      have := tv_le (P := A n p)
      rw [if_pos]
      rcases (show tv (A n p) = 0 ∨ tv (A n p) = 1 by omega) with e2 | e2 <;> rw [e2]
      · exact Or.inl rfl
      · exact Or.inr rfl
    have ask : ∀ (n p : Nat) (s v : Nat → Int32), 1 ≤ n → n ≤ 60 → p < M → ∃ u s' m', fX7_begin_tried F orw lr s = some u ∧ fX7_isAsSeen F (nI M) (nI st) (nI nd) sn dk (nI cnt) (nI n) (nI p) (-1) kr dr u sr v = some (nI (tv (A n p)), s', m') := by
      intro n p s v hn hn2 hp
      obtain ⟨u, e0, hs0⟩ := fX7_begin_tried_n (M := M) (o0 := o0) (ch := ch) (l0 := l0) (kr := orw) (lr := lr) (s := s) h' (fun i hi => ⟨(hk i hi).2.2.2.2.2, by have := (hk i hi).2.1; omega, (hM.1 i hi).2.1, (hM.1 i hi).2.2⟩) F (by omega)
      have hX : BX nd dB dP (nI n) (nI p) M 0 61 (fun x y => Bl dB dP nd x y ∨ (x = 0 + n ∧ y = p)) := by
        refine ⟨fun j hj y hy => ?_, fun j hj e => ⟨p, hp, rfl⟩⟩
        rw [nI_eq (by omega) (by omega), nI_eq (by omega) (by omega)]
        constructor
        · rintro (g | ⟨g1, g2⟩)
          · exact Or.inl g
          · exact Or.inr ⟨by omega, g2.symm⟩
        · rintro (g | ⟨g1, g2⟩)
          · exact Or.inl g
          · exact Or.inr ⟨by omega, g2.symm⟩
      obtain ⟨s', m', e⟩ := fX7_isAsSeen_n (aC := -1) (mv := v) hT hM hf hfm hPB hX (hDD n p hn hp) hs0 F hF
      exact ⟨u, s', m', e0, e⟩
    -- how many fit, and the first that fits, told up
    let N : Nat → Nat := fun k => tv (A (1 + k / M) (k % M))
    have hN : ∀ n p, p < M → N (n * M + p) = tv (A (1 + n) p) := by
      intro n p hp
      show tv (A (1 + (n * M + p) / M) ((n * M + p) % M)) = _
      rw [Nat.add_comm (n * M) p, Nat.add_mul_div_right _ _ (show 0 < M by omega), Nat.add_mul_mod_self_right, Nat.div_eq_of_lt hp, Nat.mod_eq_of_lt hp, Nat.zero_add]
    have hsum : ∀ k, sumN k N ≤ k * 1 := fun k => sumN_le (fun _ _ => tv_le)
    let fst : Nat → Int32 := fun k => Nat.rec (-4) (fun j f => if sumN j N = 0 ∧ N j = 1 then nI (10 * (1 + j / M) + j % M) else f) k
    have fst_s : ∀ j, fst (j + 1) = if sumN j N = 0 ∧ N j = 1 then nI (10 * (1 + j / M) + j % M) else fst j := fun j => rfl
    have fst_stay : ∀ k j, ¬ sumN k N = 0 → fst (k + j) = fst k ∧ ¬ sumN (k + j) N = 0 := by
      intro k j hk0
      induction j with
      | zero => exact ⟨rfl, hk0⟩
      | succ j ih =>
        refine ⟨?_, ?_⟩
        · show fst (k + j + 1) = _
          rw [fst_s, if_neg (fun z => ih.2 z.1), ih.1]
        · show ¬ sumN (k + j) N + N (k + j) = 0
          have := ih.2
          omega
    have hdm : ∀ n p, p < M → (n * M + p) / M = n ∧ (n * M + p) % M = p := by
      intro n p hp
      constructor
      · rw [Nat.add_comm (n * M) p, Nat.add_mul_div_right _ _ (show 0 < M by omega), Nat.div_eq_of_lt hp, Nat.zero_add]
      · rw [Nat.add_comm (n * M) p, Nat.add_mul_mod_self_right, Nat.mod_eq_of_lt hp]
    have hbig : ∀ n, n ≤ 60 → n * M ≤ 360 := fun n hn => Nat.le_trans (Nat.mul_le_mul hn h') (by omega)
    -- the reference
    have inm : ∀ (n : Nat) (k : Int32 → Int32 → Int32 → Int32 → Int32 → (Nat → Int32) → (Nat → Int32) → Option (Int32 × Int32 × Int32 × (Nat → Int32) × (Nat → Int32))), n < 60 → ∀ (d p G : Nat) (aB aP : Int32) (s v : Nat → Int32), p + d = M → d < G → ∃ aB' aP' s' v', fX7_letOut_L29 (nI M) (nI st) (nI nd) sn dk (nI cnt) (-1) kr orw lr dr sr F (nI (1 + n)) k G (nI p) (fst (n * M + p)) (nI (sumN (n * M + p) N)) aB aP s v = k (nI M) (fst ((n + 1) * M)) (nI (sumN ((n + 1) * M) N)) aB' aP' s' v' := by
      intro n k hn d
      induction d with
      | zero =>
        intro p G aB aP s v h1 h2
        obtain ⟨G, rfl⟩ : ∃ G', G = G' + 1 := ⟨G - 1, by omega⟩
        obtain rfl : p = M := by omega
        refine ⟨aB, aP, s, v, ?_⟩
        rw [fX7_letOut_L29, if_pos (Int32.le_refl _), Nat.succ_mul]
      | succ d ih =>
        intro p G aB aP s v h1 h2
        obtain ⟨G, rfl⟩ : ∃ G', G = G' + 1 := ⟨G - 1, by omega⟩
        obtain ⟨u, s1, m1, e0, e1⟩ := ask (1 + n) p s v (by omega) (by omega) (by omega)
        obtain ⟨aB', aP', s', v', e⟩ := ih (p + 1) G (nI (1 + n)) (nI p) s1 m1 (by omega) (by omega)
        refine ⟨aB', aP', s', v', ?_⟩
        have hNk := hN n p (by omega)
        have hs1 : sumN (n * M + (p + 1)) N = sumN (n * M + p) N + tv (A (1 + n) p) := by rw [← hNk]; rfl
        have hf1 : fst (n * M + (p + 1)) = if sumN (n * M + p) N = 0 ∧ tv (A (1 + n) p) = 1 then nI (10 * (1 + n) + p) else fst (n * M + p) := by
          have e := fst_s (n * M + p)
          rw [hNk, (hdm n p (by omega)).1, (hdm n p (by omega)).2] at e
          exact e
        have hle := hsum (n * M + p)
        have hbg := hbig n (by omega)
        rw [hs1, hf1] at e
        rw [fX7_letOut_L29, if_neg (nI_ge (by omega) (by omega)), e0, xbd_some rfl, e1, xbd2_some rfl]
        have := tv_le (P := A (1 + n) p)
        rcases (show tv (A (1 + n) p) = 0 ∨ tv (A (1 + n) p) = 1 by omega) with c | c
        · rw [c, if_neg (fun z => absurd z.2 (by omega)), Nat.add_zero] at e
          rw [c, if_pos (by decide), nI_1]
          exact e
        · rw [c] at e
          rw [c, if_neg (by decide)]
          by_cases c2 : sumN (n * M + p) N = 0
          · rw [if_pos ⟨c2, rfl⟩] at e
            rw [if_pos (by rw [c2]; rfl), nI_1, nI_1, show (10 : Int32) = nI 10 from rfl, x_mulN, nI_add]
            exact e
          · rw [if_neg (fun z => c2 z.1)] at e
            rw [if_neg (nI_ne0 (by omega) (by omega)), nI_1, nI_1]
            exact e
    have outm : ∀ (k : Int32 → Int32 → Int32 → Int32 → Int32 → (Nat → Int32) → (Nat → Int32) → Option (Int32 × Int32 × Int32 × (Nat → Int32) × (Nat → Int32))) (d n G : Nat) (aB aP : Int32) (s v : Nat → Int32), n + d = 60 → d < G → ∃ aB' aP' s' v', fX7_letOut_L19 (nI M) (nI st) (nI nd) sn dk (nI cnt) (-1) kr orw lr dr sr F k G (nI (1 + n)) (fst (n * M)) (nI (sumN (n * M) N)) aB aP s v = k (nI 61) (fst (60 * M)) (nI (sumN (60 * M) N)) aB' aP' s' v' := by
      intro k d
      induction d with
      | zero =>
        intro n G aB aP s v h1 h2
        obtain ⟨G, rfl⟩ : ∃ G', G = G' + 1 := ⟨G - 1, by omega⟩
        obtain rfl : n = 60 := by omega
        refine ⟨aB, aP, s, v, ?_⟩
        rw [fX7_letOut_L19, if_pos (by decide)]
      | succ d ih =>
        intro n G aB aP s v h1 h2
        obtain ⟨G, rfl⟩ : ∃ G', G = G' + 1 := ⟨G - 1, by omega⟩
        obtain ⟨aB1, aP1, s1, v1, e1⟩ := inm n (fun (v29_5 : Int32) (v29_3 : Int32) (v29_2 : Int32) (w29_moi_30 : Int32) (w29_moi_31 : Int32) (w29_mok_23 : Nat → Int32) (w29_mok_33 : Nat → Int32) => fX7_letOut_L19 (nI M) (nI st) (nI nd) sn dk (nI cnt) (-1) kr orw lr dr sr F k G (nI (1 + n) + 1) v29_3 v29_2 w29_moi_30 w29_moi_31 w29_mok_23 w29_mok_33) (by omega) M 0 F aB aP s v (by omega) (by omega)
        obtain ⟨aB', aP', s', v', e⟩ := ih (n + 1) G aB1 aP1 s1 v1 (by omega) (by omega)
        refine ⟨aB', aP', s', v', ?_⟩
        rw [fX7_letOut_L19, show (61 : Int32) = nI 61 from rfl, if_neg (nI_ge (by omega) (by omega))]
        refine Eq.trans e1 ?_
        rw [nI_1, show 1 + n + 1 = 1 + (n + 1) by omega]
        exact e
    -- the class
    have inc0 : ∀ (n : Nat) (k : Int32 → Int32 → (Nat → Int32) → Option (Int32 × (Nat → Int32))), n < 60 → ∀ (d p G : Nat), p + d = M → d < G → fX6_letOut_L42 (nI M) (nI st) sf sto (fun j => nI (kd j)) (nI cnt) (fun j => nI (fp j)) (fun j => nI (fn j)) (fun j => nI (fw j)) (nI 0) F (nI (1 + n)) k G (nI p) (nI (sumN (n * M + p) N)) (fun j => nI (R j)) = k (nI M) (nI (sumN ((n + 1) * M) N)) (fun j => nI (R j)) := by
      intro n k hn d
      induction d with
      | zero =>
        intro p G h1 h2
        obtain ⟨G, rfl⟩ : ∃ G', G = G' + 1 := ⟨G - 1, by omega⟩
        obtain rfl : p = M := by omega
        rw [fX6_letOut_L42, if_pos (Int32.le_refl _), Nat.succ_mul]
      | succ d ih =>
        intro p G h1 h2
        obtain ⟨G, rfl⟩ : ∃ G', G = G' + 1 := ⟨G - 1, by omega⟩
        have e := ih (p + 1) G (by omega) (by omega)
        have hs1 : sumN (n * M + (p + 1)) N = sumN (n * M + p) N + tv (A (1 + n) p) := by rw [← hN n p (by omega)]; rfl
        rw [hs1] at e
        rw [fX6_letOut_L42, if_neg (nI_ge (by omega) (by omega)), cls (1 + n) p (by omega) (by omega) (by omega), xbd2_some rfl, nI_1]
        have := tv_le (P := A (1 + n) p)
        rcases (show tv (A (1 + n) p) = 0 ∨ tv (A (1 + n) p) = 1 by omega) with c | c
        · rw [c, Nat.add_zero] at e
          rw [c, if_pos (by decide)]
          exact e
        · rw [c] at e
          rw [c, if_neg (by decide), if_neg (by decide), nI_1]
          exact e
    have outc0 : ∀ (k : Int32 → Int32 → (Nat → Int32) → Option (Int32 × (Nat → Int32))) (d n G : Nat), n + d = 60 → d < G → fX6_letOut_L33 (nI M) (nI st) sf sto (fun j => nI (kd j)) (nI cnt) (fun j => nI (fp j)) (fun j => nI (fn j)) (fun j => nI (fw j)) (nI 0) F k G (nI (1 + n)) (nI (sumN (n * M) N)) (fun j => nI (R j)) = k (nI 61) (nI (sumN (60 * M) N)) (fun j => nI (R j)) := by
      intro k d
      induction d with
      | zero =>
        intro n G h1 h2
        obtain ⟨G, rfl⟩ : ∃ G', G = G' + 1 := ⟨G - 1, by omega⟩
        obtain rfl : n = 60 := by omega
        rw [fX6_letOut_L33, if_pos (by decide)]
      | succ d ih =>
        intro n G h1 h2
        obtain ⟨G, rfl⟩ : ∃ G', G = G' + 1 := ⟨G - 1, by omega⟩
        have e := ih (n + 1) G (by omega) (by omega)
        rw [fX6_letOut_L33, show (60 : Int32) = nI 60 from rfl, if_neg (nI_nlt (by omega) (by omega))]
        refine Eq.trans (inc0 n _ (by omega) M 0 F (by omega) (by omega)) ?_
        rw [nI_1, show 1 + n + 1 = 1 + (n + 1) by omega]
        exact e
    have inc1 : ∀ (n : Nat) (k : Int32 → Int32 → (Nat → Int32) → Option (Int32 × (Nat → Int32))), n < 60 → ∀ (d p G : Nat), p + d = M → d < G → sumN (n * M + p) N = 0 → fX6_letOut_L42 (nI M) (nI st) sf sto (fun j => nI (kd j)) (nI cnt) (fun j => nI (fp j)) (fun j => nI (fn j)) (fun j => nI (fw j)) (nI 1) F (nI (1 + n)) k G (nI p) (nI 0) (fun j => nI (R j)) = some (fst (60 * M), (fun j => nI (R j))) ∨ (sumN ((n + 1) * M) N = 0 ∧ fX6_letOut_L42 (nI M) (nI st) sf sto (fun j => nI (kd j)) (nI cnt) (fun j => nI (fp j)) (fun j => nI (fn j)) (fun j => nI (fw j)) (nI 1) F (nI (1 + n)) k G (nI p) (nI 0) (fun j => nI (R j)) = k (nI M) (nI 0) (fun j => nI (R j))) := by
      intro n k hn d
      induction d with
      | zero =>
        intro p G h1 h2 h3
        obtain ⟨G, rfl⟩ : ∃ G', G = G' + 1 := ⟨G - 1, by omega⟩
        obtain rfl : p = M := by omega
        refine Or.inr ⟨by rw [Nat.succ_mul]; exact h3, ?_⟩
        rw [fX6_letOut_L42, if_pos (Int32.le_refl _)]
      | succ d ih =>
        intro p G h1 h2 h3
        obtain ⟨G, rfl⟩ : ∃ G', G = G' + 1 := ⟨G - 1, by omega⟩
        have hNk := hN n p (by omega)
        have hs1 : sumN (n * M + (p + 1)) N = sumN (n * M + p) N + tv (A (1 + n) p) := by rw [← hNk]; rfl
        rw [fX6_letOut_L42, if_neg (nI_ge (by omega) (by omega)), cls (1 + n) p (by omega) (by omega) (by omega), xbd2_some rfl, nI_1]
        have := tv_le (P := A (1 + n) p)
        rcases (show tv (A (1 + n) p) = 0 ∨ tv (A (1 + n) p) = 1 by omega) with c | c
        · rw [c, if_pos (by decide)]
          exact ih (p + 1) G (by omega) (by omega) (by rw [hs1, h3, c])
        · refine Or.inl ?_
          have hM2 : (n + 1) * M ≤ 60 * M := Nat.mul_le_mul_right M (by omega)
          rw [Nat.succ_mul] at hM2
          have hst := fst_stay (n * M + (p + 1)) (60 * M - (n * M + (p + 1))) (by rw [hs1, h3, c]; omega)
          rw [show n * M + (p + 1) + (60 * M - (n * M + (p + 1))) = 60 * M by omega] at hst
          have e := fst_s (n * M + p)
          rw [hNk, (hdm n p (by omega)).1, (hdm n p (by omega)).2, if_pos ⟨h3, c⟩] at e
          have e2 : fst (60 * M) = nI (10 * (1 + n) + p) := hst.1.trans e
          rw [c, if_neg (by decide), if_pos (by decide), show (10 : Int32) = nI 10 from rfl, x_mulN, nI_add, e2]
    have outc1 : ∀ (k : Int32 → Int32 → (Nat → Int32) → Option (Int32 × (Nat → Int32))) (d n G : Nat), n + d = 60 → d < G → sumN (n * M) N = 0 → fX6_letOut_L33 (nI M) (nI st) sf sto (fun j => nI (kd j)) (nI cnt) (fun j => nI (fp j)) (fun j => nI (fn j)) (fun j => nI (fw j)) (nI 1) F k G (nI (1 + n)) (nI 0) (fun j => nI (R j)) = some (fst (60 * M), (fun j => nI (R j))) ∨ (sumN (60 * M) N = 0 ∧ fX6_letOut_L33 (nI M) (nI st) sf sto (fun j => nI (kd j)) (nI cnt) (fun j => nI (fp j)) (fun j => nI (fn j)) (fun j => nI (fw j)) (nI 1) F k G (nI (1 + n)) (nI 0) (fun j => nI (R j)) = k (nI 61) (nI 0) (fun j => nI (R j))) := by
      intro k d
      induction d with
      | zero =>
        intro n G h1 h2 h3
        obtain ⟨G, rfl⟩ : ∃ G', G = G' + 1 := ⟨G - 1, by omega⟩
        obtain rfl : n = 60 := by omega
        refine Or.inr ⟨h3, ?_⟩
        rw [fX6_letOut_L33, if_pos (by decide)]
      | succ d ih =>
        intro n G h1 h2 h3
        obtain ⟨G, rfl⟩ : ∃ G', G = G' + 1 := ⟨G - 1, by omega⟩
        rw [fX6_letOut_L33, show (60 : Int32) = nI 60 from rfl, if_neg (nI_nlt (by omega) (by omega))]
        rcases inc1 n (fun (v42_4 : Int32) (v42_2 : Int32) (w42_ff : Nat → Int32) => fX6_letOut_L33 (nI M) (nI st) sf sto (fun j => nI (kd j)) (nI cnt) (fun j => nI (fp j)) (fun j => nI (fn j)) (fun j => nI (fw j)) (nI 1) F k G (nI (1 + n) + 1) v42_2 w42_ff) (by omega) M 0 F (by omega) (by omega) h3 with e | ⟨e, e1⟩
        · exact Or.inl e
        · have e2 := ih (n + 1) G (by omega) (by omega) e
          have e3 : fX6_letOut_L42 (nI M) (nI st) sf sto (fun j => nI (kd j)) (nI cnt) (fun j => nI (fp j)) (fun j => nI (fn j)) (fun j => nI (fw j)) (nI 1) F (nI (1 + n)) (fun (v42_4 : Int32) (v42_2 : Int32) (w42_ff : Nat → Int32) => fX6_letOut_L33 (nI M) (nI st) sf sto (fun j => nI (kd j)) (nI cnt) (fun j => nI (fp j)) (fun j => nI (fn j)) (fun j => nI (fw j)) (nI 1) F k G (nI (1 + n) + 1) v42_2 w42_ff) F (nI 0) (nI 0) (fun j => nI (R j)) = fX6_letOut_L33 (nI M) (nI st) sf sto (fun j => nI (kd j)) (nI cnt) (fun j => nI (fp j)) (fun j => nI (fn j)) (fun j => nI (fw j)) (nI 1) F k G (nI (1 + (n + 1))) (nI 0) (fun j => nI (R j)) := by
            refine Eq.trans e1 ?_
            show fX6_letOut_L33 _ _ _ _ _ _ _ _ _ _ _ _ _ (nI (1 + n) + 1) _ _ = _
            rw [nI_1, show 1 + n + 1 = 1 + (n + 1) by omega]
          rcases e2 with e2 | ⟨e2, e4⟩
          · exact Or.inl (e3.trans e2)
          · exact Or.inr ⟨e2, e3.trans e4⟩
    have fst0 : sumN (60 * M) N = 0 → fst (60 * M) = -4 := by
      have key : ∀ k, sumN k N = 0 → fst k = -4 := by
        intro k
        induction k with
        | zero => exact fun _ => rfl
        | succ k ih =>
          intro z
          have z' : sumN k N + N k = 0 := z
          rw [fst_s, if_neg (fun y => by have := y.2; omega)]
          exact ih (by omega)
      exact key _
    obtain ⟨aB', aP', s', v', e⟩ := outm (fun (v19_4 : Int32) (v19_3 : Int32) (v19_2 : Int32) (w19_moi_30 : Int32) (w19_moi_31 : Int32) (w19_mok_23 : Nat → Int32) (w19_mok_33 : Nat → Int32) => if nI wh = 0 then (some (v19_2, ((-1 : Int32), w19_moi_31, w19_mok_23, w19_mok_33))) else (some (v19_3, ((-1 : Int32), w19_moi_31, w19_mok_23, w19_mok_33)))) 60 0 F (-1) aP tr mv (by omega) (by omega)
    rw [Nat.zero_mul] at e
    have em : fX7_letOut F (nI M) (nI st) (nI nd) sn dk (nI cnt) (-1) aP (-1) kr orw lr dr tr sr mv (nI wh) = (if nI wh = 0 then (some (nI (sumN (60 * M) N), ((-1 : Int32), aP', s', v'))) else (some (fst (60 * M), ((-1 : Int32), aP', s', v')))) := by
      unfold fX7_letOut
      rw [show fX7_in (nI wh) 0 1 = some 1 from in_yes (lo := 0) (hi := 1) (by omega) hwh (by omega), xbd_some rfl, if_neg (by decide)]
      exact e
    rcases (show wh = 0 ∨ wh = 1 by omega) with rfl | rfl
    · refine ⟨nI (sumN (60 * M) N), (fun j => nI (R j)), aP', s', v', ?_, ?_⟩
      · unfold fX6_letOut
        rw [if_neg (by decide), if_pos (by decide), eD, xbd_some rfl]
        have e0 := outc0 (fun (v33_3 : Int32) (v33_2 : Int32) (w33_ff : Nat → Int32) => if nI 0 = (1 : Int32) then (some ((-4 : Int32), w33_ff)) else (some (v33_2, w33_ff))) 60 0 F (by omega) (by omega)
        rw [Nat.zero_mul] at e0
        exact e0
      · rw [em, if_pos (by decide)]
    · refine ⟨fst (60 * M), (fun j => nI (R j)), aP', s', v', ?_, ?_⟩
      · unfold fX6_letOut
        rw [if_neg (by decide), if_pos (by decide), eD, xbd_some rfl]
        rcases outc1 (fun (v33_3 : Int32) (v33_2 : Int32) (w33_ff : Nat → Int32) => if nI 1 = (1 : Int32) then (some ((-4 : Int32), w33_ff)) else (some (v33_2, w33_ff))) 60 0 F (by omega) (by omega) (by rw [Nat.zero_mul]; rfl) with e0 | ⟨e0, e1⟩
        · exact e0
        · refine Eq.trans e1 ?_
          rw [fst0 e0]
          rfl
      · rw [em, if_neg (by decide)]
  · refine ⟨-1, (fun j => nI (z j)), aP, tr, mv, ?_, ?_⟩
    rotate_left
    · unfold fX7_letOut
      rw [show fX7_in a1 0 1 = some 0 from in_no hw, xbd_some rfl, if_pos (by decide)]
    · unfold fX6_letOut
      by_cases c : a1 < 0
      · rw [if_pos c]
      · rw [if_neg c, if_neg]
        have hn2 := hw.resolve_left c
        rw [x_lt] at hn2
        rw [x_le]
        exact fun z => absurd hn2 (Int.not_lt.mpr z)
