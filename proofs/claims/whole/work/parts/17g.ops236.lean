/-! ===== walk ===== -/
theorem op_walk {M st nd b : Nat} {kd o0 ch l0 dB dP su po pl oi lt : Nat → Nat} {sn dk aP : Int32} {kr orw lr dr now tr mv zf : Nat → Int32} (hT : TB M st nd kd o0 ch l0 dB dP su) (hM : TM M st nd kd o0 ch l0 dB dP su sn dk kr orw lr dr) (hP : PB M po pl oi lt b) (hs : MR M pl oi lt b now) (F : Nat) (hF : 1000 < F) (a1 a2 : Int32) : ∃ r zf' tr' mv', fX6_walk F (nI M) (nI st) (nI nd) (fun j => nI (dB j)) (fun j => nI (dP j)) (nI M) (nI (bts lt)) (nI b) (fun j => nI (po j)) (fun j => nI (oi j)) zf a1 a2 = some (r, zf') ∧ fX7_walk F (nI M) (nI st) (nI nd) (-1) aP dr now tr mv a1 a2 = some (r, tr', mv') := by
  have hT' := hT
  obtain ⟨h, h', hst, hnd, hk, hl, hd, hsu⟩ := hT'
  have hP' := hP
  obtain ⟨hpm, p1, p2, p3, p4⟩ := hP'
  obtain ⟨z, rfl⟩ := row_nI zf
  rcases rng a1 (lo := 0) (hi := M - 1) (by omega) (by omega) with ⟨p, _, hp, rfl⟩ | hp
  · have hp' : p < M := by omega
    rcases rng a2 (lo := 0) (hi := 60) (by omega) (by omega) with ⟨n, _, hn, rfl⟩ | hn
    · obtain ⟨D, hD, eD⟩ := fX5_reckonDraughts_n h h' hst hnd (show b < 10000 by omega) (fun i hi => ⟨(hd i hi).2.1, (hd i hi).2.2⟩) F (by omega) z
      have hX : BX nd dB dP (-1) aP M b 61 (Bl dB dP nd) := BX_none (by omega)
      obtain ⟨s', m', e1, e2⟩ := fX7_triedIn_n (n := 0) (tr := tr) (mv := mv) hT hM hP hX hD (by omega) (by omega) hs F hF
      have key : ∀ (d i G : Nat), i + d = n + 1 → d < G → fX6_walk_L40 (nI M) (nI st) (nI M) (nI (bts lt)) (fun j => nI (po j)) (fun j => nI (oi j)) (nI p) (nI n) F (fun j => nI (D j)) (fun (v40_4 : Int32) (v40_3 : Int32) => some (v40_3, (fun j => nI (D j)))) G (nI i) (nI (sumN i (fun k => ltN po oi lt D k (plN M st pl k ((p + k) % M))))) = some (nI (sumN (n + 1) (fun k => ltN po oi lt D k (plN M st pl k ((p + k) % M)))), (fun j => nI (D j))) := by
        intro d
        induction d with
        | zero =>
          intro i G h1 h2
          obtain ⟨G, rfl⟩ : ∃ G', G = G' + 1 := ⟨G - 1, by omega⟩
          obtain rfl : i = n + 1 := by omega
          rw [fX6_walk_L40, if_pos (nI_lt (by omega) (by omega))]
        | succ d ih =>
          intro i G h1 h2
          obtain ⟨G, rfl⟩ : ∃ G', G = G' + 1 := ⟨G - 1, by omega⟩
          have hm := Nat.mod_lt (p + i) (show 0 < M by omega)
          have q2 := ltN_le (po := po) (oi := oi) (lt := lt) (D := D) (n := i) (l := plN M st pl i ((p + i) % M))
          have ih' := ih (i + 1) G (by omega) (by omega)
          rw [show sumN (i + 1) (fun k => ltN po oi lt D k (plN M st pl k ((p + k) % M))) = sumN i (fun k => ltN po oi lt D k (plN M st pl k ((p + k) % M))) + ltN po oi lt D i (plN M st pl i ((p + i) % M)) from rfl] at ih'
          rw [fX6_walk_L40, if_neg (nI_nlt (by omega) (by omega)), nI_add, fX5_round_n h h' (by omega), xbd_some rfl, fX6_isLitBehind_n h h' hst hpm p1 (fun l hl => by have := (p3 l hl).2; omega) (fun q hq => (hD q hq).2.1) (by omega) hm F (by omega), xbd_some rfl]
          rcases (show ltN po oi lt D i (plN M st pl i ((p + i) % M)) = 0 ∨ ltN po oi lt D i (plN M st pl i ((p + i) % M)) = 1 by omega) with e | e
          · rw [e, Nat.add_zero] at ih'
            rw [e, if_pos (by decide), nI_1]
            exact ih'
          · rw [e] at ih'
            rw [e, if_neg (by decide), nI_1, nI_1]
            exact ih'
      have key2 : ∀ (d i G : Nat) (s v : Nat → Int32), i + d = n + 1 → d < G → MR M (plN M st pl i) (oiN po oi lt D i) (ltN po oi lt D i) (b + i) s → ∃ s' m', fX7_walk_L30 (nI M) (nI st) (nI nd) (-1) aP dr (nI p) (nI n) F (fun (v30_4 : Int32) (v30_3 : Int32) (w30_mok_23 : Nat → Int32) (w30_mok_33 : Nat → Int32) => some (v30_3, (w30_mok_23, w30_mok_33))) G (nI i) (nI (sumN i (fun k => ltN po oi lt D k (plN M st pl k ((p + k) % M))))) s v = some (nI (sumN (n + 1) (fun k => ltN po oi lt D k (plN M st pl k ((p + k) % M)))), s', m') := by
        intro d
        induction d with
        | zero =>
          intro i G s v h1 h2 h3
          obtain ⟨G, rfl⟩ : ∃ G', G = G' + 1 := ⟨G - 1, by omega⟩
          obtain rfl : i = n + 1 := by omega
          exact ⟨s, v, by rw [fX7_walk_L30, if_pos (nI_lt (by omega) (by omega))]⟩
        | succ d ih =>
          intro i G s v h1 h2 h3
          obtain ⟨G, rfl⟩ : ∃ G', G = G' + 1 := ⟨G - 1, by omega⟩
          have hm := Nat.mod_lt (p + i) (show 0 < M by omega)
          obtain ⟨s1, m1, g1, g2⟩ := ring_tried_s hT hM hP hX hD (show i < 61 by omega) (by omega) h3 F (by omega) (mv := v)
          obtain ⟨s2, m2, g3⟩ := ih (i + 1) G s1 m1 (by omega) (by omega) g2
          refine ⟨s2, m2, ?_⟩
          rw [fX7_walk_L30, if_neg (nI_nlt (by omega) (by omega)), if_neg (nI_ne0 (by omega) (by omega)), nI_add, x_remN (by omega) (by omega) (by omega), fX7_isLit_tried_n h' h3 hm (hpm.2 _ (bk_lt h)).1 ltN_le, xbd_some rfl, bit_n ltN_le, xbd_some rfl, g1, xbd_some rfl, nI_1, nI_add]
          exact g3
      obtain ⟨s2, m2, g3⟩ := key2 (n + 1) 0 F s' m' (by omega) (by omega) e2
      refine ⟨nI (sumN (n + 1) (fun k => ltN po oi lt D k (plN M st pl k ((p + k) % M)))), (fun j => nI (D j)), s2, m2, ?_, ?_⟩
      · unfold fX6_walk
        rw [(man_yes h h' hp').1, xbd_some rfl, if_neg (by decide), (last_yes hn).1, xbd_some rfl, if_neg (by decide), eD, xbd_some rfl]
        exact key (n + 1) 0 F (by omega) (by omega)
      · unfold fX7_walk
        rw [(man_yes h h' hp').2, xbd_some rfl, if_neg (by decide), (last_yes hn).2, xbd_some rfl, if_neg (by decide), show (0 : Int32) = nI 0 from rfl, e1, xbd_some rfl]
        exact g3
    · refine ⟨-1, (fun j => nI (z j)), tr, mv, ?_, ?_⟩
      · unfold fX6_walk
        rw [(man_yes h h' hp').1, xbd_some rfl, if_neg (by decide), (last_no hn).1, xbd_some rfl, if_pos (by decide)]
      · unfold fX7_walk
        rw [(man_yes h h' hp').2, xbd_some rfl, if_neg (by decide), (last_no hn).2, xbd_some rfl, if_pos (by decide)]
  · refine ⟨-1, (fun j => nI (z j)), tr, mv, ?_, ?_⟩
    · unfold fX6_walk
      rw [(man_no h h' hp).1, xbd_some rfl, if_pos (by decide)]
    · unfold fX7_walk
      rw [(man_no h h' hp).2, xbd_some rfl, if_pos (by decide)]
/-! ===== lantern, post ===== -/
theorem op_lantern {M st nd b : Nat} {kd o0 ch l0 dB dP su po pl oi lt : Nat → Nat} {sn dk : Int32} {kr orw lr dr now : Nat → Int32} (hT : TB M st nd kd o0 ch l0 dB dP su) (hM : TM M st nd kd o0 ch l0 dB dP su sn dk kr orw lr dr) (hP : PB M po pl oi lt b) (hs : MR M pl oi lt b now) (F : Nat) (hF : 1000 < F) (a1 a2 : Int32) : ∃ r, fX6_lantern (nI M) (nI (bts ch)) (nI (bts lt)) (fun j => nI (po j)) (fun j => nI (oi j)) a1 a2 = some r ∧ fX7_lantern F (nI M) orw now a1 a2 = some r := by
  obtain ⟨h, h', hst, hnd, hk, hl, hd, hsu⟩ := hT
  obtain ⟨hpm, p1, p2, p3, p4⟩ := hP
  rcases rng a1 (lo := 0) (hi := M - 1) (by omega) (by omega) with ⟨l, _, hp, rfl⟩ | hp
  · have hp' : l < M := by omega
    have q1 := hpm.1 l hp'
    have q2 := p1 l (by omega)
    have q3 := (hk l (by omega)).2.2.1
    have q4 := (hM.1 l (by omega)).2.1
    rcases rng a2 (lo := 0) (hi := 3) (by omega) (by omega) with ⟨n, _, hn, rfl⟩ | hn
    · have key : ∀ (k : Int32 → Int32 → Option Int32) (d i G at' : Nat), i + d = M → d < G → (po l < i → at' = po l) → fX7_lantern_L24 (nI M) now (nI l) k G (nI i) (nI at') = k (nI M) (nI (po l)) := by
        intro k d
        induction d with
        | zero =>
          intro i G at' h1 h2 h3
          obtain ⟨G, rfl⟩ : ∃ G', G = G' + 1 := ⟨G - 1, by omega⟩
          obtain rfl : i = M := by omega
          rw [fX7_lantern_L24, if_pos (Int32.le_refl _), h3 q1.1]
        | succ d ih =>
          intro i G at' h1 h2 h3
          obtain ⟨G, rfl⟩ : ∃ G', G = G' + 1 := ⟨G - 1, by omega⟩
          have r1 := hpm.2 i (by omega)
          rw [fX7_lantern_L24, if_neg (nI_ge (by omega) (by omega)), if_neg (nI_in (by omega) (by omega)), nI_clamp (by omega), hs.1 i (by omega), nI_1]
          by_cases e : pl i = l
          · rw [if_pos (by rw [e])]
            exact ih (i + 1) G i (by omega) (by omega) (fun _ => by rw [← e, r1.2])
          · rw [if_neg (fun z => e ((nI_eq (by omega) (by omega)).mp z))]
            refine ih (i + 1) G at' (by omega) (by omega) (fun z => h3 ?_)
            have : po l ≠ i := fun z2 => e (by rw [← z2, q1.2])
            omega
      have key0 := fun k => key k M 0 F 0 (by omega) (by omega) (fun z => absurd z (Nat.not_lt_zero _))
      rcases (show n = 0 ∨ n = 1 ∨ n = 2 ∨ n = 3 by omega) with rfl | rfl | rfl | rfl
      · refine ⟨nI (po l), ?_, ?_⟩
        · unfold fX6_lantern
          rw [(man_yes h h' hp').1, xbd_some rfl, if_neg (by decide), if_pos (by decide), fX3_get_eq _ _ _ (by omega), rget_n (by omega) (by omega), xbd_some rfl]
        · unfold fX7_lantern
          rw [(man_yes h h' hp').2, xbd_some rfl, if_neg (by decide), show fX7_in (nI 0) 0 3 = some 1 from in_yes (lo := 0) (hi := 3) (by omega) (by omega) (by omega), xbd_some rfl, if_neg (by decide)]
          refine Eq.trans (key0 _) ?_
          rfl
      · refine ⟨nI (oi l), ?_, ?_⟩
        · unfold fX6_lantern
          rw [(man_yes h h' hp').1, xbd_some rfl, if_neg (by decide), if_neg (by decide), if_pos (by decide), fX3_get_eq _ _ _ (by omega), rget_n (by omega) (by omega), xbd_some rfl]
        · unfold fX7_lantern
          rw [(man_yes h h' hp').2, xbd_some rfl, if_neg (by decide), show fX7_in (nI 1) 0 3 = some 1 from in_yes (lo := 0) (hi := 3) (by omega) (by omega) (by omega), xbd_some rfl, if_neg (by decide)]
          refine Eq.trans (key0 _) ?_
          rw [if_neg (by decide), if_pos (by decide), show (6 : Int32) = nI 6 from rfl, nI_add, if_neg (nI_in (by omega) (by omega)), nI_clamp (by omega), hs.2.1 l hp']
      · refine ⟨nI (lt l), ?_, ?_⟩
        · unfold fX6_lantern
          rw [(man_yes h h' hp').1, xbd_some rfl, if_neg (by decide), if_neg (by decide), if_neg (by decide), if_pos (by decide), fX1_isLit_n p1 (by omega), xbd_some rfl]
          rcases (show lt l = 0 ∨ lt l = 1 by omega) with e | e <;> rw [e] <;> rfl
        · unfold fX7_lantern
          rw [(man_yes h h' hp').2, xbd_some rfl, if_neg (by decide), show fX7_in (nI 2) 0 3 = some 1 from in_yes (lo := 0) (hi := 3) (by omega) (by omega) (by omega), xbd_some rfl, if_neg (by decide)]
          refine Eq.trans (key0 _) ?_
          rw [if_neg (by decide), if_neg (by decide), if_pos (by decide), show (12 : Int32) = nI 12 from rfl, nI_add, if_neg (nI_in (by omega) (by omega)), nI_clamp (by omega), hs.2.2.1 l hp']
      · refine ⟨nI (ch l), ?_, ?_⟩
        · unfold fX6_lantern
          rw [(man_yes h h' hp').1, xbd_some rfl, if_neg (by decide), if_neg (by decide), if_neg (by decide), if_neg (by decide), if_pos (by decide)]
          unfold fX5_isCheese
          rw [xb_get (fun i hi => (hk i hi).2.2.1) (by omega)]
          rcases (show ch l = 0 ∨ ch l = 1 by omega) with e | e <;> rw [e] <;> rfl
        · unfold fX7_lantern
          rw [(man_yes h h' hp').2, xbd_some rfl, if_neg (by decide), show fX7_in (nI 3) 0 3 = some 1 from in_yes (lo := 0) (hi := 3) (by omega) (by omega) (by omega), xbd_some rfl, if_neg (by decide)]
          refine Eq.trans (key0 _) ?_
          rw [if_neg (by decide), if_neg (by decide), if_neg (by decide), if_neg (nI_in (by omega) (by omega)), nI_clamp (by omega), q4]
          rcases (show ch l = 0 ∨ ch l = 1 by omega) with e | e
          · rw [e, if_neg (show ¬ 0 = 1 by omega), if_pos (nI_pos' (by have := (hk l (by omega)).2.1; omega))]
            rfl
          · rw [e, if_pos (show (1 : Nat) = 1 from rfl), if_neg (by decide)]
            rfl
    · refine ⟨-1, ?_, ?_⟩
      · have e : ∀ v, v ≤ 3 → a2 ≠ nI v := by
          intro v hv z
          rw [z] at hn
          rcases hn with hn | hn
          · exact nI_nlt (by omega) (by omega) hn
          · exact nI_nlt hv (by omega) hn
        unfold fX6_lantern
        rw [(man_yes h h' hp').1, xbd_some rfl, if_neg (by decide), if_neg (show ¬ a2 = 0 from e 0 (by omega)), if_neg (show ¬ a2 = 1 from e 1 (by omega)), if_neg (show ¬ a2 = 2 from e 2 (by omega)), if_neg (show ¬ a2 = 3 from e 3 (by omega))]
      · unfold fX7_lantern
        rw [(man_yes h h' hp').2, xbd_some rfl, if_neg (by decide), show fX7_in a2 0 3 = some 0 from in_no hn, xbd_some rfl, if_pos (by decide)]
  · refine ⟨-1, ?_, ?_⟩
    · unfold fX6_lantern
      rw [(man_no h h' hp).1, xbd_some rfl, if_pos (by decide)]
    · unfold fX7_lantern
      rw [(man_no h h' hp).2, xbd_some rfl, if_pos (by decide)]
