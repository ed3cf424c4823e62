/-! ===== fits, odds: the answers ===== -/
theorem oil64 {M : Nat} {o0 : Nat → Nat} (h : 2 ≤ M) (h' : M ≤ 6) : bts (mixN M (fun l => if o0 l = 0 then 0 else 1) (fun _ => 0)) < 2 ^ M ∧ 2 ^ M ≤ 64 := by
  refine ⟨mix_bts_lt h h' (fun i => ?_), ?_⟩
  · show (if o0 i = 0 then 0 else 1) ≤ 1
    split <;> omega
  · rcases M_cases h h' with rfl | rfl | rfl | rfl | rfl <;> decide
theorem some_D {M st nd : Nat} {kd o0 ch l0 dB dP su : Nat → Nat} (hT : TB M st nd kd o0 ch l0 dB dP su) : ∃ D, isD (Bl dB dP nd) M st 0 D := by
  obtain ⟨D, hD, _⟩ := fX5_reckonDraughts_n (b := 0) (dB := dB) (dP := dP) hT.1 hT.2.1 hT.2.2.1 hT.2.2.2.1 (by omega) (fun i hi => ⟨(hT.2.2.2.2.2.2.1 i hi).2.1, (hT.2.2.2.2.2.2.1 i hi).2.2⟩) 7 (by omega) (fun _ => 0)
  exact ⟨D, hD⟩
theorem op_fits {M st nd cnt : Nat} {kd o0 ch l0 dB dP su fp fn fw : Nat → Nat} {sf sto sn dk aP : Int32} {kr orw lr dr sr tr mv ff : Nat → Int32} (hT : TB M st nd kd o0 ch l0 dB dP su) (hM : TM M st nd kd o0 ch l0 dB dP su sn dk kr orw lr dr) (hC : SC su sf sto) (hf : FB M cnt fp fn fw) (hfm : FM cnt fp fn fw sr) (F : Nat) (hF : 1000 < F) : ∃ r ff' tr' mv', fX6_fits F (nI M) (nI st) (nI nd) sf sto (fun j => nI (kd j)) (fun j => nI (o0 j)) (fun j => nI (dB j)) (fun j => nI (dP j)) ff (nI cnt) (fun j => nI (fp j)) (fun j => nI (fn j)) (fun j => nI (fw j)) = some (r, ff') ∧ fX7_fits F (nI M) (nI st) (nI nd) sn dk (nI cnt) (-1) aP (-1) kr orw lr dr tr sr mv = some (r, tr', mv') := by
  obtain ⟨z, rfl⟩ := row_nI ff
  obtain ⟨D, hD⟩ := some_D hT
  obtain ⟨o1, o2⟩ := oil64 (o0 := o0) hT.1 hT.2.1
  obtain ⟨ff', e1⟩ := fX6_setsWith_n (a1 := 0) (mp := fun _ => True) hT hC hf hD rfl (by omega) (fun s _ => ⟨fun _ => True.intro, fun _ => Int32.zero_and⟩) F hF z
  obtain ⟨s', m', e2⟩ := fX7_fitsWith_n (a1 := -1) (aP := aP) (s := tr) (mv := mv) (mp := fun _ => True) hT hM hf hfm hD rfl (by omega) (Or.inl ⟨by decide, fun _ => True.intro⟩) F hF
  rw [sum_sets hT.1 hT.2.1 o1] at e1
  refine ⟨nI (sumN (2 ^ M) (fun s => tv (cnP M st cnt (bts (mixN M (fun l => if o0 l = 0 then 0 else 1) (fun _ => 0))) kd su fp fn fw o0 D (fun _ => True) s))), (fun j => nI (ff' j)), s', m', ?_, ?_⟩
  rotate_left
  · unfold fX7_fits
    rw [e2, xbd2_some rfl]
  · unfold fX6_fits
    rw [e1, xbd2_some rfl]
theorem fX6_commonDivisor_n {a b : Nat} (ha : a < 1000) (hb : b ≤ 64) (F : Nat) (hF : 1000 < F) : fX6_commonDivisor F (nI a) (nI b) = some (nI (Nat.gcd a b)) := by
  have key : ∀ (s b c G : Nat), s + c ≤ 64 → s < G → b < 1000 → fX6_commonDivisor_L7 (fun (v7_4 : Int32) (v7_3 : Int32) (v7_2 : Int32) => some v7_2) G (nI c) (nI s) (nI b) = some (nI (Nat.gcd b s)) := by
    intro s
    induction s using Nat.strongRecOn with
    | _ s ih =>
      intro b c G h1 h2 h3
      obtain ⟨G, rfl⟩ : ∃ G', G = G' + 1 := ⟨G - 1, by omega⟩
      rw [fX6_commonDivisor_L7]
      by_cases e : s = 0
      · subst e
        rw [Nat.gcd_zero_right]
        by_cases c1 : (64 : Int32) ≤ nI c
        · rw [if_pos c1]
        · rw [if_neg c1, if_pos (by decide)]
      · have hm := Nat.mod_lt b (show 0 < s by omega)
        rw [show (64 : Int32) = nI 64 from rfl, if_neg (nI_ge (by omega) (by omega)), if_neg (nI_nle (by omega) (by omega)), if_neg (nI_ne0 (by omega) (by omega)), nI_1, x_remN (by omega) (by omega) (by omega), ih (b % s) hm s (c + 1) G (by omega) (by omega) (by omega)]
        rw [Nat.gcd_comm s (b % s), ← Nat.gcd_rec, Nat.gcd_comm]
  exact key b a 0 F (by omega) (by omega) ha
theorem fX7_odds_L46_n {ρ : Type} (k : Int32 → Int32 → Option (Int32 × (Nat → Int32) × (Nat → Int32))) : ∀ (s b G : Nat), s < G → s < 1000 → b < 1000 → fX7_odds_L46 k G (nI s) (nI b) = k (nI 0) (nI (Nat.gcd b s)) := by
  intro s
  induction s using Nat.strongRecOn with
  | _ s ih =>
    intro b G h2 h4 h3
    obtain ⟨G, rfl⟩ : ∃ G', G = G' + 1 := ⟨G - 1, by omega⟩
    rw [fX7_odds_L46]
    by_cases e : s = 0
    · subst e
      rw [Nat.gcd_zero_right, if_pos (by decide)]
    · have hm := Nat.mod_lt b (show 0 < s by omega)
      rw [if_neg (nI_nle (by omega) (by omega)), if_neg (nI_ne0 (by omega) (by omega)), x_remN (by omega) (by omega) (by omega), ih (b % s) hm s G (by omega) (by omega) (by omega)]
      rw [Nat.gcd_comm s (b % s), ← Nat.gcd_rec, Nat.gcd_comm]
theorem has_n {s l : Nat} (hs : s < 64) (hl : l < 6) : fX7_has (nI s) (nI l) = some (nI (btl s l)) := by
  unfold fX7_has
  rw [xb_btl hs hl]
  exact xb_flag (btl_le s l)
theorem op_odds {M st nd cnt : Nat} {kd o0 ch l0 dB dP su fp fn fw : Nat → Nat} {sf sto sn dk aP : Int32} {kr orw lr dr sr tr mv ff : Nat → Int32} (hT : TB M st nd kd o0 ch l0 dB dP su) (hM : TM M st nd kd o0 ch l0 dB dP su sn dk kr orw lr dr) (hC : SC su sf sto) (hf : FB M cnt fp fn fw) (hfm : FM cnt fp fn fw sr) (F : Nat) (hF : 1000 < F) (a1 a2 : Int32) : ∃ r ff' tr' mv', fX6_odds F (nI M) (nI st) (nI nd) sf sto (fun j => nI (kd j)) (fun j => nI (o0 j)) (fun j => nI (dB j)) (fun j => nI (dP j)) ff (nI cnt) (fun j => nI (fp j)) (fun j => nI (fn j)) (fun j => nI (fw j)) a1 a2 = some (r, ff') ∧ fX7_odds F (nI M) (nI st) (nI nd) sn dk (nI cnt) (-1) aP (-1) kr orw lr dr tr sr mv a1 a2 = some (r, tr', mv') := by
  have h := hT.1
  have h' := hT.2.1
  obtain ⟨z, rfl⟩ := row_nI ff
  obtain ⟨D, hD⟩ := some_D hT
  obtain ⟨o1, o2⟩ := oil64 (o0 := o0) hT.1 hT.2.1
  rcases rng a1 (lo := 0) (hi := M - 1) (by omega) (by omega) with ⟨l, _, hp, rfl⟩ | hp
  · have hp' : l < M := by omega
    rcases rng a2 (lo := 0) (hi := 1) (by omega) (by omega) with ⟨n, _, hn, rfl⟩ | hn
    · obtain ⟨ff', e1⟩ := fX6_setsWith_n (a1 := 0) (mp := fun _ => True) hT hC hf hD rfl (by omega) (fun s _ => ⟨fun _ => True.intro, fun _ => Int32.zero_and⟩) F hF z
      obtain ⟨s', m', e2⟩ := fX7_fitsWith_n (a1 := -1) (aP := aP) (s := tr) (mv := mv) (mp := fun _ => True) hT hM hf hfm hD rfl (by omega) (Or.inl ⟨by decide, fun _ => True.intro⟩) F hF
      rw [sum_sets hT.1 hT.2.1 o1] at e1
      obtain ⟨ff2, e3⟩ := fX6_setsWith_n (a1 := (1 : Int32) <<< (nI l &&& 31)) (mp := fun s => s / 2 ^ l % 2 = 1) hT hC hf hD rfl (by omega) (fun s hs => by rw [xb_one l (by omega)]; exact xb_must s hs l (by omega)) F hF ff'
      obtain ⟨s2, m2, e4⟩ := fX7_fitsWith_n (a1 := nI l) (aP := aP) (s := s') (mv := m') (mp := fun s => s / 2 ^ l % 2 = 1) hT hM hf hfm hD rfl (by omega) (Or.inr ⟨nI_pos (by omega), fun s hs => by
        rw [has_n hs (by omega)]
        have hb := btl_le s l
        by_cases c : btl s l = 1
        · exact Or.inl ⟨by rw [c]; rfl, c⟩
        · exact Or.inr ⟨by rw [show btl s l = 0 by omega]; rfl, c⟩⟩) F hF
      rw [sum_sets hT.1 hT.2.1 o1] at e3
      generalize hB : sumN (2 ^ M) (fun s => tv (cnP M st cnt (bts (mixN M (fun l => if o0 l = 0 then 0 else 1) (fun _ => 0))) kd su fp fn fw o0 D (fun _ => True) s)) = below at e1 e2
      generalize hA : sumN (2 ^ M) (fun s => tv (cnP M st cnt (bts (mixN M (fun l => if o0 l = 0 then 0 else 1) (fun _ => 0))) kd su fp fn fw o0 D (fun s => s / 2 ^ l % 2 = 1) s)) = above at e3 e4
      have bB : below ≤ 2 ^ M * 1 := by rw [← hB]; exact sumN_le (fun _ _ => tv_le)
      have bA : above ≤ 2 ^ M * 1 := by rw [← hA]; exact sumN_le (fun _ _ => tv_le)
      by_cases c : below = 0
      · refine ⟨-4, (fun j => nI (ff' j)), s', m', ?_, ?_⟩
        rotate_left
        · unfold fX7_odds
          rw [(man_yes h h' hp').2, xbd_some rfl, if_neg (by decide), show fX7_in (nI n) 0 1 = some 1 from in_yes (lo := 0) (hi := 1) (by omega) hn (by omega), xbd_some rfl, if_neg (by decide), e2, xbd2_some rfl, c, if_pos (by decide)]
        · unfold fX6_odds
          rw [(man_yes h h' hp').1, xbd_some rfl, if_neg (by decide), if_neg (nI_pos (by omega)), if_pos (show nI n ≤ 1 from nI_le (b := 1) hn (by omega)), e1, xbd2_some rfl, c, if_pos (by decide)]
      · have hg := Nat.gcd_pos_of_pos_right above (show 0 < below by omega)
        have hg2 := Nat.gcd_le_right above (show 0 < below by omega)
        refine ⟨if nI n = 0 then nI above / nI (Nat.gcd above below) else nI below / nI (Nat.gcd above below), (fun j => nI (ff2 j)), s2, m2, ?_, ?_⟩
        rotate_left
        · unfold fX7_odds
          rw [(man_yes h h' hp').2, xbd_some rfl, if_neg (by decide), show fX7_in (nI n) 0 1 = some 1 from in_yes (lo := 0) (hi := 1) (by omega) hn (by omega), xbd_some rfl, if_neg (by decide), e2, xbd2_some rfl, if_neg (nI_ne0 (by omega) (by omega)), e4, xbd2_some rfl, fX7_odds_L46_n (ρ := Unit) _ below above F (by omega) (by omega) (by omega)]
          by_cases c2 : nI n = 0
          · rw [if_pos c2, if_pos c2, if_neg (nI_ne0 hg (by omega))]
          · rw [if_neg c2, if_neg c2, if_neg (nI_ne0 hg (by omega))]
        · unfold fX6_odds
          rw [(man_yes h h' hp').1, xbd_some rfl, if_neg (by decide), if_neg (nI_pos (by omega)), if_pos (show nI n ≤ 1 from nI_le (b := 1) hn (by omega)), e1, xbd2_some rfl, if_neg (nI_ne0 (by omega) (by omega)), e3, xbd2_some rfl, fX6_commonDivisor_n (by omega) (by omega) F hF, xbd_some rfl, if_pos (show 1 ≤ nI (Nat.gcd above below) from nI_le (a := 1) hg (by omega))]
          by_cases c2 : nI n = 0
          · rw [if_pos c2, if_pos c2, if_neg (nI_ne0 hg (by omega))]
          · rw [if_neg c2, if_neg c2, if_neg (nI_ne0 hg (by omega))]
    · refine ⟨-1, (fun j => nI (z j)), tr, mv, ?_, ?_⟩
      rotate_left
      · unfold fX7_odds
        rw [(man_yes h h' hp').2, xbd_some rfl, if_neg (by decide), show fX7_in a2 0 1 = some 0 from in_no hn, xbd_some rfl, if_pos (by decide)]
      · unfold fX6_odds
        rw [(man_yes h h' hp').1, xbd_some rfl, if_neg (by decide)]
        by_cases c : a2 < 0
        · rw [if_pos c]
        · rw [if_neg c, if_neg]
          have hn2 := hn.resolve_left c
          rw [x_lt] at hn2
          rw [x_le]
          exact fun z => absurd hn2 (Int.not_lt.mpr z)
  · refine ⟨-1, (fun j => nI (z j)), tr, mv, ?_, ?_⟩
    rotate_left
    · unfold fX7_odds
      rw [(man_no h h' hp).2, xbd_some rfl, if_pos (by decide)]
    · unfold fX6_odds
      rw [(man_no h h' hp).1, xbd_some rfl, if_pos (by decide)]
/-! ===== coldHands ===== -/
theorem op_coldHands {M st nd cnt : Nat} {kd o0 ch l0 dB dP su fp fn fw : Nat → Nat} {sf sto sn dk aP : Int32} {kr orw lr dr sr tr mv ff : Nat → Int32} (hT : TB M st nd kd o0 ch l0 dB dP su) (hM : TM M st nd kd o0 ch l0 dB dP su sn dk kr orw lr dr) (hC : SC su sf sto) (hf : FB M cnt fp fn fw) (hfm : FM cnt fp fn fw sr) (F : Nat) (hF : 1000 < F) : ∃ r ff' tr' mv', fX6_coldHands F (nI M) (nI (bts l0)) (nI st) (nI nd) sf sto (fun j => nI (kd j)) (fun j => nI (o0 j)) (fun j => nI (dB j)) (fun j => nI (dP j)) ff (nI cnt) (fun j => nI (fp j)) (fun j => nI (fn j)) (fun j => nI (fw j)) = some (r, ff') ∧ fX7_coldHands F (nI M) (nI st) (nI nd) sn dk (nI cnt) (-1) aP (-1) kr orw lr dr tr sr mv = some (r, -1, tr', mv') := by
  have hT' := hT
  obtain ⟨h, h', hst, hnd, hk, hl, hd, hsu⟩ := hT'
  obtain ⟨z, rfl⟩ := row_nI ff
  have hl6 : ∀ i, i < 6 → l0 i ≤ 1 := fun i hi => (hk i hi).2.2.2.1
  have hb64 := bts_lt hl6
  obtain ⟨D, hD, eD⟩ := fX5_reckonLit_n hT hb64 F hF z
  have hbl : ∀ l, l < M → btl (bts l0) l = l0 l := fun l hl2 => bts_bit hl6 (by omega)
  have hPB : PB M (fun p => p) (fun p => p) o0 l0 0 := ⟨id_PM M, hl6, hl, fun l hl2 => ⟨(hk l (by omega)).2.2.2.2.1, by have := (hk l (by omega)).2.1; omega⟩, by omega⟩
  have hX : BX nd dB dP (-1) aP M 0 61 (Bl dB dP nd) := BX_none (by omega)
  have ask : ∀ (aC : Int32) (s v : Nat → Int32), ∃ u s' m', fX7_begin_tried F orw lr s = some u ∧ fX7_isAsSeen F (nI M) (nI st) (nI nd) sn dk (nI cnt) (-1) aP aC kr dr u sr v = some (nI (tv (agP M st cnt kd su fp fn fw o0 (btl (bts l0)) D aC)), s', m') := by
    intro aC s v
    obtain ⟨u, e0, hs0⟩ := fX7_begin_tried_n (M := M) (o0 := o0) (ch := ch) (l0 := l0) (kr := orw) (lr := lr) (s := s) h' (fun i hi => ⟨(hk i hi).2.2.2.2.2, by have := (hk i hi).2.1; omega, (hM.1 i hi).2.1, (hM.1 i hi).2.2⟩) F (by omega)
    obtain ⟨s', m', e⟩ := fX7_isAsSeen_n (aC := aC) (mv := v) hT hM hf hfm hPB hX hD hs0 F hF
    refine ⟨u, s', m', e0, ?_⟩
    rw [e]
    congr 3
    exact tv_congr (agP_uniq (lt := l0) (lt' := btl (bts l0)) h hD hD (fun l hl2 => (hbl l hl2).symm) hf)
  have cls : ∀ aC : Int32, fX0_agrees F (nI cnt) (fun j => nI (fp j)) (fun j => nI (fn j)) (fun j => nI (fw j)) (nI M) (nI st) sf sto (fun j => nI (kd j)) (fun j => nI (mixN M (litF (fun p => p) o0 (btl (bts l0)) D) D j)) aC 6 = some (nI (tv (agP M st cnt kd su fp fn fw o0 (btl (bts l0)) D aC))) := fun aC => agrees_set hT hC hf hD F hF
  -- the loops, with the first answer in either way
  have keyc : ∀ (w : Nat) (d i G : Nat), (w = 0 ∨ w = 64) → i + d = M → d < G → fX6_coldHands_L46 (nI M) (nI st) sf sto (fun j => nI (kd j)) (nI cnt) (fun j => nI (fp j)) (fun j => nI (fn j)) (fun j => nI (fw j)) F (fun j => nI (mixN M (litF (fun p => p) o0 (btl (bts l0)) D) D j)) (fun (v46_2 : Int32) (v46_1 : Int32) => some (v46_1, (fun j => nI (mixN M (litF (fun p => p) o0 (btl (bts l0)) D) D j)))) G (nI i) (nI (w + bts (mixN i (fun p => tv (agP M st cnt kd su fp fn fw o0 (btl (bts l0)) D (nI p))) (fun _ => 0)))) = some (nI (w + bts (mixN M (fun p => tv (agP M st cnt kd su fp fn fw o0 (btl (bts l0)) D (nI p))) (fun _ => 0))), (fun j => nI (mixN M (litF (fun p => p) o0 (btl (bts l0)) D) D j))) := by
    intro w d
    induction d with
    | zero =>
      intro i G hw h1 h2
      obtain ⟨G, rfl⟩ : ∃ G', G = G' + 1 := ⟨G - 1, by omega⟩
      obtain rfl : i = M := by omega
      rw [fX6_coldHands_L46, if_pos (Int32.le_refl _)]
    | succ d ih =>
      intro i G hw h1 h2
      obtain ⟨G, rfl⟩ : ∃ G', G = G' + 1 := ⟨G - 1, by omega⟩
      have ht := tv_le (P := agP M st cnt kd su fp fn fw o0 (btl (bts l0)) D (nI i))
      rw [fX6_coldHands_L46, if_neg (nI_ge (by omega) (by omega)), cls, xbd_some rfl, nI_1]
      rcases (show tv (agP M st cnt kd su fp fn fw o0 (btl (bts l0)) D (nI i)) = 0 ∨ tv (agP M st cnt kd su fp fn fw o0 (btl (bts l0)) D (nI i)) = 1 by omega) with e | e
      · rw [e, if_pos (by decide), ← acc_no (i := i) (g := fun p => tv (agP M st cnt kd su fp fn fw o0 (btl (bts l0)) D (nI p))) e]
        exact ih (i + 1) G hw (by omega) (by omega)
      · rw [e, if_neg (by decide), acc_or64 hw (g := fun p => tv (agP M st cnt kd su fp fn fw o0 (btl (bts l0)) D (nI p))) (by omega) (fun _ _ => tv_le) e]
        exact ih (i + 1) G hw (by omega) (by omega)
  have keym : ∀ (w : Nat) (d i G : Nat) (c32 : Int32) (s v : Nat → Int32), (w = 0 ∨ w = 64) → i + d = M → d < G → ∃ s' m', fX7_coldHands_L24 (nI M) (nI st) (nI nd) sn dk (nI cnt) (-1) aP kr orw lr dr sr F (fun (v24_2 : Int32) (v24_1 : Int32) (w24_moi_32 : Int32) (w24_mok_23 : Nat → Int32) (w24_mok_33 : Nat → Int32) => some (v24_1, ((-1 : Int32), w24_mok_23, w24_mok_33))) G (nI i) (nI (w + bts (mixN i (fun p => tv (agP M st cnt kd su fp fn fw o0 (btl (bts l0)) D (nI p))) (fun _ => 0)))) c32 s v = some (nI (w + bts (mixN M (fun p => tv (agP M st cnt kd su fp fn fw o0 (btl (bts l0)) D (nI p))) (fun _ => 0))), -1, s', m') := by
    intro w d
    induction d with
    | zero =>
      intro i G c32 s v hw h1 h2
      obtain ⟨G, rfl⟩ : ∃ G', G = G' + 1 := ⟨G - 1, by omega⟩
      obtain rfl : i = M := by omega
      exact ⟨s, v, by rw [fX7_coldHands_L24, if_pos (Int32.le_refl _)]⟩
    | succ d ih =>
      intro i G c32 s v hw h1 h2
      obtain ⟨G, rfl⟩ : ∃ G', G = G' + 1 := ⟨G - 1, by omega⟩
      have ht := tv_le (P := agP M st cnt kd su fp fn fw o0 (btl (bts l0)) D (nI i))
      obtain ⟨u, s1, m1, e0, e1⟩ := ask (nI i) s v
      obtain ⟨s', m', e2⟩ := ih (i + 1) G (nI i) s1 m1 hw (by omega) (by omega)
      refine ⟨s', m', ?_⟩
      rw [fX7_coldHands_L24, if_neg (nI_ge (by omega) (by omega)), e0, xbd_some rfl, e1, xbd2_some rfl, nI_1]
      rcases (show tv (agP M st cnt kd su fp fn fw o0 (btl (bts l0)) D (nI i)) = 0 ∨ tv (agP M st cnt kd su fp fn fw o0 (btl (bts l0)) D (nI i)) = 1 by omega) with e | e
      · rw [acc_no (i := i) (g := fun p => tv (agP M st cnt kd su fp fn fw o0 (btl (bts l0)) D (nI p))) e] at e2
        rw [e, if_pos (by decide), Int32.or_zero]
        exact e2
      · rw [e, if_neg (by decide), acc_or64 hw (g := fun p => tv (agP M st cnt kd su fp fn fw o0 (btl (bts l0)) D (nI p))) (by omega) (fun _ _ => tv_le) e]
        exact e2
  obtain ⟨u, s1, m1, e0, e1⟩ := ask (-1) tr mv
  by_cases c : agP M st cnt kd su fp fn fw o0 (btl (bts l0)) D (-1)
  · obtain ⟨s', m', e2⟩ := keym 64 M 0 F (-1) s1 m1 (Or.inr rfl) (by omega) (by omega)
    have e3 := keyc 64 M 0 F (Or.inr rfl) (by omega) (by omega)
    rw [mixN_0] at e2 e3
    refine ⟨nI (64 + bts (mixN M (fun p => tv (agP M st cnt kd su fp fn fw o0 (btl (bts l0)) D (nI p))) (fun _ => 0))), (fun j => nI (mixN M (litF (fun p => p) o0 (btl (bts l0)) D) D j)), s', m', ?_, ?_⟩
    rotate_left
    · unfold fX7_coldHands
      rw [e0, xbd_some rfl, e1, xbd2_some rfl, tv_pos c, if_neg (by decide)]
      exact e2
    · unfold fX6_coldHands
      rw [eD, xbd_some rfl, cls, xbd_some rfl, tv_pos c, if_neg (by decide)]
      exact e3
  · obtain ⟨s', m', e2⟩ := keym 0 M 0 F (-1) s1 m1 (Or.inl rfl) (by omega) (by omega)
    have e3 := keyc 0 M 0 F (Or.inl rfl) (by omega) (by omega)
    rw [mixN_0] at e2 e3
    refine ⟨nI (0 + bts (mixN M (fun p => tv (agP M st cnt kd su fp fn fw o0 (btl (bts l0)) D (nI p))) (fun _ => 0))), (fun j => nI (mixN M (litF (fun p => p) o0 (btl (bts l0)) D) D j)), s', m', ?_, ?_⟩
    rotate_left
    · unfold fX7_coldHands
      rw [e0, xbd_some rfl, e1, xbd2_some rfl, tv_neg c, if_pos (by decide)]
      exact e2
    · unfold fX6_coldHands
      rw [eD, xbd_some rfl, cls, xbd_some rfl, tv_neg c, if_pos (by decide)]
      exact e3
