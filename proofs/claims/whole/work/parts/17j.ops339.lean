/-! ===== fits, odds ===== -/
/-- a set that counts -/
def cnP (M st cnt oil : Nat) (kd su fp fn fw o0 D : Nat → Nat) (mp : Nat → Prop) (s : Nat) : Prop := nI s &&& (nI oil ^^^ (-1)) = 0 ∧ mp s ∧ agP M st cnt kd su fp fn fw o0 (btl s) D (-1)
theorem fX6_setsWith_n {M st nd cnt oil : Nat} {kd o0 ch l0 dB dP su fp fn fw D : Nat → Nat} {sf sto a1 : Int32} {mp : Nat → Prop} (hT : TB M st nd kd o0 ch l0 dB dP su) (hC : SC su sf sto) (hf : FB M cnt fp fn fw) (hD : isD (Bl dB dP nd) M st 0 D) (ho : oil = bts (mixN M (fun l => if o0 l = 0 then 0 else 1) (fun _ => 0))) (ho64 : oil < 64) (hm : ∀ s, s < 64 → (a1 &&& (nI s ^^^ (-1)) = 0 ↔ mp s)) (F : Nat) (hF : 1000 < F) (ff : Nat → Nat) : ∃ ff' : Nat → Nat, fX6_setsWith F (nI M) (nI st) (nI nd) sf sto (fun j => nI (kd j)) (fun j => nI (o0 j)) (fun j => nI (dB j)) (fun j => nI (dP j)) (fun j => nI (ff j)) (nI cnt) (fun j => nI (fp j)) (fun j => nI (fn j)) (fun j => nI (fw j)) a1 = some (nI (sumN (oil + 1) (fun s => tv (cnP M st cnt oil kd su fp fn fw o0 D mp s))), (fun j => nI (ff' j))) := by
  have key : ∀ (d i G : Nat) (ff : Nat → Nat), i + d = oil + 1 → d < G → ∃ ff' : Nat → Nat, fX6_setsWith_L13 (nI M) (nI st) (nI nd) sf sto (fun j => nI (kd j)) (fun j => nI (o0 j)) (fun j => nI (dB j)) (fun j => nI (dP j)) (nI cnt) (fun j => nI (fp j)) (fun j => nI (fn j)) (fun j => nI (fw j)) a1 F (nI oil) (fun (v13_4 : Int32) (v13_3 : Int32) (w13_ff : Nat → Int32) => some (v13_3, w13_ff)) G (nI i) (nI (sumN i (fun s => tv (cnP M st cnt oil kd su fp fn fw o0 D mp s)))) (fun j => nI (ff j)) = some (nI (sumN (oil + 1) (fun s => tv (cnP M st cnt oil kd su fp fn fw o0 D mp s))), (fun j => nI (ff' j))) := by
    intro d
    induction d with
    | zero =>
      intro i G ff h1 h2
      obtain ⟨G, rfl⟩ : ∃ G', G = G' + 1 := ⟨G - 1, by omega⟩
      obtain rfl : i = oil + 1 := by omega
      refine ⟨ff, ?_⟩
      rw [fX6_setsWith_L13, if_pos (nI_lt (by omega) (by omega))]
    | succ d ih =>
      intro i G ff h1 h2
      obtain ⟨G, rfl⟩ : ∃ G', G = G' + 1 := ⟨G - 1, by omega⟩
      have hi : i < 64 := by omega
      have hz : ∀ P : Prop, tv P = 0 → sumN (i + 1) (fun s => tv (cnP M st cnt oil kd su fp fn fw o0 D mp s)) = sumN i (fun s => tv (cnP M st cnt oil kd su fp fn fw o0 D mp s)) + tv (cnP M st cnt oil kd su fp fn fw o0 D mp i) := fun _ _ => rfl
      have hz' := hz False (tv_neg (fun z => z))
      by_cases c1 : nI i &&& (nI oil ^^^ (-1)) = 0
      · by_cases c2 : mp i
        · obtain ⟨E, hE, eE⟩ := fX5_reckonLit_n hT hi F hF ff
          obtain ⟨ff', e⟩ := ih (i + 1) G (mixN M (litF (fun p => p) o0 (btl i) E) E) (by omega) (by omega)
          refine ⟨ff', ?_⟩
          rw [fX6_setsWith_L13, if_neg (nI_nlt (by omega) (by omega)), if_pos c1, if_pos ((hm i hi).mpr c2), eE, xbd_some rfl, agrees_set hT hC hf hE F hF, xbd_some rfl, nI_1, nI_1]
          have eag := agP_uniq (kd := kd) (su := su) (oi := o0) (lt := btl i) (lt' := btl i) (aC := -1) hT.1 hE hD (fun _ _ => rfl) hf
          rw [hz'] at e
          by_cases c3 : agP M st cnt kd su fp fn fw o0 (btl i) E (-1)
          · rw [tv_pos (P := cnP M st cnt oil kd su fp fn fw o0 D mp i) ⟨c1, c2, eag.mp c3⟩] at e
            rw [tv_pos c3, if_neg (by decide)]
            exact e
          · rw [tv_neg (P := cnP M st cnt oil kd su fp fn fw o0 D mp i) (fun z => c3 (eag.mpr z.2.2)), Nat.add_zero] at e
            rw [tv_neg c3, if_pos (by decide)]
            exact e
        · obtain ⟨ff', e⟩ := ih (i + 1) G ff (by omega) (by omega)
          refine ⟨ff', ?_⟩
          rw [hz', tv_neg (P := cnP M st cnt oil kd su fp fn fw o0 D mp i) (fun z => c2 z.2.1), Nat.add_zero] at e
          rw [fX6_setsWith_L13, if_neg (nI_nlt (by omega) (by omega)), if_pos c1, if_neg (fun z => c2 ((hm i hi).mp z)), nI_1]
          exact e
      · obtain ⟨ff', e⟩ := ih (i + 1) G ff (by omega) (by omega)
        refine ⟨ff', ?_⟩
        rw [hz', tv_neg (P := cnP M st cnt oil kd su fp fn fw o0 D mp i) (fun z => c1 z.1), Nat.add_zero] at e
        rw [fX6_setsWith_L13, if_neg (nI_nlt (by omega) (by omega)), if_neg c1, nI_1]
        exact e
  obtain ⟨ff', e⟩ := key (oil + 1) 0 F ff (by omega) (by omega)
  refine ⟨ff', ?_⟩
  unfold fX6_setsWith
  rw [oil_set_c hT.2.1 (fun i hi => (hT.2.2.2.2.1 i hi).2.1) F (by omega), xbd_some rfl, ← ho]
  exact e
theorem btl_PB {M s : Nat} {o0 : Nat → Nat} (h' : M ≤ 6) (ho : ∀ l, l < M → btl s l ≤ o0 l ∧ o0 l ≤ 40) : PB M (fun p => p) (fun p => p) o0 (mixN M (btl s) (fun _ => 0)) 0 := by
  refine ⟨id_PM M, fun l hl => ?_, fun l hl => if_neg (by omega), fun l hl => ⟨?_, by have := (ho l hl).2; omega⟩, by omega⟩
  · show (if l < M then btl s l else 0) ≤ 1
    have := btl_le s l
    split <;> omega
  · show (if l < M then btl s l else 0) ≤ _
    rw [if_pos hl]
    exact (ho l hl).1
theorem fX7_isAsSeenBy_n {M st nd cnt set oil : Nat} {kd o0 ch l0 dB dP su fp fn fw D : Nat → Nat} {sn dk aP : Int32} {kr orw lr dr sr s mv : Nat → Int32} (hT : TB M st nd kd o0 ch l0 dB dP su) (hM : TM M st nd kd o0 ch l0 dB dP su sn dk kr orw lr dr) (hf : FB M cnt fp fn fw) (hfm : FM cnt fp fn fw sr) (hD : isD (Bl dB dP nd) M st 0 D) (hset : set < 64) (hso : ∀ l, l < M → btl set l ≤ o0 l) (F : Nat) (hF : 1000 < F) : ∃ s' m', fX7_isAsSeenBy F (nI M) (nI st) (nI nd) sn dk (nI cnt) (-1) aP (-1) kr orw lr dr s sr mv (nI set) = some (nI (tv (agP M st cnt kd su fp fn fw o0 (btl set) D (-1))), s', m') := by
  have hT' := hT
  obtain ⟨h, h', hst, hnd, hk, hl, hd, hsu⟩ := hT'
  obtain ⟨s0, e0, hs0⟩ := fX7_begin_tried_n (M := M) (o0 := o0) (ch := ch) (l0 := l0) (kr := orw) (lr := lr) (s := s) h' (fun i hi => ⟨(hk i hi).2.2.2.2.2, by have := (hk i hi).2.1; omega, (hM.1 i hi).2.1, (hM.1 i hi).2.2⟩) F (by omega)
  have key : ∀ (d i G : Nat) (f : Nat → Int32), i + d = M → d < G → ((∀ j, j < 12 ∨ 18 ≤ j → f j = s0 j) ∧ (∀ l, l < i → f (12 + l) = nI (btl set l))) → ∃ s' m', fX7_isAsSeenBy_L10 (nI M) (nI set) (fun (v10_2 : Int32) (w10_mok_23 : Nat → Int32) => xbd2 (fX7_isAsSeen F (nI M) (nI st) (nI nd) sn dk (nI cnt) (-1) aP (-1) kr dr w10_mok_23 sr mv) (fun (r39 : Int32) (u39 : (Nat → Int32) × (Nat → Int32)) => if r39 = 0 ∨ r39 = 1 then some (r39, (u39.1, u39.2)) else none)) G (nI i) f = some (nI (tv (agP M st cnt kd su fp fn fw o0 (btl set) D (-1))), s', m') := by
    intro d
    induction d with
    | zero =>
      intro i G f h1 h2 h3
      obtain ⟨G, rfl⟩ : ∃ G', G = G' + 1 := ⟨G - 1, by omega⟩
      obtain rfl : i = M := by omega
      have hs : MR i (fun p => p) o0 (mixN i (btl set) (fun _ => 0)) 0 f := by
        refine ⟨fun p hp => by rw [h3.1 p (by omega), hs0.1 p hp], fun l hl => by rw [h3.1 _ (by omega), hs0.2.1 l hl], fun l hl => ?_, by rw [h3.1 18 (by omega), hs0.2.2.2]⟩
        rw [h3.2 l hl]
        congr 1
        exact (if_pos hl).symm
      have hP := btl_PB (s := set) (o0 := o0) h' (fun l hl => ⟨hso l hl, (hk l (by omega)).2.1⟩)
      obtain ⟨s', m', e⟩ := fX7_isAsSeen_n (aC := -1) (mv := mv) hT hM hf hfm hP (BX_none (aP := aP) (b := 0) (n := 61) (by omega)) hD hs F hF
      refine ⟨s', m', ?_⟩
      rw [fX7_isAsSeenBy_L10, if_pos (Int32.le_refl _), e]
      have eag := agP_uniq (kd := kd) (su := su) (oi := o0) (lt := mixN i (btl set) (fun _ => 0)) (lt' := btl set) (aC := -1) h hD hD (fun l hl => if_pos hl) hf
      have eag' : tv (∀ j, j < cnt → okN i st fp fn fw kd (litF (fun p => p) o0 (mixN i (btl set) (fun _ => 0)) D) su (-1) j) = tv (agP i st cnt kd su fp fn fw o0 (btl set) D (-1)) := tv_congr eag
      rw [xbd2_some rfl, eag']
      have := tv_le (P := agP i st cnt kd su fp fn fw o0 (btl set) D (-1))
      rw [if_pos]
      rcases (show tv (agP i st cnt kd su fp fn fw o0 (btl set) D (-1)) = 0 ∨ tv (agP i st cnt kd su fp fn fw o0 (btl set) D (-1)) = 1 by omega) with e2 | e2 <;> rw [e2]
      · exact Or.inl rfl
      · exact Or.inr rfl
    | succ d ih =>
      intro i G f h1 h2 h3
      obtain ⟨G, rfl⟩ : ∃ G', G = G' + 1 := ⟨G - 1, by omega⟩
      obtain ⟨s', m', e⟩ := ih (i + 1) G (upd f (12 + i) (nI (btl set i))) (by omega) (by omega) ⟨fun j hj => by rw [pk_un (by omega), h3.1 j hj], fun l hl => by
        by_cases c : l = i
        · rw [c, pk_us]
        · rw [pk_un (by omega), h3.2 l (by omega)]⟩
      refine ⟨s', m', ?_⟩
      rw [fX7_isAsSeenBy_L10, if_neg (nI_ge (by omega) (by omega)), show (12 : Int32) = nI 12 from rfl, nI_add, if_neg (nI_in (by omega) (by omega)), nI_clamp (by omega), xb_btl hset (by omega), nI_1]
      exact e
  obtain ⟨s', m', e⟩ := key M 0 F s0 (by omega) (by omega) ⟨fun _ _ => rfl, fun l z => absurd z (Nat.not_lt_zero _)⟩
  refine ⟨s', m', ?_⟩
  unfold fX7_isAsSeenBy
  rw [e0, xbd_some rfl]
  exact e
/-- a set of lanterns that have oil has no lantern without -/
theorem xb_sub : ∀ o, o < 64 → ∀ s, s < 64 → nI s &&& (nI o ^^^ (-1)) = 0 → ∀ l, l < 6 → s / 2 ^ l % 2 ≤ o / 2 ^ l % 2 := by decide +kernel
theorem fX7_fitsWith_n {M st nd cnt oil : Nat} {kd o0 ch l0 dB dP su fp fn fw D : Nat → Nat} {sn dk aP a1 : Int32} {kr orw lr dr sr s mv : Nat → Int32} {mp : Nat → Prop} (hT : TB M st nd kd o0 ch l0 dB dP su) (hM : TM M st nd kd o0 ch l0 dB dP su sn dk kr orw lr dr) (hf : FB M cnt fp fn fw) (hfm : FM cnt fp fn fw sr) (hD : isD (Bl dB dP nd) M st 0 D) (ho : oil = bts (mixN M (fun l => if o0 l = 0 then 0 else 1) (fun _ => 0))) (ho64 : oil < 64) (hm : (a1 < 0 ∧ ∀ s, mp s) ∨ (¬ a1 < 0 ∧ ∀ s, s < 64 → (fX7_has (nI s) a1 = some 1 ∧ mp s) ∨ (fX7_has (nI s) a1 = some 0 ∧ ¬ mp s))) (F : Nat) (hF : 1000 < F) : ∃ s' m', fX7_fitsWith F (nI M) (nI st) (nI nd) sn dk (nI cnt) (-1) aP (-1) kr orw lr dr s sr mv a1 = some (nI (sumN (2 ^ M) (fun s => tv (cnP M st cnt oil kd su fp fn fw o0 D mp s))), s', m') := by
  have hT' := hT
  obtain ⟨h, h', hst, hnd, hk, hl, hd, hsu⟩ := hT'
  have hM64 : 2 ^ M ≤ 64 := by rcases M_cases h h' with rfl | rfl | rfl | rfl | rfl <;> decide
  have hso : ∀ i, i < 64 → nI i &&& (nI oil ^^^ (-1)) = 0 → ∀ l, l < M → btl i l ≤ o0 l := by
    intro i hi c l hl'
    have h1 := xb_sub oil ho64 i hi c l (by omega)
    have h2 : oil / 2 ^ l % 2 = (if o0 l = 0 then 0 else 1) := by
      rw [ho, bts_bit (fun j _ => by
        show (if j < M then (if o0 j = 0 then 0 else 1) else 0) ≤ 1
        split
        · split <;> omega
        · omega) (by omega)]
      exact if_pos hl'
    rw [h2] at h1
    unfold btl
    by_cases c2 : o0 l = 0
    · rw [if_pos c2] at h1
      omega
    · rw [if_neg c2] at h1
      omega
  have key : ∀ (d i G : Nat) (s v : Nat → Int32), i + d = 2 ^ M → d < G → ∃ s' m', fX7_fitsWith_L4 (nI M) (nI st) (nI nd) sn dk (nI cnt) (-1) aP (-1) kr orw lr dr sr a1 F (fun (v4_3 : Int32) (v4_2 : Int32) (w4_mok_23 : Nat → Int32) (w4_mok_33 : Nat → Int32) => some (v4_2, (w4_mok_23, w4_mok_33))) G (nI i) (nI (sumN i (fun s => tv (cnP M st cnt oil kd su fp fn fw o0 D mp s)))) s v = some (nI (sumN (2 ^ M) (fun s => tv (cnP M st cnt oil kd su fp fn fw o0 D mp s))), s', m') := by
    intro d
    induction d with
    | zero =>
      intro i G s v h1 h2
      obtain ⟨G, rfl⟩ : ∃ G', G = G' + 1 := ⟨G - 1, by omega⟩
      obtain rfl : i = 2 ^ M := by omega
      refine ⟨s, v, ?_⟩
      rw [fX7_fitsWith_L4, xb_one M (by omega), if_pos (Int32.le_refl _)]
    | succ d ih =>
      intro i G s v h1 h2
      obtain ⟨G, rfl⟩ : ∃ G', G = G' + 1 := ⟨G - 1, by omega⟩
      have hi : i < 64 := by omega
      have hz' : sumN (i + 1) (fun s => tv (cnP M st cnt oil kd su fp fn fw o0 D mp s)) = sumN i (fun s => tv (cnP M st cnt oil kd su fp fn fw o0 D mp s)) + tv (cnP M st cnt oil kd su fp fn fw o0 D mp i) := rfl
      have hb : (nI M < 7) := by rw [show (7 : Int32) = nI 7 from rfl]; exact nI_lt (by omega) (by omega)
      have hsum : sumN i (fun s => tv (cnP M st cnt oil kd su fp fn fw o0 D mp s)) ≤ i * 1 := sumN_le (fun _ _ => tv_le)
      have yes : nI i &&& (nI oil ^^^ (-1)) = 0 → mp i → ∃ s' m', (xbd2 (fX7_isAsSeenBy F (nI M) (nI st) (nI nd) sn dk (nI cnt) (-1) aP (-1) kr orw lr dr s sr v (nI i)) (fun (r52 : Int32) (u52 : (Nat → Int32) × (Nat → Int32)) => if r52 = 0 then (fX7_fitsWith_L4 (nI M) (nI st) (nI nd) sn dk (nI cnt) (-1) aP (-1) kr orw lr dr sr a1 F (fun (v4_3 : Int32) (v4_2 : Int32) (w4_mok_23 : Nat → Int32) (w4_mok_33 : Nat → Int32) => some (v4_2, (w4_mok_23, w4_mok_33))) G (nI i + 1) (nI (sumN i (fun s => tv (cnP M st cnt oil kd su fp fn fw o0 D mp s))) + (0 : Int32)) u52.1 u52.2) else (fX7_fitsWith_L4 (nI M) (nI st) (nI nd) sn dk (nI cnt) (-1) aP (-1) kr orw lr dr sr a1 F (fun (v4_3 : Int32) (v4_2 : Int32) (w4_mok_23 : Nat → Int32) (w4_mok_33 : Nat → Int32) => some (v4_2, (w4_mok_23, w4_mok_33))) G (nI i + 1) (nI (sumN i (fun s => tv (cnP M st cnt oil kd su fp fn fw o0 D mp s))) + (1 : Int32)) u52.1 u52.2))) = some (nI (sumN (2 ^ M) (fun s => tv (cnP M st cnt oil kd su fp fn fw o0 D mp s))), s', m') := by
        intro c1 c2
        obtain ⟨s1, m1, e1⟩ := fX7_isAsSeenBy_n (s := s) (mv := v) (aP := aP) (oil := oil) hT hM hf hfm hD hi (hso i hi c1) F hF
        obtain ⟨s', m', e⟩ := ih (i + 1) G s1 m1 (by omega) (by omega)
        refine ⟨s', m', ?_⟩
        rw [e1, xbd2_some rfl, nI_1]
        rw [hz'] at e
        by_cases c3 : agP M st cnt kd su fp fn fw o0 (btl i) D (-1)
        · rw [tv_pos (P := cnP M st cnt oil kd su fp fn fw o0 D mp i) ⟨c1, c2, c3⟩] at e
          rw [tv_pos c3, if_neg (by decide), nI_1]
          exact e
        · rw [tv_neg (P := cnP M st cnt oil kd su fp fn fw o0 D mp i) (fun z => c3 z.2.2)] at e
          rw [tv_neg c3, if_pos (by decide), show (0 : Int32) = nI 0 from rfl, nI_add]
          exact e
      have no : ¬ (nI i &&& (nI oil ^^^ (-1)) = 0 ∧ mp i) → ∃ s' m', fX7_fitsWith_L4 (nI M) (nI st) (nI nd) sn dk (nI cnt) (-1) aP (-1) kr orw lr dr sr a1 F (fun (v4_3 : Int32) (v4_2 : Int32) (w4_mok_23 : Nat → Int32) (w4_mok_33 : Nat → Int32) => some (v4_2, (w4_mok_23, w4_mok_33))) G (nI i + 1) (nI (sumN i (fun s => tv (cnP M st cnt oil kd su fp fn fw o0 D mp s))) + (0 : Int32)) s v = some (nI (sumN (2 ^ M) (fun s => tv (cnP M st cnt oil kd su fp fn fw o0 D mp s))), s', m') := by
        intro c
        obtain ⟨s', m', e⟩ := ih (i + 1) G s v (by omega) (by omega)
        refine ⟨s', m', ?_⟩
        rw [hz', tv_neg (P := cnP M st cnt oil kd su fp fn fw o0 D mp i) (fun z => c ⟨z.1, z.2.1⟩)] at e
        rw [nI_1, show (0 : Int32) = nI 0 from rfl, nI_add]
        exact e
      rw [fX7_fitsWith_L4, xb_one M (by omega), if_neg (nI_ge (by omega) (by omega)), oil_set_m h' (fun j hj => ⟨(hk j hj).2.1, (hk j hj).2.2.2.2.2, (hM.1 j hj).2.1⟩) F (by omega), ← ho, xbd_some rfl]
      by_cases c1 : nI i &&& (nI oil ^^^ (-1)) = 0
      · rw [if_pos c1]
        rcases hm with ⟨hm1, hm2⟩ | ⟨hm1, hm2⟩
        · rw [if_pos hm1]
          exact yes c1 (hm2 i)
        · rw [if_neg hm1]
          rcases hm2 i hi with ⟨g1, g2⟩ | ⟨g1, g2⟩
          · rw [g1, xbd_some rfl, if_neg (by decide)]
            exact yes c1 g2
          · rw [g1, xbd_some rfl, if_pos (by decide)]
            exact no (fun z => g2 z.2)
      · rw [if_neg c1]
        exact no (fun z => c1 z.1)
  obtain ⟨s', m', e⟩ := key (2 ^ M) 0 F s mv (by omega) (by omega)
  exact ⟨s', m', e⟩
theorem sum_sets {M st cnt oil : Nat} {kd su fp fn fw o0 D : Nat → Nat} {mp : Nat → Prop} (h : 2 ≤ M) (h' : M ≤ 6) (ho : oil < 2 ^ M) : sumN (oil + 1) (fun s => tv (cnP M st cnt oil kd su fp fn fw o0 D mp s)) = sumN (2 ^ M) (fun s => tv (cnP M st cnt oil kd su fp fn fw o0 D mp s)) := by
  have hM64 : 2 ^ M ≤ 64 := by rcases M_cases h h' with rfl | rfl | rfl | rfl | rfl <;> decide
  have e := sumN_tail (n := oil + 1) (k := 2 ^ M - (oil + 1)) (f := fun s => tv (cnP M st cnt oil kd su fp fn fw o0 D mp s)) (fun i h1 h2 => tv_neg (fun z => xb_over oil (by omega) i (by omega) (by omega) z.1))
  rw [show (oil + 1) + (2 ^ M - (oil + 1)) = 2 ^ M by omega] at e
  exact e.symm
theorem xb_or64 : ∀ s, s < 64 → ∀ l, l < 6 → nI (64 + s) ||| nI (2 ^ l) = nI (64 + (if s / 2 ^ l % 2 = 1 then s else s + 2 ^ l)) := by decide +kernel
theorem acc_or64 {w i : Nat} {g : Nat → Nat} (hw : w = 0 ∨ w = 64) (hi : i < 6) (hg : ∀ j, j < 6 → g j ≤ 1) (h1 : g i = 1) : nI (w + bts (mixN i g (fun _ => 0))) ||| ((1 : Int32) <<< (nI i &&& 31)) = nI (w + bts (mixN (i + 1) g (fun _ => 0))) := by
  have htm : ∀ j, j < 6 → mixN i g (fun _ => 0) j ≤ 1 := by
    intro j hj
    unfold mixN
    split
    · exact hg j hj
    · exact Nat.zero_le _
  have e4 := bts_set (t := mixN i g (fun _ => 0)) (l := i) (v := 1) hi
  rw [mixN_succ h1.symm, mixN_at] at e4
  rcases hw with rfl | rfl
  · rw [Nat.zero_add, Nat.zero_add, xb_one i (by omega), xb_or _ (bts_lt htm) i hi, bts_bit htm hi, mixN_at, if_neg (by omega)]
    congr 1
    omega
  · rw [xb_one i (by omega), xb_or64 _ (bts_lt htm) i hi, bts_bit htm hi, mixN_at, if_neg (by omega)]
    congr 1
    omega
