/-! ===== OIL ===== -/
theorem x_over {a c : Nat} (ha : a < 10000) (hc : c < 10000) : (if (0 : Int32) < (nI a - nI c) then (nI a - nI c) else (0 : Int32)) = nI (a - c) := by
  have e : (nI a - nI c).toInt = (a : Int) - c := by rw [x_sub (by rw [nI_toInt (by omega), nI_toInt (by omega)]; omega) (by rw [nI_toInt (by omega), nI_toInt (by omega)]; omega), nI_toInt (by omega), nI_toInt (by omega)]
  by_cases h : c < a
  · rw [if_pos (by rw [x_lt, e, x_z]; omega), x_subN (by omega) (by omega)]
  · rw [if_neg (by rw [x_lt, e, x_z]; omega), show a - c = 0 by omega]
    rfl
theorem sumN_list (f : Nat → Nat) : ∀ n, sumN n f = ((List.range n).map f).sum
  | 0 => rfl
  | n + 1 => by
    show sumN n f + f n = _
    rw [sumN_list f n, List.range_succ, List.map_append, List.sum_append]
    simp
theorem sumN_perm {M : Nat} {po pl : Nat → Nat} (hpm : PM M po pl) (f : Nat → Nat) : sumN M (fun l => f (po l)) = sumN M f := by
  rw [sumN_list, sumN_list]
  have e : (List.range M).map (fun l => f (po l)) = ((List.range M).map po).map f := by rw [List.map_map]; rfl
  rw [e]
  have hn : ((List.range M).map po).Nodup := by
    refine List.pairwise_map.mpr (List.Pairwise.imp_of_mem ?_ List.pairwise_lt_range)
    intro a b ha hb hab z
    have q1 := (hpm.1 a (List.mem_range.mp ha)).2
    have q2 := (hpm.1 b (List.mem_range.mp hb)).2
    rw [z, q2] at q1
    omega
  have hp : ((List.range M).map po).Perm (List.range M) := by
    refine (List.perm_ext_iff_of_nodup hn List.nodup_range).mpr fun a => ?_
    rw [List.mem_map, List.mem_range]
    constructor
    · rintro ⟨x, hx, rfl⟩
      exact (hpm.1 x (List.mem_range.mp hx)).1
    · intro ha
      exact ⟨pl a, List.mem_range.mpr (hpm.2 a ha).1, (hpm.2 a ha).2⟩
  exact List.Perm.sum_nat (hp.map f)
def oi2 (lt : Nat → Nat) (l : Nat) : Nat := if lt l = 1 then 1000 else 0
theorem oil_L35 {M b : Nat} {pl oi lt : Nat → Nat} {s : Nat → Int32} (h' : M ≤ 6) (hlt : ∀ l, l < M → lt l ≤ 1) (hs : MR M pl oi lt b s) (k : Int32 → (Nat → Int32) → (Nat → Int32) → Option (Int32 × (Nat → Int32) × (Nat → Int32) × (Nat → Int32))) : ∀ (d i G : Nat) (f g : Nat → Int32), i + d = M → d < G → (∀ j, (j < 6 ∨ 12 ≤ j) → f j = s j) → (∀ l, l < i → f (6 + l) = nI (oi2 lt l) ∧ g l = nI 0) → ∃ f' g', fX7_oil_L35 (nI M) k G (nI i) f g = k (nI M) f' g' ∧ MR M pl (oi2 lt) lt b f' ∧ ∀ l, l < M → g' l = nI 0 := by
  intro d
  induction d with
  | zero =>
    intro i G f g h1 h2 h3 h4
    obtain ⟨G, rfl⟩ : ∃ G', G = G' + 1 := ⟨G - 1, by omega⟩
    obtain rfl : i = M := by omega
    exact ⟨f, g, by rw [fX7_oil_L35, if_pos (Int32.le_refl _)], ⟨fun p hp => by rw [h3 p (by omega), hs.1 p hp], fun l hl => (h4 l hl).1, fun l hl => by rw [h3 _ (by omega), hs.2.2.1 l hl], by rw [h3 _ (by omega), hs.2.2.2]⟩, fun l hl => (h4 l hl).2⟩
  | succ d ih =>
    intro i G f g h1 h2 h3 h4
    obtain ⟨G, rfl⟩ : ∃ G', G = G' + 1 := ⟨G - 1, by omega⟩
    have el : f (12 + i) = nI (lt i) := by rw [h3 _ (by omega), hs.2.2.1 i (by omega)]
    have step : ∀ v, nI (oi2 lt i) = v → ∃ f' g', fX7_oil_L35 (nI M) k G (nI (i + 1)) (upd f (6 + i) v) (upd g i (0 : Int32)) = k (nI M) f' g' ∧ MR M pl (oi2 lt) lt b f' ∧ ∀ l, l < M → g' l = nI 0 := by
      intro v hv
      refine ih (i + 1) G _ _ (by omega) (by omega) (fun j hj => ?_) (fun l hl => ?_)
      · unfold upd
        rw [if_neg (by omega), h3 j hj]
      · unfold upd
        by_cases e : l = i
        · rw [if_pos (by omega), if_pos e, e]
          exact ⟨hv.symm, rfl⟩
        · rw [if_neg (by omega), if_neg e]
          exact h4 l (by omega)
    rw [fX7_oil_L35, if_neg (nI_ge (by omega) (by omega)), show (12 : Int32) = nI 12 from rfl, nI_add, if_neg (nI_in (by omega) (by omega)), nI_clamp (by omega), el]
    by_cases c : lt i = 1
    · rw [if_pos ((nI_is1 (hlt i (by omega))).mpr c), show (6 : Int32) = nI 6 from rfl, nI_add, if_neg (nI_in (by omega) (by omega)), if_neg (nI_in (by omega) (by omega)), nI_clamp (by omega), nI_clamp (by omega), nI_1]
      exact step _ (by unfold oi2; rw [if_pos c]; rfl)
    · rw [if_neg (fun z => c ((nI_is1 (hlt i (by omega))).mp z)), show (6 : Int32) = nI 6 from rfl, nI_add, if_neg (nI_in (by omega) (by omega)), if_neg (nI_in (by omega) (by omega)), nI_clamp (by omega), nI_clamp (by omega), nI_1]
      exact step _ (by unfold oi2; rw [if_neg c]; rfl)
theorem oil_L95 {M st nd b set n : Nat} {pl po oi lt D : Nat → Nat} {s mv : Nat → Int32} (h : 2 ≤ M) (h' : M ≤ 6) (hpm : PM M po pl) (hset : set < 64) (hn : n < 1000) (hs : MR M (plN M st pl n) (oiN po oi lt D n) (ltN po oi lt D n) (b + n) s) (k : Int32 → (Nat → Int32) → Option (Int32 × (Nat → Int32) × (Nat → Int32) × (Nat → Int32))) : ∀ (d i G : Nat) (w : Nat → Int32), i + d = M → d < G → (∃ w' : Nat → Int32, (∀ l, l < M → w' l = if i ≤ (po l + n * st) % M ∧ btl set ((po l + n * st) % M) = 1 then nI (n + 1) else w l) ∧ (∀ q, i ≤ q → q < M → btl set q = 1 → ltN po oi lt D n (plN M st pl n q) = 1) ∧ fX7_oil_L95 (nI M) (nI set) (nI n) s mv k G (nI i) w = k (nI M) w') ∨ (∃ w' : Nat → Int32, (∃ q, i ≤ q ∧ q < M ∧ btl set q = 1 ∧ ¬ ltN po oi lt D n (plN M st pl n q) = 1) ∧ fX7_oil_L95 (nI M) (nI set) (nI n) s mv k G (nI i) w = some (-4, s, mv, w')) := by
  intro d
  induction d with
  | zero =>
    intro i G w h1 h2
    obtain ⟨G, rfl⟩ : ∃ G', G = G' + 1 := ⟨G - 1, by omega⟩
    obtain rfl : i = M := by omega
    refine Or.inl ⟨w, fun l hl => ?_, fun q q1 q2 => by omega, by rw [fX7_oil_L95, if_pos (Int32.le_refl _)]⟩
    have := Nat.mod_lt (po l + n * st) (show 0 < i by omega)
    rw [if_neg (by omega)]
  | succ d ih =>
    intro i G w h1 h2
    obtain ⟨G, rfl⟩ : ∃ G', G = G' + 1 := ⟨G - 1, by omega⟩
    have hi : i < M := by omega
    have hb := btl_le set i
    have hh : fX7_has (nI set) (nI i) = some (nI (btl set i)) := has_n hset (by omega)
    have hpl := hpm.2 _ (bk_lt (M := M) (p := i) (k := n * st) h)
    have hpl' : plN M st pl n i < M := hpl.1
    have epo : (po (plN M st pl n i) + n * st) % M = i := by
      unfold plN
      rw [hpl.2, bk_fw h h' hi]
    by_cases c : btl set i = 1
    · have ell : fX7_isLit_tried s (nI i) = some (nI (ltN po oi lt D n (plN M st pl n i))) := fX7_isLit_tried_n h' hs hi hpl' ltN_le
      have hll := ltN_le (po := po) (oi := oi) (lt := lt) (D := D) (n := n) (l := plN M st pl n i)
      by_cases c2 : ltN po oi lt D n (plN M st pl n i) = 1
      · have e0 : ∀ R, fX7_oil_L95 (nI M) (nI set) (nI n) s mv k G (nI (i + 1)) (upd w (plN M st pl n i) (nI (n + 1))) = R → fX7_oil_L95 (nI M) (nI set) (nI n) s mv k (G + 1) (nI i) w = R := by
          intro R hR
          rw [fX7_oil_L95, if_neg (nI_ge hi (by omega)), hh, c, xbd_some rfl, if_neg (by decide), ell, c2, xbd_some rfl, if_neg (by decide), if_neg (nI_in (by omega) (by omega)), nI_clamp (by omega), hs.1 i hi, if_neg (nI_in (by omega) (by omega)), nI_clamp (by omega), nI_1, nI_1]
          exact hR
        rcases ih (i + 1) G (upd w (plN M st pl n i) (nI (n + 1))) (by omega) (by omega) with ⟨w', q1, q2, q3⟩ | ⟨w', ⟨q, q1, q2, q3, q4⟩, q5⟩
        · refine Or.inl ⟨w', fun l hl => ?_, fun q r1 r2 r3 => ?_, e0 _ q3⟩
          · rw [q1 l hl]
            by_cases e : l = plN M st pl n i
            · rw [e, epo, if_neg (by omega), if_pos ⟨Nat.le_refl _, c⟩]
              exact if_pos rfl
            · have hne : ¬ (po l + n * st) % M = i := by
                intro z
                refine e ?_
                unfold plN
                rw [← z, fw_bk h h' (hpm.1 l hl).1, (hpm.1 l hl).2]
              unfold upd
              rw [if_neg e]
              by_cases c3 : i + 1 ≤ (po l + n * st) % M ∧ btl set ((po l + n * st) % M) = 1
              · rw [if_pos c3, if_pos ⟨by omega, c3.2⟩]
              · rw [if_neg c3, if_neg (fun z => c3 ⟨by omega, z.2⟩)]
          · by_cases e : q = i
            · rw [e]; exact c2
            · exact q2 q (by omega) r2 r3
        · exact Or.inr ⟨w', ⟨q, by omega, q2, q3, q4⟩, e0 _ q5⟩
      · refine Or.inr ⟨w, ⟨i, Nat.le_refl _, hi, c, c2⟩, ?_⟩
        rw [fX7_oil_L95, if_neg (nI_ge hi (by omega)), hh, c, xbd_some rfl, if_neg (by decide), ell, show ltN po oi lt D n (plN M st pl n i) = 0 by omega, xbd_some rfl, if_pos (by decide)]
    · have e0 : ∀ R, fX7_oil_L95 (nI M) (nI set) (nI n) s mv k G (nI (i + 1)) w = R → fX7_oil_L95 (nI M) (nI set) (nI n) s mv k (G + 1) (nI i) w = R := by
        intro R hR
        rw [fX7_oil_L95, if_neg (nI_ge hi (by omega)), hh, show btl set i = 0 by omega, xbd_some rfl, if_pos (by decide), nI_1]
        exact hR
      rcases ih (i + 1) G w (by omega) (by omega) with ⟨w', q1, q2, q3⟩ | ⟨w', ⟨q, q1, q2, q3, q4⟩, q5⟩
      · refine Or.inl ⟨w', fun l hl => ?_, fun q r1 r2 r3 => ?_, e0 _ q3⟩
        · rw [q1 l hl]
          by_cases c3 : i + 1 ≤ (po l + n * st) % M ∧ btl set ((po l + n * st) % M) = 1
          · rw [if_pos c3, if_pos ⟨by omega, c3.2⟩]
          · rw [if_neg c3, if_neg (fun z => c3 ⟨?_, z.2⟩)]
            have : ¬ (po l + n * st) % M = i := fun y => c (by rw [← y]; exact z.2)
            omega
        · by_cases e : q = i
          · exact absurd (by rw [← e]; exact r3) c
          · exact q2 q (by omega) r2 r3
      · exact Or.inr ⟨w', ⟨q, by omega, q2, q3, q4⟩, e0 _ q5⟩
theorem oil_L87 {M st nd b set n : Nat} {kd o0 ch l0 dB dP su po pl oi lt D : Nat → Nat} {sn dk aP : Int32} {kr orw lr dr : Nat → Int32} (hT : TB M st nd kd o0 ch l0 dB dP su) (hM : TM M st nd kd o0 ch l0 dB dP su sn dk kr orw lr dr) (hpm : PM M po pl) (hol : ∀ l, l < M → lt l ≤ 1 ∧ lt l ≤ oi l ∧ oi l < 10000) (hb : b ≤ 9999) (hD : isD (Bl dB dP nd) M st b D) (hset : set < 2 ^ M) (hn : n ≤ 20) (F : Nat) (hF : 1000 < F) (k : Int32 → (Nat → Int32) → (Nat → Int32) → (Nat → Int32) → Option (Int32 × (Nat → Int32) × (Nat → Int32) × (Nat → Int32))) : ∀ (d i G : Nat) (s v w : Nat → Int32), i + d = n + 1 → d < G → MR M (plN M st pl i) (oiN po oi lt D i) (ltN po oi lt D i) (b + i) s → (∀ l, l < M → w l = nI (bnN M st set (po l) i)) → (∀ j, j < i → ∀ q, q < M → btl set q = 1 → ltN po oi lt D j (plN M st pl j q) = 1) → (∃ s' m' w', (∀ l, l < M → w' l = nI (bnN M st set (po l) (n + 1))) ∧ (∀ j, j ≤ n → ∀ q, q < M → btl set q = 1 → ltN po oi lt D j (plN M st pl j q) = 1) ∧ fX7_oil_L87 (nI M) (nI st) (nI nd) (-1) aP dr (nI set) (nI n) F k G (nI i) s v w = k (nI (n + 1)) s' m' w') ∨ (∃ s' m' w', (¬ ∀ j, j ≤ n → ∀ q, q < M → btl set q = 1 → ltN po oi lt D j (plN M st pl j q) = 1) ∧ fX7_oil_L87 (nI M) (nI st) (nI nd) (-1) aP dr (nI set) (nI n) F k G (nI i) s v w = some (-4, s', m', w')) := by
  obtain ⟨h, h', hst, hnd, hk, hl, hd, hsu⟩ := hT
  have h64 := two_le64 h'
  have hX := BX_none (nd := nd) (dB := dB) (dP := dP) (aP := aP) (M := M) (b := b) (n := 21) (by omega)
  intro d
  induction d with
  | zero =>
    intro i G s v w h1 h2 h3 h4 h5
    obtain ⟨G, rfl⟩ : ∃ G', G = G' + 1 := ⟨G - 1, by omega⟩
    obtain rfl : i = n + 1 := by omega
    exact Or.inl ⟨s, v, w, h4, fun j hj => h5 j (by omega), by rw [fX7_oil_L87, if_pos (nI_lt (by omega) (by omega))]⟩
  | succ d ih =>
    intro i G s v w h1 h2 h3 h4 h5
    obtain ⟨G, rfl⟩ : ∃ G', G = G' + 1 := ⟨G - 1, by omega⟩
    have go := oil_L95 (mv := v) (nd := nd) h h' hpm (show set < 64 by omega) (show i < 1000 by omega) h3 (fun (v95_4 : Int32) (w95_mok_34 : Nat → Int32) => xbd (fX7_ring_tried F (nI M) (nI st) (nI nd) (-1) aP dr s v) (fun (u155 : (Nat → Int32) × (Nat → Int32)) => fX7_oil_L87 (nI M) (nI st) (nI nd) (-1) aP dr (nI set) (nI n) F k G (nI i + 1) u155.1 u155.2 w95_mok_34)) M 0 F w (by omega) (by omega)
    have ej : ∀ R, fX7_oil_L95 (nI M) (nI set) (nI i) s v (fun (v95_4 : Int32) (w95_mok_34 : Nat → Int32) => xbd (fX7_ring_tried F (nI M) (nI st) (nI nd) (-1) aP dr s v) (fun (u155 : (Nat → Int32) × (Nat → Int32)) => fX7_oil_L87 (nI M) (nI st) (nI nd) (-1) aP dr (nI set) (nI n) F k G (nI i + 1) u155.1 u155.2 w95_mok_34)) F (nI 0) w = R → fX7_oil_L87 (nI M) (nI st) (nI nd) (-1) aP dr (nI set) (nI n) F k (G + 1) (nI i) s v w = R := by
      intro R hR
      rw [fX7_oil_L87, if_neg (nI_nlt (by omega) (by omega))]
      exact hR
    rcases go with ⟨w', q1, q2, q3⟩ | ⟨w', ⟨q, q1, q2, q3, q4⟩, q5⟩
    · obtain ⟨s1, m1, g1, g2⟩ := ring_tried_c (n := i) (mv := v) (aB := (-1 : Int32)) (aP := aP) h h' hst hnd (by omega) (by omega) (fun i hi => ⟨(hM.2.1 i hi).1, (hM.2.1 i hi).2, (hd i hi).2.1, (hd i hi).2.2⟩) (hX.2 i (by omega)) hpm hol (Bl dB dP nd) (hX.1 i (by omega)) hD h3 F (by omega)
      have ej2 := ej _ (q3.trans (xbd_some g1))
      rw [nI_1] at ej2
      have ih' := ih (i + 1) G s1 m1 w' (by omega) (by omega) g2 (fun l hl => by
        rw [q1 l hl, h4 l hl]
        show _ = nI (if btl set ((po l + i * st) % M) = 1 then i + 1 else bnN M st set (po l) i)
        by_cases c : btl set ((po l + i * st) % M) = 1
        · rw [if_pos ⟨Nat.zero_le _, c⟩, if_pos c]
        · rw [if_neg (fun z => c z.2), if_neg c]) (fun j hj q hq hbq => by
        by_cases e : j = i
        · subst e
          exact q2 q (Nat.zero_le _) hq hbq
        · exact h5 j (by omega) q hq hbq)
      rw [ej2]
      exact ih'
    · exact Or.inr ⟨s, v, w', fun z => q4 (z i (by omega) q q2 q3), ej _ q5⟩
theorem oil_L169 {M b : Nat} {pl oi lt : Nat → Nat} {now w : Nat → Int32} {t : Nat → Nat} (h' : M ≤ 6) (hs : MR M pl oi lt b now) (hoi : ∀ l, l < M → oi l < 1000 ∧ t l < 1000 ∧ w l = nI (t l)) (k : Int32 → Int32 → Option (Int32 × (Nat → Int32) × (Nat → Int32) × (Nat → Int32))) : ∀ (d i G : Nat), i + d = M → d < G → fX7_oil_L169 (nI M) now w k G (nI i) (nI (sumN i (fun l => t l - oi l))) = k (nI M) (nI (sumN M (fun l => t l - oi l))) := by
  intro d
  induction d with
  | zero =>
    intro i G h1 h2
    obtain ⟨G, rfl⟩ : ∃ G', G = G' + 1 := ⟨G - 1, by omega⟩
    obtain rfl : i = M := by omega
    rw [fX7_oil_L169, if_pos (Int32.le_refl _)]
  | succ d ih =>
    intro i G h1 h2
    obtain ⟨G, rfl⟩ : ∃ G', G = G' + 1 := ⟨G - 1, by omega⟩
    have q := hoi i (by omega)
    have ih' := ih (i + 1) G (by omega) (by omega)
    rw [show sumN (i + 1) (fun l => t l - oi l) = sumN i (fun l => t l - oi l) + (t i - oi i) from rfl] at ih'
    rw [fX7_oil_L169, if_neg (nI_ge (by omega) (by omega)), if_neg (nI_in (by omega) (by omega)), nI_clamp (by omega), show (6 : Int32) = nI 6 from rfl, nI_add, if_neg (nI_in (by omega) (by omega)), nI_clamp (by omega), q.2.2, hs.2.1 i (by omega), nI_1]
    by_cases c : t i ≤ oi i
    · rw [if_pos (nI_le c (by omega)), show nI (sumN i (fun l => t l - oi l)) + (0 : Int32) = nI (sumN i (fun l => t l - oi l)) from Int32.add_zero _]
      rw [show t i - oi i = 0 by omega, Nat.add_zero] at ih'
      exact ih'
    · rw [if_neg (nI_ge (by omega) (by omega)), if_neg (nI_inc (by omega) (by omega)), if_neg (nI_inc (by omega) (by omega)), x_subN (by omega) (by omega), nI_add]
      exact ih'
theorem oil_L43 {M st set n : Nat} {po pl oi lt D : Nat → Nat} (h : 2 ≤ M) (h' : M ≤ 6) (hst : st ≤ 5) (hset : set < 64) (hn : n ≤ 20) (hpm : PM M po pl) (p1 : ∀ i, i < 6 → lt i ≤ 1) (hoi : ∀ l, l < M → oi l < 1000) (hD : ∀ q, q < M → D q ≤ 1000000) (F : Nat) (hF : 1000 < F) : ∀ (d i G : Nat), i + d = M → d < G → (∀ p, p < i → okP M st set n (oi2 lt) lt D p (pl p)) → fX6_oil_L43 (nI M) (nI st) (nI M) (nI (bts lt)) (fun j => nI (po j)) (fun j => nI (oi j)) (nI set) (nI n) F (fun j => nI (D j)) (fun (v43_4 : Int32) (v43_3 : Int32) => some (v43_3, (fun j => nI (D j)))) G (nI i) (nI (sumN i (fun p => bnN M st set p (n + 1) - oi (pl p)))) = some ((nI (sumN M (fun p => bnN M st set p (n + 1) - oi (pl p)))), (fun j => nI (D j))) ∧ (∀ p, p < M → okP M st set n (oi2 lt) lt D p (pl p)) ∨ fX6_oil_L43 (nI M) (nI st) (nI M) (nI (bts lt)) (fun j => nI (po j)) (fun j => nI (oi j)) (nI set) (nI n) F (fun j => nI (D j)) (fun (v43_4 : Int32) (v43_3 : Int32) => some (v43_3, (fun j => nI (D j)))) G (nI i) (nI (sumN i (fun p => bnN M st set p (n + 1) - oi (pl p)))) = some (-4, (fun j => nI (D j))) ∧ ¬ (∀ p, p < M → okP M st set n (oi2 lt) lt D p (pl p)) := by
  intro d
  induction d with
  | zero =>
    intro i G h1 h2 h3
    obtain ⟨G, rfl⟩ : ∃ G', G = G' + 1 := ⟨G - 1, by omega⟩
    obtain rfl : i = M := by omega
    exact Or.inl ⟨by rw [fX6_oil_L43, if_pos (Int32.le_refl _)], h3⟩
  | succ d ih =>
    intro i G h1 h2 h3
    obtain ⟨G, rfl⟩ : ∃ G', G = G' + 1 := ⟨G - 1, by omega⟩
    have hi : i < M := by omega
    have hbn := bnN_lt M st set i (n + 1)
    have hpl := (hpm.2 i hi).1
    have ho := hoi _ hpl
    have hd := hD i hi
    have hlt := p1 (pl i) (by omega)
    have ih' := fun z => ih (i + 1) G (by omega) (by omega) z
    rw [show sumN (i + 1) (fun p => bnN M st set p (n + 1) - oi (pl p)) = sumN i (fun p => bnN M st set p (n + 1) - oi (pl p)) + (bnN M st set i (n + 1) - oi (pl i)) from rfl] at ih'
    have next : okP M st set n (oi2 lt) lt D i (pl i) → ∀ p, p < i + 1 → okP M st set n (oi2 lt) lt D p (pl p) := by
      intro z p hp
      by_cases e : p = i
      · rw [e]; exact z
      · exact h3 p (by omega)
    have eok : okP M st set n (oi2 lt) lt D i (pl i) ↔ (bnN M st set i (n + 1) = 0 ∨ (lt (pl i) = 1 ∧ bnN M st set i (n + 1) ≤ D i)) := by
      unfold okP LFd oi2
      by_cases c : lt (pl i) = 1
      · rw [if_pos c, if_pos c]
        omega
      · rw [if_neg c]
        omega
    rw [fX6_oil_L43, if_neg (nI_ge hi (by omega)), bellsNeeded_n h h' hst hset (by omega) hn F hF, xbd_some rfl, fX1_lanternAt_n h' hpm hi F (by omega), xbd_some rfl]
    by_cases c0 : bnN M st set i (n + 1) = 0
    · rw [if_pos (show nI (bnN M st set i (n + 1)) ≤ 0 by rw [c0]; exact Int32.le_refl _), fX3_get_eq _ _ _ (by omega), rget_n (by omega) (by omega), xbd_some rfl, x_over (by omega) (by omega), nI_add, nI_1]
      exact ih' (next (eok.mpr (Or.inl c0)))
    · rw [if_neg (nI_nle (by omega) (by omega)), fX1_isLit_n p1 (by omega), xbd_some rfl]
      by_cases c1 : lt (pl i) = 1
      · rw [c1, if_neg (by decide), fX3_get_eq _ _ _ (by omega), rget_n (by omega) (by omega), xbd_some rfl]
        by_cases c2 : bnN M st set i (n + 1) ≤ D i
        · rw [if_pos (nI_le c2 (by omega)), fX3_get_eq _ _ _ (by omega), rget_n (by omega) (by omega), xbd_some rfl, x_over (by omega) (by omega), nI_add, nI_1]
          exact ih' (next (eok.mpr (Or.inr ⟨c1, c2⟩)))
        · rw [if_neg (nI_ge (by omega) (by omega))]
          exact Or.inr ⟨rfl, fun z => by have := eok.mp (z i hi); omega⟩
      · rw [show lt (pl i) = 0 by omega, if_pos (by decide)]
        exact Or.inr ⟨rfl, fun z => by have := eok.mp (z i hi); omega⟩
theorem op_oil {M st nd b : Nat} {kd o0 ch l0 dB dP su po pl oi lt : Nat → Nat} {sn dk aP : Int32} {kr orw lr dr now tr mv wt zf : Nat → Int32} (hT : TB M st nd kd o0 ch l0 dB dP su) (hM : TM M st nd kd o0 ch l0 dB dP su sn dk kr orw lr dr) (hP : PB M po pl oi lt b) (hs : MR M pl oi lt b now) (F : Nat) (hF : 1000 < F) (a1 a2 : Int32) : ∃ r zf' tr' mv' wt', fX6_oil F (nI M) (nI st) (nI nd) (fun j => nI (dB j)) (fun j => nI (dP j)) (nI M) (nI (bts lt)) (nI b) (fun j => nI (po j)) (fun j => nI (oi j)) zf a1 a2 = some (r, zf') ∧ fX7_oil F (nI M) (nI st) (nI nd) (-1) aP dr now tr mv wt a1 a2 = some (r, tr', mv', wt') := by
  have hT' := hT
  obtain ⟨h, h', hst, hnd, hk, hl, hd, hsu⟩ := hT'
  obtain ⟨hpm, p1, p2, p3, p4⟩ := hP
  obtain ⟨z, rfl⟩ := row_nI zf
  have h64 := two_le64 h'
  have h4 : 2 ^ 2 ≤ 2 ^ M := Nat.pow_le_pow_right (by omega) h
  rcases rng a1 (lo := 0) (hi := 2 ^ M - 1) (by omega) (by omega) with ⟨set, _, hset, rfl⟩ | hset
  · have hset' : set < 2 ^ M := by omega
    rcases rng a2 (lo := 0) (hi := 20) (by omega) (by omega) with ⟨n, _, hn, rfl⟩ | hn
    · obtain ⟨D, hD, eD⟩ := fX5_reckonDraughts_n h h' hst hnd (show b < 10000 by omega) (fun i hi => ⟨(hd i hi).2.1, (hd i hi).2.2⟩) F (by omega) z
      have hD1 : ∀ q, q < M → D q ≤ 1000000 := fun q hq => (hD q hq).2.1
      have hoi : ∀ l, l < M → oi l < 1000 := fun l hl => by have := (p3 l hl).2; omega
      have hlt : ∀ l, l < M → lt l ≤ 1 := fun l hl => p1 l (by omega)
      have hol2 : ∀ l, l < M → lt l ≤ 1 ∧ lt l ≤ oi2 lt l ∧ oi2 lt l < 10000 := by
        intro l hl
        have := hlt l hl
        unfold oi2
        split <;> omega
      have k6 := oil_L43 (st := st) (set := set) (n := n) h h' hst (by omega) hn hpm p1 hoi hD1 F hF M 0 F (by omega) (by omega) (fun p hp => absurd hp (Nat.not_lt_zero _))
      obtain ⟨f1, c1, c2, -⟩ := fX7_copy_now_tried_n now tr (fr := 0) (to := 0) (by omega) (by omega) F (by omega)
      have hs1 : MR M pl oi lt b f1 := MR_copy h' hs (fun k hk => by have := c2 k hk; rw [Nat.zero_add] at this; exact this)
      obtain ⟨f2, w2, d1, d2, d3⟩ := oil_L35 h' hlt hs1 (fun (v35_3 : Int32) (w35_mok_23 : Nat → Int32) (w35_mok_34 : Nat → Int32) => fX7_oil_L87 (nI M) (nI st) (nI nd) (-1) aP dr (nI set) (nI n) F (fun (v87_3 : Int32) (w87_mok_23 : Nat → Int32) (w87_mok_33 : Nat → Int32) (w87_mok_34 : Nat → Int32) => fX7_oil_L169 (nI M) now w87_mok_34 (fun (v169_4 : Int32) (v169_3 : Int32) => some (v169_3, (w87_mok_23, w87_mok_33, w87_mok_34))) F (0 : Int32) (0 : Int32)) F (0 : Int32) w35_mok_23 mv w35_mok_34) M 0 F f1 wt (by omega) (by omega) (fun _ _ => rfl) (fun l hl => absurd hl (Nat.not_lt_zero _))
      have k7 := oil_L87 (aP := aP) (n := n) hT hM hpm hol2 p4 hD hset' hn F hF (fun (v87_3 : Int32) (w87_mok_23 : Nat → Int32) (w87_mok_33 : Nat → Int32) (w87_mok_34 : Nat → Int32) => fX7_oil_L169 (nI M) now w87_mok_34 (fun (v169_4 : Int32) (v169_3 : Int32) => some (v169_3, (w87_mok_23, w87_mok_33, w87_mok_34))) F (0 : Int32) (0 : Int32)) (n + 1) 0 F f2 mv w2 (by omega) (by omega) (MR_0 h h' hpm (fun l hl => ⟨hlt l hl, (hol2 l hl).2.1⟩) hD d2) d3 (fun j hj => absurd hj (Nat.not_lt_zero _))
      have e6 : ∀ R, fX6_oil_L43 (nI M) (nI st) (nI M) (nI (bts lt)) (fun j => nI (po j)) (fun j => nI (oi j)) (nI set) (nI n) F (fun j => nI (D j)) (fun (v43_4 : Int32) (v43_3 : Int32) => some (v43_3, (fun j => nI (D j)))) F (nI 0) (nI (sumN 0 (fun p => bnN M st set p (n + 1) - oi (pl p)))) = R → fX6_oil F (nI M) (nI st) (nI nd) (fun j => nI (dB j)) (fun j => nI (dP j)) (nI M) (nI (bts lt)) (nI b) (fun j => nI (po j)) (fun j => nI (oi j)) (fun j => nI (z j)) (nI set) (nI n) = R := by
        intro R hR
        unfold fX6_oil
        rw [(set_yes h h' hset').1, xbd_some rfl, if_neg (by decide), if_neg (nI_pos (by omega)), if_pos (show nI n ≤ (20 : Int32) from nI_le (b := 20) hn (by omega)), eD, xbd_some rfl]
        exact hR
      have e7 : ∀ R, fX7_oil_L87 (nI M) (nI st) (nI nd) (-1) aP dr (nI set) (nI n) F (fun (v87_3 : Int32) (w87_mok_23 : Nat → Int32) (w87_mok_33 : Nat → Int32) (w87_mok_34 : Nat → Int32) => fX7_oil_L169 (nI M) now w87_mok_34 (fun (v169_4 : Int32) (v169_3 : Int32) => some (v169_3, (w87_mok_23, w87_mok_33, w87_mok_34))) F (0 : Int32) (0 : Int32)) F (nI 0) f2 mv w2 = R → fX7_oil F (nI M) (nI st) (nI nd) (-1) aP dr now tr mv wt (nI set) (nI n) = R := by
        intro R hR
        unfold fX7_oil
        rw [(set_yes h h' hset').2, xbd_some rfl, if_neg (by decide), show fX7_in (nI n) 0 20 = some 1 from in_yes (lo := 0) (hi := 20) (Nat.zero_le _) hn (by omega), xbd_some rfl, if_neg (by decide), show fX7_copy_now_tried F now tr (0 : Int32) (0 : Int32) = some f1 from c1, xbd_some rfl]
        exact (d1.trans hR)
      have hiff := lit_iff (st := st) (set := set) (n := n) (oi := oi2 lt) (lt := lt) (D := D) h h' hpm
      rcases k7 with ⟨s', m', w', q1, q2, q3⟩ | ⟨s', m', w', q2, q3⟩
      · have hall := hiff.mp q2
        rcases k6 with ⟨k6, _⟩ | ⟨_, k6⟩
        · have k8 := oil_L169 (t := fun l => bnN M st set (po l) (n + 1)) h' hs (fun l hl => ⟨hoi l hl, by have := bnN_lt M st set (po l) (n + 1); show bnN M st set (po l) (n + 1) < 1000; omega, q1 l hl⟩) (fun (v169_4 : Int32) (v169_3 : Int32) => some (v169_3, (s', m', w'))) M 0 F (by omega) (by omega)
          have esum : sumN M (fun l => bnN M st set (po l) (n + 1) - oi l) = sumN M (fun p => bnN M st set p (n + 1) - oi (pl p)) := by
            rw [← sumN_perm hpm (fun p => bnN M st set p (n + 1) - oi (pl p))]
            exact sumN_congr (fun l hl => by rw [(hpm.1 l hl).2])
          rw [esum] at k8
          exact ⟨_, _, s', m', w', e6 _ k6, e7 _ (q3.trans k8)⟩
        · exact absurd hall k6
      · rcases k6 with ⟨_, k6⟩ | ⟨k6, _⟩
        · exact absurd (hiff.mpr k6) q2
        · exact ⟨_, _, s', m', w', e6 _ k6, e7 _ q3⟩
    · refine ⟨-1, (fun j => nI (z j)), tr, mv, wt, ?_, ?_⟩
      · unfold fX6_oil
        rw [(set_yes h h' hset').1, xbd_some rfl, if_neg (by decide)]
        by_cases c : a2 < 0
        · rw [if_pos c]
        · rw [if_neg c, if_neg (show ¬ a2 ≤ (20 : Int32) from fun w => ?_)]
          have q := hn.resolve_left c
          rw [x_lt, nI_toInt (by omega)] at q
          rw [x_le] at w
          have e : (20 : Int32).toInt = 20 := rfl
          omega
      · unfold fX7_oil
        rw [(set_yes h h' hset').2, xbd_some rfl, if_neg (by decide), show fX7_in a2 0 20 = some 0 from in_no hn, xbd_some rfl, if_pos (by decide)]
  · refine ⟨-1, (fun j => nI (z j)), tr, mv, wt, ?_, ?_⟩
    · unfold fX6_oil
      rw [(set_no h h' hset).1, xbd_some rfl, if_pos (by decide)]
    · unfold fX7_oil
      rw [(set_no h h' hset).2, xbd_some rfl, if_pos (by decide)]
