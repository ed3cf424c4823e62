/-! ===== fill, light, change, bells ===== -/
theorem MR_oil {M b l v : Nat} {pl oi lt : Nat → Nat} {s : Nat → Int32} (h' : M ≤ 6) (hl : l < M) (hs : MR M pl oi lt b s) : MR M pl (updN oi l v) lt b (upd s (6 + l) (nI v)) := by
  refine ⟨fun p hp => ?_, fun k hk => ?_, fun k hk => ?_, ?_⟩
  · unfold upd
    rw [if_neg (by omega), hs.1 p hp]
  · unfold upd updN
    by_cases e : k = l
    · rw [if_pos (by omega), if_pos e]
    · rw [if_neg (by omega), if_neg e, hs.2.1 k hk]
  · unfold upd
    rw [if_neg (by omega), hs.2.2.1 k hk]
  · unfold upd
    rw [if_neg (by omega), hs.2.2.2]
theorem MR_lit {M b l v : Nat} {pl oi lt : Nat → Nat} {s : Nat → Int32} (h' : M ≤ 6) (hl : l < M) (hs : MR M pl oi lt b s) : MR M pl oi (updN lt l v) b (upd s (12 + l) (nI v)) := by
  refine ⟨fun p hp => ?_, fun k hk => ?_, fun k hk => ?_, ?_⟩
  · unfold upd
    rw [if_neg (by omega), hs.1 p hp]
  · unfold upd
    rw [if_neg (by omega), hs.2.1 k hk]
  · unfold upd updN
    by_cases e : k = l
    · rw [if_pos (by omega), if_pos e]
    · rw [if_neg (by omega), if_neg e, hs.2.2.1 k hk]
  · unfold upd
    rw [if_neg (by omega), hs.2.2.2]
theorem cheese_n {ch : Nat → Nat} {l : Nat} (hc : ∀ i, i < 6 → ch i ≤ 1) (hl : l < 6) : fX5_isCheese (nI (bts ch)) (nI l) = some (nI (ch l)) := by
  unfold fX5_isCheese
  rw [xb_get hc hl]
  rcases (show ch l = 0 ∨ ch l = 1 by have := hc l hl; omega) with e | e <;> rw [e] <;> rfl
theorem op_fill {M st nd n b : Nat} {kd o0 ch l0 dB dP su po pl oi lt : Nat → Nat} {sn dk : Int32} {kr orw lr dr now back : Nat → Int32} {jg : Nat → Option Nat} {jb : Nat → Nat} {jr ja : Nat → Nat → Nat} {ji : Nat → Nat → Int32} {jk : Nat → Nat → Nat → Int32} (hT : TB M st nd kd o0 ch l0 dB dP su) (hM : TM M st nd kd o0 ch l0 dB dP su sn dk kr orw lr dr) (hn : n ≤ 8) (hg : ∀ k, k < 8 → jg k = some (jb k)) (hS : SH M n ji jk back) (hP : PB M po pl oi lt b) (hs : MR M pl oi lt b now) (F : Nat) (hF : 1000 < F) (a1 a2 : Int32) : ∃ r : Int32, ∃ oi' : Nat → Nat, ∃ now' : Nat → Int32, ∃ n' : Nat, ∃ jg' : Nat → Option Nat, ∃ jb' : Nat → Nat, ∃ jr' ja' : Nat → Nat → Nat, ∃ ji' : Nat → Nat → Int32, ∃ jk' : Nat → Nat → Nat → Int32, ∃ back' : Nat → Int32, fX6_fill F (nI M) (nI (bts ch)) (nI M) (nI (bts lt)) (nI b) (fun j => nI (po j)) (fun j => nI (oi j)) (nI n) jg jb jr ja ji jk a1 a2 = some (r, (fun j => nI (oi' j)), nI n', jg', jb', jr', ja', ji', jk') ∧ fX7_fill F (nI M) (nI n) orw now back a1 a2 = some (r, nI n', now', back') ∧ PB M po pl oi' lt b ∧ MR M pl oi' lt b now' ∧ n' ≤ 8 ∧ (∀ k, k < 8 → jg' k = some (jb' k)) ∧ SH M n' ji' jk' back' := by
  obtain ⟨h, h', hst, hnd, hk, hl, hd, hsu⟩ := hT
  have hP' := hP
  obtain ⟨hpm, p1, p2, p3, p4⟩ := hP'
  rcases rng a1 (lo := 0) (hi := M - 1) (by omega) (by omega) with ⟨l, _, hp, rfl⟩ | hp
  · have hp' : l < M := by omega
    have q2 := p3 l hp'
    have q3 := hk l (by omega)
    have q4 := (hM.1 l (by omega)).2.1
    rcases rng a2 (lo := 1) (hi := 40) (by omega) (by omega) with ⟨a, ha1, ha, rfl⟩ | ha
    · have c1 : ¬ nI a < (1 : Int32) := nI_nlt (b := 1) ha1 (by omega)
      have c2 : nI a ≤ (40 : Int32) := nI_le (b := 40) ha (by omega)
      by_cases c3 : ch l = 1
      · refine ⟨-2, oi, now, n, jg, jb, jr, ja, ji, jk, back, ?_, ?_, hP, hs, hn, hg, hS⟩
        · unfold fX6_fill
          rw [(man_yes h h' hp').1, xbd_some rfl, if_neg (by decide), if_neg c1, if_pos c2, fX3_get_eq _ _ _ (by omega), rget_n (by omega) (by omega), xbd_some rfl, cheese_n (fun i hi => (hk i hi).2.2.1) (by omega), xbd_some rfl, c3, if_neg (by decide)]
        · unfold fX7_fill
          rw [(man_yes h h' hp').2, xbd_some rfl, if_neg (by decide), show fX7_in (nI a) 1 40 = some 1 from in_yes (lo := 1) (hi := 40) ha1 ha (by omega), xbd_some rfl, if_neg (by decide), if_neg (nI_in (by omega) (by omega)), nI_clamp (by omega), q4, if_pos c3, if_pos (by decide)]
      · have c3' : ch l = 0 := by omega
        have e6 : fX6_isMan (nI M) (nI l) = some 1 := (man_yes h h' hp').1
        by_cases c4 : oi l + a ≤ 99
        · obtain ⟨n', jg', jb', jr', ja', ji', jk', back', e1, e2, g1, g2, g3⟩ := put8_n (jr := jr) (ja := ja) h' hn hg hS hP hs F hF
          refine ⟨nI (oi l + a), updN oi l (oi l + a), upd now (6 + l) (nI (oi l + a)), n', jg', jb', jr', ja', ji', jk', back', ?_, ?_, ⟨hpm, p1, p2, fun k hk2 => ?_, p4⟩, MR_oil h' hp' hs, g1, g2, g3⟩
          · unfold fX6_fill
            rw [e6, xbd_some rfl, if_neg (by decide), if_neg c1, if_pos c2, fX3_get_eq _ _ _ (by omega), rget_n (by omega) (by omega), xbd_some rfl, cheese_n (fun i hi => (hk i hi).2.2.1) (by omega), xbd_some rfl, c3', if_pos (by decide), nI_add, if_pos (show nI (oi l + a) ≤ (99 : Int32) from nI_le (b := 99) c4 (by omega)), e1, xbd_some rfl, fX3_set_eq _ _ _ _ (by omega), rset_n (by omega) (by omega), xbd_some rfl, upd_nI]
          · unfold fX7_fill
            rw [(man_yes h h' hp').2, xbd_some rfl, if_neg (by decide), show fX7_in (nI a) 1 40 = some 1 from in_yes (lo := 1) (hi := 40) ha1 ha (by omega), xbd_some rfl, if_neg (by decide), if_neg (nI_in (by omega) (by omega)), nI_clamp (by omega), q4, if_neg c3, if_neg (nI_pos (by omega)), show (6 : Int32) = nI 6 from rfl, nI_add, if_neg (nI_in (by omega) (by omega)), nI_clamp (by omega), hs.2.1 l hp', nI_add, if_pos (show nI (oi l + a) ≤ (99 : Int32) from nI_le (b := 99) c4 (by omega)), e2, xbd_some rfl, if_neg (nI_inc (by omega) (by omega)), if_neg (nI_inc (by omega) (by omega)), if_neg (nI_inc (by omega) (by omega))]
            congr 2
            exact if_pos rfl
          · unfold updN
            by_cases e : k = l
            · rw [if_pos e, e]
              omega
            · rw [if_neg e]
              exact p3 k hk2
        · refine ⟨-2, oi, now, n, jg, jb, jr, ja, ji, jk, back, ?_, ?_, hP, hs, hn, hg, hS⟩
          · unfold fX6_fill
            rw [e6, xbd_some rfl, if_neg (by decide), if_neg c1, if_pos c2, fX3_get_eq _ _ _ (by omega), rget_n (by omega) (by omega), xbd_some rfl, cheese_n (fun i hi => (hk i hi).2.2.1) (by omega), xbd_some rfl, c3', if_pos (by decide), nI_add, if_neg (show ¬ nI (oi l + a) ≤ (99 : Int32) from nI_ge (b := oi l + a) (a := 99) (by omega) (by omega))]
          · unfold fX7_fill
            rw [(man_yes h h' hp').2, xbd_some rfl, if_neg (by decide), show fX7_in (nI a) 1 40 = some 1 from in_yes (lo := 1) (hi := 40) ha1 ha (by omega), xbd_some rfl, if_neg (by decide), if_neg (nI_in (by omega) (by omega)), nI_clamp (by omega), q4, if_neg c3, if_neg (nI_pos (by omega)), show (6 : Int32) = nI 6 from rfl, nI_add, if_neg (nI_in (by omega) (by omega)), nI_clamp (by omega), hs.2.1 l hp', nI_add, if_neg (show ¬ nI (oi l + a) ≤ (99 : Int32) from nI_ge (b := oi l + a) (a := 99) (by omega) (by omega))]
    · refine ⟨-1, oi, now, n, jg, jb, jr, ja, ji, jk, back, ?_, ?_, hP, hs, hn, hg, hS⟩
      · unfold fX6_fill
        rw [(man_yes h h' hp').1, xbd_some rfl, if_neg (by decide)]
        by_cases c : a2 < (1 : Int32)
        · rw [if_pos c]
        · rw [if_neg c, if_neg (show ¬ a2 ≤ (40 : Int32) from fun z => ?_)]
          have w := ha.resolve_left c
          rw [x_lt] at w
          rw [x_le] at z
          rw [nI_toInt (by omega)] at w
          have e : (40 : Int32).toInt = 40 := rfl
          omega
      · unfold fX7_fill
        rw [(man_yes h h' hp').2, xbd_some rfl, if_neg (by decide), show fX7_in a2 1 40 = some 0 from in_no ha, xbd_some rfl, if_pos (by decide)]
  · refine ⟨-1, oi, now, n, jg, jb, jr, ja, ji, jk, back, ?_, ?_, hP, hs, hn, hg, hS⟩
    · unfold fX6_fill
      rw [(man_no h h' hp).1, xbd_some rfl, if_pos (by decide)]
    · unfold fX7_fill
      rw [(man_no h h' hp).2, xbd_some rfl, if_pos (by decide)]
theorem lit_or {lt : Nat → Nat} {l : Nat} (h : ∀ i, i < 6 → lt i ≤ 1) (hl : l < 6) (h0 : lt l = 0) : nI (bts lt) ||| ((1 : Int32) <<< (nI l &&& 31)) = nI (bts (updN lt l 1)) := by
  rw [xb_one l (by omega), xb_or _ (bts_lt h) l hl, bts_bit h hl, h0, if_neg (by omega)]
  have e := bts_set (t := lt) (l := l) (v := 1) hl
  rw [h0] at e
  congr 1
  omega
theorem op_light {M st nd n b : Nat} {kd o0 ch l0 dB dP su po pl oi lt : Nat → Nat} {now back : Nat → Int32} {jg : Nat → Option Nat} {jb : Nat → Nat} {jr ja : Nat → Nat → Nat} {ji : Nat → Nat → Int32} {jk : Nat → Nat → Nat → Int32} (hT : TB M st nd kd o0 ch l0 dB dP su) (hn : n ≤ 8) (hg : ∀ k, k < 8 → jg k = some (jb k)) (hS : SH M n ji jk back) (hP : PB M po pl oi lt b) (hs : MR M pl oi lt b now) (F : Nat) (hF : 1000 < F) (a1 : Int32) : ∃ r : Int32, ∃ lt' : Nat → Nat, ∃ now' : Nat → Int32, ∃ n' : Nat, ∃ jg' : Nat → Option Nat, ∃ jb' : Nat → Nat, ∃ jr' ja' : Nat → Nat → Nat, ∃ ji' : Nat → Nat → Int32, ∃ jk' : Nat → Nat → Nat → Int32, ∃ back' : Nat → Int32, fX6_light F (nI M) (nI M) (nI (bts lt)) (nI b) (fun j => nI (po j)) (fun j => nI (oi j)) (nI n) jg jb jr ja ji jk a1 = some (r, nI (bts lt'), nI n', jg', jb', jr', ja', ji', jk') ∧ fX7_light F (nI M) (nI n) now back a1 = some (r, nI n', now', back') ∧ PB M po pl oi lt' b ∧ MR M pl oi lt' b now' ∧ n' ≤ 8 ∧ (∀ k, k < 8 → jg' k = some (jb' k)) ∧ SH M n' ji' jk' back' := by
  obtain ⟨h, h', hst, hnd, hk, hl, hd, hsu⟩ := hT
  have hP' := hP
  obtain ⟨hpm, p1, p2, p3, p4⟩ := hP'
  rcases rng a1 (lo := 0) (hi := M - 1) (by omega) (by omega) with ⟨l, _, hp, rfl⟩ | hp
  · have hp' : l < M := by omega
    have q2 := p3 l hp'
    have q1 := p1 l (by omega)
    have eo : now (6 + l) = nI (oi l) := hs.2.1 l hp'
    have el : now (12 + l) = nI (lt l) := hs.2.2.1 l hp'
    by_cases c1 : lt l = 1
    · refine ⟨-2, lt, now, n, jg, jb, jr, ja, ji, jk, back, ?_, ?_, hP, hs, hn, hg, hS⟩
      · unfold fX6_light
        rw [(man_yes h h' hp').1, xbd_some rfl, if_neg (by decide), fX1_isLit_n p1 (by omega), xbd_some rfl, c1, if_neg (by decide)]
      · unfold fX7_light
        rw [(man_yes h h' hp').2, xbd_some rfl, if_neg (by decide), show (6 : Int32) = nI 6 from rfl, nI_add, if_neg (nI_in (by omega) (by omega)), nI_clamp (by omega), eo, if_neg (nI_ne0 (by omega) (by omega)), show (12 : Int32) = nI 12 from rfl, nI_add, if_neg (nI_in (by omega) (by omega)), nI_clamp (by omega), el, c1, if_pos (by decide)]
    · have c1' : lt l = 0 := by omega
      by_cases c2 : oi l = 0
      · refine ⟨-2, lt, now, n, jg, jb, jr, ja, ji, jk, back, ?_, ?_, hP, hs, hn, hg, hS⟩
        · unfold fX6_light
          rw [(man_yes h h' hp').1, xbd_some rfl, if_neg (by decide), fX1_isLit_n p1 (by omega), xbd_some rfl, c1', if_pos (by decide), fX3_get_eq _ _ _ (by omega), rget_n (by omega) (by omega), xbd_some rfl, c2, if_pos (by decide)]
        · unfold fX7_light
          rw [(man_yes h h' hp').2, xbd_some rfl, if_neg (by decide), show (6 : Int32) = nI 6 from rfl, nI_add, if_neg (nI_in (by omega) (by omega)), nI_clamp (by omega), eo, c2, if_pos (by decide)]
      · obtain ⟨n', jg', jb', jr', ja', ji', jk', back', e1, e2, g1, g2, g3⟩ := put8_n (jr := jr) (ja := ja) h' hn hg hS hP hs F hF
        have t1 : ∀ i, i < 6 → updN lt l 1 i ≤ 1 := by
          intro i hi
          unfold updN
          split
          · exact Nat.le_refl _
          · exact p1 i hi
        have t2 : ∀ i, M ≤ i → updN lt l 1 i = 0 := by
          intro i hi
          unfold updN
          rw [if_neg (by omega)]
          exact p2 i hi
        have hs' : MR M pl oi (updN lt l 1) b (upd now (12 + l) (nI 1)) := MR_lit h' hp' hs
        refine ⟨nI (sumN M (updN lt l 1)), updN lt l 1, upd now (12 + l) (nI 1), n', jg', jb', jr', ja', ji', jk', back', ?_, ?_, ⟨hpm, t1, t2, fun k hk2 => ?_, p4⟩, hs', g1, g2, g3⟩
        · unfold fX6_light
          rw [(man_yes h h' hp').1, xbd_some rfl, if_neg (by decide), fX1_isLit_n p1 (by omega), xbd_some rfl, c1', if_pos (by decide), fX3_get_eq _ _ _ (by omega), rget_n (by omega) (by omega), xbd_some rfl, if_neg (nI_ne0 (by omega) (by omega)), e1, xbd_some rfl, lit_or p1 (by omega) c1', fX1_litCount_n h h' t1 t2, xbd_some rfl]
        · unfold fX7_light
          rw [(man_yes h h' hp').2, xbd_some rfl, if_neg (by decide), show (6 : Int32) = nI 6 from rfl, nI_add, if_neg (nI_in (by omega) (by omega)), nI_clamp (by omega), eo, if_neg (nI_ne0 (by omega) (by omega)), show (12 : Int32) = nI 12 from rfl, nI_add, if_neg (nI_in (by omega) (by omega)), nI_clamp (by omega), el, c1', if_neg (by decide), e2, xbd_some rfl, if_neg (nI_inc (by omega) (by omega)), show (1 : Int32) = nI 1 from rfl, fX7_litOf_now_n h' hs' F (by omega), xbd_some rfl]
        · unfold updN
          by_cases e : k = l
          · rw [if_pos e, e]
            omega
          · rw [if_neg e]
            exact p3 k hk2
  · refine ⟨-1, lt, now, n, jg, jb, jr, ja, ji, jk, back, ?_, ?_, hP, hs, hn, hg, hS⟩
    · unfold fX6_light
      rw [(man_no h h' hp).1, xbd_some rfl, if_pos (by decide)]
    · unfold fX7_light
      rw [(man_no h h' hp).2, xbd_some rfl, if_pos (by decide)]
theorem op_change {M st nd n b : Nat} {kd o0 ch l0 dB dP su po pl oi lt : Nat → Nat} {now back : Nat → Int32} {jg : Nat → Option Nat} {jb : Nat → Nat} {jr ja : Nat → Nat → Nat} {ji : Nat → Nat → Int32} {jk : Nat → Nat → Nat → Int32} (hT : TB M st nd kd o0 ch l0 dB dP su) (hn : n ≤ 8) (hg : ∀ k, k < 8 → jg k = some (jb k)) (hS : SH M n ji jk back) (hP : PB M po pl oi lt b) (hs : MR M pl oi lt b now) (F : Nat) (hF : 1000 < F) (a1 a2 : Int32) : ∃ r : Int32, ∃ po' pl' : Nat → Nat, ∃ now' : Nat → Int32, ∃ n' : Nat, ∃ jg' : Nat → Option Nat, ∃ jb' : Nat → Nat, ∃ jr' ja' : Nat → Nat → Nat, ∃ ji' : Nat → Nat → Int32, ∃ jk' : Nat → Nat → Nat → Int32, ∃ back' : Nat → Int32, fX6_change F (nI M) (nI M) (nI (bts lt)) (nI b) (fun j => nI (po j)) (fun j => nI (oi j)) (nI n) jg jb jr ja ji jk a1 a2 = some (r, (fun j => nI (po' j)), nI n', jg', jb', jr', ja', ji', jk') ∧ fX7_change F (nI M) (nI n) now back a1 a2 = some (r, nI n', now', back') ∧ PB M po' pl' oi lt b ∧ MR M pl' oi lt b now' ∧ n' ≤ 8 ∧ (∀ k, k < 8 → jg' k = some (jb' k)) ∧ SH M n' ji' jk' back' := by
  obtain ⟨h, h', hst, hnd, hk, hl, hd, hsu⟩ := hT
  have hP' := hP
  obtain ⟨hpm, p1, p2, p3, p4⟩ := hP'
  rcases rng a1 (lo := 0) (hi := M - 1) (by omega) (by omega) with ⟨p, _, hp, rfl⟩ | hp
  · have hp' : p < M := by omega
    rcases rng a2 (lo := 0) (hi := M - 1) (by omega) (by omega) with ⟨q, _, hq, rfl⟩ | hq
    · have hq' : q < M := by omega
      by_cases c1 : p = q
      · refine ⟨-1, po, pl, now, n, jg, jb, jr, ja, ji, jk, back, ?_, ?_, hP, hs, hn, hg, hS⟩
        · unfold fX6_change
          rw [(man_yes h h' hp').1, xbd_some rfl, if_neg (by decide), (man_yes h h' hq').1, xbd_some rfl, if_neg (by decide), if_pos (by rw [c1])]
        · unfold fX7_change
          rw [(man_yes h h' hp').2, xbd_some rfl, if_neg (by decide), (man_yes h h' hq').2, xbd_some rfl, if_neg (by decide), if_pos (by rw [c1])]
      · have c1' : ¬ nI p = nI q := fun z => c1 ((nI_eq (by omega) (by omega)).mp z)
        obtain ⟨n', jg', jb', jr', ja', ji', jk', back', e1, e2, g1, g2, g3⟩ := put8_n (jr := jr) (ja := ja) h' hn hg hS hP hs F hF
        have a := hpm.2 p hp'
        have b2 := hpm.2 q hq'
        have hne : pl p ≠ pl q := fun z => c1 (by rw [← a.2, ← b2.2, z])
        have ep := hs.1 p hp'
        have eq2 := hs.1 q hq'
        refine ⟨nI (pl q), updN (updN po (pl p) q) (pl q) p, updN (updN pl p (pl q)) q (pl p), upd (upd now p (nI (pl q))) q (nI (pl p)), n', jg', jb', jr', ja', ji', jk', back', ?_, ?_, ⟨⟨fun l hl2 => ?_, fun y hy => ?_⟩, p1, p2, p3, p4⟩, ⟨fun y hy => ?_, fun l hl2 => ?_, fun l hl2 => ?_, ?_⟩, g1, g2, g3⟩
        · unfold fX6_change
          rw [(man_yes h h' hp').1, xbd_some rfl, if_neg (by decide), (man_yes h h' hq').1, xbd_some rfl, if_neg (by decide), if_neg c1', e1, xbd_some rfl, fX1_lanternAt_n h' hpm hp' F (by omega), xbd_some rfl, fX1_lanternAt_n h' hpm hq' F (by omega), xbd_some rfl, fX3_set_eq _ _ _ _ (by omega), rset_n (by omega) (by omega), xbd_some rfl, upd_nI, fX3_set_eq _ _ _ _ (by omega), rset_n (by omega) (by omega), xbd_some rfl, upd_nI]
        · unfold fX7_change
          rw [(man_yes h h' hp').2, xbd_some rfl, if_neg (by decide), (man_yes h h' hq').2, xbd_some rfl, if_neg (by decide), if_neg c1', e2, xbd_some rfl, if_neg (nI_in (by omega) (by omega)), if_neg (nI_in (by omega) (by omega)), if_neg (nI_in (by omega) (by omega)), if_neg (nI_in (by omega) (by omega)), if_neg (nI_in (by omega) (by omega)), nI_clamp (by omega), nI_clamp (by omega), ep, eq2]
          congr 2
          unfold upd
          rw [if_neg c1, if_pos rfl]
        · unfold updN
          have o := hpm.1 l hl2
          by_cases e3 : l = pl q
          · rw [if_pos e3, if_neg c1, if_pos rfl]
            exact ⟨hp', e3.symm⟩
          · by_cases e4 : l = pl p
            · rw [if_neg e3, if_pos e4, if_pos rfl]
              exact ⟨hq', e4.symm⟩
            · rw [if_neg e3, if_neg e4, if_neg (fun z => e3 (by rw [← z, o.2])), if_neg (fun z => e4 (by rw [← z, o.2]))]
              exact o
        · unfold updN
          have o := hpm.2 y hy
          by_cases e3 : y = q
          · rw [if_pos e3, if_neg hne, if_pos rfl]
            exact ⟨a.1, e3.symm⟩
          · by_cases e4 : y = p
            · rw [if_neg e3, if_pos e4, if_pos rfl]
              exact ⟨b2.1, e4.symm⟩
            · rw [if_neg e3, if_neg e4, if_neg (fun z => e3 (by rw [← o.2, z, b2.2])), if_neg (fun z => e4 (by rw [← o.2, z, a.2]))]
              exact o
        · unfold upd updN
          by_cases e3 : y = q
          · rw [if_pos e3, if_pos e3]
          · by_cases e4 : y = p
            · rw [if_neg e3, if_pos e4, if_neg e3, if_pos e4]
            · rw [if_neg e3, if_neg e4, if_neg e3, if_neg e4, hs.1 y hy]
        · unfold upd
          rw [if_neg (by omega), if_neg (by omega), hs.2.1 l hl2]
        · unfold upd
          rw [if_neg (by omega), if_neg (by omega), hs.2.2.1 l hl2]
        · unfold upd
          rw [if_neg (by omega), if_neg (by omega), hs.2.2.2]
    · refine ⟨-1, po, pl, now, n, jg, jb, jr, ja, ji, jk, back, ?_, ?_, hP, hs, hn, hg, hS⟩
      · unfold fX6_change
        rw [(man_yes h h' hp').1, xbd_some rfl, if_neg (by decide), (man_no h h' hq).1, xbd_some rfl, if_pos (by decide)]
      · unfold fX7_change
        rw [(man_yes h h' hp').2, xbd_some rfl, if_neg (by decide), (man_no h h' hq).2, xbd_some rfl, if_pos (by decide)]
  · refine ⟨-1, po, pl, now, n, jg, jb, jr, ja, ji, jk, back, ?_, ?_, hP, hs, hn, hg, hS⟩
    · unfold fX6_change
      rw [(man_no h h' hp).1, xbd_some rfl, if_pos (by decide)]
    · unfold fX7_change
      rw [(man_no h h' hp).2, xbd_some rfl, if_pos (by decide)]
theorem ring_now_s {M st nd b n m : Nat} {kd o0 ch l0 dB dP su po pl oi lt D : Nat → Nat} {sn dk : Int32} {kr orw lr dr s mv : Nat → Int32} {aB aP : Int32} {B : Nat → Nat → Prop} (hT : TB M st nd kd o0 ch l0 dB dP su) (hM : TM M st nd kd o0 ch l0 dB dP su sn dk kr orw lr dr) (hP : PB M po pl oi lt b) (hX : BX nd dB dP aB aP M b m B) (hD : isD B M st b D) (hn : n < m) (hm : m < 1000) (hs : MR M (plN M st pl n) (oiN po oi lt D n) (ltN po oi lt D n) (b + n) s) (F : Nat) (hF : 6 < F) : ∃ s' m', fX7_ring_now F (nI M) (nI st) (nI nd) aB aP dr s mv = some (s', m') ∧ MR M (plN M st pl (n + 1)) (oiN po oi lt D (n + 1)) (ltN po oi lt D (n + 1)) (b + (n + 1)) s' := by
  obtain ⟨h, h', hst, hnd, hk, hl, hd, hsu⟩ := hT
  obtain ⟨hpm, p1, p2, p3, p4⟩ := hP
  exact ring_now_c h h' hst hnd (by omega) (by omega) (fun i hi => ⟨(hM.2.1 i hi).1, (hM.2.1 i hi).2, (hd i hi).2.1, (hd i hi).2.2⟩) (hX.2 n hn) hpm (fun l hl => ⟨p1 l (by omega), (p3 l hl).1, by have := (p3 l hl).2; omega⟩) B (hX.1 n hn) hD hs F hF
/-- the pass behind n bells -/
theorem PB_on {M st n b : Nat} {B : Nat → Nat → Prop} {po pl oi lt D : Nat → Nat} (h : 2 ≤ M) (h' : M ≤ 6) (hP : PB M po pl oi lt b) (hD : isD B M st b D) (hb : b + n ≤ 9999) : PB M (mixN M (fun l => (po l + n * st) % M) po) (plN M st pl n) (mixN M (oiN po oi lt D n) oi) (mixN M (ltN po oi lt D n) lt) (b + n) := by
  obtain ⟨⟨r1, r2⟩, p1, p2, p3, p4⟩ := hP
  refine ⟨⟨fun l hl => ?_, fun p hp => ?_⟩, fun l hl => ?_, fun l hl => ?_, fun l hl => ?_, hb⟩
  · have q := r1 l hl
    unfold mixN plN
    rw [if_pos hl, fw_bk h h' q.1]
    exact ⟨Nat.mod_lt _ (by omega), q.2⟩
  · have q := r2 _ (bk_lt (M := M) (p := p) (k := n * st) h)
    have e : mixN M (fun l => (po l + n * st) % M) po (plN M st pl n p) = p := by
      unfold mixN plN
      rw [if_pos q.1]
      show (po (pl (bk M p (n * st))) + n * st) % M = p
      rw [q.2, bk_fw h h' hp]
    exact ⟨q.1, e⟩
  · unfold mixN
    split
    · exact ltN_le
    · exact p1 l hl
  · unfold mixN
    rw [if_neg (by omega)]
    exact p2 l hl
  · have q := p3 l hl
    have d := (hD _ (r1 l hl).1).1
    have o := oiN_le (po := po) (oi := oi) (lt := lt) (D := D) (n := n) (l := l)
    unfold mixN
    rw [if_pos hl, if_pos hl]
    refine ⟨?_, by omega⟩
    unfold ltN oiN litF
    by_cases e : lt l = 1
    · rw [if_pos e, if_pos e]
      split <;> omega
    · rw [if_neg e, if_neg (by omega)]
      omega
theorem op_bells {M st nd n b : Nat} {kd o0 ch l0 dB dP su po pl oi lt : Nat → Nat} {sn dk aP : Int32} {kr orw lr dr now mv back zf : Nat → Int32} {jg : Nat → Option Nat} {jb : Nat → Nat} {jr ja : Nat → Nat → Nat} {ji : Nat → Nat → Int32} {jk : Nat → Nat → Nat → Int32} (hT : TB M st nd kd o0 ch l0 dB dP su) (hM : TM M st nd kd o0 ch l0 dB dP su sn dk kr orw lr dr) (hn : n ≤ 8) (hg : ∀ k, k < 8 → jg k = some (jb k)) (hS : SH M n ji jk back) (hP : PB M po pl oi lt b) (hs : MR M pl oi lt b now) (F : Nat) (hF : 1000 < F) (a1 : Int32) : ∃ r : Int32, ∃ po' pl' oi' lt' : Nat → Nat, ∃ b' : Nat, ∃ zf' now' mv' : Nat → Int32, ∃ n' : Nat, ∃ jg' : Nat → Option Nat, ∃ jb' : Nat → Nat, ∃ jr' ja' : Nat → Nat → Nat, ∃ ji' : Nat → Nat → Int32, ∃ jk' : Nat → Nat → Nat → Int32, ∃ back' : Nat → Int32, fX6_bells F (nI M) (nI st) (nI nd) (fun j => nI (dB j)) (fun j => nI (dP j)) (nI M) (nI (bts lt)) (nI b) (fun j => nI (po j)) (fun j => nI (oi j)) zf (nI n) jg jb jr ja ji jk a1 = some (r, nI (bts lt'), nI b', (fun j => nI (po' j)), (fun j => nI (oi' j)), zf', nI n', jg', jb', jr', ja', ji', jk') ∧ fX7_bells F (nI M) (nI st) (nI nd) (nI n) (-1) aP dr now back mv a1 = some (r, nI n', now', back', mv') ∧ PB M po' pl' oi' lt' b' ∧ MR M pl' oi' lt' b' now' ∧ n' ≤ 8 ∧ (∀ k, k < 8 → jg' k = some (jb' k)) ∧ SH M n' ji' jk' back' := by
  have hT' := hT
  obtain ⟨h, h', hst, hnd, hk, hl, hd, hsu⟩ := hT'
  have hP' := hP
  obtain ⟨hpm, p1, p2, p3, p4⟩ := hP'
  obtain ⟨z, rfl⟩ := row_nI zf
  rcases rng a1 (lo := 1) (hi := 99) (by omega) (by omega) with ⟨m, hm1, hm, rfl⟩ | hm
  · have c1 : ¬ nI m < (1 : Int32) := nI_nlt (b := 1) hm1 (by omega)
    have c2 : nI m ≤ (99 : Int32) := nI_le (b := 99) hm (by omega)
    have e7 : fX7_in (nI m) 1 99 = some 1 := in_yes (lo := 1) (hi := 99) hm1 hm (by omega)
    have e18 : now (18 : Int32).toNatClampNeg = nI b := by rw [show (18 : Int32) = nI 18 from rfl, nI_clamp (by omega), hs.2.2.2]
    by_cases c3 : b + m ≤ 9999
    · obtain ⟨n', jg', jb', jr', ja', ji', jk', back', e1, e2, g1, g2, g3⟩ := put8_n (jr := jr) (ja := ja) h' hn hg hS hP hs F hF
      obtain ⟨D, hD, eD⟩ := fX5_reckonDraughts_n h h' hst hnd (show b < 10000 by omega) (fun i hi => ⟨(hd i hi).2.1, (hd i hi).2.2⟩) F (by omega) z
      have hX := BX_none (nd := nd) (dB := dB) (dP := dP) (aP := aP) (M := M) (b := b) (n := m) (by omega)
      have key : ∀ (d i G : Nat) (s v : Nat → Int32), i + d = m → d < G → MR M (plN M st pl i) (oiN po oi lt D i) (ltN po oi lt D i) (b + i) s → ∃ s' m', fX7_bells_L36 (nI M) (nI st) (nI nd) (-1) aP dr (nI m) F (fun (v36_2 : Int32) (w36_mok_22 : Nat → Int32) (w36_mok_33 : Nat → Int32) => some ((w36_mok_22 (18 : Int32).toNatClampNeg), (nI n', w36_mok_22, back', w36_mok_33))) G (nI i) s v = some (nI (b + m), nI n', s', back', m') ∧ MR M (plN M st pl m) (oiN po oi lt D m) (ltN po oi lt D m) (b + m) s' := by
        intro d
        induction d with
        | zero =>
          intro i G s v h1 h2 h3
          obtain ⟨G, rfl⟩ : ∃ G', G = G' + 1 := ⟨G - 1, by omega⟩
          obtain rfl : i = m := by omega
          exact ⟨s, v, by rw [fX7_bells_L36, if_pos (Int32.le_refl _), show (18 : Int32) = nI 18 from rfl, nI_clamp (by omega), h3.2.2.2], h3⟩
        | succ d ih =>
          intro i G s v h1 h2 h3
          obtain ⟨G, rfl⟩ : ∃ G', G = G' + 1 := ⟨G - 1, by omega⟩
          obtain ⟨s1, m1, f1, f2⟩ := ring_now_s hT hM hP hX hD (show i < m by omega) (by omega) h3 F (by omega) (mv := v)
          obtain ⟨s', m', f3, f4⟩ := ih (i + 1) G s1 m1 (by omega) (by omega) f2
          refine ⟨s', m', ?_, f4⟩
          rw [fX7_bells_L36, if_neg (nI_ge (by omega) (by omega)), f1, xbd_some rfl, nI_1]
          exact f3
      obtain ⟨s', m', f1, f2⟩ := key m 0 F now mv (by omega) (by omega) (MR_0 h h' hpm (fun l hl => ⟨p1 l (by omega), (p3 l hl).1⟩) hD hs)
      refine ⟨nI (b + m), mixN M (fun l => (po l + m * st) % M) po, plN M st pl m, mixN M (oiN po oi lt D m) oi, mixN M (ltN po oi lt D m) lt, b + m, (fun j => nI (D j)), s', m', n', jg', jb', jr', ja', ji', jk', back', ?_, ?_, PB_on h h' hP hD c3, MR_congr f2 (fun _ _ => rfl) (fun l hl => ?_) rfl, g1, g2, g3⟩
      · unfold fX6_bells
        rw [if_neg c1, if_pos c2, nI_add, if_pos (show nI (b + m) ≤ (9999 : Int32) from nI_le (b := 9999) c3 (by omega)), e1, xbd_some rfl, eD, xbd_some rfl, fX1_goOn_n h h' hst (by omega) (fun l hl => (hpm.1 l hl).1) p1 (fun l hl => by have := (p3 l hl).2; omega) (fun q hq => ⟨(hD q hq).1, (hD q hq).2.1⟩) F (by omega), xbd_some rfl]
      · unfold fX7_bells
        rw [e7, xbd_some rfl, if_neg (by decide), e18, nI_add, if_pos (show nI (b + m) ≤ (9999 : Int32) from nI_le (b := 9999) c3 (by omega)), e2, xbd_some rfl]
        exact f1
      · unfold mixN
        rw [if_pos hl, if_pos hl]
        exact ⟨rfl, rfl⟩
    · refine ⟨-2, po, pl, oi, lt, b, (fun j => nI (z j)), now, mv, n, jg, jb, jr, ja, ji, jk, back, ?_, ?_, hP, hs, hn, hg, hS⟩
      · unfold fX6_bells
        rw [if_neg c1, if_pos c2, nI_add, if_neg (show ¬ nI (b + m) ≤ (9999 : Int32) from nI_ge (b := b + m) (a := 9999) (by omega) (by omega))]
      · unfold fX7_bells
        rw [e7, xbd_some rfl, if_neg (by decide), e18, nI_add, if_neg (show ¬ nI (b + m) ≤ (9999 : Int32) from nI_ge (b := b + m) (a := 9999) (by omega) (by omega))]
  · refine ⟨-1, po, pl, oi, lt, b, (fun j => nI (z j)), now, mv, n, jg, jb, jr, ja, ji, jk, back, ?_, ?_, hP, hs, hn, hg, hS⟩
    · unfold fX6_bells
      by_cases c : a1 < (1 : Int32)
      · rw [if_pos c]
      · rw [if_neg c, if_neg (show ¬ a1 ≤ (99 : Int32) from fun z => ?_)]
        have w := hm.resolve_left c
        rw [x_lt] at w
        rw [x_le] at z
        rw [nI_toInt (by omega)] at w
        have e : (99 : Int32).toInt = 99 := rfl
        omega
    · unfold fX7_bells
      rw [show fX7_in a1 1 99 = some 0 from in_no hm, xbd_some rfl, if_pos (by decide)]
