/-! ===== post, seen, forget ===== -/
theorem lt_0n {M st b : Nat} {B : Nat → Nat → Prop} {po pl oi lt D : Nat → Nat} {p : Nat} (h : 2 ≤ M) (h' : M ≤ 6) (hpm : PM M po pl) (hol : ∀ l, l < M → lt l ≤ 1 ∧ lt l ≤ oi l) (hD : isD B M st b D) (hp : p < M) : ltN po oi lt D 0 (plN M st pl 0 p) = lt (pl p) := by
  have e : plN M st pl 0 p = pl p := by
    unfold plN
    rw [Nat.zero_mul, bk_0 h h' hp]
  have q := hpm.2 p hp
  have h1 := hol _ q.1
  have h2 := (hD p hp).1
  rw [e]
  unfold ltN litF
  rw [q.2]
  by_cases c : lt (pl p) = 1
  · rw [if_pos c, if_pos (by omega), c]
  · rw [if_neg c, if_neg (by omega)]
    omega
theorem op_post {M st nd b : Nat} {kd o0 ch l0 dB dP su po pl oi lt : Nat → Nat} {sn dk sf sto : Int32} {kr orw lr dr now zf : Nat → Int32} (hT : TB M st nd kd o0 ch l0 dB dP su) (hM : TM M st nd kd o0 ch l0 dB dP su sn dk kr orw lr dr) (hC : SC su sf sto) (hP : PB M po pl oi lt b) (hs : MR M pl oi lt b now) (F : Nat) (hF : 1000 < F) (a1 a2 : Int32) : ∃ r zf', fX6_post F (nI M) (nI st) (nI nd) sf sto (fun j => nI (kd j)) (fun j => nI (dB j)) (fun j => nI (dP j)) (nI M) (nI (bts lt)) (nI b) (fun j => nI (po j)) (fun j => nI (oi j)) zf a1 a2 = some (r, zf') ∧ fX7_post (nI M) sn dk (-1) kr now a1 a2 = some r := by
  obtain ⟨h, h', hst, hnd, hk, hl, hd, hsu⟩ := hT
  obtain ⟨hpm, p1, p2, p3, p4⟩ := hP
  obtain ⟨z, rfl⟩ := row_nI zf
  rcases rng a1 (lo := 0) (hi := M - 1) (by omega) (by omega) with ⟨p, _, hp, rfl⟩ | hp
  · have hp' : p < M := by omega
    have hkp := hk p (by omega)
    have hmk := hM.1 p (by omega)
    have hpl := (hpm.2 p hp').1
    rcases rng a2 (lo := 0) (hi := 2) (by omega) (by omega) with ⟨n, _, hn, rfl⟩ | hn
    · have e7 : fX7_in (nI n) 0 2 = some 1 := in_yes (lo := 0) (hi := 2) (by omega) hn (by omega)
      rcases (show n = 0 ∨ n = 1 ∨ n = 2 by omega) with rfl | rfl | rfl
      · refine ⟨nI (kd p), (fun j => nI (z j)), ?_, ?_⟩
        · unfold fX6_post
          rw [(man_yes h h' hp').1, xbd_some rfl, if_neg (by decide), if_pos (by decide), fX3_get_eq _ _ _ (by omega), rget_n (by omega) (by omega), xbd_some rfl]
        · unfold fX7_post
          rw [(man_yes h h' hp').2, xbd_some rfl, if_neg (by decide), e7, xbd_some rfl, if_neg (by decide), if_pos (by decide), if_neg (nI_in (by omega) (by omega)), nI_clamp (by omega), hmk.1 hp']
      · refine ⟨nI (pl p), (fun j => nI (z j)), ?_, ?_⟩
        · unfold fX6_post
          rw [(man_yes h h' hp').1, xbd_some rfl, if_neg (by decide), if_neg (by decide), if_pos (by decide), fX1_lanternAt_n h' hpm hp' F (by omega), xbd_some rfl]
        · unfold fX7_post
          rw [(man_yes h h' hp').2, xbd_some rfl, if_neg (by decide), e7, xbd_some rfl, if_neg (by decide), if_neg (by decide), if_pos (by decide), if_neg (nI_in (by omega) (by omega)), nI_clamp (by omega), hs.1 p hp']
      · obtain ⟨D, hD, eD⟩ := fX5_reckonDraughts_n h h' hst hnd (show b < 10000 by omega) (fun i hi => ⟨(hd i hi).2.1, (hd i hi).2.2⟩) F (by omega) z
        have e0 := lt_0n h h' hpm (fun l hl2 => ⟨p1 l (by omega), (p3 l hl2).1⟩) hD hp'
        have ew : fX6_warm F (nI M) (nI st) (nI nd) sf sto (fun j => nI (kd j)) (fun j => nI (dB j)) (fun j => nI (dP j)) (nI M) (nI (bts lt)) (nI b) (fun j => nI (po j)) (fun j => nI (oi j)) (fun j => nI (z j)) (nI 0) (nI p) = some (nI (wmN (kd p) (toN (lt (pl p)) (su b))), (fun j => nI (D j))) := by
          unfold fX6_warm
          rw [(last_yes (Nat.zero_le _)).1, xbd_some rfl, if_neg (by decide), (man_yes h h' hp').1, xbd_some rfl, if_neg (by decide), eD, xbd_some rfl, fX6_isLitBehind_n h h' hst hpm p1 (fun l hl => by have := (p3 l hl).2; omega) (fun q hq => (hD q hq).2.1) (by omega) hp' F (by omega), xbd_some rfl, fX3_get_eq _ _ _ (by omega), rget_n (by omega) (by omega), xbd_some rfl, nI_add, e0, Nat.add_zero, fX5_isWarm_n (hC _ (by omega)) (p1 _ (by omega)) (hsu _) hkp.1, xbd_some rfl]
          have := wmN_le (a := kd p) (toN_le (lt (pl p)) (su b))
          rcases (show wmN (kd p) (toN (lt (pl p)) (su b)) = 0 ∨ wmN (kd p) (toN (lt (pl p)) (su b)) = 1 by omega) with e | e <;> rw [e] <;> rfl
        refine ⟨nI (wmN (kd p) (toN (lt (pl p)) (su b))), (fun j => nI (D j)), ?_, ?_⟩
        · unfold fX6_post
          rw [(man_yes h h' hp').1, xbd_some rfl, if_neg (by decide), if_neg (by decide), if_neg (by decide), if_pos (by decide)]
          refine Eq.trans (xbd2_some ew) ?_
          rfl
        · unfold fX7_post
          rw [(man_yes h h' hp').2, xbd_some rfl, if_neg (by decide), e7, xbd_some rfl, if_neg (by decide), if_neg (by decide), if_neg (by decide), fX7_isWarm_now_n h' hs hp' hpl (p1 _ (by omega)) (hmk.1 hp') hkp.1 (hM.2.2 _ (by omega)) (hsu _), xbd_some rfl, if_neg (fun z => nI_pos (n := p) (by omega) (by rw [z]; decide)), bit_n (wmN_le (toN_le _ _)), xbd_some rfl]
    · refine ⟨-1, (fun j => nI (z j)), ?_, ?_⟩
      · have e : ∀ v, v ≤ 2 → a2 ≠ nI v := by
          intro v hv z
          rw [z] at hn
          rcases hn with hn | hn
          · exact nI_nlt (by omega) (by omega) hn
          · exact nI_nlt hv (by omega) hn
        unfold fX6_post
        rw [(man_yes h h' hp').1, xbd_some rfl, if_neg (by decide), if_neg (show ¬ a2 = 0 from e 0 (by omega)), if_neg (show ¬ a2 = 1 from e 1 (by omega)), if_neg (show ¬ a2 = 2 from e 2 (by omega))]
      · unfold fX7_post
        rw [(man_yes h h' hp').2, xbd_some rfl, if_neg (by decide), show fX7_in a2 0 2 = some 0 from in_no hn, xbd_some rfl, if_pos (by decide)]
  · refine ⟨-1, (fun j => nI (z j)), ?_, ?_⟩
    · unfold fX6_post
      rw [(man_no h h' hp).1, xbd_some rfl, if_pos (by decide)]
    · unfold fX7_post
      rw [(man_no h h' hp).2, xbd_some rfl, if_pos (by decide)]
theorem op_seen {M st nd cnt : Nat} {kd o0 ch l0 dB dP su fp fn fw : Nat → Nat} {sr : Nat → Int32} (hT : TB M st nd kd o0 ch l0 dB dP su) (hf : FB M cnt fp fn fw) (hfm : FM cnt fp fn fw sr) (a1 a2 a3 : Int32) : ∃ r cnt' fp' fn' fw' sr', fX6_seen (nI M) (nI cnt) (fun j => nI (fp j)) (fun j => nI (fn j)) (fun j => nI (fw j)) a1 a2 a3 = some (r, nI cnt', (fun j => nI (fp' j)), (fun j => nI (fn' j)), (fun j => nI (fw' j))) ∧ fX7_seen (nI M) (nI cnt) sr a1 a2 a3 = some (r, nI cnt', sr') ∧ FB M cnt' fp' fn' fw' ∧ FM cnt' fp' fn' fw' sr' := by
  have h := hT.1
  have h' := hT.2.1
  have hc := hf.1
  rcases rng a1 (lo := 0) (hi := M - 1) (by omega) (by omega) with ⟨p, _, hp, rfl⟩ | hp
  · have hp' : p < M := by omega
    rcases rng a2 (lo := 0) (hi := 60) (by omega) (by omega) with ⟨n, _, hn, rfl⟩ | hn
    · by_cases c : cnt = 10
      · subst c
        refine ⟨-3, 10, fp, fn, fw, sr, ?_, ?_, hf, hfm⟩
        · unfold fX6_seen
          rw [(man_yes h h' hp').1, xbd_some rfl, if_neg (by decide), (last_yes hn).1, xbd_some rfl, if_neg (by decide), if_neg (by decide)]
        · unfold fX7_seen
          rw [(man_yes h h' hp').2, xbd_some rfl, if_neg (by decide), (last_yes hn).2, xbd_some rfl, if_neg (by decide), if_pos (by decide)]
      · have fin : ∀ w, w ≤ 1 → FB M (cnt + 1) (updN fp cnt p) (updN fn cnt n) (updN fw cnt w) ∧ FM (cnt + 1) (updN fp cnt p) (updN fn cnt n) (updN fw cnt w) (upd (upd (upd sr (3 * cnt) (nI p)) (3 * cnt + 1) (nI n)) (3 * cnt + 2) (nI w)) := by
          intro w hw
          refine ⟨⟨by omega, fun i hi => ?_⟩, fun i hi => ?_⟩
          · unfold updN
            by_cases e : i = cnt
            · rw [if_pos e, if_pos e, if_pos e]
              exact ⟨hp', hn, hw⟩
            · rw [if_neg e, if_neg e, if_neg e]
              exact hf.2 i (by omega)
          · unfold updN
            by_cases e : i = cnt
            · subst e
              rw [if_pos rfl, if_pos rfl, if_pos rfl]
              refine ⟨?_, ?_, ?_⟩
              · rw [pk_un (by omega), pk_un (by omega), pk_us]
              · rw [pk_un (by omega), pk_us]
              · rw [pk_us]
            · rw [if_neg e, if_neg e, if_neg e]
              have := hfm i (by omega)
              refine ⟨?_, ?_, ?_⟩
              · rw [pk_un (by omega), pk_un (by omega), pk_un (by omega), this.1]
              · rw [pk_un (by omega), pk_un (by omega), pk_un (by omega), this.2.1]
              · rw [pk_un (by omega), pk_un (by omega), pk_un (by omega), this.2.2]
        have mod : ∀ w : Nat, fX7_bit a3 = some (nI w) → fX7_seen (nI M) (nI cnt) sr (nI p) (nI n) a3 = some (nI (cnt + 1), nI (cnt + 1), (upd (upd (upd sr (3 * cnt) (nI p)) (3 * cnt + 1) (nI n)) (3 * cnt + 2) (nI w))) := by
          intro w hw
          unfold fX7_seen
          rw [(man_yes h h' hp').2, xbd_some rfl, if_neg (by decide), (last_yes hn).2, xbd_some rfl, if_neg (by decide), if_neg (show ¬ nI cnt = 10 from fun z => c ((nI_eq (b := 10) (by omega) (by omega)).mp z)), show (3 : Int32) = nI 3 from rfl, show (2 : Int32) = nI 2 from rfl, x_mulN, if_neg (nI_in (by omega) (by omega)), show nI (3 * cnt) + 1 = nI (3 * cnt + 1) from nI_1 _, if_neg (nI_in (by omega) (by omega)), hw, xbd_some rfl, nI_add, if_neg (nI_in (by omega) (by omega)), nI_clamp (by omega), nI_clamp (by omega), nI_clamp (by omega), nI_1]
        by_cases c3 : a3 = 0
        · obtain ⟨g1, g2⟩ := fin 0 (by omega)
          refine ⟨nI (cnt + 1), cnt + 1, _, _, _, _, ?_, mod 0 (by unfold fX7_bit; rw [if_pos c3]; rfl), g1, g2⟩
          unfold fX6_seen fX0_add
          rw [(man_yes h h' hp').1, xbd_some rfl, if_neg (by decide), (last_yes hn).1, xbd_some rfl, if_neg (by decide), if_pos (show nI cnt < 10 from nI_lt (b := 10) (by omega) (by omega)), fX3_set_eq _ _ _ _ (by omega), rset_n (by omega) (by omega), xbd_some rfl, fX3_set_eq _ _ _ _ (by omega), rset_n (by omega) (by omega), xbd_some rfl, if_pos c3, fX3_set_eq _ _ _ _ (by omega), rset_n (by omega) (by omega), xbd_some rfl, upd_nI, upd_nI, show (0 : Int32) = nI 0 from rfl, upd_nI, nI_1]
          rfl
        · obtain ⟨g1, g2⟩ := fin 1 (by omega)
          refine ⟨nI (cnt + 1), cnt + 1, _, _, _, _, ?_, mod 1 (by unfold fX7_bit; rw [if_neg c3]; rfl), g1, g2⟩
          unfold fX6_seen fX0_add
          rw [(man_yes h h' hp').1, xbd_some rfl, if_neg (by decide), (last_yes hn).1, xbd_some rfl, if_neg (by decide), if_pos (show nI cnt < 10 from nI_lt (b := 10) (by omega) (by omega)), fX3_set_eq _ _ _ _ (by omega), rset_n (by omega) (by omega), xbd_some rfl, fX3_set_eq _ _ _ _ (by omega), rset_n (by omega) (by omega), xbd_some rfl, if_neg c3, fX3_set_eq _ _ _ _ (by omega), rset_n (by omega) (by omega), xbd_some rfl, upd_nI, upd_nI, nI_1, show (1 : Int32) = nI 1 from rfl, upd_nI]
          rfl
    · refine ⟨-1, cnt, fp, fn, fw, sr, ?_, ?_, hf, hfm⟩
      · unfold fX6_seen
        rw [(man_yes h h' hp').1, xbd_some rfl, if_neg (by decide), (last_no hn).1, xbd_some rfl, if_pos (by decide)]
      · unfold fX7_seen
        rw [(man_yes h h' hp').2, xbd_some rfl, if_neg (by decide), (last_no hn).2, xbd_some rfl, if_pos (by decide)]
  · refine ⟨-1, cnt, fp, fn, fw, sr, ?_, ?_, hf, hfm⟩
    · unfold fX6_seen
      rw [(man_no h h' hp).1, xbd_some rfl, if_pos (by decide)]
    · unfold fX7_seen
      rw [(man_no h h' hp).2, xbd_some rfl, if_pos (by decide)]
