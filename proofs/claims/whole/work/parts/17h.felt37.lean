/-! ===== what was felt ===== -/
noncomputable def tv (P : Prop) : Nat := @ite Nat P (Classical.propDecidable P) 1 0
theorem tv_pos {P : Prop} (h : P) : tv P = 1 := if_pos h
theorem tv_neg {P : Prop} (h : ¬ P) : tv P = 0 := if_neg h
theorem tv_le {P : Prop} : tv P ≤ 1 := by
  unfold tv
  split <;> omega
theorem tv_congr {P Q : Prop} (h : P ↔ Q) : tv P = tv Q := by rw [propext h]
theorem tv_one {P : Prop} : tv P = 1 ↔ P := by
  constructor
  · intro z
    by_cases hp : P
    · exact hp
    · rw [tv_neg hp] at z
      omega
  · exact tv_pos
def okN (M st : Nat) (fp fn fw kd G su : Nat → Nat) (aC : Int32) (k : Nat) : Prop := wmN (if nI (fp k) = aC then 1 else kd (fp k)) (toN (if fn k < G (bk M (fp k) (fn k * st)) then 1 else 0) (su (fn k))) = fw k
/-- the bounds of what was felt -/
def FB (M cnt : Nat) (fp fn fw : Nat → Nat) : Prop := cnt ≤ 10 ∧ ∀ i, i < cnt → fp i < M ∧ fn i ≤ 60 ∧ fw i ≤ 1
theorem tail_ag {w f : Nat} (hw : w ≤ 1) (hf : f ≤ 1) (C : Option Int32) : (if nI f = (1 : Int32) then (if nI w = (1 : Int32) then C else some (0 : Int32)) else (if nI w = (0 : Int32) then C else some (0 : Int32))) = if w = f then C else some (0 : Int32) := by
  rcases (show w = 0 ∨ w = 1 by omega) with rfl | rfl <;> rcases (show f = 0 ∨ f = 1 by omega) with rfl | rfl <;> rfl
theorem fX0_agrees_n {M st nd cnt : Nat} {kd o0 ch l0 dB dP su fp fn fw G : Nat → Nat} {sf sto aC : Int32} (hT : TB M st nd kd o0 ch l0 dB dP su) (hC : SC su sf sto) (hf : FB M cnt fp fn fw) (hG : ∀ q, q < M → G q ≤ 1000000) (F : Nat) (hF : 1000 < F) : fX0_agrees F (nI cnt) (fun j => nI (fp j)) (fun j => nI (fn j)) (fun j => nI (fw j)) (nI M) (nI st) sf sto (fun j => nI (kd j)) (fun j => nI (G j)) aC 6 = some (nI (tv (∀ i, i < cnt → okN M st fp fn fw kd G su aC i))) := by
  obtain ⟨h, h', hst, hnd, hk, hl, hd, hsu⟩ := hT
  have key : ∀ (d i H : Nat), i + d = cnt → d < H → fX0_agrees_L3 (nI cnt) (fun j => nI (fp j)) (fun j => nI (fn j)) (fun j => nI (fw j)) (nI M) (nI st) sf sto (fun j => nI (kd j)) (fun j => nI (G j)) aC 6 (fun (v3_4 : Int32) => some (1 : Int32)) H (nI i) = some (nI (tv (∀ j, i ≤ j → j < cnt → okN M st fp fn fw kd G su aC j))) := by
    intro d
    induction d with
    | zero =>
      intro i H h1 h2
      obtain ⟨H, rfl⟩ : ∃ H', H = H' + 1 := ⟨H - 1, by omega⟩
      obtain rfl : i = cnt := by omega
      rw [fX0_agrees_L3, if_pos (Int32.le_refl _), tv_pos (fun j z1 z2 => by omega)]
      rfl
    | succ d ih =>
      intro i H h1 h2
      obtain ⟨H, rfl⟩ : ∃ H', H = H' + 1 := ⟨H - 1, by omega⟩
      obtain ⟨f0, f1⟩ := hf
      obtain ⟨f2, f3, f4⟩ := f1 i (by omega)
      have hkp := (hk (fp i) (by omega)).1
      have hb := bk_lt (M := M) (p := fp i) (k := fn i * st) h
      have hg := hG _ hb
      have ih' := ih (i + 1) H (by omega) (by omega)
      have fin : ∀ w, wmN (if nI (fp i) = aC then 1 else kd (fp i)) (toN (if fn i < G (bk M (fp i) (fn i * st)) then 1 else 0) (su (fn i))) = w → (if w = fw i then (some (nI (tv (∀ j, i + 1 ≤ j → j < cnt → okN M st fp fn fw kd G su aC j)))) else some (0 : Int32)) = some (nI (tv (∀ j, i ≤ j → j < cnt → okN M st fp fn fw kd G su aC j))) := by
        intro w hw
        by_cases e : w = fw i
        · rw [if_pos e]
          congr 2
          refine tv_congr ⟨fun z j z1 z2 => ?_, fun z j z1 z2 => z j (by omega) z2⟩
          by_cases e2 : j = i
          · rw [e2]
            exact hw.trans e
          · exact z j (by omega) z2
        · rw [if_neg e, tv_neg (fun z => e (hw.symm.trans (z i (Nat.le_refl _) (by omega))))]
          rfl
      rw [fX0_agrees_L3, if_neg (nI_ge (by omega) (by omega)), fX3_get_eq _ _ _ (by omega), rget_n (by omega) (by omega), xbd_some rfl, fX3_get_eq _ _ _ (by omega), rget_n (by omega) (by omega), xbd_some rfl, fX5_postBefore_n h h' (by omega) hst (by omega), xbd_some rfl, fX3_get_eq _ _ _ (by omega), rget_n (by omega) (by omega), xbd_some rfl]
      have hsu' := hsu (fn i)
      by_cases c1 : fn i < G (bk M (fp i) (fn i * st))
      · rw [if_neg (nI_ge c1 (by omega))]
        rw [if_pos c1] at fin
        by_cases c2 : nI (fp i) = aC
        · rw [if_pos c2] at fin
          rw [if_pos c2, show fX5_isWarm sf sto (1 : Int32) (1 : Int32) (nI (fn i)) = _ from fX5_isWarm_n (kd := 1) (lit := 1) (hC _ (by omega)) (by omega) hsu' (by omega), xbd_some rfl, fX3_get_eq _ _ _ (by omega), rget_n (by omega) (by omega), xbd_some rfl, nI_1, ih']
          refine Eq.trans (tail_ag (wmN_le (toN_le _ _)) f4 _) ?_
          exact fin _ rfl
        · rw [if_neg c2] at fin
          rw [if_neg c2, fX3_get_eq _ _ _ (by omega), rget_n (by omega) (by omega), xbd_some rfl, show fX5_isWarm sf sto (nI (kd (fp i))) (1 : Int32) (nI (fn i)) = _ from fX5_isWarm_n (lit := 1) (hC _ (by omega)) (by omega) hsu' hkp, xbd_some rfl, fX3_get_eq _ _ _ (by omega), rget_n (by omega) (by omega), xbd_some rfl, nI_1, ih']
          refine Eq.trans (tail_ag (wmN_le (toN_le _ _)) f4 _) ?_
          exact fin _ rfl
      · rw [if_pos (nI_le (by omega) (by omega))]
        rw [if_neg c1] at fin
        by_cases c2 : nI (fp i) = aC
        · rw [if_pos c2] at fin
          rw [if_pos c2, show fX5_isWarm sf sto (1 : Int32) (0 : Int32) (nI (fn i)) = _ from fX5_isWarm_n (kd := 1) (lit := 0) (hC _ (by omega)) (by omega) hsu' (by omega), xbd_some rfl, fX3_get_eq _ _ _ (by omega), rget_n (by omega) (by omega), xbd_some rfl, nI_1, ih']
          refine Eq.trans (tail_ag (wmN_le (toN_le _ _)) f4 _) ?_
          exact fin _ rfl
        · rw [if_neg c2] at fin
          rw [if_neg c2, fX3_get_eq _ _ _ (by omega), rget_n (by omega) (by omega), xbd_some rfl, show fX5_isWarm sf sto (nI (kd (fp i))) (0 : Int32) (nI (fn i)) = _ from fX5_isWarm_n (lit := 0) (hC _ (by omega)) (by omega) hsu' hkp, xbd_some rfl, fX3_get_eq _ _ _ (by omega), rget_n (by omega) (by omega), xbd_some rfl, nI_1, ih']
          refine Eq.trans (tail_ag (wmN_le (toN_le _ _)) f4 _) ?_
          exact fin _ rfl
  unfold fX0_agrees
  rw [show (0 : Int32) = nI 0 from rfl, key cnt 0 F (by omega) (by have := hf.1; omega)]
  congr 2
  exact tv_congr ⟨fun z i hi => z i (Nat.zero_le _) hi, fun z i _ hi => z i hi⟩
/-- the felt, as the reference holds it -/
def FM (cnt : Nat) (fp fn fw : Nat → Nat) (sr : Nat → Int32) : Prop := ∀ i, i < cnt → sr (3 * i) = nI (fp i) ∧ sr (3 * i + 1) = nI (fn i) ∧ sr (3 * i + 2) = nI (fw i)
theorem id_PM (M : Nat) : PM M (fun p => p) (fun p => p) := ⟨fun _ h => ⟨h, rfl⟩, fun _ h => ⟨h, rfl⟩⟩
theorem fX7_isAsSeen_L16_n {M st nd cnt n : Nat} {kd o0 ch l0 dB dP su fp fn fw oi lt D : Nat → Nat} {sn dk aC : Int32} {kr orw lr dr sr s : Nat → Int32} (hT : TB M st nd kd o0 ch l0 dB dP su) (hM : TM M st nd kd o0 ch l0 dB dP su sn dk kr orw lr dr) (hf : FB M cnt fp fn fw) (hfm : FM cnt fp fn fw sr) (hn : n ≤ 60) (hs : MR M (plN M st (fun p => p) n) (oiN (fun p => p) oi lt D n) (ltN (fun p => p) oi lt D n) (0 + n) s) (k : Int32 → Int32 → Option (Int32 × (Nat → Int32) × (Nat → Int32))) : ∀ (d i H : Nat) (P : Prop), i + d = cnt → d < H → fX7_isAsSeen_L16 sn dk (nI cnt) aC kr sr (nI n) s k H (nI i) (nI (tv P)) = k (nI cnt) (nI (tv (P ∧ ∀ j, i ≤ j → j < cnt → fn j = n → okN M st fp fn fw kd (litF (fun p => p) oi lt D) su aC j))) := by
  obtain ⟨h, h', hst, hnd, hk, hl, hd, hsu⟩ := hT
  intro d
  induction d with
  | zero =>
    intro i H P h1 h2
    obtain ⟨H, rfl⟩ : ∃ H', H = H' + 1 := ⟨H - 1, by omega⟩
    obtain rfl : i = cnt := by omega
    rw [fX7_isAsSeen_L16, if_pos (Int32.le_refl _)]
    congr 2
    exact tv_congr ⟨fun z => ⟨z, fun j z1 z2 => by omega⟩, fun z => z.1⟩
  | succ d ih =>
    intro i H P h1 h2
    obtain ⟨H, rfl⟩ : ∃ H', H = H' + 1 := ⟨H - 1, by omega⟩
    obtain ⟨f0, f1⟩ := hf
    obtain ⟨f2, f3, f4⟩ := f1 i (by omega)
    obtain ⟨m1, m2, m3⟩ := hfm i (by omega)
    rw [fX7_isAsSeen_L16, if_neg (nI_ge (by omega) (by omega))]
    by_cases hp : P
    · rw [tv_pos hp, if_neg (by decide), show (3 : Int32) = nI 3 from rfl, x_mulN, nI_1, if_neg (nI_in (by omega) (by omega)), nI_clamp (by omega), m2]
      by_cases e : fn i = n
      · have hkp := (hk (fp i) (by omega)).1
        rw [if_pos (by rw [e]), if_neg (nI_in (by omega) (by omega)), nI_clamp (by omega), m1, fX7_isWarm_tried_n h' hs f2 (bk_lt h) ltN_le ((hM.1 _ (by omega)).1 f2) hkp (hM.2.2 _ (by omega)) (hsu _), xbd_some rfl, bit_n (wmN_le (toN_le _ _)), xbd_some rfl, show (2 : Int32) = nI 2 from rfl, nI_add, if_neg (nI_in (by omega) (by omega)), nI_clamp (by omega), m3, nI_1]
        have ew : (wmN (if nI (fp i) = aC then 1 else kd (fp i)) (toN (ltN (fun p => p) oi lt D n (plN M st (fun p => p) n (fp i))) (su (0 + n))) = fw i) ↔ okN M st fp fn fw kd (litF (fun p => p) oi lt D) su aC i := by
          unfold okN
          rw [e, Nat.zero_add]
          exact Iff.rfl
        have hw := wmN_le (a := if nI (fp i) = aC then 1 else kd (fp i)) (toN_le (ltN (fun p => p) oi lt D n (plN M st (fun p => p) n (fp i))) (su (0 + n)))
        by_cases e2 : wmN (if nI (fp i) = aC then 1 else kd (fp i)) (toN (ltN (fun p => p) oi lt D n (plN M st (fun p => p) n (fp i))) (su (0 + n))) = fw i
        · rw [if_pos (by rw [e2])]
          have ih' := ih (i + 1) H True (by omega) (by omega)
          rw [tv_pos True.intro] at ih'
          refine Eq.trans ih' ?_
          congr 2
          refine tv_congr ⟨fun z => ⟨hp, fun j z1 z2 z3 => ?_⟩, fun z => ⟨True.intro, fun j z1 z2 z3 => z.2 j (by omega) z2 z3⟩⟩
          by_cases e3 : j = i
          · rw [e3]
            exact ew.mp e2
          · exact z.2 j (by omega) z2 z3
        · rw [if_neg (fun z => e2 ((nI_eq (by omega) (by omega)).mp z))]
          have ih' := ih (i + 1) H False (by omega) (by omega)
          rw [tv_neg (fun z => z)] at ih'
          refine Eq.trans ih' ?_
          congr 2
          exact tv_congr ⟨fun z => z.1.elim, fun z => absurd (ew.mpr (z.2 i (Nat.le_refl _) (by omega) e)) e2⟩
      · rw [if_neg (fun z => e ((nI_eq (by omega) (by omega)).mp z)), nI_1]
        have ih' := ih (i + 1) H True (by omega) (by omega)
        rw [tv_pos True.intro] at ih'
        refine Eq.trans ih' ?_
        congr 2
        refine tv_congr ⟨fun z => ⟨hp, fun j z1 z2 z3 => ?_⟩, fun z => ⟨True.intro, fun j z1 z2 z3 => z.2 j (by omega) z2 z3⟩⟩
        by_cases e3 : j = i
        · exact absurd (e3 ▸ z3) e
        · exact z.2 j (by omega) z2 z3
    · rw [tv_neg hp, if_pos (by decide), nI_1]
      have ih' := ih (i + 1) H False (by omega) (by omega)
      rw [tv_neg (fun z => z)] at ih'
      refine Eq.trans ih' ?_
      congr 2
      exact tv_congr ⟨fun z => z.1.elim, fun z => absurd z.1 hp⟩
theorem fX7_isAsSeen_n {M st nd cnt : Nat} {kd o0 ch l0 dB dP su fp fn fw oi lt D : Nat → Nat} {sn dk aC aB aP : Int32} {kr orw lr dr sr s mv : Nat → Int32} {B : Nat → Nat → Prop} (hT : TB M st nd kd o0 ch l0 dB dP su) (hM : TM M st nd kd o0 ch l0 dB dP su sn dk kr orw lr dr) (hf : FB M cnt fp fn fw) (hfm : FM cnt fp fn fw sr) (hP : PB M (fun p => p) (fun p => p) oi lt 0) (hX : BX nd dB dP aB aP M 0 61 B) (hD : isD B M st 0 D) (hs : MR M (fun p => p) oi lt 0 s) (F : Nat) (hF : 1000 < F) : ∃ s' m', fX7_isAsSeen F (nI M) (nI st) (nI nd) sn dk (nI cnt) aB aP aC kr dr s sr mv = some (nI (tv (∀ i, i < cnt → okN M st fp fn fw kd (litF (fun p => p) oi lt D) su aC i)), s', m') := by
  have key : ∀ (d n G : Nat) (s v : Nat → Int32) (P : Prop), n + d = 61 → d < G → MR M (plN M st (fun p => p) n) (oiN (fun p => p) oi lt D n) (ltN (fun p => p) oi lt D n) (0 + n) s → ∃ s' m', fX7_isAsSeen_L4 (nI M) (nI st) (nI nd) sn dk (nI cnt) aB aP aC kr dr sr F (fun (v4_2 : Int32) (v4_1 : Int32) (w4_mok_23 : Nat → Int32) (w4_mok_33 : Nat → Int32) => if v4_1 = 0 ∨ v4_1 = 1 then some (v4_1, (w4_mok_23, w4_mok_33)) else none) G (nI n) (nI (tv P)) s v = some (nI (tv (P ∧ ∀ j, n ≤ j → j < 61 → ∀ i, i < cnt → fn i = j → okN M st fp fn fw kd (litF (fun p => p) oi lt D) su aC i)), s', m') := by
    intro d
    induction d with
    | zero =>
      intro n G s v P h1 h2 h3
      obtain ⟨G, rfl⟩ : ∃ G', G = G' + 1 := ⟨G - 1, by omega⟩
      obtain rfl : n = 61 := by omega
      refine ⟨s, v, ?_⟩
      rw [fX7_isAsSeen_L4, if_pos (by decide), if_pos]
      · congr 3
        exact tv_congr ⟨fun z => ⟨z, fun j z1 z2 => by omega⟩, fun z => z.1⟩
      · have := tv_le (P := P)
        rcases (show tv P = 0 ∨ tv P = 1 by omega) with e | e <;> rw [e]
        · exact Or.inl rfl
        · exact Or.inr rfl
    | succ d ih =>
      intro n G s v P h1 h2 h3
      obtain ⟨G, rfl⟩ : ∃ G', G = G' + 1 := ⟨G - 1, by omega⟩
      by_cases hp : P
      · obtain ⟨s1, m1, g1, g2⟩ := ring_tried_s hT hM hP hX hD (show n < 61 by omega) (by omega) h3 F (by omega) (mv := v)
        obtain ⟨s2, m2, g3⟩ := ih (n + 1) G s1 m1 (P ∧ ∀ j, 0 ≤ j → j < cnt → fn j = n → okN M st fp fn fw kd (litF (fun p => p) oi lt D) su aC j) (by omega) (by omega) g2
        refine ⟨s2, m2, ?_⟩
        rw [fX7_isAsSeen_L4, show (61 : Int32) = nI 61 from rfl, if_neg (nI_ge (by omega) (by omega)), if_neg (by rw [tv_pos hp]; decide)]
        refine Eq.trans (fX7_isAsSeen_L16_n hT hM hf hfm (by omega) h3 _ cnt 0 F P (by omega) (by have := hf.1; omega)) ?_
        rw [g1, xbd_some rfl, nI_1]
        refine Eq.trans g3 ?_
        congr 3
        refine tv_congr ⟨fun z => ⟨hp, fun j z1 z2 i hi e => ?_⟩, fun z => ⟨⟨hp, fun j z1 z2 z3 => z.2 n (Nat.le_refl _) (by omega) j z2 z3⟩, fun j z1 z2 => z.2 j (by omega) z2⟩⟩
        by_cases e3 : j = n
        · exact z.1.2 i (Nat.zero_le _) hi (e.trans e3)
        · exact z.2 j (by omega) z2 i hi e
      · refine ⟨s, v, ?_⟩
        rw [fX7_isAsSeen_L4, show (61 : Int32) = nI 61 from rfl, if_neg (nI_ge (by omega) (by omega)), tv_neg hp, if_pos (by decide), if_pos (by decide), tv_neg (fun z => hp z.1)]
  obtain ⟨s', m', e⟩ := key 61 0 F s mv True (by omega) (by omega) (MR_0 hT.1 hT.2.1 hP.1 (fun l hl => ⟨hP.2.1 l (by have := hT.2.1; omega), (hP.2.2.2.1 l hl).1⟩) hD hs)
  refine ⟨s', m', ?_⟩
  rw [tv_pos True.intro] at e
  unfold fX7_isAsSeen
  refine Eq.trans e ?_
  congr 3
  exact tv_congr ⟨fun z i hi => z.2 (fn i) (Nat.zero_le _) (by have := (hf.2 i hi).2.1; omega) i hi rfl, fun z => ⟨True.intro, fun j _ _ i hi _ => z i hi⟩⟩
