/-! ===== sets that fit ===== -/
def btl (s l : Nat) : Nat := s / 2 ^ l % 2
theorem btl_le (s l : Nat) : btl s l ≤ 1 := by
  have := Nat.mod_lt (s / 2 ^ l) (show 0 < 2 by omega)
  unfold btl
  omega
theorem xb_btl {s l : Nat} (hs : s < 64) (hl : l < 6) : (nI s >>> (nI l &&& 31)) &&& 1 = nI (btl s l) := xb_bit s hs l hl
theorem fX5_reckonLit_n {M st nd set : Nat} {kd o0 ch l0 dB dP su : Nat → Nat} (hT : TB M st nd kd o0 ch l0 dB dP su) (hset : set < 64) (F : Nat) (hF : 1000 < F) (f : Nat → Nat) : ∃ D, isD (Bl dB dP nd) M st 0 D ∧ fX5_reckonLit F (nI M) (nI st) (nI nd) (fun j => nI (o0 j)) (fun j => nI (dB j)) (fun j => nI (dP j)) (fun j => nI (f j)) (nI set) 6 = some (fun j => nI (mixN M (litF (fun p => p) o0 (btl set) D) D j)) := by
  obtain ⟨h, h', hst, hnd, hk, hl, hd, hsu⟩ := hT
  obtain ⟨D, hD, eD⟩ := fX5_reckonDraughts_n (b := 0) h h' hst hnd (by omega) (fun i hi => ⟨(hd i hi).2.1, (hd i hi).2.2⟩) F (by omega) f
  refine ⟨D, hD, ?_⟩
  have key : ∀ (d i G : Nat), i + d = M → d < G → fX5_reckonLit_L8 (nI M) (fun j => nI (o0 j)) (nI set) 6 (fun (v8_3 : Int32) (w8_gf : Nat → Int32) => some w8_gf) G (nI i) (fun j => nI (mixN i (litF (fun p => p) o0 (btl set) D) D j)) = some (fun j => nI (mixN M (litF (fun p => p) o0 (btl set) D) D j)) := by
    intro d
    induction d with
    | zero =>
      intro i G h1 h2
      obtain ⟨G, rfl⟩ : ∃ G', G = G' + 1 := ⟨G - 1, by omega⟩
      obtain rfl : i = M := by omega
      rw [fX5_reckonLit_L8, if_pos (Int32.le_refl _)]
    | succ d ih =>
      intro i G h1 h2
      obtain ⟨G, rfl⟩ : ∃ G', G = G' + 1 := ⟨G - 1, by omega⟩
      have hDi := (hD i (by omega)).2.1
      have hoi := (hk i (by omega)).2.1
      rw [fX5_reckonLit_L8, if_neg (nI_ge (by omega) (by omega)), xb_btl hset (by omega)]
      by_cases e : btl set i = 1
      · rw [e, if_pos (by decide), fX3_get_eq _ _ _ (by omega), rget_n (by omega) (by omega), xbd_some rfl, fX3_get_eq _ _ _ (by omega), rget_n (by omega) (by omega), mixN_at, xbd_some rfl, x_minN (by omega) (by omega), fX3_set_eq _ _ _ _ (by omega), rset_n (by omega) (by omega), xbd_some rfl, upd_nI, mixN_succ (by unfold litF; rw [if_pos e]), nI_1]
        exact ih (i + 1) G (by omega) (by omega)
      · have e0 : btl set i = 0 := by have := btl_le set i; omega
        rw [e0, if_neg (by decide), fX3_set_eq _ _ _ _ (by omega), rset_n (by omega) (by omega), xbd_some rfl, show (0 : Int32) = nI 0 from rfl, upd_nI, mixN_succ (by unfold litF; rw [if_neg e]), nI_1]
        exact ih (i + 1) G (by omega) (by omega)
  have key0 := key M 0 F (by omega) (by omega)
  rw [mixN_0] at key0
  unfold fX5_reckonLit
  rw [show (0 : Int32) = nI 0 from rfl, eD, xbd_some rfl]
  exact key0
theorem isD_uniq {B : Nat → Nat → Prop} {M st b : Nat} {D E : Nat → Nat} (hD : isD B M st b D) (hE : isD B M st b E) {p n : Nat} (hp : p < M) (hn : n < 1000) (h : n < D p) : n < E p := by
  obtain ⟨d1, d2, d3⟩ := hD p hp
  obtain ⟨e1, e2, e3⟩ := hE p hp
  by_cases c : n < E p
  · exact c
  · have h1 := (e3 (E p - 1) (by omega) (by omega)).mpr (by omega)
    have h2 := (d3 (E p - 1) (by omega) (by omega)).mp h1
    omega
theorem litF_uniq {B : Nat → Nat → Prop} {M st b : Nat} {po oi lt D E : Nat → Nat} (hD : isD B M st b D) (hE : isD B M st b E) {l n : Nat} (hp : po l < M) (hn : n < 1000) : n < litF po oi lt D l ↔ n < litF po oi lt E l := by
  unfold litF
  by_cases e : lt l = 1
  · rw [if_pos e, if_pos e]
    have h1 := isD_uniq hD hE hp hn
    have h2 := isD_uniq hE hD hp hn
    constructor <;> intro z
    · have := h1 (by omega)
      omega
    · have := h2 (by omega)
      omega
  · rw [if_neg e, if_neg e]
theorem okN_congr {M st k : Nat} {fp fn fw kd G G' su : Nat → Nat} {aC : Int32} (h : 2 ≤ M) (hG : ∀ q, q < M → (fn k < G q ↔ fn k < G' q)) : okN M st fp fn fw kd G su aC k ↔ okN M st fp fn fw kd G' su aC k := by
  unfold okN
  have e : (if fn k < G (bk M (fp k) (fn k * st)) then 1 else 0) = (if fn k < G' (bk M (fp k) (fn k * st)) then (1 : Nat) else 0) := by
    have := hG _ (bk_lt (p := fp k) (k := fn k * st) h)
    by_cases c : fn k < G (bk M (fp k) (fn k * st))
    · rw [if_pos c, if_pos (this.mp c)]
    · rw [if_neg c, if_neg (fun z => c (this.mpr z))]
  rw [e]
/-- whether what was felt agrees, with lanterns lit so and draughts so -/
def agP (M st cnt : Nat) (kd su fp fn fw oi lt D : Nat → Nat) (aC : Int32) : Prop := ∀ i, i < cnt → okN M st fp fn fw kd (litF (fun p => p) oi lt D) su aC i
theorem agP_uniq {B : Nat → Nat → Prop} {M st cnt : Nat} {kd su fp fn fw oi lt lt' D E : Nat → Nat} {aC : Int32} (h : 2 ≤ M) (hD : isD B M st 0 D) (hE : isD B M st 0 E) (hl : ∀ l, l < M → lt l = lt' l) (hf : FB M cnt fp fn fw) : agP M st cnt kd su fp fn fw oi lt D aC ↔ agP M st cnt kd su fp fn fw oi lt' E aC := by
  have key : ∀ i, i < cnt → (okN M st fp fn fw kd (litF (fun p => p) oi lt D) su aC i ↔ okN M st fp fn fw kd (litF (fun p => p) oi lt' E) su aC i) := by
    intro i hi
    refine okN_congr h (fun q hq => ?_)
    rw [litF_uniq (po := fun p => p) hD hE hq (by have := (hf.2 i hi).2.1; omega)]
    unfold litF
    rw [hl q hq]
  exact ⟨fun z i hi => (key i hi).mp (z i hi), fun z i hi => (key i hi).mpr (z i hi)⟩
/-- the class's answer whether it agrees, after it has reckoned with a set -/
theorem agrees_set {M st nd cnt set : Nat} {kd o0 ch l0 dB dP su fp fn fw D : Nat → Nat} {sf sto aC : Int32} (hT : TB M st nd kd o0 ch l0 dB dP su) (hC : SC su sf sto) (hf : FB M cnt fp fn fw) (hD : isD (Bl dB dP nd) M st 0 D) (F : Nat) (hF : 1000 < F) : fX0_agrees F (nI cnt) (fun j => nI (fp j)) (fun j => nI (fn j)) (fun j => nI (fw j)) (nI M) (nI st) sf sto (fun j => nI (kd j)) (fun j => nI (mixN M (litF (fun p => p) o0 (btl set) D) D j)) aC 6 = some (nI (tv (agP M st cnt kd su fp fn fw o0 (btl set) D aC))) := by
  rw [fX0_agrees_n hT hC hf (G := mixN M (litF (fun p => p) o0 (btl set) D) D) (fun q hq => by
    have hd := hD q hq
    show (if q < M then _ else _) ≤ _
    rw [if_pos hq]
    show (if btl set q = 1 then min (o0 q) (D q) else 0) ≤ 1000000
    split <;> omega) F hF]
  congr 2
  refine tv_congr ?_
  have key : ∀ i, i < cnt → (okN M st fp fn fw kd (mixN M (litF (fun p => p) o0 (btl set) D) D) su aC i ↔ okN M st fp fn fw kd (litF (fun p => p) o0 (btl set) D) su aC i) := fun i hi => okN_congr hT.1 (fun q hq => by
    show fn i < (if q < M then _ else _) ↔ _
    rw [if_pos hq])
  exact ⟨fun z i hi => (key i hi).mp (z i hi), fun z i hi => (key i hi).mpr (z i hi)⟩
theorem oil_set_c {M : Nat} {o0 : Nat → Nat} (h' : M ≤ 6) (ho : ∀ i, i < 6 → o0 i ≤ 40) (F : Nat) (hF : 6 < F) : fX5_withOil F (nI M) (fun j => nI (o0 j)) = some (nI (bts (mixN M (fun l => if o0 l = 0 then 0 else 1) (fun _ => 0)))) := by
  have key : ∀ (d i G : Nat), i + d = M → d < G → fX5_withOil_L4 (nI M) (fun j => nI (o0 j)) (fun (v4_2 : Int32) (v4_1 : Int32) => some v4_1) G (nI i) (nI (bts (mixN i (fun l => if o0 l = 0 then 0 else 1) (fun _ => 0)))) = some (nI (bts (mixN M (fun l => if o0 l = 0 then 0 else 1) (fun _ => 0)))) := by
    intro d
    induction d with
    | zero =>
      intro i G h1 h2
      obtain ⟨G, rfl⟩ : ∃ G', G = G' + 1 := ⟨G - 1, by omega⟩
      obtain rfl : i = M := by omega
      rw [fX5_withOil_L4, if_pos (Int32.le_refl _)]
    | succ d ih =>
      intro i G h1 h2
      obtain ⟨G, rfl⟩ : ∃ G', G = G' + 1 := ⟨G - 1, by omega⟩
      have hoi := ho i (by omega)
      rw [fX5_withOil_L4, if_neg (nI_ge (by omega) (by omega)), fX3_get_eq _ _ _ (by omega), rget_n (by omega) (by omega), xbd_some rfl]
      by_cases e : o0 i = 0
      · rw [e, if_pos (by decide), nI_1, ← acc_no (i := i) (g := fun l => if o0 l = 0 then 0 else 1) (if_pos e)]
        exact ih (i + 1) G (by omega) (by omega)
      · rw [if_neg (nI_nle (by omega) (by omega)), nI_1, acc_or (g := fun l => if o0 l = 0 then 0 else 1) (by omega) (fun j _ => by show (if o0 j = 0 then 0 else 1) ≤ 1; split <;> omega) (if_neg e)]
        exact ih (i + 1) G (by omega) (by omega)
  have key0 := key M 0 F (by omega) (by omega)
  rw [mixN_0] at key0
  exact key0
theorem oil_set_m {M : Nat} {o0 ch : Nat → Nat} {orw : Nat → Int32} (h' : M ≤ 6) (ho : ∀ i, i < 6 → o0 i ≤ 40 ∧ (ch i = 1 → o0 i = 0) ∧ orw i = (if ch i = 1 then -1 else nI (o0 i))) (F : Nat) (hF : 6 < F) : fX7_oiled F (nI M) orw = some (nI (bts (mixN M (fun l => if o0 l = 0 then 0 else 1) (fun _ => 0)))) := by
  have key : ∀ (d i G : Nat), i + d = M → d < G → fX7_oiled_L4 (nI M) orw (fun (v4_2 : Int32) (v4_1 : Int32) => some v4_1) G (nI i) (nI (bts (mixN i (fun l => if o0 l = 0 then 0 else 1) (fun _ => 0)))) = some (nI (bts (mixN M (fun l => if o0 l = 0 then 0 else 1) (fun _ => 0)))) := by
    intro d
    induction d with
    | zero =>
      intro i G h1 h2
      obtain ⟨G, rfl⟩ : ∃ G', G = G' + 1 := ⟨G - 1, by omega⟩
      obtain rfl : i = M := by omega
      rw [fX7_oiled_L4, if_pos (Int32.le_refl _)]
    | succ d ih =>
      intro i G h1 h2
      obtain ⟨G, rfl⟩ : ∃ G', G = G' + 1 := ⟨G - 1, by omega⟩
      obtain ⟨o1, o2, o3⟩ := ho i (by omega)
      rw [fX7_oiled_L4, if_neg (nI_ge (by omega) (by omega)), if_neg (nI_in (by omega) (by omega)), nI_clamp (by omega), o3]
      by_cases e : o0 i = 0
      · have ez : (if ch i = 1 then (-1 : Int32) else nI (o0 i)) ≤ 0 := by
          by_cases z : ch i = 1
          · rw [if_pos z]
            decide
          · rw [if_neg z, e]
            decide
        rw [if_pos ez, nI_1, Int32.or_zero, ← acc_no (i := i) (g := fun l => if o0 l = 0 then 0 else 1) (if_pos e)]
        exact ih (i + 1) G (by omega) (by omega)
      · rw [if_neg (show ¬ ch i = 1 from fun z => e (o2 z)), if_neg (nI_nle (by omega) (by omega)), nI_1, acc_or (g := fun l => if o0 l = 0 then 0 else 1) (by omega) (fun j _ => by show (if o0 j = 0 then 0 else 1) ≤ 1; split <;> omega) (if_neg e)]
        exact ih (i + 1) G (by omega) (by omega)
  have key0 := key M 0 F (by omega) (by omega)
  rw [mixN_0] at key0
  exact key0
theorem mix_bts_lt {M : Nat} {g : Nat → Nat} (h : 2 ≤ M) (h' : M ≤ 6) (hg : ∀ i, g i ≤ 1) : bts (mixN M g (fun _ => 0)) < 2 ^ M := by
  have g0 := hg 0
  have g1 := hg 1
  have g2 := hg 2
  have g3 := hg 3
  have g4 := hg 4
  have g5 := hg 5
  rcases M_cases h h' with rfl | rfl | rfl | rfl | rfl <;> simp only [bts, mixN] <;> simp <;> omega
theorem sumN_tail {n k : Nat} {f : Nat → Nat} (h : ∀ i, n ≤ i → i < n + k → f i = 0) : sumN (n + k) f = sumN n f := by
  induction k with
  | zero => rfl
  | succ k ih =>
    show sumN (n + k) f + f (n + k) = _
    rw [ih (fun i h1 h2 => h i h1 (by omega)), h (n + k) (by omega) (by omega), Nat.add_zero]
theorem xb_over : ∀ o, o < 64 → ∀ s, s < 64 → o < s → ¬ nI s &&& (nI o ^^^ (-1)) = 0 := by decide +kernel
theorem xb_must : ∀ s, s < 64 → ∀ l, l < 6 → (nI (2 ^ l) &&& (nI s ^^^ (-1)) = 0 ↔ s / 2 ^ l % 2 = 1) := by decide +kernel
