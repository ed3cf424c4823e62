/-! ===== numbers that are asked with ===== -/
theorem rng (a : Int32) {lo hi : Nat} (h1 : lo < 2 ^ 31) (h2 : hi < 2 ^ 31) : (∃ n, lo ≤ n ∧ n ≤ hi ∧ a = nI n) ∨ (a < nI lo ∨ nI hi < a) := by
  by_cases c1 : a < nI lo
  · exact Or.inr (Or.inl c1)
  · by_cases c2 : nI hi < a
    · exact Or.inr (Or.inr c2)
    · refine Or.inl ?_
      rw [x_lt, nI_toInt h1] at c1
      rw [x_lt, nI_toInt h2] at c2
      refine ⟨a.toInt.toNat, by omega, by omega, Int32.toInt_inj.mp ?_⟩
      rw [nI_toInt (by omega)]
      omega
theorem in_yes {n lo hi : Nat} (h1 : lo ≤ n) (h2 : n ≤ hi) (h3 : hi < 2 ^ 31) : fX7_in (nI n) (nI lo) (nI hi) = some 1 := by
  unfold fX7_in
  rw [if_neg (nI_nlt h1 (by omega)), if_neg (nI_nlt h2 h3)]
theorem in_no {a : Int32} {lo hi : Nat} (h : a < nI lo ∨ nI hi < a) : fX7_in a (nI lo) (nI hi) = some 0 := by
  unfold fX7_in
  by_cases c : a < nI lo
  · rw [if_pos c]
  · rw [if_neg c, if_pos (h.resolve_left c)]
theorem man_yes {M p : Nat} (h : 2 ≤ M) (h' : M ≤ 6) (hp : p < M) : fX6_isMan (nI M) (nI p) = some 1 ∧ fX7_isMan (nI M) (nI p) = some 1 := by
  constructor
  · unfold fX6_isMan
    rw [if_neg (nI_pos (by omega)), if_neg (nI_ge hp (by omega))]
  · unfold fX7_isMan
    rw [show (1 : Int32) = nI 1 from rfl, x_subN (by omega) (by omega), show (0 : Int32) = nI 0 from rfl, in_yes (Nat.zero_le _) (by omega) (by omega)]
    rfl
theorem man_no {M : Nat} {a : Int32} (h : 2 ≤ M) (h' : M ≤ 6) (ha : a < nI 0 ∨ nI (M - 1) < a) : fX6_isMan (nI M) a = some 0 ∧ fX7_isMan (nI M) a = some 0 := by
  constructor
  · unfold fX6_isMan
    by_cases c : a < 0
    · rw [if_pos c]
    · rw [if_neg c, if_pos]
      have c2 := ha.resolve_left c
      rw [x_lt, nI_toInt (by omega)] at c2
      rw [x_le, nI_toInt (by omega)]
      omega
  · unfold fX7_isMan
    rw [show (1 : Int32) = nI 1 from rfl, x_subN (by omega) (by omega), show (0 : Int32) = nI 0 from rfl, in_no ha]
    rfl
theorem last_yes {n : Nat} (h : n ≤ 60) : fX6_isLastBell (nI n) = some 1 ∧ fX7_in (nI n) 0 60 = some 1 := by
  constructor
  · unfold fX6_isLastBell
    rw [if_neg (nI_pos (by omega)), show (60 : Int32) = nI 60 from rfl, if_neg (nI_nlt h (by omega))]
  · exact in_yes (lo := 0) (hi := 60) (Nat.zero_le _) h (by omega)
theorem last_no {a : Int32} (h : a < nI 0 ∨ nI 60 < a) : fX6_isLastBell a = some 0 ∧ fX7_in a 0 60 = some 0 := by
  constructor
  · unfold fX6_isLastBell
    by_cases c : a < 0
    · rw [if_pos c]
    · rw [if_neg c, show (60 : Int32) = nI 60 from rfl, if_pos (h.resolve_left c)]
  · exact in_no h
theorem row_nI (f : Nat → Int32) : ∃ g : Nat → Nat, f = fun j => nI (g j) := by
  refine ⟨fun j => (f j).toUInt32.toNat, funext fun j => ?_⟩
  exact (congrArg UInt32.toInt32 (UInt32.ofNat_toNat (x := (f j).toUInt32))).symm
theorem bit_n {v : Nat} (h : v ≤ 1) : fX7_bit (nI v) = some (nI v) := by
  rcases (show v = 0 ∨ v = 1 by omega) with rfl | rfl <;> rfl
/-! ===== what is told and what is there ===== -/
/-- the bounds of what is told -/
def TB (M st nd : Nat) (kd o0 ch l0 dB dP su : Nat → Nat) : Prop := 2 ≤ M ∧ M ≤ 6 ∧ st ≤ 5 ∧ nd ≤ 6 ∧ (∀ i, i < 6 → kd i ≤ 2 ∧ o0 i ≤ 40 ∧ ch i ≤ 1 ∧ l0 i ≤ 1 ∧ l0 i ≤ o0 i ∧ (ch i = 1 → o0 i = 0)) ∧ (∀ i, M ≤ i → l0 i = 0) ∧ (∀ i, i < nd → 1 ≤ dB i ∧ dB i ≤ 60 ∧ dP i < M) ∧ (∀ x, su x ≤ 1)
/-- what is told, as the reference holds it -/
def TM (M st nd : Nat) (kd o0 ch l0 dB dP su : Nat → Nat) (sn dk : Int32) (kr orw lr dr : Nat → Int32) : Prop := (∀ i, i < 6 → (i < M → kr i = nI (kd i)) ∧ orw i = (if ch i = 1 then -1 else nI (o0 i)) ∧ lr i = nI (l0 i)) ∧ (∀ i, i < nd → dr (2 * i) = nI (dB i) ∧ dr (2 * i + 1) = nI (dP i)) ∧ (∀ x, x < 20000 → fX7_in (nI x) sn dk = some (nI (su x)))
/-- the sun, as the class holds it -/
def SC (su : Nat → Nat) (sf sto : Int32) : Prop := ∀ x, x < 20000 → ((¬ nI x < sf ∧ ¬ sto < nI x) ↔ su x = 1)
/-- the bounds of what is there -/
def PB (M : Nat) (po pl oi lt : Nat → Nat) (b : Nat) : Prop := PM M po pl ∧ (∀ l, l < 6 → lt l ≤ 1) ∧ (∀ l, M ≤ l → lt l = 0) ∧ (∀ l, l < M → lt l ≤ oi l ∧ oi l ≤ 99) ∧ b ≤ 9999
theorem ltN_le {po oi lt D : Nat → Nat} {n l : Nat} : ltN po oi lt D n l ≤ 1 := by
  unfold ltN
  split <;> omega
theorem oiN_le {po oi lt D : Nat → Nat} {n l : Nat} : oiN po oi lt D n l ≤ oi l := Nat.sub_le _ _
theorem MR_0 {M st b : Nat} {B : Nat → Nat → Prop} {po pl oi lt D : Nat → Nat} {s : Nat → Int32} (h : 2 ≤ M) (h' : M ≤ 6) (hpm : PM M po pl) (hol : ∀ l, l < M → lt l ≤ 1 ∧ lt l ≤ oi l) (hD : isD B M st b D) (hs : MR M pl oi lt b s) : MR M (plN M st pl 0) (oiN po oi lt D 0) (ltN po oi lt D 0) (b + 0) s := by
  refine MR_congr hs (fun p hp => ?_) (fun l hl => ?_) rfl
  · unfold plN
    rw [Nat.zero_mul, bk_0 h h' hp]
  · have h1 := hol l hl
    have h2 := (hD _ (hpm.1 l hl).1).1
    constructor
    · unfold oiN
      split <;> omega
    · unfold ltN litF
      by_cases e : lt l = 1
      · rw [if_pos e, if_pos (by omega), e]
      · rw [if_neg e, if_neg (by omega)]
        omega
/-- the draughts that come while it rings n times from bell b on: those told and the one besides -/
def BX (nd : Nat) (dB dP : Nat → Nat) (aB aP : Int32) (M b n : Nat) (B : Nat → Nat → Prop) : Prop := (∀ j, j < n → ∀ y, y < M → ((Bl dB dP nd (b + j + 1) y ∨ (aB = nI (b + j + 1) ∧ aP = nI y)) ↔ B (b + j + 1) y)) ∧ (∀ j, j < n → aB = nI (b + j + 1) → ∃ y, y < M ∧ aP = nI y)
theorem BX_none {nd : Nat} {dB dP : Nat → Nat} {aP : Int32} {M b n : Nat} (hb : b + n < 20000) : BX nd dB dP (-1) aP M b n (Bl dB dP nd) := by
  have e : ∀ j, j < n → ¬ (-1 : Int32) = nI (b + j + 1) := by
    intro j hj z
    exact nI_pos (n := b + j + 1) (by omega) (by rw [← z]; decide)
  refine ⟨fun j hj y _ => ⟨fun z => z.elim id (fun z => absurd z.1 (e j hj)), Or.inl⟩, fun j hj z => absurd z (e j hj)⟩
theorem ring_tried_s {M st nd b n m : Nat} {kd o0 ch l0 dB dP su po pl oi lt D : Nat → Nat} {sn dk : Int32} {kr orw lr dr s mv : Nat → Int32} {aB aP : Int32} {B : Nat → Nat → Prop} (hT : TB M st nd kd o0 ch l0 dB dP su) (hM : TM M st nd kd o0 ch l0 dB dP su sn dk kr orw lr dr) (hP : PB M po pl oi lt b) (hX : BX nd dB dP aB aP M b m B) (hD : isD B M st b D) (hn : n < m) (hm : m < 1000) (hs : MR M (plN M st pl n) (oiN po oi lt D n) (ltN po oi lt D n) (b + n) s) (F : Nat) (hF : 6 < F) : ∃ s' m', fX7_ring_tried F (nI M) (nI st) (nI nd) aB aP dr s mv = some (s', m') ∧ MR M (plN M st pl (n + 1)) (oiN po oi lt D (n + 1)) (ltN po oi lt D (n + 1)) (b + (n + 1)) s' := by
  obtain ⟨h, h', hst, hnd, hk, hl, hd, hsu⟩ := hT
  obtain ⟨hpm, p1, p2, p3, p4⟩ := hP
  exact ring_tried_c h h' hst hnd (by omega) (by omega) (fun i hi => ⟨(hM.2.1 i hi).1, (hM.2.1 i hi).2, (hd i hi).2.1, (hd i hi).2.2⟩) (hX.2 n hn) hpm (fun l hl => ⟨p1 l (by omega), (p3 l hl).1, by have := (p3 l hl).2; omega⟩) B (hX.1 n hn) hD hs F hF
theorem fX7_triedIn_n {M st nd b n m : Nat} {kd o0 ch l0 dB dP su po pl oi lt D : Nat → Nat} {sn dk : Int32} {kr orw lr dr now tr mv : Nat → Int32} {aB aP : Int32} {B : Nat → Nat → Prop} (hT : TB M st nd kd o0 ch l0 dB dP su) (hM : TM M st nd kd o0 ch l0 dB dP su sn dk kr orw lr dr) (hP : PB M po pl oi lt b) (hX : BX nd dB dP aB aP M b m B) (hD : isD B M st b D) (hn : n ≤ m) (hm : m < 1000) (hs : MR M pl oi lt b now) (F : Nat) (hF : 1000 < F) : ∃ s' m', fX7_triedIn F (nI M) (nI st) (nI nd) aB aP dr now tr mv (nI n) = some (s', m') ∧ MR M (plN M st pl n) (oiN po oi lt D n) (ltN po oi lt D n) (b + n) s' := by
  obtain ⟨f', c1, c2, c3⟩ := fX7_copy_now_tried_n now tr (fr := 0) (to := 0) (by omega) (by omega) F (by omega)
  have hs0 : MR M pl oi lt b f' := MR_copy hT.2.1 hs (fun k hk => by have := c2 k hk; rw [Nat.zero_add] at this; exact this)
  have key : ∀ (d i G : Nat) (s v : Nat → Int32), i + d = n → d < G → MR M (plN M st pl i) (oiN po oi lt D i) (ltN po oi lt D i) (b + i) s → ∃ s' m', fX7_triedIn_L15 (nI M) (nI st) (nI nd) aB aP dr (nI n) F (fun (v15_2 : Int32) (w : Nat → Int32) (w' : Nat → Int32) => some (w, w')) G (nI i) s v = some (s', m') ∧ MR M (plN M st pl n) (oiN po oi lt D n) (ltN po oi lt D n) (b + n) s' := by
    intro d
    induction d with
    | zero =>
      intro i G s v h1 h2 h3
      obtain ⟨G, rfl⟩ : ∃ G', G = G' + 1 := ⟨G - 1, by omega⟩
      obtain rfl : i = n := by omega
      exact ⟨s, v, by rw [fX7_triedIn_L15, if_pos (Int32.le_refl _)], h3⟩
    | succ d ih =>
      intro i G s v h1 h2 h3
      obtain ⟨G, rfl⟩ : ∃ G', G = G' + 1 := ⟨G - 1, by omega⟩
      obtain ⟨s1, m1, e1, e2⟩ := ring_tried_s hT hM hP hX hD (show i < m by omega) hm h3 F (by omega) (mv := v)
      obtain ⟨s', m', e3, e4⟩ := ih (i + 1) G s1 m1 (by omega) (by omega) e2
      refine ⟨s', m', ?_, e4⟩
      rw [fX7_triedIn_L15, if_neg (nI_ge (by omega) (by omega)), e1, xbd_some rfl, nI_1]
      exact e3
  obtain ⟨s', m', e1, e2⟩ := key n 0 F f' mv (by omega) (by omega) (MR_0 hT.1 hT.2.1 hP.1 (fun l hl => ⟨hP.2.1 l (by have := hT.2.1; omega), (hP.2.2.2.1 l hl).1⟩) hD hs0)
  refine ⟨s', m', ?_, e2⟩
  unfold fX7_triedIn
  rw [show (0 : Int32) = nI 0 from rfl, c1, xbd_some rfl]
  exact e1
/-! ===== warm, dark ===== -/
theorem op_warm {M st nd b : Nat} {kd o0 ch l0 dB dP su po pl oi lt : Nat → Nat} {sn dk sf sto aP : Int32} {kr orw lr dr now tr mv zf : Nat → Int32} (hT : TB M st nd kd o0 ch l0 dB dP su) (hM : TM M st nd kd o0 ch l0 dB dP su sn dk kr orw lr dr) (hC : SC su sf sto) (hP : PB M po pl oi lt b) (hs : MR M pl oi lt b now) (F : Nat) (hF : 1000 < F) (a1 a2 : Int32) : ∃ r zf' tr' mv', fX6_warm F (nI M) (nI st) (nI nd) sf sto (fun j => nI (kd j)) (fun j => nI (dB j)) (fun j => nI (dP j)) (nI M) (nI (bts lt)) (nI b) (fun j => nI (po j)) (fun j => nI (oi j)) zf a1 a2 = some (r, zf') ∧ fX7_warm F (nI M) (nI st) (nI nd) sn dk (-1) aP (-1) kr dr now tr mv a1 a2 = some (r, tr', mv') := by
  have hT' := hT
  obtain ⟨h, h', hst, hnd, hk, hl, hd, hsu⟩ := hT'
  have hP' := hP
  obtain ⟨hpm, p1, p2, p3, p4⟩ := hP'
  obtain ⟨z, rfl⟩ := row_nI zf
  rcases rng a1 (lo := 0) (hi := 60) (by omega) (by omega) with ⟨n, _, hn, rfl⟩ | hn
  · rcases rng a2 (lo := 0) (hi := M - 1) (by omega) (by omega) with ⟨p, _, hp, rfl⟩ | hp
    · have hp' : p < M := by omega
      obtain ⟨D, hD, eD⟩ := fX5_reckonDraughts_n h h' hst hnd (show b < 10000 by omega) (fun i hi => ⟨(hd i hi).2.1, (hd i hi).2.2⟩) F (by omega) z
      obtain ⟨s', m', e1, e2⟩ := fX7_triedIn_n (tr := tr) (mv := mv) (aP := aP) hT hM hP (BX_none (n := 60) (by omega)) hD hn (by omega) hs F hF
      have hplN : plN M st pl n p < M := (hpm.2 _ (bk_lt h)).1
      have hkp := hk p (by omega)
      refine ⟨nI (wmN (kd p) (toN (ltN po oi lt D n (plN M st pl n p)) (su (b + n)))), (fun j => nI (D j)), s', m', ?_, ?_⟩
      · unfold fX6_warm
        rw [(last_yes hn).1, xbd_some rfl, if_neg (by decide), (man_yes h h' hp').1, xbd_some rfl, if_neg (by decide), eD, xbd_some rfl, fX6_isLitBehind_n h h' hst hpm p1 (fun l hl => by have := (p3 l hl).2; omega) (fun q hq => (hD q hq).2.1) (by omega) hp' F (by omega), xbd_some rfl, fX3_get_eq _ _ _ (by omega), rget_n (by omega) (by omega), xbd_some rfl, nI_add, fX5_isWarm_n (hC _ (by omega)) ltN_le (hsu _) hkp.1, xbd_some rfl]
        have := wmN_le (a := kd p) (toN_le (ltN po oi lt D n (plN M st pl n p)) (su (b + n)))
        rcases (show wmN (kd p) (toN (ltN po oi lt D n (plN M st pl n p)) (su (b + n))) = 0 ∨ wmN (kd p) (toN (ltN po oi lt D n (plN M st pl n p)) (su (b + n))) = 1 by omega) with e | e <;> rw [e] <;> rfl
      · unfold fX7_warm
        rw [(last_yes hn).2, xbd_some rfl, if_neg (by decide), (man_yes h h' hp').2, xbd_some rfl, if_neg (by decide), e1, xbd_some rfl, fX7_isWarm_tried_n h' e2 hp' hplN ltN_le ((hM.1 p (by omega)).1 hp') hkp.1 (hM.2.2 _ (by omega)) (hsu _), xbd_some rfl, if_neg (fun z => nI_pos (n := p) (by omega) (by rw [z]; decide)), bit_n (wmN_le (toN_le _ _)), xbd_some rfl]
    · refine ⟨-1, (fun j => nI (z j)), tr, mv, ?_, ?_⟩
      · unfold fX6_warm
        rw [(last_yes hn).1, xbd_some rfl, if_neg (by decide), (man_no h h' hp).1, xbd_some rfl, if_pos (by decide)]
      · unfold fX7_warm
        rw [(last_yes hn).2, xbd_some rfl, if_neg (by decide), (man_no h h' hp).2, xbd_some rfl, if_pos (by decide)]
  · refine ⟨-1, (fun j => nI (z j)), tr, mv, ?_, ?_⟩
    · unfold fX6_warm
      rw [(last_no hn).1, xbd_some rfl, if_pos (by decide)]
    · unfold fX7_warm
      rw [(last_no hn).2, xbd_some rfl, if_pos (by decide)]
theorem op_dark {M st nd b : Nat} {kd o0 ch l0 dB dP su po pl oi lt : Nat → Nat} {sn dk aP : Int32} {kr orw lr dr now tr mv zf : Nat → Int32} (hT : TB M st nd kd o0 ch l0 dB dP su) (hM : TM M st nd kd o0 ch l0 dB dP su sn dk kr orw lr dr) (hP : PB M po pl oi lt b) (hs : MR M pl oi lt b now) (F : Nat) (hF : 1000 < F) (a1 : Int32) : ∃ r zf' tr' mv', fX6_dark F (nI M) (nI st) (nI nd) (fun j => nI (dB j)) (fun j => nI (dP j)) (nI M) (nI (bts lt)) (nI b) (fun j => nI (po j)) (fun j => nI (oi j)) zf a1 = some (r, zf') ∧ fX7_dark F (nI M) (nI st) (nI nd) (-1) aP dr now tr mv a1 = some (r, tr', mv') := by
  have hT' := hT
  obtain ⟨h, h', hst, hnd, hk, hl, hd, hsu⟩ := hT'
  have hP' := hP
  obtain ⟨hpm, p1, p2, p3, p4⟩ := hP'
  obtain ⟨z, rfl⟩ := row_nI zf
  rcases rng a1 (lo := 0) (hi := 60) (by omega) (by omega) with ⟨n, _, hn, rfl⟩ | hn
  · obtain ⟨D, hD, eD⟩ := fX5_reckonDraughts_n h h' hst hnd (show b < 10000 by omega) (fun i hi => ⟨(hd i hi).2.1, (hd i hi).2.2⟩) F (by omega) z
    obtain ⟨s', m', e1, e2⟩ := fX7_triedIn_n (tr := tr) (mv := mv) (aP := aP) hT hM hP (BX_none (n := 60) (by omega)) hD hn (by omega) hs F hF
    have key : ∀ (d i G : Nat), i + d = M → d < G → fX6_dark_L31 (nI M) (nI st) (nI M) (nI (bts lt)) (fun j => nI (po j)) (fun j => nI (oi j)) (nI n) F (fun j => nI (D j)) (fun (v31_3 : Int32) (v31_2 : Int32) => some (v31_2, (fun j => nI (D j)))) G (nI i) (nI (bts (mixN i (fun p => 1 - ltN po oi lt D n (plN M st pl n p)) (fun _ => 0)))) = some (nI (bts (mixN M (fun p => 1 - ltN po oi lt D n (plN M st pl n p)) (fun _ => 0))), (fun j => nI (D j))) := by
      intro d
      induction d with
      | zero =>
        intro i G h1 h2
        obtain ⟨G, rfl⟩ : ∃ G', G = G' + 1 := ⟨G - 1, by omega⟩
        obtain rfl : i = M := by omega
        rw [fX6_dark_L31, if_pos (Int32.le_refl _)]
      | succ d ih =>
        intro i G h1 h2
        obtain ⟨G, rfl⟩ : ∃ G', G = G' + 1 := ⟨G - 1, by omega⟩
        have q2 := ltN_le (po := po) (oi := oi) (lt := lt) (D := D) (n := n) (l := plN M st pl n i)
        rw [fX6_dark_L31, if_neg (nI_ge (by omega) (by omega)), fX6_isLitBehind_n h h' hst hpm p1 (fun l hl => by have := (p3 l hl).2; omega) (fun q hq => (hD q hq).2.1) (by omega) (show i < M by omega) F (by omega), xbd_some rfl]
        rcases (show ltN po oi lt D n (plN M st pl n i) = 0 ∨ ltN po oi lt D n (plN M st pl n i) = 1 by omega) with e | e
        · rw [e, if_pos (by decide), nI_1, acc_or (g := fun p => 1 - ltN po oi lt D n (plN M st pl n p)) (by omega) (fun j _ => Nat.sub_le _ _) (by show 1 - ltN po oi lt D n (plN M st pl n i) = 1; omega)]
          exact ih (i + 1) G (by omega) (by omega)
        · rw [e, if_neg (by decide), nI_1, ← acc_no (i := i) (g := fun p => 1 - ltN po oi lt D n (plN M st pl n p)) (by show 1 - ltN po oi lt D n (plN M st pl n i) = 0; omega)]
          exact ih (i + 1) G (by omega) (by omega)
    have key0 := key M 0 F (by omega) (by omega)
    rw [mixN_0] at key0
    refine ⟨nI (bts (mixN M (fun p => 1 - ltN po oi lt D n (plN M st pl n p)) (fun _ => 0))), (fun j => nI (D j)), s', m', ?_, ?_⟩
    rotate_left
    · unfold fX7_dark
      rw [(last_yes hn).2, xbd_some rfl, if_neg (by decide), e1, xbd_some rfl, fX7_darkIn_tried_n h' e2 (fun p _ => (hpm.2 _ (bk_lt h)).1) (fun l _ => ltN_le) F (by omega), xbd_some rfl]
    · unfold fX6_dark
      rw [(last_yes hn).1, xbd_some rfl, if_neg (by decide), eD, xbd_some rfl]
      exact key0
  · refine ⟨-1, (fun j => nI (z j)), tr, mv, ?_, ?_⟩
    · unfold fX6_dark
      rw [(last_no hn).1, xbd_some rfl, if_pos (by decide)]
    · unfold fX7_dark
      rw [(last_no hn).2, xbd_some rfl, if_pos (by decide)]
