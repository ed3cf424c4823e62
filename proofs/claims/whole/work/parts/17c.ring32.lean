/-! ===== the reference rings ===== -/
def MR (M : Nat) (pl oi lt : Nat → Nat) (b : Nat) (s : Nat → Int32) : Prop := (∀ p, p < M → s p = nI (pl p)) ∧ (∀ l, l < M → s (6 + l) = nI (oi l)) ∧ (∀ l, l < M → s (12 + l) = nI (lt l)) ∧ s 18 = nI b
theorem MR_congr {M : Nat} {pl oi lt pl' oi' lt' : Nat → Nat} {b b' : Nat} {s : Nat → Int32} (h : MR M pl oi lt b s) (h1 : ∀ p, p < M → pl p = pl' p) (h2 : ∀ l, l < M → oi l = oi' l ∧ lt l = lt' l) (h3 : b = b') : MR M pl' oi' lt' b' s :=
  ⟨fun p hp => by rw [h.1 p hp, h1 p hp], fun l hl => by rw [h.2.1 l hl, (h2 l hl).1], fun l hl => by rw [h.2.2.1 l hl, (h2 l hl).2], by rw [h.2.2.2, h3]⟩
def PM (M : Nat) (po pl : Nat → Nat) : Prop := (∀ l, l < M → po l < M ∧ pl (po l) = l) ∧ (∀ p, p < M → pl p < M ∧ po (pl p) = p)
noncomputable def blo (P : Prop) (x : Nat) : Nat := @ite Nat P (Classical.propDecidable P) 0 x
theorem blo_pos {P : Prop} {x : Nat} (h : P) : blo P x = 0 := if_pos h
theorem blo_neg {P : Prop} {x : Nat} (h : ¬ P) : blo P x = x := if_neg h
theorem blo_le {P : Prop} {x : Nat} : blo P x ≤ x := by
  unfold blo
  split <;> omega
def litF (po oi lt D : Nat → Nat) (l : Nat) : Nat := if lt l = 1 then min (oi l) (D (po l)) else 0
def plN (M st : Nat) (pl : Nat → Nat) (n p : Nat) : Nat := pl (bk M p (n * st))
def oiN (po oi lt D : Nat → Nat) (n l : Nat) : Nat := oi l - (if lt l = 1 then min n (min (oi l) (D (po l) - 1)) else 0)
def ltN (po oi lt D : Nat → Nat) (n l : Nat) : Nat := if n < litF po oi lt D l then 1 else 0
theorem step_c {M st nd b n : Nat} {dB dP po pl oi lt D : Nat → Nat} {aB aP : Int32} (h : 2 ≤ M) (h' : M ≤ 6) (hn : n < 1000) (hpm : PM M po pl) (hol : ∀ l, l < M → lt l ≤ 1 ∧ lt l ≤ oi l ∧ oi l < 10000) {B : Nat → Nat → Prop} (hB : ∀ y, y < M → ((Bl dB dP nd (b + n + 1) y ∨ (aB = nI (b + n + 1) ∧ aP = nI y)) ↔ B (b + n + 1) y)) (hD : isD B M st b D) : ∀ l, l < M → oiN po oi lt D n l - blo (∃ q, q < M ∧ (Bl dB dP nd (b + n + 1) q ∨ (aB = nI (b + n + 1) ∧ aP = nI q)) ∧ plN M st pl n (bk M q st) = l) (ltN po oi lt D n l) = oiN po oi lt D (n + 1) l ∧ (if oiN po oi lt D n l - blo (∃ q, q < M ∧ (Bl dB dP nd (b + n + 1) q ∨ (aB = nI (b + n + 1) ∧ aP = nI q)) ∧ plN M st pl n (bk M q st) = l) (ltN po oi lt D n l) = 0 then 0 else blo (∃ q, q < M ∧ (Bl dB dP nd (b + n + 1) q ∨ (aB = nI (b + n + 1) ∧ aP = nI q)) ∧ plN M st pl n (bk M q st) = l) (ltN po oi lt D n l)) = ltN po oi lt D (n + 1) l := by
  intro l hl
  obtain ⟨p1, p2⟩ := hpm.1 l hl
  obtain ⟨o1, o2, o3⟩ := hol l hl
  obtain ⟨d1, d2, d3⟩ := hD (po l) p1
  have key : (∃ q, q < M ∧ (Bl dB dP nd (b + n + 1) q ∨ (aB = nI (b + n + 1) ∧ aP = nI q)) ∧ plN M st pl n (bk M q st) = l) ↔ B (b + n + 1) ((po l + (n + 1) * st) % M) := by
    have e : st + n * st = (n + 1) * st := by rw [Nat.succ_mul, Nat.add_comm]
    constructor
    · rintro ⟨q, z1, z2, z3⟩
      have z4 : bk M q (st + n * st) = po l := by
        unfold plN at z3
        rw [bk_bk h h'] at z3
        rw [← z3, (hpm.2 _ (bk_lt h)).2]
      rw [e] at z4
      rw [← (bk_iff h h' p1 z1).mp z4]
      exact (hB q z1).mp z2
    · intro z
      have z1 := Nat.mod_lt (po l + (n + 1) * st) (show 0 < M by omega)
      refine ⟨_, z1, (hB _ z1).mpr z, ?_⟩
      unfold plN
      rw [bk_bk h h', e, fw_bk h h' p1, p2]
  by_cases hl1 : lt l = 1
  · by_cases hc : n < min (oi l) (D (po l))
    · have d4 := d3 n hn (by omega)
      by_cases hk : D (po l) = n + 1
      · rw [blo_pos (key.mpr (d4.mpr hk))]
        simp only [oiN, ltN, litF, if_pos hl1, hk]
        constructor
        · omega
        · rw [if_neg (show ¬ n + 1 < min (oi l) (n + 1) by omega)]
          split <;> rfl
      · rw [blo_neg (fun z => hk (d4.mp (key.mp z)))]
        simp only [oiN, ltN, litF, if_pos hl1, if_pos hc]
        constructor
        · omega
        · by_cases hk2 : n + 1 < min (oi l) (D (po l))
          · rw [if_pos hk2, if_neg (by omega)]
          · rw [if_neg hk2, if_pos (by omega)]
    · have e0 : ltN po oi lt D n l = 0 := by
        unfold ltN litF
        rw [if_pos hl1, if_neg hc]
      have e1 : ltN po oi lt D (n + 1) l = 0 := by
        unfold ltN litF
        rw [if_pos hl1, if_neg (by omega)]
      have e2 : blo (∃ q, q < M ∧ (Bl dB dP nd (b + n + 1) q ∨ (aB = nI (b + n + 1) ∧ aP = nI q)) ∧ plN M st pl n (bk M q st) = l) (ltN po oi lt D n l) = 0 := Nat.le_zero.mp (by
        have := blo_le (P := ∃ q, q < M ∧ (Bl dB dP nd (b + n + 1) q ∨ (aB = nI (b + n + 1) ∧ aP = nI q)) ∧ plN M st pl n (bk M q st) = l) (x := ltN po oi lt D n l)
        omega)
      rw [e2, e1]
      refine ⟨?_, by split <;> rfl⟩
      simp only [oiN, if_pos hl1]
      omega
  · have e0 : ltN po oi lt D n l = 0 := by
      unfold ltN litF
      rw [if_neg hl1, if_neg (by omega)]
    have e1 : ltN po oi lt D (n + 1) l = 0 := by
      unfold ltN litF
      rw [if_neg hl1, if_neg (by omega)]
    have e2 : blo (∃ q, q < M ∧ (Bl dB dP nd (b + n + 1) q ∨ (aB = nI (b + n + 1) ∧ aP = nI q)) ∧ plN M st pl n (bk M q st) = l) (ltN po oi lt D n l) = 0 := Nat.le_zero.mp (by
      have := blo_le (P := ∃ q, q < M ∧ (Bl dB dP nd (b + n + 1) q ∨ (aB = nI (b + n + 1) ∧ aP = nI q)) ∧ plN M st pl n (bk M q st) = l) (x := ltN po oi lt D n l)
      omega)
    rw [e2, e1]
    refine ⟨?_, by split <;> rfl⟩
    simp only [oiN, if_neg hl1]
    omega

theorem ring_tried_L10 {M st : Nat} (h : 2 ≤ M) (h' : M ≤ 6) (hs : st ≤ 5) (s : Nat → Int32) (k : Int32 → (Nat → Int32) → Option ((Nat → Int32) × (Nat → Int32))) : ∀ (d i F : Nat) (f : Nat → Int32), i + d = M → d < F → (∀ q, q < M → bk M q st < i → f q = upd s 18 (s 18 + 1) (bk M q st)) → ∃ f', (∀ q, q < M → f' q = upd s 18 (s 18 + 1) (bk M q st)) ∧ fX7_ring_tried_L10 (nI M) (nI st) s k F (nI i) f = k (nI M) f' := by
  intro d
  induction d with
  | zero =>
    intro i F f h1 h2 h3
    obtain ⟨F, rfl⟩ : ∃ F', F = F' + 1 := ⟨F - 1, by omega⟩
    obtain rfl : i = M := by omega
    refine ⟨f, fun q hq => h3 q hq (bk_lt h), ?_⟩
    rw [fX7_ring_tried_L10, if_pos (Int32.le_refl _)]
  | succ d ih =>
    intro i F f h1 h2 h3
    obtain ⟨F, rfl⟩ : ∃ F', F = F' + 1 := ⟨F - 1, by omega⟩
    have hm := Nat.mod_lt (i + st) (show 0 < M by omega)
    obtain ⟨f', h4, h5⟩ := ih (i + 1) F (upd f ((i + st) % M) (upd s 18 (s 18 + 1) i)) (by omega) (by omega) (by
      intro q hq hb
      by_cases e : q = (i + st) % M
      · rw [e, fw_bk h h' (by omega), pk_us]
      · rw [pk_un e]
        refine h3 q hq ?_
        have : bk M q st ≠ i := fun z => e ((bk_iff h h' (by omega) hq).mp z)
        omega)
    refine ⟨f', h4, ?_⟩
    rw [fX7_ring_tried_L10, if_neg (nI_ge (by omega) (by omega)), if_neg (nI_ne0 (by omega) (by omega)), if_neg (nI_in (by omega) (by omega)), nI_add, x_remN (by omega) (by omega) (by omega), if_neg (nI_in (by omega) (by omega)), nI_clamp (by omega), nI_clamp (by omega), nI_1]
    exact h5
theorem ring_tried_L45 {M : Nat} (h' : M ≤ 6) (m : Nat → Int32) (k : Int32 → (Nat → Int32) → Option ((Nat → Int32) × (Nat → Int32))) : ∀ (d i F : Nat) (f : Nat → Int32), i + d = M → d < F → ∃ f', (∀ q, q < M → f' q = if i ≤ q then m q else f q) ∧ (∀ q, M ≤ q → f' q = f q) ∧ fX7_ring_tried_L45 (nI M) m k F (nI i) f = k (nI M) f' := by
  intro d
  induction d with
  | zero =>
    intro i F f h1 h2
    obtain ⟨F, rfl⟩ : ∃ F', F = F' + 1 := ⟨F - 1, by omega⟩
    obtain rfl : i = M := by omega
    refine ⟨f, fun q hq => by rw [if_neg (by omega)], fun q hq => rfl, ?_⟩
    rw [fX7_ring_tried_L45, if_pos (Int32.le_refl _)]
  | succ d ih =>
    intro i F f h1 h2
    obtain ⟨F, rfl⟩ : ∃ F', F = F' + 1 := ⟨F - 1, by omega⟩
    obtain ⟨f', h4, h5, h6⟩ := ih (i + 1) F (upd f i (m i)) (by omega) (by omega)
    refine ⟨f', fun q hq => ?_, fun q hq => ?_, ?_⟩
    · rw [h4 q hq]
      by_cases e : q = i
      · subst e
        rw [if_neg (by omega), if_pos (by omega), pk_us]
      · rw [pk_un e]
        by_cases e2 : i + 1 ≤ q
        · rw [if_pos e2, if_pos (by omega)]
        · rw [if_neg e2, if_neg (by omega)]
    · rw [h5 q hq, pk_un (by omega)]
    · rw [fX7_ring_tried_L45, if_neg (nI_ge (by omega) (by omega)), if_neg (nI_in (by omega) (by omega)), if_neg (nI_in (by omega) (by omega)), nI_clamp (by omega), nI_1]
      exact h6
theorem ring_tried_L70 {M nd b : Nat} {dB dP pl : Nat → Nat} {dr : Nat → Int32} (h' : M ≤ 6) (hnd : nd ≤ 6) (hb : b < 20000) (hdr : ∀ i, i < nd → dr (2 * i) = nI (dB i) ∧ dr (2 * i + 1) = nI (dP i) ∧ dB i ≤ 60 ∧ dP i < M) (hpl : ∀ p, p < M → pl p < M) (s : Nat → Int32) (hs : ∀ p, p < M → s p = nI (pl p)) (hs8 : s 18 = nI b) (k : Int32 → (Nat → Int32) → Option ((Nat → Int32) × (Nat → Int32))) : ∀ (d i F : Nat) (f : Nat → Int32), i + d = nd → d < F → ((∀ j, j < 12 ∨ 18 ≤ j → f j = s j) ∧ ∀ l, l < M → ((∃ q, Bl dB dP i b q ∧ pl q = l) → f (12 + l) = 0) ∧ ((¬ ∃ q, Bl dB dP i b q ∧ pl q = l) → f (12 + l) = s (12 + l))) → ∃ f', ((∀ j, j < 12 ∨ 18 ≤ j → f' j = s j) ∧ ∀ l, l < M → ((∃ q, Bl dB dP nd b q ∧ pl q = l) → f' (12 + l) = 0) ∧ ((¬ ∃ q, Bl dB dP nd b q ∧ pl q = l) → f' (12 + l) = s (12 + l))) ∧ fX7_ring_tried_L70 (nI nd) dr k F (nI i) f = k (nI nd) f' := by
  intro d
  induction d with
  | zero =>
    intro i F f h1 h2 h3
    obtain ⟨F, rfl⟩ : ∃ F', F = F' + 1 := ⟨F - 1, by omega⟩
    obtain rfl : i = nd := by omega
    refine ⟨f, h3, ?_⟩
    rw [fX7_ring_tried_L70, if_pos (Int32.le_refl _)]
  | succ d ih =>
    intro i F f h1 h2 h3
    obtain ⟨F, rfl⟩ : ∃ F', F = F' + 1 := ⟨F - 1, by omega⟩
    obtain ⟨a1, a2, a3, a4⟩ := hdr i (by omega)
    have a5 := hpl _ a4
    have a6 : f (dP i) = nI (pl (dP i)) := by rw [h3.1 _ (by omega), hs _ a4]
    by_cases hc : dB i = b
    · obtain ⟨f', h4, h5⟩ := ih (i + 1) F (upd f (12 + pl (dP i)) 0) (by omega) (by omega) (by
        refine ⟨fun j hj => ?_, fun l hl => ⟨?_, ?_⟩⟩
        · rw [pk_un (by omega), h3.1 j hj]
        · rintro ⟨q, z1, z2⟩
          by_cases e : l = pl (dP i)
          · rw [e, pk_us]
          · rw [pk_un (by omega)]
            refine (h3.2 l hl).1 ?_
            rw [Bl_succ] at z1
            rcases z1 with z1 | ⟨z3, z4⟩
            · exact ⟨q, z1, z2⟩
            · exact absurd (by rw [← z2, z4]) e
        · intro z
          have e : l ≠ pl (dP i) := fun e => z ⟨dP i, Bl_succ.mpr (Or.inr ⟨hc.symm, rfl⟩), e.symm⟩
          rw [pk_un (by omega)]
          exact (h3.2 l hl).2 (fun ⟨q, z1, z2⟩ => z ⟨q, Bl_succ.mpr (Or.inl z1), z2⟩))
      refine ⟨f', h4, ?_⟩
      rw [fX7_ring_tried_L70, if_neg (nI_ge (by omega) (by omega)), show (2 : Int32) = nI 2 from rfl, show (12 : Int32) = nI 12 from rfl, x_mulN, if_neg (nI_in (by omega) (by omega)), nI_clamp (by omega), a1, nI_1, nI_clamp (by omega), show (18 : Int32).toNatClampNeg = 18 from rfl, h3.1 18 (by omega), hs8, if_pos (by rw [hc]), if_neg (nI_inc (by omega) (by omega)), a2, if_neg (nI_in (by omega) (by omega)), nI_clamp (by omega), a6, nI_add, if_neg (nI_in (by omega) (by omega)), nI_clamp (by omega), nI_1]
      exact h5
    · obtain ⟨f', h4, h5⟩ := ih (i + 1) F f (by omega) (by omega) (by
        refine ⟨h3.1, fun l hl => ⟨?_, ?_⟩⟩
        · rintro ⟨q, z1, z2⟩
          rw [Bl_succ] at z1
          rcases z1 with z1 | ⟨z3, z4⟩
          · exact (h3.2 l hl).1 ⟨q, z1, z2⟩
          · exact absurd z3.symm hc
        · intro z
          exact (h3.2 l hl).2 (fun ⟨q, z1, z2⟩ => z ⟨q, Bl_succ.mpr (Or.inl z1), z2⟩))
      refine ⟨f', h4, ?_⟩
      rw [fX7_ring_tried_L70, if_neg (nI_ge (by omega) (by omega)), show (2 : Int32) = nI 2 from rfl, show (12 : Int32) = nI 12 from rfl, x_mulN, if_neg (nI_in (by omega) (by omega)), nI_clamp (by omega), a1, show (18 : Int32).toNatClampNeg = 18 from rfl, h3.1 18 (by omega), hs8, if_neg (fun z => hc ((nI_eq (by omega) (by omega)).mp z)), nI_1]
      exact h5
theorem ring_tried_L142 {M : Nat} {oi lt : Nat → Nat} (h' : M ≤ 6) (hol : ∀ l, l < M → lt l ≤ oi l ∧ oi l < 10000) (s : Nat → Int32) (hs : ∀ l, l < M → s (6 + l) = nI (oi l) ∧ s (12 + l) = nI (lt l)) (k : Int32 → (Nat → Int32) → Option ((Nat → Int32) × (Nat → Int32))) : ∀ (d i F : Nat) (f : Nat → Int32), i + d = M → d < F → ((∀ j, j < 6 ∨ 18 ≤ j → f j = s j) ∧ (∀ l, l < i → f (6 + l) = nI (oi l - lt l) ∧ f (12 + l) = nI (if oi l - lt l = 0 then 0 else lt l)) ∧ (∀ l, i ≤ l → l < M → f (6 + l) = s (6 + l) ∧ f (12 + l) = s (12 + l))) → ∃ f', ((∀ j, j < 6 ∨ 18 ≤ j → f' j = s j) ∧ (∀ l, l < M → f' (6 + l) = nI (oi l - lt l) ∧ f' (12 + l) = nI (if oi l - lt l = 0 then 0 else lt l))) ∧ fX7_ring_tried_L142 (nI M) k F (nI i) f = k (nI M) f' := by
  intro d
  induction d with
  | zero =>
    intro i F f h1 h2 h3
    obtain ⟨F, rfl⟩ : ∃ F', F = F' + 1 := ⟨F - 1, by omega⟩
    obtain rfl : i = M := by omega
    refine ⟨f, ⟨h3.1, h3.2.1⟩, ?_⟩
    rw [fX7_ring_tried_L142, if_pos (Int32.le_refl _)]
  | succ d ih =>
    intro i F f h1 h2 h3
    obtain ⟨F, rfl⟩ : ∃ F', F = F' + 1 := ⟨F - 1, by omega⟩
    obtain ⟨a1, a2⟩ := h3.2.2 i (Nat.le_refl _) (by omega)
    obtain ⟨b1, b2⟩ := hs i (by omega)
    obtain ⟨c1, c2⟩ := hol i (by omega)
    rw [b1] at a1
    rw [b2] at a2
    obtain ⟨f', h4, h5⟩ := ih (i + 1) F (upd (upd f (6 + i) (nI (oi i - lt i))) (12 + i) (nI (if oi i - lt i = 0 then 0 else lt i))) (by omega) (by omega) (by
      refine ⟨fun j hj => ?_, fun l hl => ?_, fun l hl hm => ?_⟩
      · rw [pk_un (by omega), pk_un (by omega), h3.1 j hj]
      · by_cases e : l = i
        · subst e
          rw [pk_us, pk_un (by omega), pk_us]
          exact ⟨rfl, rfl⟩
        · rw [pk_un (by omega), pk_un (by omega), pk_un (by omega), pk_un (by omega)]
          exact h3.2.1 l (by omega)
      · rw [pk_un (by omega), pk_un (by omega), pk_un (by omega), pk_un (by omega)]
        exact h3.2.2 l (by omega) hm)
    refine ⟨f', h4, ?_⟩
    rw [fX7_ring_tried_L142, if_neg (nI_ge (by omega) (by omega)), show (6 : Int32) = nI 6 from rfl, show (12 : Int32) = nI 12 from rfl, nI_add, nI_add, if_neg (nI_in (by omega) (by omega)), if_neg (nI_in (by omega) (by omega)), if_neg (nI_in (by omega) (by omega)), if_neg (nI_in (by omega) (by omega)), nI_clamp (by omega), nI_clamp (by omega), a1, a2, x_subN c1 (by omega), pk_us]
    by_cases hc : oi i - lt i = 0
    · rw [if_pos hc] at h5
      rw [if_pos (by rw [hc]; rfl), if_neg (nI_inc (by omega) (by omega)), nI_1]
      exact h5
    · rw [if_neg hc] at h5
      rw [if_neg (nI_ne0 (by omega) (by omega)), if_neg (nI_inc (by omega) (by omega)), if_neg (nI_inc (by omega) (by omega)), pk_un (by omega), a2, nI_1]
      exact h5
theorem ring_tried_n {M st nd b : Nat} {dB dP pl oi lt : Nat → Nat} {dr s mv : Nat → Int32} {aB aP : Int32} (h : 2 ≤ M) (h' : M ≤ 6) (hst : st ≤ 5) (hnd : nd ≤ 6) (hb : b < 19000) (hdr : ∀ i, i < nd → dr (2 * i) = nI (dB i) ∧ dr (2 * i + 1) = nI (dP i) ∧ dB i ≤ 60 ∧ dP i < M) (hX : aB = nI (b + 1) → ∃ y, y < M ∧ aP = nI y) (hpl : ∀ p, p < M → pl p < M) (hol : ∀ l, l < M → lt l ≤ oi l ∧ oi l < 10000) (hs : MR M pl oi lt b s) (F : Nat) (hF : 6 < F) : ∃ s' m', fX7_ring_tried F (nI M) (nI st) (nI nd) aB aP dr s mv = some (s', m') ∧ MR M (fun p => pl (bk M p st)) (fun l => oi l - blo (∃ q, q < M ∧ (Bl dB dP nd (b + 1) q ∨ (aB = nI (b + 1) ∧ aP = nI q)) ∧ pl (bk M q st) = l) (lt l)) (fun l => if oi l - blo (∃ q, q < M ∧ (Bl dB dP nd (b + 1) q ∨ (aB = nI (b + 1) ∧ aP = nI q)) ∧ pl (bk M q st) = l) (lt l) = 0 then 0 else blo (∃ q, q < M ∧ (Bl dB dP nd (b + 1) q ∨ (aB = nI (b + 1) ∧ aP = nI q)) ∧ pl (bk M q st) = l) (lt l)) (b + 1) s' := by
  obtain ⟨s1, s2, s3, s4⟩ := hs
  have hb1 : s 18 + 1 = nI (b + 1) := by rw [s4, nI_1]
  have hb2 : ∀ x l : Nat, blo (∃ q, q < M ∧ (Bl dB dP nd (b + 1) q ∨ (aB = nI (b + 1) ∧ aP = nI q)) ∧ pl (bk M q st) = l) x ≤ x := fun x l => blo_le
  have fin : ∀ (m' f : Nat → Int32) (s0 : Nat → Int32), (∀ q, q < M → f q = nI (pl (bk M q st))) → f 18 = nI (b + 1) → (∀ l, l < M → f (6 + l) = nI (oi l)) → (∀ l, l < M → f (12 + l) = nI (blo (∃ q, q < M ∧ (Bl dB dP nd (b + 1) q ∨ (aB = nI (b + 1) ∧ aP = nI q)) ∧ pl (bk M q st) = l) (lt l))) → ∃ s', (fX7_ring_tried_L142 (nI M) (fun _ w => some (w, m')) F (nI 0) f = some (s', m')) ∧ MR M (fun p => pl (bk M p st)) (fun l => oi l - blo (∃ q, q < M ∧ (Bl dB dP nd (b + 1) q ∨ (aB = nI (b + 1) ∧ aP = nI q)) ∧ pl (bk M q st) = l) (lt l)) (fun l => if oi l - blo (∃ q, q < M ∧ (Bl dB dP nd (b + 1) q ∨ (aB = nI (b + 1) ∧ aP = nI q)) ∧ pl (bk M q st) = l) (lt l) = 0 then 0 else blo (∃ q, q < M ∧ (Bl dB dP nd (b + 1) q ∨ (aB = nI (b + 1) ∧ aP = nI q)) ∧ pl (bk M q st) = l) (lt l)) (b + 1) s' := by
    intro m' f s0 g1 g2 g3 g4
    obtain ⟨f', ⟨h4, h5⟩, h6⟩ := ring_tried_L142 (oi := oi) (lt := fun l => blo (∃ q, q < M ∧ (Bl dB dP nd (b + 1) q ∨ (aB = nI (b + 1) ∧ aP = nI q)) ∧ pl (bk M q st) = l) (lt l)) h' (fun l hl => ⟨Nat.le_trans blo_le (hol l hl).1, (hol l hl).2⟩) f (fun l hl => ⟨g3 l hl, g4 l hl⟩) (fun _ w => some (w, m')) M 0 F f (by omega) (by omega) ⟨fun _ _ => rfl, fun l hl => absurd hl (Nat.not_lt_zero _), fun _ _ _ => ⟨rfl, rfl⟩⟩
    exact ⟨f', h6, fun p hp => by rw [h4 p (by omega), g1 p hp], fun l hl => (h5 l hl).1, fun l hl => (h5 l hl).2, by rw [h4 18 (by omega), g2]⟩
  obtain ⟨m', k1, k2⟩ := ring_tried_L10 h h' hst s (fun (v10_2 : Int32) (w10_mok_33 : Nat → Int32) => fX7_ring_tried_L45 (nI M) w10_mok_33 (fun (v45_2 : Int32) (w45_mok_23 : Nat → Int32) => fX7_ring_tried_L70 (nI nd) dr (fun (v70_2 : Int32) (w70_mok_23 : Nat → Int32) => if aB = (w70_mok_23 (18 : Int32).toNatClampNeg) then (if aP < 0 ∨ 19 ≤ aP.toNatClampNeg then none else (if ((12 : Int32) + (w70_mok_23 aP.toNatClampNeg)) < 0 ∨ 19 ≤ ((12 : Int32) + (w70_mok_23 aP.toNatClampNeg)).toNatClampNeg then none else (fX7_ring_tried_L142 (nI M) (fun (v142_2 : Int32) (w142_mok_23 : Nat → Int32) => some (w142_mok_23, w10_mok_33)) F (0 : Int32) (upd w70_mok_23 ((12 : Int32) + (w70_mok_23 aP.toNatClampNeg)).toNatClampNeg (0 : Int32))))) else (fX7_ring_tried_L142 (nI M) (fun (v142_2 : Int32) (w142_mok_23 : Nat → Int32) => some (w142_mok_23, w10_mok_33)) F (0 : Int32) w70_mok_23)) F (0 : Int32) w45_mok_23) F (0 : Int32) (upd s (18 : Int32).toNatClampNeg ((s (18 : Int32).toNatClampNeg) + (1 : Int32)))) M 0 F mv (by omega) (by omega) (fun q _ z => absurd z (Nat.not_lt_zero _))
  have k2' : fX7_ring_tried F (nI M) (nI st) (nI nd) aB aP dr s mv = _ := k2
  rw [k2']
  obtain ⟨f2, l1, l2, l3⟩ := ring_tried_L45 h' m' (fun (v45_2 : Int32) (w45_mok_23 : Nat → Int32) => fX7_ring_tried_L70 (nI nd) dr (fun (v70_2 : Int32) (w70_mok_23 : Nat → Int32) => if aB = (w70_mok_23 (18 : Int32).toNatClampNeg) then (if aP < 0 ∨ 19 ≤ aP.toNatClampNeg then none else (if ((12 : Int32) + (w70_mok_23 aP.toNatClampNeg)) < 0 ∨ 19 ≤ ((12 : Int32) + (w70_mok_23 aP.toNatClampNeg)).toNatClampNeg then none else (fX7_ring_tried_L142 (nI M) (fun (v142_2 : Int32) (w142_mok_23 : Nat → Int32) => some (w142_mok_23, m')) F (0 : Int32) (upd w70_mok_23 ((12 : Int32) + (w70_mok_23 aP.toNatClampNeg)).toNatClampNeg (0 : Int32))))) else (fX7_ring_tried_L142 (nI M) (fun (v142_2 : Int32) (w142_mok_23 : Nat → Int32) => some (w142_mok_23, m')) F (0 : Int32) w70_mok_23)) F (0 : Int32) w45_mok_23) M 0 F (upd s 18 (s 18 + 1)) (by omega) (by omega)
  have l1' : ∀ q, q < M → f2 q = nI (pl (bk M q st)) := by
    intro q hq
    have := bk_lt (M := M) (p := q) (k := st) h
    rw [l1 q hq, if_pos (Nat.zero_le _), k1 q hq, pk_un (by omega), s1 _ this]
  have l28 : f2 18 = nI (b + 1) := by rw [l2 18 (by omega), pk_us, hb1]
  have hpl' : ∀ p, p < M → pl (bk M p st) < M := fun p _ => hpl _ (bk_lt h)
  obtain ⟨f3, ⟨n1, n2⟩, n3⟩ := ring_tried_L70 (pl := fun p => pl (bk M p st)) h' hnd (show b + 1 < 20000 by omega) hdr hpl' f2 l1' l28 (fun (v70_2 : Int32) (w70_mok_23 : Nat → Int32) => if aB = (w70_mok_23 (18 : Int32).toNatClampNeg) then (if aP < 0 ∨ 19 ≤ aP.toNatClampNeg then none else (if ((12 : Int32) + (w70_mok_23 aP.toNatClampNeg)) < 0 ∨ 19 ≤ ((12 : Int32) + (w70_mok_23 aP.toNatClampNeg)).toNatClampNeg then none else (fX7_ring_tried_L142 (nI M) (fun (v142_2 : Int32) (w142_mok_23 : Nat → Int32) => some (w142_mok_23, m')) F (0 : Int32) (upd w70_mok_23 ((12 : Int32) + (w70_mok_23 aP.toNatClampNeg)).toNatClampNeg (0 : Int32))))) else (fX7_ring_tried_L142 (nI M) (fun (v142_2 : Int32) (w142_mok_23 : Nat → Int32) => some (w142_mok_23, m')) F (0 : Int32) w70_mok_23)) nd 0 F f2 (by omega) (by omega) ⟨fun _ _ => rfl, fun l hl => ⟨fun ⟨q, ⟨i, z, _⟩, _⟩ => absurd z (Nat.not_lt_zero _), fun _ => rfl⟩⟩
  have l3' := l3.trans n3
  have n18 : f3 18 = nI (b + 1) := by rw [n1 18 (by omega), l28]
  have n0 : ∀ q, q < M → f3 q = nI (pl (bk M q st)) := fun q hq => by rw [n1 q (by omega), l1' q hq]
  have n6 : ∀ l, l < M → f3 (6 + l) = nI (oi l) := fun l hl => by rw [n1 _ (by omega), l2 _ (by omega), pk_un (by omega), s2 l hl]
  have n12 : ∀ l, l < M → f2 (12 + l) = nI (lt l) := fun l hl => by rw [l2 _ (by omega), pk_un (by omega), s3 l hl]
  by_cases hc : aB = nI (b + 1)
  · obtain ⟨y, y1, y2⟩ := hX hc
    have hy := hpl' y y1
    obtain ⟨s', q1, q2⟩ := fin m' (upd f3 (12 + pl (bk M y st)) 0) s (fun q hq => by rw [pk_un (by omega), n0 q hq]) (by rw [pk_un (by omega), n18]) (fun l hl => by rw [pk_un (by omega), n6 l hl]) (by
      intro l hl
      by_cases e : l = pl (bk M y st)
      · rw [e, pk_us, blo_pos ⟨y, y1, Or.inr ⟨hc, y2⟩, rfl⟩]
        rfl
      · rw [pk_un (by omega)]
        by_cases e2 : ∃ q, Bl dB dP nd (b + 1) q ∧ pl (bk M q st) = l
        · rw [(n2 l hl).1 e2]
          obtain ⟨q, ⟨i, z0, z1, z3⟩, z2⟩ := e2
          rw [blo_pos ⟨q, by rw [← z3]; exact (hdr i z0).2.2.2, Or.inl ⟨i, z0, z1, z3⟩, z2⟩]
          rfl
        · rw [(n2 l hl).2 e2, n12 l hl, blo_neg]
          rintro ⟨q, z0, z1 | ⟨_, z1⟩, z2⟩
          · exact e2 ⟨q, z1, z2⟩
          · rw [y2, nI_eq (by omega) (by omega)] at z1
            exact e (by rw [← z2, z1]))
    refine ⟨s', m', ?_, q2⟩
    refine Eq.trans l3' ?_
    rw [show (18 : Int32).toNatClampNeg = 18 from rfl, n18, if_pos hc, y2, if_neg (nI_in (by omega) (by omega)), nI_clamp (by omega), n0 y y1, show (12 : Int32) = nI 12 from rfl, nI_add, if_neg (nI_in (by omega) (by omega)), nI_clamp (by omega)]
    exact q1
  · obtain ⟨s', q1, q2⟩ := fin m' f3 s n0 n18 n6 (by
      intro l hl
      by_cases e2 : ∃ q, Bl dB dP nd (b + 1) q ∧ pl (bk M q st) = l
      · rw [(n2 l hl).1 e2]
        obtain ⟨q, ⟨i, z0, z1, z3⟩, z2⟩ := e2
        rw [blo_pos ⟨q, by rw [← z3]; exact (hdr i z0).2.2.2, Or.inl ⟨i, z0, z1, z3⟩, z2⟩]
        rfl
      · rw [(n2 l hl).2 e2, n12 l hl, blo_neg]
        rintro ⟨q, z0, z1 | ⟨z1, _⟩, z2⟩
        · exact e2 ⟨q, z1, z2⟩
        · exact hc z1)
    refine ⟨s', m', ?_, q2⟩
    refine Eq.trans l3' ?_
    rw [show (18 : Int32).toNatClampNeg = 18 from rfl, n18, if_neg hc]
    exact q1
/-- one ring, when what is there is known in closed words -/
theorem ring_tried_c {M st nd b n : Nat} {dB dP po pl oi lt D : Nat → Nat} {dr s mv : Nat → Int32} {aB aP : Int32} (h : 2 ≤ M) (h' : M ≤ 6) (hst : st ≤ 5) (hnd : nd ≤ 6) (hb : b < 10000) (hn : n < 1000) (hdr : ∀ i, i < nd → dr (2 * i) = nI (dB i) ∧ dr (2 * i + 1) = nI (dP i) ∧ dB i ≤ 60 ∧ dP i < M) (hX : aB = nI (b + n + 1) → ∃ y, y < M ∧ aP = nI y) (hpm : PM M po pl) (hol : ∀ l, l < M → lt l ≤ 1 ∧ lt l ≤ oi l ∧ oi l < 10000) (B : Nat → Nat → Prop) (hB : ∀ y, y < M → ((Bl dB dP nd (b + n + 1) y ∨ (aB = nI (b + n + 1) ∧ aP = nI y)) ↔ B (b + n + 1) y)) (hD : isD B M st b D) (hs : MR M (plN M st pl n) (oiN po oi lt D n) (ltN po oi lt D n) (b + n) s) (F : Nat) (hF : 6 < F) : ∃ s' m', fX7_ring_tried F (nI M) (nI st) (nI nd) aB aP dr s mv = some (s', m') ∧ MR M (plN M st pl (n + 1)) (oiN po oi lt D (n + 1)) (ltN po oi lt D (n + 1)) (b + (n + 1)) s' := by
  obtain ⟨s', m', e1, e2⟩ := ring_tried_n h h' hst hnd (show b + n < 19000 by omega) hdr hX (fun p hp => (hpm.2 _ (bk_lt h)).1) (fun l hl => by
    have a := hol l hl
    have b1 := (hD (po l) (hpm.1 l hl).1).1
    refine ⟨?_, Nat.lt_of_le_of_lt (Nat.sub_le _ _) a.2.2⟩
    show (if n < litF po oi lt D l then 1 else 0) ≤ oi l - (if lt l = 1 then min n (min (oi l) (D (po l) - 1)) else 0)
    by_cases z : lt l = 1
    · rw [show litF po oi lt D l = min (oi l) (D (po l)) from if_pos z, if_pos z]
      split <;> omega
    · rw [show litF po oi lt D l = 0 from if_neg z, if_neg (by omega)]
      omega) hs F hF (mv := mv)
  refine ⟨s', m', e1, MR_congr e2 (fun p hp => ?_) (fun l hl => ?_) rfl⟩
  · show plN M st pl n (bk M p st) = _
    unfold plN
    rw [bk_bk h h', show st + n * st = (n + 1) * st by rw [Nat.succ_mul, Nat.add_comm]]
  · exact step_c h h' hn hpm hol hB hD l hl

theorem ring_now_L10 {M st : Nat} (h : 2 ≤ M) (h' : M ≤ 6) (hs : st ≤ 5) (s : Nat → Int32) (k : Int32 → (Nat → Int32) → Option ((Nat → Int32) × (Nat → Int32))) : ∀ (d i F : Nat) (f : Nat → Int32), i + d = M → d < F → (∀ q, q < M → bk M q st < i → f q = upd s 18 (s 18 + 1) (bk M q st)) → ∃ f', (∀ q, q < M → f' q = upd s 18 (s 18 + 1) (bk M q st)) ∧ fX7_ring_now_L10 (nI M) (nI st) s k F (nI i) f = k (nI M) f' := by
  intro d
  induction d with
  | zero =>
    intro i F f h1 h2 h3
    obtain ⟨F, rfl⟩ : ∃ F', F = F' + 1 := ⟨F - 1, by omega⟩
    obtain rfl : i = M := by omega
    refine ⟨f, fun q hq => h3 q hq (bk_lt h), ?_⟩
    rw [fX7_ring_now_L10, if_pos (Int32.le_refl _)]
  | succ d ih =>
    intro i F f h1 h2 h3
    obtain ⟨F, rfl⟩ : ∃ F', F = F' + 1 := ⟨F - 1, by omega⟩
    have hm := Nat.mod_lt (i + st) (show 0 < M by omega)
    obtain ⟨f', h4, h5⟩ := ih (i + 1) F (upd f ((i + st) % M) (upd s 18 (s 18 + 1) i)) (by omega) (by omega) (by
      intro q hq hb
      by_cases e : q = (i + st) % M
      · rw [e, fw_bk h h' (by omega), pk_us]
      · rw [pk_un e]
        refine h3 q hq ?_
        have : bk M q st ≠ i := fun z => e ((bk_iff h h' (by omega) hq).mp z)
        omega)
    refine ⟨f', h4, ?_⟩
    rw [fX7_ring_now_L10, if_neg (nI_ge (by omega) (by omega)), if_neg (nI_ne0 (by omega) (by omega)), if_neg (nI_in (by omega) (by omega)), nI_add, x_remN (by omega) (by omega) (by omega), if_neg (nI_in (by omega) (by omega)), nI_clamp (by omega), nI_clamp (by omega), nI_1]
    exact h5
theorem ring_now_L45 {M : Nat} (h' : M ≤ 6) (m : Nat → Int32) (k : Int32 → (Nat → Int32) → Option ((Nat → Int32) × (Nat → Int32))) : ∀ (d i F : Nat) (f : Nat → Int32), i + d = M → d < F → ∃ f', (∀ q, q < M → f' q = if i ≤ q then m q else f q) ∧ (∀ q, M ≤ q → f' q = f q) ∧ fX7_ring_now_L45 (nI M) m k F (nI i) f = k (nI M) f' := by
  intro d
  induction d with
  | zero =>
    intro i F f h1 h2
    obtain ⟨F, rfl⟩ : ∃ F', F = F' + 1 := ⟨F - 1, by omega⟩
    obtain rfl : i = M := by omega
    refine ⟨f, fun q hq => by rw [if_neg (by omega)], fun q hq => rfl, ?_⟩
    rw [fX7_ring_now_L45, if_pos (Int32.le_refl _)]
  | succ d ih =>
    intro i F f h1 h2
    obtain ⟨F, rfl⟩ : ∃ F', F = F' + 1 := ⟨F - 1, by omega⟩
    obtain ⟨f', h4, h5, h6⟩ := ih (i + 1) F (upd f i (m i)) (by omega) (by omega)
    refine ⟨f', fun q hq => ?_, fun q hq => ?_, ?_⟩
    · rw [h4 q hq]
      by_cases e : q = i
      · subst e
        rw [if_neg (by omega), if_pos (by omega), pk_us]
      · rw [pk_un e]
        by_cases e2 : i + 1 ≤ q
        · rw [if_pos e2, if_pos (by omega)]
        · rw [if_neg e2, if_neg (by omega)]
    · rw [h5 q hq, pk_un (by omega)]
    · rw [fX7_ring_now_L45, if_neg (nI_ge (by omega) (by omega)), if_neg (nI_in (by omega) (by omega)), if_neg (nI_in (by omega) (by omega)), nI_clamp (by omega), nI_1]
      exact h6
theorem ring_now_L70 {M nd b : Nat} {dB dP pl : Nat → Nat} {dr : Nat → Int32} (h' : M ≤ 6) (hnd : nd ≤ 6) (hb : b < 20000) (hdr : ∀ i, i < nd → dr (2 * i) = nI (dB i) ∧ dr (2 * i + 1) = nI (dP i) ∧ dB i ≤ 60 ∧ dP i < M) (hpl : ∀ p, p < M → pl p < M) (s : Nat → Int32) (hs : ∀ p, p < M → s p = nI (pl p)) (hs8 : s 18 = nI b) (k : Int32 → (Nat → Int32) → Option ((Nat → Int32) × (Nat → Int32))) : ∀ (d i F : Nat) (f : Nat → Int32), i + d = nd → d < F → ((∀ j, j < 12 ∨ 18 ≤ j → f j = s j) ∧ ∀ l, l < M → ((∃ q, Bl dB dP i b q ∧ pl q = l) → f (12 + l) = 0) ∧ ((¬ ∃ q, Bl dB dP i b q ∧ pl q = l) → f (12 + l) = s (12 + l))) → ∃ f', ((∀ j, j < 12 ∨ 18 ≤ j → f' j = s j) ∧ ∀ l, l < M → ((∃ q, Bl dB dP nd b q ∧ pl q = l) → f' (12 + l) = 0) ∧ ((¬ ∃ q, Bl dB dP nd b q ∧ pl q = l) → f' (12 + l) = s (12 + l))) ∧ fX7_ring_now_L70 (nI nd) dr k F (nI i) f = k (nI nd) f' := by
  intro d
  induction d with
  | zero =>
    intro i F f h1 h2 h3
    obtain ⟨F, rfl⟩ : ∃ F', F = F' + 1 := ⟨F - 1, by omega⟩
    obtain rfl : i = nd := by omega
    refine ⟨f, h3, ?_⟩
    rw [fX7_ring_now_L70, if_pos (Int32.le_refl _)]
  | succ d ih =>
    intro i F f h1 h2 h3
    obtain ⟨F, rfl⟩ : ∃ F', F = F' + 1 := ⟨F - 1, by omega⟩
    obtain ⟨a1, a2, a3, a4⟩ := hdr i (by omega)
    have a5 := hpl _ a4
    have a6 : f (dP i) = nI (pl (dP i)) := by rw [h3.1 _ (by omega), hs _ a4]
    by_cases hc : dB i = b
    · obtain ⟨f', h4, h5⟩ := ih (i + 1) F (upd f (12 + pl (dP i)) 0) (by omega) (by omega) (by
        refine ⟨fun j hj => ?_, fun l hl => ⟨?_, ?_⟩⟩
        · rw [pk_un (by omega), h3.1 j hj]
        · rintro ⟨q, z1, z2⟩
          by_cases e : l = pl (dP i)
          · rw [e, pk_us]
          · rw [pk_un (by omega)]
            refine (h3.2 l hl).1 ?_
            rw [Bl_succ] at z1
            rcases z1 with z1 | ⟨z3, z4⟩
            · exact ⟨q, z1, z2⟩
            · exact absurd (by rw [← z2, z4]) e
        · intro z
          have e : l ≠ pl (dP i) := fun e => z ⟨dP i, Bl_succ.mpr (Or.inr ⟨hc.symm, rfl⟩), e.symm⟩
          rw [pk_un (by omega)]
          exact (h3.2 l hl).2 (fun ⟨q, z1, z2⟩ => z ⟨q, Bl_succ.mpr (Or.inl z1), z2⟩))
      refine ⟨f', h4, ?_⟩
      rw [fX7_ring_now_L70, if_neg (nI_ge (by omega) (by omega)), show (2 : Int32) = nI 2 from rfl, show (12 : Int32) = nI 12 from rfl, x_mulN, if_neg (nI_in (by omega) (by omega)), nI_clamp (by omega), a1, nI_1, nI_clamp (by omega), show (18 : Int32).toNatClampNeg = 18 from rfl, h3.1 18 (by omega), hs8, if_pos (by rw [hc]), if_neg (nI_inc (by omega) (by omega)), a2, if_neg (nI_in (by omega) (by omega)), nI_clamp (by omega), a6, nI_add, if_neg (nI_in (by omega) (by omega)), nI_clamp (by omega), nI_1]
      exact h5
    · obtain ⟨f', h4, h5⟩ := ih (i + 1) F f (by omega) (by omega) (by
        refine ⟨h3.1, fun l hl => ⟨?_, ?_⟩⟩
        · rintro ⟨q, z1, z2⟩
          rw [Bl_succ] at z1
          rcases z1 with z1 | ⟨z3, z4⟩
          · exact (h3.2 l hl).1 ⟨q, z1, z2⟩
          · exact absurd z3.symm hc
        · intro z
          exact (h3.2 l hl).2 (fun ⟨q, z1, z2⟩ => z ⟨q, Bl_succ.mpr (Or.inl z1), z2⟩))
      refine ⟨f', h4, ?_⟩
      rw [fX7_ring_now_L70, if_neg (nI_ge (by omega) (by omega)), show (2 : Int32) = nI 2 from rfl, show (12 : Int32) = nI 12 from rfl, x_mulN, if_neg (nI_in (by omega) (by omega)), nI_clamp (by omega), a1, show (18 : Int32).toNatClampNeg = 18 from rfl, h3.1 18 (by omega), hs8, if_neg (fun z => hc ((nI_eq (by omega) (by omega)).mp z)), nI_1]
      exact h5
theorem ring_now_L142 {M : Nat} {oi lt : Nat → Nat} (h' : M ≤ 6) (hol : ∀ l, l < M → lt l ≤ oi l ∧ oi l < 10000) (s : Nat → Int32) (hs : ∀ l, l < M → s (6 + l) = nI (oi l) ∧ s (12 + l) = nI (lt l)) (k : Int32 → (Nat → Int32) → Option ((Nat → Int32) × (Nat → Int32))) : ∀ (d i F : Nat) (f : Nat → Int32), i + d = M → d < F → ((∀ j, j < 6 ∨ 18 ≤ j → f j = s j) ∧ (∀ l, l < i → f (6 + l) = nI (oi l - lt l) ∧ f (12 + l) = nI (if oi l - lt l = 0 then 0 else lt l)) ∧ (∀ l, i ≤ l → l < M → f (6 + l) = s (6 + l) ∧ f (12 + l) = s (12 + l))) → ∃ f', ((∀ j, j < 6 ∨ 18 ≤ j → f' j = s j) ∧ (∀ l, l < M → f' (6 + l) = nI (oi l - lt l) ∧ f' (12 + l) = nI (if oi l - lt l = 0 then 0 else lt l))) ∧ fX7_ring_now_L142 (nI M) k F (nI i) f = k (nI M) f' := by
  intro d
  induction d with
  | zero =>
    intro i F f h1 h2 h3
    obtain ⟨F, rfl⟩ : ∃ F', F = F' + 1 := ⟨F - 1, by omega⟩
    obtain rfl : i = M := by omega
    refine ⟨f, ⟨h3.1, h3.2.1⟩, ?_⟩
    rw [fX7_ring_now_L142, if_pos (Int32.le_refl _)]
  | succ d ih =>
    intro i F f h1 h2 h3
    obtain ⟨F, rfl⟩ : ∃ F', F = F' + 1 := ⟨F - 1, by omega⟩
    obtain ⟨a1, a2⟩ := h3.2.2 i (Nat.le_refl _) (by omega)
    obtain ⟨b1, b2⟩ := hs i (by omega)
    obtain ⟨c1, c2⟩ := hol i (by omega)
    rw [b1] at a1
    rw [b2] at a2
    obtain ⟨f', h4, h5⟩ := ih (i + 1) F (upd (upd f (6 + i) (nI (oi i - lt i))) (12 + i) (nI (if oi i - lt i = 0 then 0 else lt i))) (by omega) (by omega) (by
      refine ⟨fun j hj => ?_, fun l hl => ?_, fun l hl hm => ?_⟩
      · rw [pk_un (by omega), pk_un (by omega), h3.1 j hj]
      · by_cases e : l = i
        · subst e
          rw [pk_us, pk_un (by omega), pk_us]
          exact ⟨rfl, rfl⟩
        · rw [pk_un (by omega), pk_un (by omega), pk_un (by omega), pk_un (by omega)]
          exact h3.2.1 l (by omega)
      · rw [pk_un (by omega), pk_un (by omega), pk_un (by omega), pk_un (by omega)]
        exact h3.2.2 l (by omega) hm)
    refine ⟨f', h4, ?_⟩
    rw [fX7_ring_now_L142, if_neg (nI_ge (by omega) (by omega)), show (6 : Int32) = nI 6 from rfl, show (12 : Int32) = nI 12 from rfl, nI_add, nI_add, if_neg (nI_in (by omega) (by omega)), if_neg (nI_in (by omega) (by omega)), if_neg (nI_in (by omega) (by omega)), if_neg (nI_in (by omega) (by omega)), nI_clamp (by omega), nI_clamp (by omega), a1, a2, x_subN c1 (by omega), pk_us]
    by_cases hc : oi i - lt i = 0
    · rw [if_pos hc] at h5
      rw [if_pos (by rw [hc]; rfl), if_neg (nI_inc (by omega) (by omega)), nI_1]
      exact h5
    · rw [if_neg hc] at h5
      rw [if_neg (nI_ne0 (by omega) (by omega)), if_neg (nI_inc (by omega) (by omega)), if_neg (nI_inc (by omega) (by omega)), pk_un (by omega), a2, nI_1]
      exact h5
theorem ring_now_n {M st nd b : Nat} {dB dP pl oi lt : Nat → Nat} {dr s mv : Nat → Int32} {aB aP : Int32} (h : 2 ≤ M) (h' : M ≤ 6) (hst : st ≤ 5) (hnd : nd ≤ 6) (hb : b < 19000) (hdr : ∀ i, i < nd → dr (2 * i) = nI (dB i) ∧ dr (2 * i + 1) = nI (dP i) ∧ dB i ≤ 60 ∧ dP i < M) (hX : aB = nI (b + 1) → ∃ y, y < M ∧ aP = nI y) (hpl : ∀ p, p < M → pl p < M) (hol : ∀ l, l < M → lt l ≤ oi l ∧ oi l < 10000) (hs : MR M pl oi lt b s) (F : Nat) (hF : 6 < F) : ∃ s' m', fX7_ring_now F (nI M) (nI st) (nI nd) aB aP dr s mv = some (s', m') ∧ MR M (fun p => pl (bk M p st)) (fun l => oi l - blo (∃ q, q < M ∧ (Bl dB dP nd (b + 1) q ∨ (aB = nI (b + 1) ∧ aP = nI q)) ∧ pl (bk M q st) = l) (lt l)) (fun l => if oi l - blo (∃ q, q < M ∧ (Bl dB dP nd (b + 1) q ∨ (aB = nI (b + 1) ∧ aP = nI q)) ∧ pl (bk M q st) = l) (lt l) = 0 then 0 else blo (∃ q, q < M ∧ (Bl dB dP nd (b + 1) q ∨ (aB = nI (b + 1) ∧ aP = nI q)) ∧ pl (bk M q st) = l) (lt l)) (b + 1) s' := by
  obtain ⟨s1, s2, s3, s4⟩ := hs
  have hb1 : s 18 + 1 = nI (b + 1) := by rw [s4, nI_1]
  have hb2 : ∀ x l : Nat, blo (∃ q, q < M ∧ (Bl dB dP nd (b + 1) q ∨ (aB = nI (b + 1) ∧ aP = nI q)) ∧ pl (bk M q st) = l) x ≤ x := fun x l => blo_le
  have fin : ∀ (m' f : Nat → Int32) (s0 : Nat → Int32), (∀ q, q < M → f q = nI (pl (bk M q st))) → f 18 = nI (b + 1) → (∀ l, l < M → f (6 + l) = nI (oi l)) → (∀ l, l < M → f (12 + l) = nI (blo (∃ q, q < M ∧ (Bl dB dP nd (b + 1) q ∨ (aB = nI (b + 1) ∧ aP = nI q)) ∧ pl (bk M q st) = l) (lt l))) → ∃ s', (fX7_ring_now_L142 (nI M) (fun _ w => some (w, m')) F (nI 0) f = some (s', m')) ∧ MR M (fun p => pl (bk M p st)) (fun l => oi l - blo (∃ q, q < M ∧ (Bl dB dP nd (b + 1) q ∨ (aB = nI (b + 1) ∧ aP = nI q)) ∧ pl (bk M q st) = l) (lt l)) (fun l => if oi l - blo (∃ q, q < M ∧ (Bl dB dP nd (b + 1) q ∨ (aB = nI (b + 1) ∧ aP = nI q)) ∧ pl (bk M q st) = l) (lt l) = 0 then 0 else blo (∃ q, q < M ∧ (Bl dB dP nd (b + 1) q ∨ (aB = nI (b + 1) ∧ aP = nI q)) ∧ pl (bk M q st) = l) (lt l)) (b + 1) s' := by
    intro m' f s0 g1 g2 g3 g4
    obtain ⟨f', ⟨h4, h5⟩, h6⟩ := ring_now_L142 (oi := oi) (lt := fun l => blo (∃ q, q < M ∧ (Bl dB dP nd (b + 1) q ∨ (aB = nI (b + 1) ∧ aP = nI q)) ∧ pl (bk M q st) = l) (lt l)) h' (fun l hl => ⟨Nat.le_trans blo_le (hol l hl).1, (hol l hl).2⟩) f (fun l hl => ⟨g3 l hl, g4 l hl⟩) (fun _ w => some (w, m')) M 0 F f (by omega) (by omega) ⟨fun _ _ => rfl, fun l hl => absurd hl (Nat.not_lt_zero _), fun _ _ _ => ⟨rfl, rfl⟩⟩
    exact ⟨f', h6, fun p hp => by rw [h4 p (by omega), g1 p hp], fun l hl => (h5 l hl).1, fun l hl => (h5 l hl).2, by rw [h4 18 (by omega), g2]⟩
  obtain ⟨m', k1, k2⟩ := ring_now_L10 h h' hst s (fun (v10_2 : Int32) (w10_mok_33 : Nat → Int32) => fX7_ring_now_L45 (nI M) w10_mok_33 (fun (v45_2 : Int32) (w45_mok_22 : Nat → Int32) => fX7_ring_now_L70 (nI nd) dr (fun (v70_2 : Int32) (w70_mok_22 : Nat → Int32) => if aB = (w70_mok_22 (18 : Int32).toNatClampNeg) then (if aP < 0 ∨ 19 ≤ aP.toNatClampNeg then none else (if ((12 : Int32) + (w70_mok_22 aP.toNatClampNeg)) < 0 ∨ 19 ≤ ((12 : Int32) + (w70_mok_22 aP.toNatClampNeg)).toNatClampNeg then none else (fX7_ring_now_L142 (nI M) (fun (v142_2 : Int32) (w142_mok_22 : Nat → Int32) => some (w142_mok_22, w10_mok_33)) F (0 : Int32) (upd w70_mok_22 ((12 : Int32) + (w70_mok_22 aP.toNatClampNeg)).toNatClampNeg (0 : Int32))))) else (fX7_ring_now_L142 (nI M) (fun (v142_2 : Int32) (w142_mok_22 : Nat → Int32) => some (w142_mok_22, w10_mok_33)) F (0 : Int32) w70_mok_22)) F (0 : Int32) w45_mok_22) F (0 : Int32) (upd s (18 : Int32).toNatClampNeg ((s (18 : Int32).toNatClampNeg) + (1 : Int32)))) M 0 F mv (by omega) (by omega) (fun q _ z => absurd z (Nat.not_lt_zero _))
  have k2' : fX7_ring_now F (nI M) (nI st) (nI nd) aB aP dr s mv = _ := k2
  rw [k2']
  obtain ⟨f2, l1, l2, l3⟩ := ring_now_L45 h' m' (fun (v45_2 : Int32) (w45_mok_22 : Nat → Int32) => fX7_ring_now_L70 (nI nd) dr (fun (v70_2 : Int32) (w70_mok_22 : Nat → Int32) => if aB = (w70_mok_22 (18 : Int32).toNatClampNeg) then (if aP < 0 ∨ 19 ≤ aP.toNatClampNeg then none else (if ((12 : Int32) + (w70_mok_22 aP.toNatClampNeg)) < 0 ∨ 19 ≤ ((12 : Int32) + (w70_mok_22 aP.toNatClampNeg)).toNatClampNeg then none else (fX7_ring_now_L142 (nI M) (fun (v142_2 : Int32) (w142_mok_22 : Nat → Int32) => some (w142_mok_22, m')) F (0 : Int32) (upd w70_mok_22 ((12 : Int32) + (w70_mok_22 aP.toNatClampNeg)).toNatClampNeg (0 : Int32))))) else (fX7_ring_now_L142 (nI M) (fun (v142_2 : Int32) (w142_mok_22 : Nat → Int32) => some (w142_mok_22, m')) F (0 : Int32) w70_mok_22)) F (0 : Int32) w45_mok_22) M 0 F (upd s 18 (s 18 + 1)) (by omega) (by omega)
  have l1' : ∀ q, q < M → f2 q = nI (pl (bk M q st)) := by
    intro q hq
    have := bk_lt (M := M) (p := q) (k := st) h
    rw [l1 q hq, if_pos (Nat.zero_le _), k1 q hq, pk_un (by omega), s1 _ this]
  have l28 : f2 18 = nI (b + 1) := by rw [l2 18 (by omega), pk_us, hb1]
  have hpl' : ∀ p, p < M → pl (bk M p st) < M := fun p _ => hpl _ (bk_lt h)
  obtain ⟨f3, ⟨n1, n2⟩, n3⟩ := ring_now_L70 (pl := fun p => pl (bk M p st)) h' hnd (show b + 1 < 20000 by omega) hdr hpl' f2 l1' l28 (fun (v70_2 : Int32) (w70_mok_22 : Nat → Int32) => if aB = (w70_mok_22 (18 : Int32).toNatClampNeg) then (if aP < 0 ∨ 19 ≤ aP.toNatClampNeg then none else (if ((12 : Int32) + (w70_mok_22 aP.toNatClampNeg)) < 0 ∨ 19 ≤ ((12 : Int32) + (w70_mok_22 aP.toNatClampNeg)).toNatClampNeg then none else (fX7_ring_now_L142 (nI M) (fun (v142_2 : Int32) (w142_mok_22 : Nat → Int32) => some (w142_mok_22, m')) F (0 : Int32) (upd w70_mok_22 ((12 : Int32) + (w70_mok_22 aP.toNatClampNeg)).toNatClampNeg (0 : Int32))))) else (fX7_ring_now_L142 (nI M) (fun (v142_2 : Int32) (w142_mok_22 : Nat → Int32) => some (w142_mok_22, m')) F (0 : Int32) w70_mok_22)) nd 0 F f2 (by omega) (by omega) ⟨fun _ _ => rfl, fun l hl => ⟨fun ⟨q, ⟨i, z, _⟩, _⟩ => absurd z (Nat.not_lt_zero _), fun _ => rfl⟩⟩
  have l3' := l3.trans n3
  have n18 : f3 18 = nI (b + 1) := by rw [n1 18 (by omega), l28]
  have n0 : ∀ q, q < M → f3 q = nI (pl (bk M q st)) := fun q hq => by rw [n1 q (by omega), l1' q hq]
  have n6 : ∀ l, l < M → f3 (6 + l) = nI (oi l) := fun l hl => by rw [n1 _ (by omega), l2 _ (by omega), pk_un (by omega), s2 l hl]
  have n12 : ∀ l, l < M → f2 (12 + l) = nI (lt l) := fun l hl => by rw [l2 _ (by omega), pk_un (by omega), s3 l hl]
  by_cases hc : aB = nI (b + 1)
  · obtain ⟨y, y1, y2⟩ := hX hc
    have hy := hpl' y y1
    obtain ⟨s', q1, q2⟩ := fin m' (upd f3 (12 + pl (bk M y st)) 0) s (fun q hq => by rw [pk_un (by omega), n0 q hq]) (by rw [pk_un (by omega), n18]) (fun l hl => by rw [pk_un (by omega), n6 l hl]) (by
      intro l hl
      by_cases e : l = pl (bk M y st)
      · rw [e, pk_us, blo_pos ⟨y, y1, Or.inr ⟨hc, y2⟩, rfl⟩]
        rfl
      · rw [pk_un (by omega)]
        by_cases e2 : ∃ q, Bl dB dP nd (b + 1) q ∧ pl (bk M q st) = l
        · rw [(n2 l hl).1 e2]
          obtain ⟨q, ⟨i, z0, z1, z3⟩, z2⟩ := e2
          rw [blo_pos ⟨q, by rw [← z3]; exact (hdr i z0).2.2.2, Or.inl ⟨i, z0, z1, z3⟩, z2⟩]
          rfl
        · rw [(n2 l hl).2 e2, n12 l hl, blo_neg]
          rintro ⟨q, z0, z1 | ⟨_, z1⟩, z2⟩
          · exact e2 ⟨q, z1, z2⟩
          · rw [y2, nI_eq (by omega) (by omega)] at z1
            exact e (by rw [← z2, z1]))
    refine ⟨s', m', ?_, q2⟩
    refine Eq.trans l3' ?_
    rw [show (18 : Int32).toNatClampNeg = 18 from rfl, n18, if_pos hc, y2, if_neg (nI_in (by omega) (by omega)), nI_clamp (by omega), n0 y y1, show (12 : Int32) = nI 12 from rfl, nI_add, if_neg (nI_in (by omega) (by omega)), nI_clamp (by omega)]
    exact q1
  · obtain ⟨s', q1, q2⟩ := fin m' f3 s n0 n18 n6 (by
      intro l hl
      by_cases e2 : ∃ q, Bl dB dP nd (b + 1) q ∧ pl (bk M q st) = l
      · rw [(n2 l hl).1 e2]
        obtain ⟨q, ⟨i, z0, z1, z3⟩, z2⟩ := e2
        rw [blo_pos ⟨q, by rw [← z3]; exact (hdr i z0).2.2.2, Or.inl ⟨i, z0, z1, z3⟩, z2⟩]
        rfl
      · rw [(n2 l hl).2 e2, n12 l hl, blo_neg]
        rintro ⟨q, z0, z1 | ⟨z1, _⟩, z2⟩
        · exact e2 ⟨q, z1, z2⟩
        · exact hc z1)
    refine ⟨s', m', ?_, q2⟩
    refine Eq.trans l3' ?_
    rw [show (18 : Int32).toNatClampNeg = 18 from rfl, n18, if_neg hc]
    exact q1
/-- one ring, when what is there is known in closed words -/
theorem ring_now_c {M st nd b n : Nat} {dB dP po pl oi lt D : Nat → Nat} {dr s mv : Nat → Int32} {aB aP : Int32} (h : 2 ≤ M) (h' : M ≤ 6) (hst : st ≤ 5) (hnd : nd ≤ 6) (hb : b < 10000) (hn : n < 1000) (hdr : ∀ i, i < nd → dr (2 * i) = nI (dB i) ∧ dr (2 * i + 1) = nI (dP i) ∧ dB i ≤ 60 ∧ dP i < M) (hX : aB = nI (b + n + 1) → ∃ y, y < M ∧ aP = nI y) (hpm : PM M po pl) (hol : ∀ l, l < M → lt l ≤ 1 ∧ lt l ≤ oi l ∧ oi l < 10000) (B : Nat → Nat → Prop) (hB : ∀ y, y < M → ((Bl dB dP nd (b + n + 1) y ∨ (aB = nI (b + n + 1) ∧ aP = nI y)) ↔ B (b + n + 1) y)) (hD : isD B M st b D) (hs : MR M (plN M st pl n) (oiN po oi lt D n) (ltN po oi lt D n) (b + n) s) (F : Nat) (hF : 6 < F) : ∃ s' m', fX7_ring_now F (nI M) (nI st) (nI nd) aB aP dr s mv = some (s', m') ∧ MR M (plN M st pl (n + 1)) (oiN po oi lt D (n + 1)) (ltN po oi lt D (n + 1)) (b + (n + 1)) s' := by
  obtain ⟨s', m', e1, e2⟩ := ring_now_n h h' hst hnd (show b + n < 19000 by omega) hdr hX (fun p hp => (hpm.2 _ (bk_lt h)).1) (fun l hl => by
    have a := hol l hl
    have b1 := (hD (po l) (hpm.1 l hl).1).1
    refine ⟨?_, Nat.lt_of_le_of_lt (Nat.sub_le _ _) a.2.2⟩
    show (if n < litF po oi lt D l then 1 else 0) ≤ oi l - (if lt l = 1 then min n (min (oi l) (D (po l) - 1)) else 0)
    by_cases z : lt l = 1
    · rw [show litF po oi lt D l = min (oi l) (D (po l)) from if_pos z, if_pos z]
      split <;> omega
    · rw [show litF po oi lt D l = 0 from if_neg z, if_neg (by omega)]
      omega) hs F hF (mv := mv)
  refine ⟨s', m', e1, MR_congr e2 (fun p hp => ?_) (fun l hl => ?_) rfl⟩
  · show plN M st pl n (bk M p st) = _
    unfold plN
    rw [bk_bk h h', show st + n * st = (n + 1) * st by rw [Nat.succ_mul, Nat.add_comm]]
  · exact step_c h h' hn hpm hol hB hD l hl
