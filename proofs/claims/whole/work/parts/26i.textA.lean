/-! ===== THE TEXT: numbers and their signs ===== -/
def dgT (t : Nat → Nat) (L j : Nat) : Prop := j < L ∧ 48 ≤ t j ∧ t j ≤ 57
noncomputable def tokN (t : Nat → Nat) (L i : Nat) : Option (Nat × Nat) := @ite _ (dgT t L i) (Classical.propDecidable _) (@ite _ (dgT t L (i + 1)) (Classical.propDecidable _) (@ite _ (dgT t L (i + 2)) (Classical.propDecidable _) none (some (10 * (t i - 48) + (t (i + 1) - 48), i + 2))) (some (t i - 48, i + 1))) none
theorem tok_0 {t : Nat → Nat} {L i : Nat} (h : ¬ dgT t L i) : tokN t L i = none := if_neg h
theorem tok_1 {t : Nat → Nat} {L i : Nat} (h : dgT t L i) (h1 : ¬ dgT t L (i + 1)) : tokN t L i = some (t i - 48, i + 1) := (if_pos h).trans (if_neg h1)
theorem tok_2 {t : Nat → Nat} {L i : Nat} (h : dgT t L i) (h1 : dgT t L (i + 1)) (h2 : ¬ dgT t L (i + 2)) : tokN t L i = some (10 * (t i - 48) + (t (i + 1) - 48), i + 2) := (if_pos h).trans ((if_pos h1).trans (if_neg h2))
theorem tok_3 {t : Nat → Nat} {L i : Nat} (h : dgT t L i) (h1 : dgT t L (i + 1)) (h2 : dgT t L (i + 2)) : tokN t L i = none := (if_pos h).trans ((if_pos h1).trans (if_pos h2))
/-- up to m numbers from i on, parted by , and ended by ; : the numbers, what stands behind -/
noncomputable def spN (t : Nat → Nat) (L : Nat) : Nat → Nat → Option (List Nat × Nat)
  | 0, _ => none
  | m + 1, i => xbd2 (tokN t L i) (fun v e => if e < L then (if t e = 59 then some ([v], e + 1) else if t e = 44 then xbd2 (spN t L m (e + 1)) (fun vs nx => some (v :: vs, nx)) else none) else none)
theorem spN_none {t : Nat → Nat} {L m i : Nat} (h : tokN t L i = none) : spN t L (m + 1) i = none := by
  unfold spN
  rw [h]
  rfl
theorem spN_tok {t : Nat → Nat} {L m i v e : Nat} (h : tokN t L i = some (v, e)) : spN t L (m + 1) i = if e < L then (if t e = 59 then some ([v], e + 1) else if t e = 44 then xbd2 (spN t L m (e + 1)) (fun vs nx => some (v :: vs, nx)) else none) else none := by
  rw [spN, h]
  rfl
theorem tok_lt {t : Nat → Nat} {L i v e : Nat} (ht : TX t) (h : tokN t L i = some (v, e)) : v ≤ 99 ∧ i < e := by
  by_cases c0 : dgT t L i
  · by_cases c1 : dgT t L (i + 1)
    · by_cases c2 : dgT t L (i + 2)
      · rw [tok_3 c0 c1 c2] at h
        cases h
      · rw [tok_2 c0 c1 c2] at h
        obtain ⟨h1, h2⟩ := Prod.mk.inj (Option.some.inj h)
        have := c0.2
        have := c1.2
        omega
    · rw [tok_1 c0 c1] at h
      obtain ⟨h1, h2⟩ := Prod.mk.inj (Option.some.inj h)
      have := c0.2
      omega
  · rw [tok_0 c0] at h
    cases h
/-- what an item's numbers are like -/
theorem spN_len {t : Nat → Nat} {L : Nat} (ht : TX t) : ∀ (m i : Nat) (vs : List Nat) (nx : Nat), spN t L m i = some (vs, nx) → 1 ≤ vs.length ∧ vs.length ≤ m ∧ i < nx ∧ nx ≤ L ∧ ∀ v ∈ vs, v ≤ 99 := by
  intro m
  induction m with
  | zero =>
    intro i vs nx h
    cases h
  | succ m ih =>
    intro i vs nx h
    cases c : tokN t L i with
    | none =>
      rw [spN_none c] at h
      cases h
    | some p =>
      obtain ⟨v, e⟩ := p
      have q := tok_lt ht c
      rw [spN_tok c] at h
      by_cases c1 : e < L
      · rw [if_pos c1] at h
        by_cases c2 : t e = 59
        · rw [if_pos c2] at h
          obtain ⟨h1, h2⟩ := Prod.mk.inj (Option.some.inj h)
          subst h1 h2
          exact ⟨Nat.le_refl _, Nat.succ_le_succ (Nat.zero_le _), by omega, c1, fun x hx => by rw [List.mem_singleton.mp hx]; exact q.1⟩
        · rw [if_neg c2] at h
          by_cases c3 : t e = 44
          · rw [if_pos c3] at h
            cases c4 : spN t L m (e + 1) with
            | none =>
              rw [c4] at h
              cases h
            | some p =>
              obtain ⟨vs', nx'⟩ := p
              rw [c4, xbd2_some rfl] at h
              obtain ⟨h1, h2⟩ := Prod.mk.inj (Option.some.inj h)
              subst h1 h2
              obtain ⟨g1, g2, g3, g4, g5⟩ := ih _ _ _ c4
              refine ⟨by rw [List.length_cons]; omega, by rw [List.length_cons]; omega, by omega, g4, fun x hx => ?_⟩
              rcases List.mem_cons.mp hx with rfl | hx
              · exact q.1
              · exact g5 x hx
          · rw [if_neg c3] at h
            cases h
      · rw [if_neg c1] at h
        cases h
/-! the class -/
abbrev spK : Int32 → Int32 → Int32 → Int32 → (Nat → Int32) → Option (Int32 × Int32 × (Nat → Int32)) := fun (v16_6 : Int32) (v16_5 : Int32) (v16_4 : Int32) (w16_di_1 : Int32) (w16_dk_0 : Nat → Int32) => some ((-4 : Int32), (w16_di_1, w16_dk_0))
section SPL
variable {t : Nat → Nat} {L i G f v c : Nat} {w : Nat → Int32} {fi vi : Int32} {di : Int32}
theorem s16_end (h : L ≤ i) (hL : L ≤ 300) (hi : i ≤ 301) : fX2_splitItem_L16 (fun j => nI (t j)) (nI L) 300 spK (G + 1) (nI i) fi vi di w = some (-4, di, w) := by
  rw [fX2_splitItem_L16, if_pos (nI_le h (by omega))]
theorem s16_dig (ht : TX t) (h : dgT t L i) (hL : L ≤ 300) (hf : f < 2) (hv : v < 1000) : fX2_splitItem_L16 (fun j => nI (t j)) (nI L) 300 spK (G + 1) (nI i) (nI f) (nI v) di w = fX2_splitItem_L16 (fun j => nI (t j)) (nI L) 300 spK G (nI (i + 1)) (nI (f + 1)) (nI (10 * v + (t i - 48))) di w := by
  obtain ⟨h1, h2, h3⟩ := h
  have hb := ht i
  rw [fX2_splitItem_L16, if_neg (nI_ge h1 (by omega)), fX3_get_eq _ _ _ (by omega), rget_n (by omega) (by omega), xbd_some rfl, if_neg (show ¬ nI (t i) < (48 : Int32) from nI_nlt (b := 48) h2 (by omega)), if_neg (show ¬ (57 : Int32) < nI (t i) from nI_nlt (b := t i) (a := 57) h3 (by omega)), if_neg (show ¬ (2 : Int32) ≤ nI f from nI_ge (b := 2) hf (by omega)), show (10 : Int32) = nI 10 from rfl, show (48 : Int32) = nI 48 from rfl, x_mulN, nI_add, x_subN (by omega) (by omega), nI_1, nI_1, show 10 * v + t i - 48 = 10 * v + (t i - 48) by omega]
/-- the test of a sign that is no figure -/
theorem s16_sig (ht : TX t) (h : i < L) (hL : L ≤ 300) (hn : ¬ (48 ≤ t i ∧ t i ≤ 57) ∨ (2 : Int32) ≤ fi) : fX2_splitItem_L16 (fun j => nI (t j)) (nI L) 300 spK (G + 1) (nI i) fi vi di w = if t i = 44 ∨ t i = 59 then (if fi = 0 then some (-4, di, w) else (if di < (3 : Int32) then (xbd (fX3_set w di vi 3) (fun (u109 : (Nat → Int32)) => if t i = 59 then some (nI (i + 1), (di + 1, u109)) else fX2_splitItem_L16 (fun j => nI (t j)) (nI L) 300 spK G (nI (i + 1)) 0 0 (di + 1) u109)) else some (-4, di, w))) else some (-4, di, w) := by
  have hb := ht i
  have e44 : (nI (t i) = (44 : Int32)) = (t i = 44) := propext (nI_eq (b := 44) (by omega) (by omega))
  have e59 : (nI (t i) = (59 : Int32)) = (t i = 59) := propext (nI_eq (b := 59) (by omega) (by omega))
  have tail : (if nI (t i) = (44 : Int32) then (if fi = 0 then (some ((-4 : Int32), (di, w))) else (if di < (3 : Int32) then (xbd (fX3_set w di vi 3) (fun (u109 : (Nat → Int32)) => if nI (t i) = (59 : Int32) then (some ((nI i + (1 : Int32)), ((di + (1 : Int32)), u109))) else (fX2_splitItem_L16 (fun j => nI (t j)) (nI L) 300 spK G (nI i + 1) (0 : Int32) (0 : Int32) (di + (1 : Int32)) u109))) else (some ((-4 : Int32), (di, w))))) else (if nI (t i) = (59 : Int32) then (if fi = 0 then (some ((-4 : Int32), (di, w))) else (if di < (3 : Int32) then (xbd (fX3_set w di vi 3) (fun (u109 : (Nat → Int32)) => if nI (t i) = (59 : Int32) then (some ((nI i + (1 : Int32)), ((di + (1 : Int32)), u109))) else (fX2_splitItem_L16 (fun j => nI (t j)) (nI L) 300 spK G (nI i + 1) (0 : Int32) (0 : Int32) (di + (1 : Int32)) u109))) else (some ((-4 : Int32), (di, w))))) else (some ((-4 : Int32), (di, w))))) = if t i = 44 ∨ t i = 59 then (if fi = 0 then some (-4, di, w) else (if di < (3 : Int32) then (xbd (fX3_set w di vi 3) (fun (u109 : (Nat → Int32)) => if t i = 59 then some (nI (i + 1), (di + 1, u109)) else fX2_splitItem_L16 (fun j => nI (t j)) (nI L) 300 spK G (nI (i + 1)) 0 0 (di + 1) u109)) else some (-4, di, w))) else some (-4, di, w) := by
    by_cases c1 : t i = 44
    · rw [if_pos (show nI (t i) = (44 : Int32) by rw [c1]; rfl), if_pos (Or.inl c1), nI_1]
      have n59 : ¬ t i = 59 := by omega
      have m59 : ¬ nI (t i) = (59 : Int32) := by rw [c1]; decide
      simp only [if_neg n59, if_neg m59]
    · rw [if_neg (show ¬ nI (t i) = (44 : Int32) from fun z => c1 (by rw [e44] at z; exact z))]
      by_cases c2 : t i = 59
      · have m59 : nI (t i) = (59 : Int32) := by rw [c2]; rfl
        rw [if_pos m59, if_pos (Or.inr c2), nI_1]
        simp only [if_pos m59, if_pos c2]
      · rw [if_neg (show ¬ nI (t i) = (59 : Int32) from fun z => c2 (by rw [e59] at z; exact z)), if_neg (by omega)]
  rw [fX2_splitItem_L16, if_neg (nI_ge h (by omega)), fX3_get_eq _ _ _ (by omega), rget_n (by omega) (by omega), xbd_some rfl]
  by_cases c1 : nI (t i) < (48 : Int32)
  · rw [if_pos c1]
    exact tail
  · rw [if_neg c1]
    by_cases c2 : (57 : Int32) < nI (t i)
    · rw [if_pos c2]
      exact tail
    · rw [if_neg c2]
      have c3 : (2 : Int32) ≤ fi := by
        refine hn.resolve_left fun z => z ⟨?_, ?_⟩
        · refine Nat.not_lt.mp fun y => c1 (nI_lt (b := 48) y (by omega))
        · refine Nat.not_lt.mp fun y => c2 (nI_lt (a := 57) y (by omega))
      rw [if_pos c3]
      exact tail
end SPL
/-- behind three numbers there is no further one -/
theorem s16_full {t : Nat → Nat} {L : Nat} (ht : TX t) (hL : L ≤ 300) {w : Nat → Int32} : ∀ (d i G : Nat) (f v : Nat), i + d = L → d < G → f ≤ 2 → v < 10 ^ f → fX2_splitItem_L16 (fun j => nI (t j)) (nI L) 300 spK G (nI i) (nI f) (nI v) 3 w = some (-4, 3, w) := by
  intro d
  induction d with
  | zero =>
    intro i G f v h1 h2 h3 h4
    obtain ⟨G, rfl⟩ : ∃ G', G = G' + 1 := ⟨G - 1, by omega⟩
    exact s16_end (by omega) hL (by omega)
  | succ d ih =>
    intro i G f v h1 h2 h3 h4
    obtain ⟨G, rfl⟩ : ∃ G', G = G' + 1 := ⟨G - 1, by omega⟩
    by_cases c : dgT t L i ∧ f < 2
    · have hb := c.1.2
      have hv : v < 1000 := by
        rcases (show f = 0 ∨ f = 1 by omega) with rfl | rfl <;> omega
      rw [s16_dig ht c.1 hL c.2 hv]
      exact ih (i + 1) G (f + 1) _ (by omega) (by omega) (by omega) (by rw [Nat.pow_succ]; omega)
    · have hn : ¬ (48 ≤ t i ∧ t i ≤ 57) ∨ (2 : Int32) ≤ nI f := by
        by_cases c2 : f < 2
        · exact Or.inl fun z => c ⟨⟨by omega, z.1, z.2⟩, c2⟩
        · exact Or.inr (nI_le (a := 2) (by omega) (by omega))
      rw [s16_sig ht (by omega) hL hn]
      by_cases c3 : t i = 44 ∨ t i = 59
      · rw [if_pos c3]
        by_cases c4 : nI f = 0
        · rw [if_pos c4]
        · rw [if_neg c4, if_neg (by decide)]
      · rw [if_neg c3]
/-- what the class makes of an item's numbers -/
def SPd (t : Nat → Nat) (L m c i : Nat) (w : Nat → Int32) (R : Option (Int32 × Int32 × (Nat → Int32))) : Prop := (spN t L m i = none ∧ ∃ c' w', R = some (-4, c', w')) ∨ (∃ vs nx w', spN t L m i = some (vs, nx) ∧ R = some (nI nx, nI (c + vs.length), w') ∧ (∀ j, j < vs.length → w' (c + j) = nI (vs.getD j 0)) ∧ ∀ j, j < c → w' j = w j)
theorem split_n {t : Nat → Nat} {L : Nat} (ht : TX t) (hL : L ≤ 300) : ∀ (m c i G : Nat) (w : Nat → Int32), c + m = 3 → i ≤ L → L < i + G → SPd t L m c i w (fX2_splitItem_L16 (fun j => nI (t j)) (nI L) 300 spK G (nI i) 0 0 (nI c) w) := by
  intro m
  induction m with
  | zero =>
    intro c i G w h1 h2 h3
    obtain rfl : c = 3 := by omega
    exact Or.inl ⟨rfl, 3, w, s16_full ht hL (L - i) i G 0 0 (by omega) (by omega) (by omega) (by decide)⟩
  | succ m ih =>
    intro c i G w h1 h2 h3
    obtain ⟨G, rfl⟩ : ∃ G', G = G' + 1 := ⟨G - 1, by omega⟩
    have c3 : c < 3 := by omega
    -- behind the figures
    have fin' : ∀ (v e H : Nat) (fi : Int32), tokN t L i = some (v, e) → e ≤ L + 1 → i < e → L < e + H + 1 → (¬ (48 ≤ t e ∧ t e ≤ 57) ∨ (2 : Int32) ≤ fi ∨ L ≤ e) → ¬ fi = 0 → SPd t L (m + 1) c i w (fX2_splitItem_L16 (fun j => nI (t j)) (nI L) 300 spK (H + 1) (nI e) fi (nI v) (nI c) w) := by
      intro v e H fi q1 q2 q0 q3 q4 q5
      by_cases d1 : e < L
      · have q4' : ¬ (48 ≤ t e ∧ t e ≤ 57) ∨ (2 : Int32) ≤ fi := by
          rcases q4 with q | q | q
          · exact Or.inl q
          · exact Or.inr q
          · omega
        rw [s16_sig ht d1 hL q4']
        by_cases d2 : t e = 44 ∨ t e = 59
        · rw [if_pos d2, if_neg q5, if_pos (show nI c < (3 : Int32) from nI_lt (b := 3) c3 (by omega)), fX3_set_eq _ _ _ _ (by omega), rset_n c3 (by omega), xbd_some rfl]
          by_cases d3 : t e = 59
          · rw [if_pos d3]
            refine Or.inr ⟨[v], e + 1, upd w c (nI v), ?_, by rw [nI_1]; rfl, fun j hj => ?_, fun j hj => ?_⟩
            · rw [spN_tok q1, if_pos d1, if_pos d3]
            · have : j = 0 := by rw [List.length_singleton] at hj; omega
              subst this
              exact if_pos rfl
            · exact if_neg (by omega)
          · have d4 : t e = 44 := d2.resolve_right d3
            rw [if_neg d3, nI_1]
            have es : spN t L (m + 1) i = xbd2 (spN t L m (e + 1)) (fun vs nx => some (v :: vs, nx)) := by rw [spN_tok q1, if_pos d1, if_neg d3, if_pos d4]
            rcases ih (c + 1) (e + 1) H (upd w c (nI v)) (by omega) (by omega) (by omega) with ⟨g1, c', w', g2⟩ | ⟨vs, nx, w', g1, g2, g3, g4⟩
            · refine Or.inl ⟨?_, c', w', g2⟩
              rw [es, g1]
              rfl
            · refine Or.inr ⟨v :: vs, nx, w', ?_, ?_, fun j hj => ?_, fun j hj => ?_⟩
              · rw [es, g1]
                rfl
              · rw [g2, List.length_cons, show c + 1 + vs.length = c + (vs.length + 1) by omega]
              · cases j with
                | zero =>
                  rw [Nat.add_zero, g4 c (by omega)]
                  exact if_pos rfl
                | succ j =>
                  rw [List.length_cons] at hj
                  have := g3 j (by omega)
                  rw [show c + (j + 1) = c + 1 + j by omega, this]
                  rfl
              · rw [g4 j (by omega)]
                exact if_neg (by omega)
        · rw [if_neg d2]
          refine Or.inl ⟨?_, _, _, rfl⟩
          rw [spN_tok q1, if_pos d1, if_neg (fun z => d2 (Or.inr z)), if_neg (fun z => d2 (Or.inl z))]
      · rw [s16_end (by omega) hL (by omega)]
        refine Or.inl ⟨?_, _, _, rfl⟩
        rw [spN_tok q1, if_neg d1]
    by_cases c0 : dgT t L i
    · have hb := c0.2
      have hi := c0.1
      rw [show (0 : Int32) = nI 0 from rfl, s16_dig ht c0 hL (by omega) (by omega), show 10 * 0 + (t i - 48) = t i - 48 by omega]
      obtain ⟨G, rfl⟩ : ∃ G', G = G' + 1 := ⟨G - 1, by omega⟩
      by_cases c1 : dgT t L (i + 1)
      · have hb1 := c1.2
        have hi1 := c1.1
        rw [s16_dig ht c1 hL (by omega) (by omega)]
        obtain ⟨G, rfl⟩ : ∃ G', G = G' + 1 := ⟨G - 1, by omega⟩
        by_cases c2 : dgT t L (i + 2)
        · have hb2 := c2.2
          rw [s16_sig ht c2.1 hL (Or.inr (by decide)), if_neg (by omega)]
          exact Or.inl ⟨spN_none (tok_3 c0 c1 c2), _, _, rfl⟩
        · refine fin' _ (i + 2) G (nI (0 + 1 + 1)) (tok_2 c0 c1 c2) (by omega) (by omega) (by omega) (Or.inr (Or.inl (by decide))) (by decide)
      · refine fin' _ (i + 1) G (nI (0 + 1)) (tok_1 c0 c1) (by omega) (by omega) (by omega) ?_ (by decide)
        by_cases d1 : i + 1 < L
        · exact Or.inl fun z => c1 ⟨d1, z.1, z.2⟩
        · exact Or.inr (Or.inr (by omega))
    · by_cases d1 : i < L
      · rw [s16_sig ht d1 hL (Or.inl fun z => c0 ⟨d1, z.1, z.2⟩)]
        refine Or.inl ⟨spN_none (tok_0 c0), nI c, w, ?_⟩
        by_cases d2 : t i = 44 ∨ t i = 59
        · rw [if_pos d2, if_pos rfl]
        · rw [if_neg d2]
      · rw [s16_end (by omega) hL (by omega)]
        exact Or.inl ⟨spN_none (tok_0 c0), _, _, rfl⟩
/-! the reference -/
section ARE
variable {t : Nat → Nat} {L k a i G u : Nat} {w : Nat → Int32} {K : Int32 → (Nat → Int32) → Option (Int32 × Int32 × (Nat → Int32))}
theorem in_dig (ht : TX t) (h : dgT t L i) : fX7_in (nI (t i)) (48 : Int32) (57 : Int32) = some 1 := in_yes (lo := 48) (hi := 57) h.2.1 h.2.2 (by omega)
theorem r19_stop (ht : TX t) (h : ¬ dgT t L i) (hL : L ≤ 300) (hi : i ≤ L) : fX7_areNumbers_L19 (nI L) (fun j => nI (t j)) (nI k) (nI a) K (G + 1) (nI i) w = K (nI i) w := by
  have hb := ht i
  by_cases c : i < L
  · have e : fX7_in (nI (t i)) (48 : Int32) (57 : Int32) = some 0 := by
      refine in_no (lo := 48) (hi := 57) ?_
      by_cases c2 : t i < 48
      · exact Or.inl (nI_lt c2 (by omega))
      · refine Or.inr (nI_lt (Nat.lt_of_not_le fun z => h ⟨c, by omega, z⟩) (by omega))
    rw [fX7_areNumbers_L19, if_neg (nI_ge c (by omega)), if_neg (nI_in (by omega) (by omega)), nI_clamp (by omega), e, xbd_some rfl, if_pos rfl]
  · rw [fX7_areNumbers_L19, if_pos (nI_le (by omega) (by omega))]
theorem r19_dig (ht : TX t) (h : dgT t L i) (hL : L ≤ 300) (hk : k < 3) (ha : a ≤ i) (h2 : i - a < 2) (hw : w k = nI u) (hu : u < 1000) : fX7_areNumbers_L19 (nI L) (fun j => nI (t j)) (nI k) (nI a) K (G + 1) (nI i) w = fX7_areNumbers_L19 (nI L) (fun j => nI (t j)) (nI k) (nI a) K G (nI (i + 1)) (upd w k (nI (10 * u + (t i - 48)))) := by
  have hb := ht i
  have hi := h.1
  have h48 := h.2.1
  rw [fX7_areNumbers_L19, if_neg (nI_ge h.1 (by omega)), if_neg (nI_in (by omega) (by omega)), nI_clamp (by omega), in_dig ht h, xbd_some rfl, if_neg (by decide), x_subN ha (by omega), if_neg (show ¬ (2 : Int32) ≤ nI (i - a) from nI_ge (b := 2) h2 (by omega)), if_neg (nI_in (by omega) (by omega)), if_neg (nI_inc (by omega) (by omega)), if_neg (nI_in (by omega) (by omega)), nI_clamp (by omega), hw, show (10 : Int32) = nI 10 from rfl, show (48 : Int32) = nI 48 from rfl, x_mulN, nI_add, x_subN (by omega) (by omega), nI_1, show 10 * u + t i - 48 = 10 * u + (t i - 48) by omega]
theorem r19_big (ht : TX t) (h : dgT t L i) (hL : L ≤ 300) (hk : k < 3) (ha : a ≤ i) (h2 : 2 ≤ i - a) : fX7_areNumbers_L19 (nI L) (fun j => nI (t j)) (nI k) (nI a) K (G + 1) (nI i) w = fX7_areNumbers_L19 (nI L) (fun j => nI (t j)) (nI k) (nI a) K G (nI (i + 1)) (upd w k 1000) := by
  have hb := ht i
  have hi := h.1
  rw [fX7_areNumbers_L19, if_neg (nI_ge h.1 (by omega)), if_neg (nI_in (by omega) (by omega)), nI_clamp (by omega), in_dig ht h, xbd_some rfl, if_neg (by decide), x_subN ha (by omega), if_pos (show (2 : Int32) ≤ nI (i - a) from nI_le (a := 2) h2 (by omega)), if_neg (nI_in (by omega) (by omega)), nI_clamp (by omega), nI_1]
end ARE
theorem r19_far {t : Nat → Nat} {L k a : Nat} {K : Int32 → (Nat → Int32) → Option (Int32 × Int32 × (Nat → Int32))} (ht : TX t) (hL : L ≤ 300) (hk : k < 3) : ∀ (d i G : Nat) (w : Nat → Int32), i + d = L → d < G → a + 2 < i → ∃ e w', a + 2 < e ∧ e ≤ L ∧ fX7_areNumbers_L19 (nI L) (fun j => nI (t j)) (nI k) (nI a) K G (nI i) w = K (nI e) w' := by
  intro d
  induction d with
  | zero =>
    intro i G w h1 h2 h3
    obtain ⟨G, rfl⟩ : ∃ G', G = G' + 1 := ⟨G - 1, by omega⟩
    exact ⟨i, w, h3, by omega, r19_stop ht (fun z => by have := z.1; omega) hL (by omega)⟩
  | succ d ih =>
    intro i G w h1 h2 h3
    obtain ⟨G, rfl⟩ : ∃ G', G = G' + 1 := ⟨G - 1, by omega⟩
    by_cases c : dgT t L i
    · rw [r19_big ht c hL hk (by omega) (by omega)]
      exact ih (i + 1) G _ (by omega) (by omega) (by omega)
    · exact ⟨i, w, h3, by omega, r19_stop ht c hL (by omega)⟩
/-- the figures of one number -/
theorem r19_n {t : Nat → Nat} {L k i G : Nat} {w : Nat → Int32} {K : Int32 → (Nat → Int32) → Option (Int32 × Int32 × (Nat → Int32))} (ht : TX t) (hL : L ≤ 300) (hk : k < 3) (hi : i ≤ L) (hG : L < i + G) (hw : w k = nI 0) : (∃ e w', i ≤ e ∧ e ≤ L ∧ (∀ j, j ≠ k → w' j = w j) ∧ fX7_areNumbers_L19 (nI L) (fun j => nI (t j)) (nI k) (nI i) K G (nI i) w = K (nI e) w' ∧ ((e = i ∧ tokN t L i = none) ∨ (i + 2 < e ∧ tokN t L i = none) ∨ (i < e ∧ e ≤ i + 2 ∧ ∃ v, tokN t L i = some (v, e) ∧ w' k = nI v))) ∨ (∃ e w', i + 2 < e ∧ e ≤ L ∧ fX7_areNumbers_L19 (nI L) (fun j => nI (t j)) (nI k) (nI i) K G (nI i) w = K (nI e) w' ∧ tokN t L i = none) := by
  obtain ⟨G, rfl⟩ : ∃ G', G = G' + 1 := ⟨G - 1, by omega⟩
  have un : ∀ (w : Nat → Int32) (x : Int32) (j : Nat), j ≠ k → upd w k x j = w j := fun w x j hj => if_neg hj
  have us : ∀ (w : Nat → Int32) (x : Int32), upd w k x k = x := fun w x => if_pos rfl
  by_cases c0 : dgT t L i
  · have h0 := c0.1
    have hb0 := c0.2
    obtain ⟨G, rfl⟩ : ∃ G', G = G' + 1 := ⟨G - 1, by omega⟩
    have e0 := r19_dig (G := G + 1) (K := K) (a := i) ht c0 hL hk (Nat.le_refl _) (by omega) hw (by omega)
    by_cases c1 : dgT t L (i + 1)
    · have h1 := c1.1
      have hb1 := c1.2
      obtain ⟨G, rfl⟩ : ∃ G', G = G' + 1 := ⟨G - 1, by omega⟩
      have e1 := r19_dig (G := G + 1) (K := K) (a := i) (w := upd w k (nI (10 * 0 + (t i - 48)))) ht c1 hL hk (by omega) (by omega) (us _ _) (by omega)
      by_cases c2 : dgT t L (i + 2)
      · have h2 := c2.1
        have e2 := r19_big (G := G) (K := K) (a := i) (w := upd (upd w k (nI (10 * 0 + (t i - 48)))) k (nI (10 * (10 * 0 + (t i - 48)) + (t (i + 1) - 48)))) ht c2 hL hk (by omega) (by omega)
        obtain ⟨e, w', q1, q2, q3⟩ := r19_far (a := i) (K := K) ht hL hk (L - (i + 3)) (i + 3) G (upd (upd (upd w k (nI (10 * 0 + (t i - 48)))) k (nI (10 * (10 * 0 + (t i - 48)) + (t (i + 1) - 48)))) k 1000) (by omega) (by omega) (by omega)
        exact Or.inr ⟨e, w', q1, q2, e0.trans (e1.trans (e2.trans q3)), tok_3 c0 c1 c2⟩
      · refine Or.inl ⟨i + 2, _, by omega, by omega, fun j hj => ?_, e0.trans (e1.trans (r19_stop ht c2 hL (by omega))), Or.inr (Or.inr ⟨by omega, by omega, _, tok_2 c0 c1 c2, ?_⟩)⟩
        · rw [un _ _ j hj, un _ _ j hj]
        · rw [us]
          congr 1
          omega
    · refine Or.inl ⟨i + 1, _, by omega, by omega, fun j hj => un _ _ j hj, e0.trans (r19_stop ht c1 hL (by omega)), Or.inr (Or.inr ⟨by omega, by omega, _, tok_1 c0 c1, ?_⟩)⟩
      rw [us]
      congr 1
      omega
  · exact Or.inl ⟨i, w, Nat.le_refl _, hi, fun _ _ => rfl, r19_stop ht c0 hL hi, Or.inl ⟨rfl, tok_0 c0⟩⟩
abbrev arK : Int32 → Int32 → (Nat → Int32) → Option (Int32 × Int32 × (Nat → Int32)) := fun (v2_2 : Int32) (w2_moi_2 : Int32) (w2_mok_3 : Nat → Int32) => some ((1 : Int32), (w2_moi_2, w2_mok_3))
def ARd (t : Nat → Nat) (L r k i : Nat) (w : Nat → Int32) (R : Option (Int32 × Int32 × (Nat → Int32))) : Prop := (∃ vs nx w', spN t L r i = some (vs, nx) ∧ vs.length = r ∧ R = some (1, nI nx, w') ∧ (∀ j, j < r → w' (k + j) = nI (vs.getD j 0)) ∧ ∀ j, j < k → w' j = w j) ∨ ((∀ vs nx, spN t L r i = some (vs, nx) → vs.length ≠ r) ∧ ∃ p' w', R = some (0, p', w'))
theorem are_L {t : Nat → Nat} {L m : Nat} (ht : TX t) (hL : L ≤ 300) (hm : m ≤ 3) (F : Nat) (hF : 1000 < F) : ∀ (r k i G : Nat) (w : Nat → Int32), k + (r + 1) = m → i ≤ L → r + 1 < G → ARd t L (r + 1) k i w (fX7_areNumbers_L2 (nI L) (fun j => nI (t j)) (nI m) F arK G (nI k) (nI i) w) := by
  intro r
  induction r with
  | zero =>
    intro k i G w h1 h2 h3
    obtain ⟨G, rfl⟩ : ∃ G', G = G' + 1 := ⟨G - 1, by omega⟩
    obtain ⟨G, rfl⟩ : ∃ G', G = G' + 1 := ⟨G - 1, by omega⟩
    have hk : k < 3 := by omega
    have e0 := fX7_areNumbers_L2.eq_2 (nI L) (fun j => nI (t j)) (nI m) F arK (nI k) (nI i) w (G + 1)
    rw [if_neg (nI_ge (show k < m by omega) (by omega)), if_neg (nI_in (by omega) (by omega)), nI_clamp (by omega)] at e0
    have hlast : nI k = nI m - (1 : Int32) := by
      rw [show (1 : Int32) = nI 1 from rfl, x_subN (by omega) (by omega)]
      congr 1
      omega
    rw [e0]
    have bad : tokN t L i = none → ∀ vs nx, spN t L (0 + 1) i = some (vs, nx) → vs.length ≠ 0 + 1 := fun z vs nx z2 => by
      rw [spN_none z] at z2
      cases z2
    rcases r19_n (w := upd w k (nI 0)) (G := F) ht hL hk h2 (by omega) (if_pos rfl) with ⟨e, w', q1, q2, q3, q4, q5⟩ | ⟨e, w', q1, q2, q4, q5⟩
    · refine Eq.mpr (congrArg _ (show _ = _ from q4)) ?_
      rcases q5 with ⟨rfl, q6⟩ | ⟨q6, q7⟩ | ⟨q6, q7, v, q8, q9⟩
      · rw [if_pos rfl]
        exact Or.inr ⟨bad q6, _, _, rfl⟩
      · rw [if_neg (fun z => by have := (nI_eq (by omega) (by omega)).mp z; omega), x_subN (by omega) (by omega), if_pos (show (2 : Int32) < nI (e - i) from nI_lt (a := 2) (by omega) (by omega))]
        exact Or.inr ⟨bad q7, _, _, rfl⟩
      · rw [if_neg (fun z => by have := (nI_eq (by omega) (by omega)).mp z; omega), x_subN (by omega) (by omega), if_neg (show ¬ (2 : Int32) < nI (e - i) from nI_nlt (a := 2) (by omega) (by omega))]
        by_cases d1 : e = L
        · rw [if_pos (by rw [d1])]
          refine Or.inr ⟨fun vs nx z => ?_, _, _, rfl⟩
          rw [spN_tok q8, if_neg (by omega)] at z
          cases z
        · have hb := ht e
          rw [if_neg (fun z => d1 ((nI_eq (by omega) (by omega)).mp z)), if_neg (nI_in (by omega) (by omega)), nI_clamp (by omega), if_pos hlast]
          by_cases d2 : t e = 59
          · rw [if_pos (show nI (t e) = (59 : Int32) by rw [d2]; rfl), nI_1, nI_1]
            refine Or.inl ⟨[v], e + 1, w', ?_, rfl, ?_, fun j hj => ?_, fun j hj => ?_⟩
            · rw [spN_tok q8, if_pos (by omega), if_pos d2]
            · rw [fX7_areNumbers_L2, if_pos (nI_le (by omega) (by omega))]
            · have : j = 0 := by omega
              subst this
              exact q9
            · rw [q3 j (by omega)]
              exact if_neg (by omega)
          · rw [if_neg (show ¬ nI (t e) = (59 : Int32) from fun z => d2 ((nI_eq (b := 59) (by omega) (by omega)).mp z))]
            refine Or.inr ⟨fun vs nx z => ?_, _, _, rfl⟩
            rw [spN_tok q8, if_pos (by omega), if_neg d2] at z
            by_cases d3 : t e = 44
            · rw [if_pos d3] at z
              cases z
            · rw [if_neg d3] at z
              cases z
    · refine Eq.mpr (congrArg _ (show _ = _ from q4)) ?_
      rw [if_neg (fun z => by have := (nI_eq (by omega) (by omega)).mp z; omega), x_subN (by omega) (by omega), if_pos (show (2 : Int32) < nI (e - i) from nI_lt (a := 2) (by omega) (by omega))]
      exact Or.inr ⟨bad q5, _, _, rfl⟩
  | succ r ih =>
    intro k i G w h1 h2 h3
    obtain ⟨G, rfl⟩ : ∃ G', G = G' + 1 := ⟨G - 1, by omega⟩
    have hk : k < 3 := by omega
    have e0 := fX7_areNumbers_L2.eq_2 (nI L) (fun j => nI (t j)) (nI m) F arK (nI k) (nI i) w G
    rw [if_neg (nI_ge (show k < m by omega) (by omega)), if_neg (nI_in (by omega) (by omega)), nI_clamp (by omega)] at e0
    have hlast : ¬ nI k = nI m - (1 : Int32) := by
      rw [show (1 : Int32) = nI 1 from rfl, x_subN (by omega) (by omega)]
      exact fun z => by have := (nI_eq (by omega) (by omega)).mp z; omega
    rw [e0]
    have bad : tokN t L i = none → ∀ vs nx, spN t L (r + 1 + 1) i = some (vs, nx) → vs.length ≠ r + 1 + 1 := fun z vs nx z2 => by
      rw [spN_none z] at z2
      cases z2
    rcases r19_n (w := upd w k (nI 0)) (G := F) ht hL hk h2 (by omega) (if_pos rfl) with ⟨e, w', q1, q2, q3, q4, q5⟩ | ⟨e, w', q1, q2, q4, q5⟩
    · refine Eq.mpr (congrArg _ (show _ = _ from q4)) ?_
      rcases q5 with ⟨rfl, q6⟩ | ⟨q6, q7⟩ | ⟨q6, q7, v, q8, q9⟩
      · rw [if_pos rfl]
        exact Or.inr ⟨bad q6, _, _, rfl⟩
      · rw [if_neg (fun z => by have := (nI_eq (by omega) (by omega)).mp z; omega), x_subN (by omega) (by omega), if_pos (show (2 : Int32) < nI (e - i) from nI_lt (a := 2) (by omega) (by omega))]
        exact Or.inr ⟨bad q7, _, _, rfl⟩
      · rw [if_neg (fun z => by have := (nI_eq (by omega) (by omega)).mp z; omega), x_subN (by omega) (by omega), if_neg (show ¬ (2 : Int32) < nI (e - i) from nI_nlt (a := 2) (by omega) (by omega))]
        by_cases d1 : e = L
        · rw [if_pos (by rw [d1])]
          refine Or.inr ⟨fun vs nx z => ?_, _, _, rfl⟩
          rw [spN_tok q8, if_neg (by omega)] at z
          cases z
        · have hb := ht e
          rw [if_neg (fun z => d1 ((nI_eq (by omega) (by omega)).mp z)), if_neg (nI_in (by omega) (by omega)), nI_clamp (by omega), if_neg hlast]
          by_cases d2 : t e = 44
          · rw [if_pos (show nI (t e) = (44 : Int32) by rw [d2]; rfl), nI_1, nI_1]
            have es : spN t L (r + 1 + 1) i = xbd2 (spN t L (r + 1) (e + 1)) (fun vs nx => some (v :: vs, nx)) := by rw [spN_tok q8, if_pos (by omega), if_neg (by omega), if_pos d2]
            rcases ih (k + 1) (e + 1) G w' (by omega) (by omega) (by omega) with ⟨vs, nx, w2, g1, g2, g3, g4, g5⟩ | ⟨g1, p', w2, g2⟩
            · refine Or.inl ⟨v :: vs, nx, w2, ?_, ?_, g3, fun j hj => ?_, fun j hj => ?_⟩
              · rw [es, g1]
                rfl
              · rw [List.length_cons, g2]
              · cases j with
                | zero =>
                  rw [Nat.add_zero, g5 k (by omega)]
                  exact q9
                | succ j =>
                  have := g4 j (by omega)
                  rw [show k + (j + 1) = k + 1 + j by omega, this]
                  rfl
              · rw [g5 j (by omega), q3 j (by omega)]
                exact if_neg (by omega)
            · refine Or.inr ⟨fun vs nx z => ?_, p', w2, g2⟩
              rw [es] at z
              cases c9 : spN t L (r + 1) (e + 1) with
              | none =>
                rw [c9] at z
                cases z
              | some p =>
                obtain ⟨vs', nx'⟩ := p
                rw [c9, xbd2_some rfl] at z
                obtain ⟨z1, z2⟩ := Prod.mk.inj (Option.some.inj z)
                subst z1
                rw [List.length_cons]
                have := g1 vs' nx' c9
                omega
          · rw [if_neg (show ¬ nI (t e) = (44 : Int32) from fun z => d2 ((nI_eq (b := 44) (by omega) (by omega)).mp z))]
            refine Or.inr ⟨fun vs nx z => ?_, _, _, rfl⟩
            rw [spN_tok q8, if_pos (by omega)] at z
            by_cases d3 : t e = 59
            · rw [if_pos d3] at z
              obtain ⟨z1, z2⟩ := Prod.mk.inj (Option.some.inj z)
              subst z1
              rw [List.length_singleton]
              omega
            · rw [if_neg d3, if_neg d2] at z
              cases z
    · refine Eq.mpr (congrArg _ (show _ = _ from q4)) ?_
      rw [if_neg (fun z => by have := (nI_eq (by omega) (by omega)).mp z; omega), x_subN (by omega) (by omega), if_pos (show (2 : Int32) < nI (e - i) from nI_lt (a := 2) (by omega) (by omega))]
      exact Or.inr ⟨bad q5, _, _, rfl⟩
theorem spN_up {t : Nat → Nat} {L : Nat} : ∀ (m m' i : Nat) (vs : List Nat) (nx : Nat), m ≤ m' → spN t L m i = some (vs, nx) → spN t L m' i = some (vs, nx) := by
  intro m
  induction m with
  | zero =>
    intro m' i vs nx _ h
    cases h
  | succ m ih =>
    intro m' i vs nx hm h
    obtain ⟨m', rfl⟩ : ∃ k, m' = k + 1 := ⟨m' - 1, by omega⟩
    cases c : tokN t L i with
    | none =>
      rw [spN_none c] at h
      cases h
    | some p =>
      obtain ⟨v, e⟩ := p
      rw [spN_tok c] at h ⊢
      by_cases c1 : e < L
      · rw [if_pos c1] at h ⊢
        by_cases c2 : t e = 59
        · rw [if_pos c2] at h ⊢
          exact h
        · rw [if_neg c2] at h ⊢
          by_cases c3 : t e = 44
          · rw [if_pos c3] at h ⊢
            cases c4 : spN t L m (e + 1) with
            | none =>
              rw [c4] at h
              cases h
            | some p =>
              obtain ⟨vs', nx'⟩ := p
              rw [c4] at h
              rw [ih m' (e + 1) vs' nx' (by omega) c4]
              exact h
          · rw [if_neg c3] at h
            cases h
      · rw [if_neg c1] at h
        cases h
theorem spN_dn {t : Nat → Nat} {L : Nat} : ∀ (m m' i : Nat) (vs : List Nat) (nx : Nat), vs.length ≤ m → spN t L m' i = some (vs, nx) → 1 ≤ vs.length → spN t L m i = some (vs, nx) := by
  intro m
  induction m with
  | zero =>
    intro m' i vs nx h1 _ h2
    omega
  | succ m ih =>
    intro m' i vs nx hm h hp
    cases m' with
    | zero => cases h
    | succ m' =>
    cases c : tokN t L i with
    | none =>
      rw [spN_none c] at h
      cases h
    | some p =>
      obtain ⟨v, e⟩ := p
      rw [spN_tok c] at h ⊢
      by_cases c1 : e < L
      · rw [if_pos c1] at h ⊢
        by_cases c2 : t e = 59
        · rw [if_pos c2] at h ⊢
          exact h
        · rw [if_neg c2] at h ⊢
          by_cases c3 : t e = 44
          · rw [if_pos c3] at h ⊢
            cases c4 : spN t L m' (e + 1) with
            | none =>
              rw [c4] at h
              cases h
            | some p =>
              obtain ⟨vs', nx'⟩ := p
              rw [c4, xbd2_some rfl] at h
              obtain ⟨h1, h2⟩ := Prod.mk.inj (Option.some.inj h)
              subst h1 h2
              rw [List.length_cons] at hm
              have hp' : 1 ≤ vs'.length := by
                cases m' with
                | zero => cases c4
                | succ m' =>
                  cases vs' with
                  | nil =>
                    exfalso
                    cases c5 : tokN t L (e + 1) with
                    | none =>
                      rw [spN_none c5] at c4
                      cases c4
                    | some p =>
                      obtain ⟨v2, e2⟩ := p
                      rw [spN_tok c5] at c4
                      by_cases c6 : e2 < L
                      · rw [if_pos c6] at c4
                        by_cases c7 : t e2 = 59
                        · rw [if_pos c7] at c4
                          cases (Prod.mk.inj (Option.some.inj c4)).1
                        · rw [if_neg c7] at c4
                          by_cases c8 : t e2 = 44
                          · rw [if_pos c8] at c4
                            cases c9 : spN t L m' (e2 + 1) with
                            | none =>
                              rw [c9] at c4
                              cases c4
                            | some p =>
                              rw [c9] at c4
                              cases (Prod.mk.inj (Option.some.inj c4)).1
                          · rw [if_neg c8] at c4
                            cases c4
                      · rw [if_neg c6] at c4
                        cases c4
                  | cons a b => exact Nat.succ_le_succ (Nat.zero_le _)
              rw [ih m' (e + 1) vs' nx' (by omega) c4 hp']
              rfl
          · rw [if_neg c3] at h
            cases h
      · rw [if_neg c1] at h
        cases h
/-- the numbers of an item, asked for as m of them -/
theorem are_n {t : Nat → Nat} {L m i : Nat} (ht : TX t) (hL : L ≤ 300) (hm : m ≤ 3) (hm1 : 1 ≤ m) (hi : i ≤ L) (F : Nat) (hF : 1000 < F) (w : Nat → Int32) : (∃ vs nx w', spN t L 3 i = some (vs, nx) ∧ vs.length = m ∧ fX7_areNumbers F (nI L) (nI i) (fun j => nI (t j)) w (nI m) = some (1, nI nx, w') ∧ ∀ j, j < m → w' j = nI (vs.getD j 0)) ∨ ((∀ vs nx, spN t L 3 i = some (vs, nx) → vs.length ≠ m) ∧ ∃ p' w', fX7_areNumbers F (nI L) (nI i) (fun j => nI (t j)) w (nI m) = some (0, p', w')) := by
  obtain ⟨r, rfl⟩ : ∃ r, m = r + 1 := ⟨m - 1, by omega⟩
  have e := are_L ht hL hm F hF r 0 i F w (by omega) hi (by omega)
  rcases e with ⟨vs, nx, w', g1, g2, g3, g4, g5⟩ | ⟨g1, p', w', g2⟩
  · refine Or.inl ⟨vs, nx, w', spN_up (r + 1) 3 i vs nx hm g1, g2, g3, fun j hj => ?_⟩
    have := g4 j hj
    rw [Nat.zero_add] at this
    exact this
  · refine Or.inr ⟨fun vs nx z z2 => ?_, p', w', g2⟩
    exact g1 vs nx (spN_dn (r + 1) 3 i vs nx (by omega) z (by omega)) z2
