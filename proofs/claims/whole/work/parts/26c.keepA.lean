/-! ===== KEEP: ways as numbers of M figures ===== -/
theorem nI_dec (c : Nat) : nI (c + 1) + (-1) = nI c := by
  rw [nI_succ, Int32.add_assoc, show (1 : Int32) + -1 = 0 from by decide, Int32.add_zero]
theorem x_divN {a b : Nat} (hb : 0 < b) (ha : a < 2 ^ 31) (hb' : b < 2 ^ 31) : nI a / nI b = nI (a / b) := by
  apply Int32.toInt_inj.mp
  have h2 : a / b ≤ a := Nat.div_le_self _ _
  rw [x_div (by rw [nI_toInt hb']; omega), nI_toInt ha, nI_toInt hb', nI_toInt (by omega)]
  rfl
def bnN (M st set p : Nat) : Nat → Nat
  | 0 => 0
  | i + 1 => if btl set ((p + i * st) % M) = 1 then i + 1 else bnN M st set p i
theorem bnN_lt (M st set p : Nat) : ∀ i, bnN M st set p i ≤ i
  | 0 => Nat.le_refl _
  | i + 1 => by
    unfold bnN
    have := bnN_lt M st set p i
    split <;> omega
theorem bnN_le (M st set p k : Nat) : ∀ i, bnN M st set p i ≤ k ↔ ∀ j, j < i → btl set ((p + j * st) % M) = 1 → j < k
  | 0 => ⟨fun _ j hj => absurd hj (Nat.not_lt_zero _), fun _ => Nat.zero_le _⟩
  | i + 1 => by
    have ih := bnN_le M st set p k i
    unfold bnN
    by_cases c : btl set ((p + i * st) % M) = 1
    · rw [if_pos c]
      exact ⟨fun h j hj _ => by omega, fun h => h i (by omega) c⟩
    · rw [if_neg c, ih]
      refine ⟨fun h j hj hb => ?_, fun h j hj hb => h j (by omega) hb⟩
      by_cases e : j = i
      · exact absurd (by rw [← e]; exact hb) c
      · exact h j (by omega) hb
def LFd (oi lt D : Nat → Nat) (l p : Nat) : Nat := if lt l = 1 then min (oi l) (D p) else 0
def okP (M st set n : Nat) (oi lt D : Nat → Nat) (p l : Nat) : Prop := bnN M st set p (n + 1) ≤ LFd oi lt D l p
/-- the figures r, d of them, put the men from M - d on; u (bits) are put already -/
def VV (M : Nat) (ok : Nat → Nat → Prop) : Nat → Nat → Nat → Prop
  | 0, _, _ => True
  | d + 1, u, r => btl u (r / M ^ d) = 0 ∧ ok (M - (d + 1)) (r / M ^ d) ∧ VV M ok d (u + 2 ^ (r / M ^ d)) (r % M ^ d)
def finP (M : Nat) (ok : Nat → Nat → Prop) (d u : Nat) : Prop := ∃ r, r < M ^ d ∧ VV M ok d u r
theorem pw_pos {M d : Nat} (h : 2 ≤ M) : 0 < M ^ d := Nat.pow_pos (by omega)
theorem fg_div {M d l r : Nat} (h : 2 ≤ M) (hr : r < M ^ d) : (l * M ^ d + r) / M ^ d = l := by
  rw [Nat.add_comm, Nat.add_mul_div_right _ _ (pw_pos h), Nat.div_eq_of_lt hr, Nat.zero_add]
theorem fg_mod {M d l r : Nat} (hr : r < M ^ d) : (l * M ^ d + r) % M ^ d = r := by
  rw [Nat.add_comm, Nat.add_mul_mod_self_right, Nat.mod_eq_of_lt hr]
theorem VV_mk {M d u l r : Nat} {ok : Nat → Nat → Prop} (h : 2 ≤ M) (hr : r < M ^ d) (h1 : btl u l = 0) (h2 : ok (M - (d + 1)) l) (h3 : VV M ok d (u + 2 ^ l) r) : VV M ok (d + 1) u (l * M ^ d + r) := by
  unfold VV
  rw [fg_div h hr, fg_mod hr]
  exact ⟨h1, h2, h3⟩
theorem finP_succ {M d u : Nat} {ok : Nat → Nat → Prop} (h : 2 ≤ M) : finP M ok (d + 1) u ↔ ∃ l, l < M ∧ btl u l = 0 ∧ ok (M - (d + 1)) l ∧ finP M ok d (u + 2 ^ l) := by
  constructor
  · rintro ⟨r, h1, h2, h3, h4⟩
    exact ⟨r / M ^ d, Nat.div_lt_of_lt_mul (by rw [← Nat.pow_succ]; exact h1), h2, h3, r % M ^ d, Nat.mod_lt _ (pw_pos h), h4⟩
  · rintro ⟨l, h1, h2, h3, r, h4, h5⟩
    refine ⟨l * M ^ d + r, ?_, VV_mk h h4 h2 h3 h5⟩
    have := Nat.mul_le_mul_right (M ^ d) (show l + 1 ≤ M by omega)
    rw [Nat.add_mul, Nat.one_mul] at this
    rw [Nat.pow_succ, Nat.mul_comm (M ^ d) M]
    omega
def minP (M : Nat) (ok : Nat → Nat → Prop) (d u r : Nat) : Prop := r < M ^ d ∧ VV M ok d u r ∧ ∀ r', r' < r → ¬ VV M ok d u r'
theorem minP_succ {M d u r : Nat} {ok : Nat → Nat → Prop} (h : 2 ≤ M) (hm : minP M ok (d + 1) u r) : r / M ^ d < M ∧ btl u (r / M ^ d) = 0 ∧ ok (M - (d + 1)) (r / M ^ d) ∧ finP M ok d (u + 2 ^ (r / M ^ d)) ∧ (∀ l', l' < r / M ^ d → btl u l' = 0 → ok (M - (d + 1)) l' → ¬ finP M ok d (u + 2 ^ l')) ∧ minP M ok d (u + 2 ^ (r / M ^ d)) (r % M ^ d) := by
  obtain ⟨h1, ⟨h2, h3, h4⟩, h5⟩ := hm
  have hp := Nat.mod_lt r (pw_pos (M := M) (d := d) h)
  have e0 := Nat.div_add_mod r (M ^ d)
  have e1 : M ^ d * (r / M ^ d) = r / M ^ d * M ^ d := Nat.mul_comm _ _
  refine ⟨Nat.div_lt_of_lt_mul (by rw [← Nat.pow_succ]; exact h1), h2, h3, ⟨_, hp, h4⟩, ?_, hp, h4, ?_⟩
  · rintro l' hl q1 q2 ⟨r', q3, q4⟩
    refine h5 (l' * M ^ d + r') ?_ (VV_mk h q3 q1 q2 q4)
    have := Nat.mul_le_mul_right (M ^ d) (show l' + 1 ≤ r / M ^ d from hl)
    rw [Nat.add_mul, Nat.one_mul] at this
    have e2 : r / M ^ d * M ^ d ≤ r := Nat.div_mul_le_self _ _
    clear e0 e1 hp
    omega
  · intro r' hr q
    exact h5 (r / M ^ d * M ^ d + r') (by omega) (VV_mk h (by omega) h2 h3 q)
def dgN (M c p : Nat) : Nat := c / M ^ (M - 1 - p) % M
theorem dgN_lt {M c p : Nat} (h : 2 ≤ M) : dgN M c p < M := Nat.mod_lt _ (by omega)
theorem xb_room : ∀ M, M < 7 → ∀ u, u < 2 ^ M → ∀ l, l < M → u / 2 ^ l % 2 = 0 → u + 2 ^ l < 2 ^ M := by decide +kernel
theorem xb_add : ∀ u, u < 64 → ∀ l, l < 6 → u / 2 ^ l % 2 = 0 → ∀ k, k < 6 → (u + 2 ^ l) / 2 ^ k % 2 = if k = l then 1 else u / 2 ^ k % 2 := by decide +kernel
theorem two_le64 {M : Nat} (h' : M ≤ 6) : 2 ^ M ≤ 64 := Nat.pow_le_pow_right (by omega) h'
theorem VV_digits {M c : Nat} {ok : Nat → Nat → Prop} (h : 2 ≤ M) (h' : M ≤ 6) : ∀ d, d ≤ M → ∀ u, u < 2 ^ M → (VV M ok d u (c % M ^ d) ↔ (∀ p, M - d ≤ p → p < M → btl u (dgN M c p) = 0 ∧ ok p (dgN M c p)) ∧ (∀ q p, M - d ≤ q → q < p → p < M → dgN M c q ≠ dgN M c p)) := by
  intro d
  induction d with
  | zero =>
    intro hd u hu
    exact ⟨fun _ => ⟨fun p h1 h2 => by omega, fun q p h1 h2 h3 => by omega⟩, fun _ => trivial⟩
  | succ d ih =>
    intro hd u hu
    have h64 := two_le64 h'
    have eP : c % M ^ (d + 1) / M ^ d = dgN M c (M - (d + 1)) := by
      unfold dgN
      rw [Nat.pow_succ, Nat.mod_mul_right_div_self, show M - 1 - (M - (d + 1)) = d by omega]
    have eR : c % M ^ (d + 1) % M ^ d = c % M ^ d := Nat.mod_mod_of_dvd _ (Nat.pow_dvd_pow M (Nat.le_succ d))
    have hl := dgN_lt (M := M) (c := c) (p := M - (d + 1)) h
    show (btl u (c % M ^ (d + 1) / M ^ d) = 0 ∧ ok (M - (d + 1)) (c % M ^ (d + 1) / M ^ d) ∧ VV M ok d (u + 2 ^ (c % M ^ (d + 1) / M ^ d)) (c % M ^ (d + 1) % M ^ d)) ↔ _
    rw [eP, eR]
    constructor
    · rintro ⟨h1, h2, h3⟩
      obtain ⟨g1, g2⟩ := (ih (by omega) _ (xb_room M (by omega) u hu _ hl h1)).mp h3
      have key : ∀ p, M - d ≤ p → p < M → dgN M c p ≠ dgN M c (M - (d + 1)) ∧ btl u (dgN M c p) = 0 := by
        intro p q1 q2
        have q3 := (g1 p q1 q2).1
        have hlp := dgN_lt (M := M) (c := c) (p := p) h
        unfold btl at q3
        rw [xb_add u (by omega) _ (by omega) h1 _ (by omega)] at q3
        by_cases e : dgN M c p = dgN M c (M - (d + 1))
        · rw [if_pos e] at q3
          omega
        · rw [if_neg e] at q3
          exact ⟨e, q3⟩
      refine ⟨fun p q1 q2 => ?_, fun q p q1 q2 q3 => ?_⟩
      · by_cases e : p = M - (d + 1)
        · subst e
          exact ⟨h1, h2⟩
        · exact ⟨(key p (by omega) q2).2, (g1 p (by omega) q2).2⟩
      · by_cases e : q = M - (d + 1)
        · subst e
          exact (key p (by omega) q3).1.symm
        · exact g2 q p (by omega) q2 q3
    · rintro ⟨g1, g2⟩
      have h1 := g1 (M - (d + 1)) (by omega) (by omega)
      refine ⟨h1.1, h1.2, (ih (by omega) _ (xb_room M (by omega) u hu _ hl h1.1)).mpr ⟨fun p q1 q2 => ?_, fun q p q1 q2 q3 => g2 q p (by omega) q2 q3⟩⟩
      have hlp := dgN_lt (M := M) (c := c) (p := p) h
      have q3 := g1 p (by omega) q2
      refine ⟨?_, q3.2⟩
      unfold btl
      rw [xb_add u (by omega) _ (by omega) h1.1 _ (by omega), if_neg (fun z => g2 (M - (d + 1)) p (by omega) (by omega) q2 z.symm)]
      exact q3.1
theorem VV_all {M c : Nat} {ok : Nat → Nat → Prop} (h : 2 ≤ M) (h' : M ≤ 6) (hc : c < M ^ M) : VV M ok M 0 c ↔ (∀ p, p < M → ok p (dgN M c p)) ∧ (∀ q p, q < p → p < M → dgN M c q ≠ dgN M c p) := by
  have e := VV_digits (c := c) (ok := ok) h h' M (Nat.le_refl _) 0 (Nat.pow_pos (by omega))
  rw [Nat.mod_eq_of_lt hc, Nat.sub_self] at e
  rw [e]
  have z : ∀ k, btl 0 k = 0 := fun k => by unfold btl; rw [Nat.zero_div]
  exact ⟨fun g => ⟨fun p hp => (g.1 p (Nat.zero_le _) hp).2, fun q p h1 h2 => g.2 q p (Nat.zero_le _) h1 h2⟩, fun g => ⟨fun p _ hp => ⟨z _, g.1 p hp⟩, fun q p _ h1 h2 => g.2 q p h1 h2⟩⟩
theorem sur_iff_inj {M : Nat} {f : Nat → Nat} (hf : ∀ p, p < M → f p < M) : (∀ l, l < M → ∃ p, p < M ∧ f p = l) ↔ (∀ q p, q < p → p < M → f q ≠ f p) := by
  constructor
  · intro hs q p h1 h2 he
    have hsub : List.range M ⊆ ((List.range M).erase p).map f := by
      intro l hl
      obtain ⟨x, hx, rfl⟩ := hs l (List.mem_range.mp hl)
      by_cases e : x = p
      · subst e
        exact List.mem_map.mpr ⟨q, (List.mem_erase_of_ne (by omega)).mpr (List.mem_range.mpr (by omega)), he⟩
      · exact List.mem_map.mpr ⟨x, (List.mem_erase_of_ne e).mpr (List.mem_range.mpr hx), rfl⟩
    have hle := List.Nodup.length_le_of_subset List.nodup_range hsub
    rw [List.length_map, List.length_erase_of_mem (List.mem_range.mpr h2), List.length_range] at hle
    omega
  · intro hi l hl
    refine Classical.byContradiction fun hn => ?_
    have hnd : (l :: (List.range M).map f).Nodup := by
      rw [List.nodup_cons]
      refine ⟨fun hm => ?_, ?_⟩
      · obtain ⟨x, hx, e⟩ := List.mem_map.mp hm
        exact hn ⟨x, List.mem_range.mp hx, e⟩
      · refine List.pairwise_map.mpr (List.Pairwise.imp_of_mem ?_ List.pairwise_lt_range)
        intro a b ha hb hab
        exact hi a b hab (List.mem_range.mp hb)
    have hsub : (l :: (List.range M).map f) ⊆ List.range M := by
      intro y hy
      rcases List.mem_cons.mp hy with rfl | hy
      · exact List.mem_range.mpr hl
      · obtain ⟨x, hx, rfl⟩ := List.mem_map.mp hy
        exact List.mem_range.mpr (hf x (List.mem_range.mp hx))
    have hle := List.Nodup.length_le_of_subset hnd hsub
    rw [List.length_cons, List.length_map, List.length_range] at hle
    omega
/-- figures that are no two alike are a way: where each lantern is -/
theorem PM_of {M : Nat} {f : Nat → Nat} (hf : ∀ p, p < M → f p < M) (hi : ∀ q p, q < p → p < M → f q ≠ f p) : ∃ po, PM M po f := by
  have hs := (sur_iff_inj hf).mpr hi
  have hx : ∃ po : Nat → Nat, ∀ l, l < M → po l < M ∧ f (po l) = l := by
    refine ⟨fun l => if h : l < M then Classical.choose (hs l h) else 0, fun l hl => ?_⟩
    show (if h : l < M then Classical.choose (hs l h) else 0) < M ∧ f (if h : l < M then Classical.choose (hs l h) else 0) = l
    rw [dif_pos hl]
    exact Classical.choose_spec (hs l hl)
  obtain ⟨po, hpo⟩ := hx
  refine ⟨po, hpo, fun p hp => ⟨hf p hp, ?_⟩⟩
  have q := hpo (f p) (hf p hp)
  refine Classical.byContradiction fun hne => ?_
  rcases Nat.lt_or_gt_of_ne hne with c | c
  · exact hi _ _ c hp q.2
  · exact hi _ _ c q.1 q.2.symm
/-- none of a set of posts is dark behind 0, 1, .. n bells -/
theorem lit_iff {M st set n : Nat} {po pl oi lt D : Nat → Nat} (h : 2 ≤ M) (h' : M ≤ 6) (hpm : PM M po pl) : (∀ j, j ≤ n → ∀ q, q < M → btl set q = 1 → ltN po oi lt D j (plN M st pl j q) = 1) ↔ ∀ p, p < M → okP M st set n oi lt D p (pl p) := by
  have e1 : ∀ j p, p < M → (ltN po oi lt D j (pl p) = 1 ↔ j < LFd oi lt D (pl p) p) := by
    intro j p hp
    have q := (hpm.2 p hp).2
    unfold ltN litF LFd
    rw [q]
    by_cases c : j < (if lt (pl p) = 1 then min (oi (pl p)) (D p) else 0)
    · rw [if_pos c]
      exact ⟨fun _ => c, fun _ => rfl⟩
    · rw [if_neg c]
      exact ⟨fun z => by omega, fun z => absurd z c⟩
  constructor
  · intro H p hp
    unfold okP
    rw [bnN_le]
    intro j hj hb
    have q := H j (by omega) _ (Nat.mod_lt (p + j * st) (by omega)) hb
    unfold plN at q
    rw [fw_bk h h' hp] at q
    exact (e1 j p hp).mp q
  · intro H j hj q hq hb
    have hp := bk_lt (M := M) (p := q) (k := j * st) h
    have k := H _ hp
    unfold okP at k
    rw [bnN_le] at k
    have k2 := k j (by omega) (by rw [bk_fw h h' hq]; exact hb)
    exact (e1 j _ hp).mpr k2
