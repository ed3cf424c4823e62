/-! ===== worlds in any order; a call's world and the rest beside it ===== -/
/-- worlds one behind the other -/
def xfl : List va_W → va_W
  | [] => []
  | [a] => a
  | a :: b :: l => a ++ xfl (b :: l)
theorem xfl_flatten : ∀ l : List va_W, xfl l = l.flatten
  | [] => rfl
  | [a] => by
    show a = a ++ []
    rw [List.append_nil]
  | a :: b :: l => by
    show a ++ xfl (b :: l) = a ++ (b :: l).flatten
    rw [xfl_flatten (b :: l)]
theorem xpm (bs : List va_W) (is js : List Nat) (hp : (is ++ js).Perm (List.range bs.length)) {w wc wr : va_W} (hw : w = xfl bs) (hc : wc = xfl (is.map (fun i => bs.getD i []))) (hr : wr = xfl (js.map (fun i => bs.getD i []))) : w.Perm (wc ++ wr) := by
  subst hw hc hr
  rw [xfl_flatten, xfl_flatten, xfl_flatten, ← List.flatten_append, ← List.map_append]
  have e : bs = (List.range bs.length).map (fun i => bs.getD i []) := by
    apply List.ext_getElem
    · rw [List.length_map, List.length_range]
    · intro i h1 h2
      rw [List.getElem_map, List.getElem_range, List.getD_eq_getElem?_getD, List.getElem?_eq_getElem h1]
      rfl
  refine List.Perm.trans ?_ (List.Perm.flatten (List.Perm.map _ hp)).symm
  rw [← e]
theorem xP_mem {D : va_G} {cl : List vw_C} {w : va_W} {H : Heap} : va_P D cl w H ↔ ∀ q ∈ w, va_at D cl q H := by
  constructor
  · intro h q hq
    obtain ⟨k, hk⟩ := List.mem_iff_getElem?.mp hq
    exact h k q hk
  · intro h k q hk
    exact h q (List.mem_of_getElem? hk)
theorem xP_perm {D : va_G} {cl : List vw_C} {w w' : va_W} {H : Heap} (hp : w.Perm w') (h : va_P D cl w H) : va_P D cl w' H :=
  xP_mem.mpr fun q hq => xP_mem.mp h q (hp.mem_iff.mpr hq)
theorem xD_pw {A : Nat → Prop} {w : va_W} : va_D A w ↔ w.Pairwise (fun a b => a.1 ≠ b.1) ∧ ∀ q ∈ w, A q.1 := by
  constructor
  · intro h
    refine ⟨List.pairwise_iff_getElem.mpr fun i j hi hj hij z => ?_, fun q hq => ?_⟩
    · have := h.1 i j w[i] w[j] (List.getElem?_eq_getElem hi) (List.getElem?_eq_getElem hj) z
      omega
    · obtain ⟨k, hk⟩ := List.mem_iff_getElem?.mp hq
      exact h.2 k q hk
  · intro h
    refine ⟨fun i j p q hi hj hpq => ?_, fun k q hk => h.2 q (List.mem_of_getElem? hk)⟩
    have hp := List.pairwise_iff_getElem.mp h.1
    obtain ⟨hi1, hi2⟩ := List.getElem?_eq_some_iff.mp hi
    obtain ⟨hj1, hj2⟩ := List.getElem?_eq_some_iff.mp hj
    rcases Nat.lt_trichotomy i j with c | c | c
    · exact absurd (by rw [hi2, hj2]; exact hpq) (hp i j hi1 hj1 c)
    · exact c
    · exact absurd (by rw [hi2, hj2]; exact hpq.symm) (hp j i hj1 hi1 c)
theorem xD_perm {A : Nat → Prop} {w w' : va_W} (hp : w.Perm w') (h : va_D A w) : va_D A w' := by
  have q := xD_pw.mp h
  exact xD_pw.mpr ⟨(hp.pairwise_iff (fun h => fun z => h z.symm)).mp q.1, fun x hx => q.2 x (hp.mem_iff.mpr hx)⟩
theorem xP_left {D : va_G} {cl : List vw_C} {a b : va_W} {H : Heap} (h : va_P D cl (a ++ b) H) : va_P D cl a H := xP_mem.mpr fun q hq => xP_mem.mp h q (List.mem_append_left _ hq)
theorem xP_right {D : va_G} {cl : List vw_C} {a b : va_W} {H : Heap} (h : va_P D cl (a ++ b) H) : va_P D cl b H := xP_mem.mpr fun q hq => xP_mem.mp h q (List.mem_append_right _ hq)
theorem xD_left {A : Nat → Prop} {a b : va_W} (h : va_D A (a ++ b)) : va_D A a := by
  have q := xD_pw.mp h
  exact xD_pw.mpr ⟨(List.pairwise_append.mp q.1).1, fun x hx => q.2 x (List.mem_append_left _ hx)⟩
/-- a call over a part of the world, behind it: the part as the call leaves it, the rest as it was -/
theorem xPm_PD {A0 : Nat → Prop} {D : va_G} {cl : List vw_C} {w wc wr w1 w' : va_W} {H H1 : Heap} (hP : va_P D cl w H) (hD : va_D A0 w) (hp : w.Perm (wc ++ wr)) (hp' : (w1 ++ wr).Perm w')
    (hk : ∀ q : Nat, q < H.size → ¬ va_A wc H.size q → H1[q]? = H[q]?) (hF : ∀ q, va_A wc H.size q → A0 q) (hP1 : va_P D cl w1 H1) (hD1 : va_D (va_A wc H.size) w1) : va_P D cl w' H1 ∧ va_D A0 w' := by
  have hP2 := xP_perm hp hP
  have hD2 := xD_perm hp hD
  have hm := xP_mem.mp hP2
  have hd := xD_pw.mp hD2
  have hd1 := xD_pw.mp hD1
  have hpa := List.pairwise_append.mp hd.1
  have apart : ∀ q ∈ wr, q.1 < H.size ∧ ¬ va_A wc H.size q.1 := by
    intro q hq
    have hlt := (hm q (List.mem_append_right _ hq)).lt
    refine ⟨hlt, fun z => ?_⟩
    rcases z with ⟨k, e, z⟩ | z
    · exact hpa.2.2 (q.1, e) (List.mem_of_getElem? z) q hq rfl
    · omega
  refine ⟨xP_perm hp' (xP_mem.mpr fun q hq => ?_), xD_perm hp' (xD_pw.mpr ⟨List.pairwise_append.mpr ⟨hd1.1, hpa.2.1, fun a ha b hb z => ?_⟩, fun q hq => ?_⟩)⟩
  · rcases List.mem_append.mp hq with h | h
    · exact xP_mem.mp hP1 q h
    · exact (hm q (List.mem_append_right _ h)).kept (hk q.1 (apart q h).1 (apart q h).2)
  · exact (apart b hb).2 (by rw [← z]; exact hd1.2 a ha)
  · rcases List.mem_append.mp hq with h | h
    · exact hF _ (hd1.2 q h)
    · exact hd.2 q (List.mem_append_right _ h)
theorem xPm_free {A0 : Nat → Prop} {w wc wr : va_W} {H0 H : Heap} {locs : List Loc} (hD : va_D A0 w) (hS : va_S A0 H0 H locs) (hA : ∀ q, H0.size ≤ q → A0 q) (hp : w.Perm (wc ++ wr)) : ∀ q, va_A wc H.size q → A0 q := by
  intro q h
  rcases h with ⟨k, e, h⟩ | h
  · exact (xD_pw.mp hD).2 (q, e) (hp.mem_iff.mpr (List.mem_append_left _ (List.mem_of_getElem? h)))
  · exact hA q (Nat.le_trans hS.1 h)
section XPM
variable {p : Program} {l : Launch} {e : Env} {R : Room} {s : State} {m : MethodId} {args : Array Value} {below : List Frame} {meth : Method} {c : Code} {H : Heap} {locs : List Loc} {cells slots : Nat} {Q : State → Prop}
variable {pc : Nat} {ls : Array Slot} {rest st0 As : List Value} {a : Array Value} {A : Nat → Prop} {H0 : Heap} {mc ms b : Nat} {w wc wr : va_W} {D : va_G} {tys : List (ClassId × FieldType)} {C : String} {S : Type}
theorem xPSp (hN : xN s) (hK : va_K D vwCl tys s) (hP : va_P D vwCl w H) (hD : va_D A w) (hp : w.Perm (wc ++ wr)) : PreS s H (xPre D tys As wc H.size) As :=
  xPSW hN hK (xP_left (xP_perm hp hP)) (xD_left (xD_perm hp hD))
theorem xPVp {T : u_T} {N ci : Nat} {fs : List Value} (hN : xN s) (hK : va_K D vwCl tys s) (hP : va_P D vwCl w H) (hD : va_D A w) (hp : w.Perm (wc ++ wr)) (hc : vwCl[ci]? = some (C, T, N)) (he : (b, .inr (ci, fs)) ∈ w) : PreV s H C b (xPre D tys (.ref b :: As) wc H.size) As := by
  obtain ⟨j, hj⟩ := List.mem_iff_getElem?.mp he
  exact ⟨(xPSp hN hK hP hD hp).1, va_recv hK hP (ci := ci) (q0 := j) hc hj, (xPSp hN hK hP hD hp).2⟩
theorem xciP {post : Int32 → S → Prop} {w1 w' : S → va_W} (hr : va_Run p l e R s m args below meth c H locs cells slots mc ms (F0 m pc ls st0) rest (va_Qi post (xB D tys (va_A wc H.size) w1) (va_A wc H.size) a) (va_A wc H.size)) (hP : va_P D vwCl w H) (hD : va_D A w) (hS : va_S A H0 H locs) (hA : ∀ q, H0.size ≤ q → A q) (hp : w.Perm (wc ++ wr)) (hp' : ∀ u, (w1 u ++ wr).Perm (w' u))
    (kk : ∀ (r : Int32) (u : S) (H1 : Heap) (locs1 : List Loc), post r u → va_P D vwCl (w' u) H1 → va_D A (w' u) → va_S A H0 H1 locs1 → W p l e R s m args below meth c H1 locs1 (cells + mc) (slots + ms) Q (F0 m (pc + 3) ls (.int r :: rest))) : W p l e R s m args below meth c H locs cells slots Q (F0 m pc ls st0) := by
  have hF := xPm_free hD hS hA hp
  refine va_calli hr hS (fun q _ h => hF q h) hF (fun r u t H1 locs1 ht hvm hw hB hz1 hk1 hS1 => ?_)
  obtain ⟨hP1, hK1, hD1⟩ := hB
  rw [ht] at hP1
  obtain ⟨h1, h2⟩ := xPm_PD hP hD hp (hp' u) hk1 hF hP1 hD1
  exact kk r u H1 locs1 hw h1 h2 hS1
theorem xclP {post : Int64 → S → Prop} {w1 w' : S → va_W} (hr : va_Run p l e R s m args below meth c H locs cells slots mc ms (F0 m pc ls st0) rest (va_Ql post (xB D tys (va_A wc H.size) w1) (va_A wc H.size) a) (va_A wc H.size)) (hP : va_P D vwCl w H) (hD : va_D A w) (hS : va_S A H0 H locs) (hA : ∀ q, H0.size ≤ q → A q) (hp : w.Perm (wc ++ wr)) (hp' : ∀ u, (w1 u ++ wr).Perm (w' u))
    (kk : ∀ (r : Int64) (u : S) (H1 : Heap) (locs1 : List Loc), post r u → va_P D vwCl (w' u) H1 → va_D A (w' u) → va_S A H0 H1 locs1 → W p l e R s m args below meth c H1 locs1 (cells + mc) (slots + ms) Q (F0 m (pc + 3) ls (.long r :: rest))) : W p l e R s m args below meth c H locs cells slots Q (F0 m pc ls st0) := by
  have hF := xPm_free hD hS hA hp
  refine va_calll hr hS (fun q _ h => hF q h) hF (fun r u t H1 locs1 ht hvm hw hB hz1 hk1 hS1 => ?_)
  obtain ⟨hP1, hK1, hD1⟩ := hB
  rw [ht] at hP1
  obtain ⟨h1, h2⟩ := xPm_PD hP hD hp (hp' u) hk1 hF hP1 hD1
  exact kk r u H1 locs1 hw h1 h2 hS1
theorem xcvP {post : S → Prop} {w1 w' : S → va_W} (hr : va_Run p l e R s m args below meth c H locs cells slots mc ms (F0 m pc ls st0) rest (va_Qv post (xB D tys (va_A wc H.size) w1) (va_A wc H.size) a) (va_A wc H.size)) (hP : va_P D vwCl w H) (hD : va_D A w) (hS : va_S A H0 H locs) (hA : ∀ q, H0.size ≤ q → A q) (hp : w.Perm (wc ++ wr)) (hp' : ∀ u, (w1 u ++ wr).Perm (w' u))
    (kk : ∀ (u : S) (H1 : Heap) (locs1 : List Loc), post u → va_P D vwCl (w' u) H1 → va_D A (w' u) → va_S A H0 H1 locs1 → W p l e R s m args below meth c H1 locs1 (cells + mc) (slots + ms) Q (F0 m (pc + 3) ls rest)) : W p l e R s m args below meth c H locs cells slots Q (F0 m pc ls st0) := by
  have hF := xPm_free hD hS hA hp
  refine va_callv hr hS (fun q _ h => hF q h) hF (fun u t H1 locs1 ht hvm hw hB hz1 hk1 hS1 => ?_)
  obtain ⟨hP1, hK1, hD1⟩ := hB
  rw [ht] at hP1
  obtain ⟨h1, h2⟩ := xPm_PD hP hD hp (hp' u) hk1 hF hP1 hD1
  exact kk u H1 locs1 hw h1 h2 hS1
end XPM
