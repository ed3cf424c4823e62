/-! ===== the words that every contract of this claim is told in ===== -/
/-! ===== the links among the nest's mates: they hold at every state of a run ===== -/
def xNest : List Cond := [.methodLinkNest RX6 20 yX2_init "BlindLanterns", .methodLinkNest RX6 27 yX0_init "BlindLanterns", .fieldLinkNest RX6 175 "BlindLanterns$Felt" "count" "I" "BlindLanterns", .methodLinkNest RX4 15 yX1_init "BlindLanterns", .fieldLinkNest RX6 106 "BlindLanterns$Pass" "postOf" "LBlindLanterns$Row;" "BlindLanterns", .fieldLinkNest RX6 113 "BlindLanterns$Pass" "oilOf" "LBlindLanterns$Row;" "BlindLanterns", .fieldLinkNest RX6 136 "BlindLanterns$Pass" "lit" "I" "BlindLanterns", .fieldLinkNest RX6 143 "BlindLanterns$Pass" "bell" "I" "BlindLanterns", .fieldLinkNest RX6 158 "BlindLanterns$Shelf" "count" "I" "BlindLanterns", .methodLinkNest RX6 44 yX1_init "BlindLanterns", .methodLinkNest RX6 60 yX5_init "BlindLanterns", .fieldLinkNest RX0 44 "BlindLanterns$Told" "kinds" "LBlindLanterns$Row;" "BlindLanterns", .fieldLinkNest RX6 122 "BlindLanterns$Told" "kinds" "LBlindLanterns$Row;" "BlindLanterns", .fieldLinkNest RX1 34 "BlindLanterns$Told" "oilAtFirst" "LBlindLanterns$Row;" "BlindLanterns", .fieldLinkNest RX1 23 "BlindLanterns$Told" "men" "I" "BlindLanterns", .fieldLinkNest RX6 100 "BlindLanterns$Told" "men" "I" "BlindLanterns", .fieldLinkNest RX1 41 "BlindLanterns$Told" "lit" "I" "BlindLanterns", .fieldLinkNest RX6 186 "BlindLanterns$Told" "lit" "I" "BlindLanterns", .fieldLinkNest RX1 70 "BlindLanterns$Told" "step" "I" "BlindLanterns"]
def xIsNest : Cond → Bool
  | .fieldLinkNest .. => true
  | .methodLinkNest .. => true
  | _ => false
theorem xNest_is : ∀ w ∈ xNest, xIsNest w = true := List.all_eq_true.mp rfl
def xN (U : State) : Prop := (∀ w ∈ xNest, va_Nw w U) ∧ va_AO "BlindLanterns$Pass" U
theorem xN.warm {s U : State} (hW : s.WarmedH U.vm) (h : xN s) : xN U := by
  refine ⟨?_, va_AO.moved hW.alike h.2⟩
  intro w hw
  have h1 := xNest_is w hw
  have h2 := h.1 w hw
  cases w <;> first | (exact va_Nw.warmF hW h2) | (exact va_Nw.warmM hW h2) | (simp [xIsNest] at h1)
theorem xN.same {u U : State} (hv : u.vm = U.vm) (h : xN u) : xN U := by
  refine ⟨?_, va_AO.moved (by rw [hv]; exact Vm.Alike.refl _) h.2⟩
  intro w hw
  have h1 := xNest_is w hw
  have h2 := h.1 w hw
  cases w <;> first | (exact va_Nw.same rfl hv h2) | (simp [xIsNest] at h1)
/-- a method's start: its arguments, its world -/
def xPre (D : va_G) (tys : List (ClassId × FieldType)) (av : List Value) (w : va_W) (sz : Nat) : Array Value → State → Prop := va_Pc av (fun U => U.heap.size = sz ∧ va_P D vwCl w U.heap ∧ va_K D vwCl tys U ∧ va_D (fun _ => True) w ∧ xN U)
/-- the world behind it -/
def xB {S : Type} (D : va_G) (tys : List (ClassId × FieldType)) (A : Nat → Prop) (w : S → va_W) (u : S) (t : State) : Prop := va_P D vwCl (w u) t.heap ∧ va_K D vwCl tys t ∧ va_D A (w u)
/-- contracts of methods that answer an int, a long, nothing -/
def xMi {S : Type} (l : Launch) (y : MethodName) (ws : List Cond) (rm : Room) (D : va_G) (tys : List (ClassId × FieldType)) (av : List Value) (w0 : va_W) (sz : Nat) (post : Int32 → S → Prop) (w : S → va_W) (mc ms : Nat) : Prop := Met l y ws rm (xPre D tys av w0 sz) (va_Qi post (xB D tys (va_A w0 sz) w) (va_A w0 sz)) mc ms (va_A w0 sz)
def xMl {S : Type} (l : Launch) (y : MethodName) (ws : List Cond) (rm : Room) (D : va_G) (tys : List (ClassId × FieldType)) (av : List Value) (w0 : va_W) (sz : Nat) (post : Int64 → S → Prop) (w : S → va_W) (mc ms : Nat) : Prop := Met l y ws rm (xPre D tys av w0 sz) (va_Ql post (xB D tys (va_A w0 sz) w) (va_A w0 sz)) mc ms (va_A w0 sz)
def xMv {S : Type} (l : Launch) (y : MethodName) (ws : List Cond) (rm : Room) (D : va_G) (tys : List (ClassId × FieldType)) (av : List Value) (w0 : va_W) (sz : Nat) (post : S → Prop) (w : S → va_W) (mc ms : Nat) : Prop := Met l y ws rm (xPre D tys av w0 sz) (va_Qv post (xB D tys (va_A w0 sz) w) (va_A w0 sz)) mc ms (va_A w0 sz)
/-- what comes next of a sum that may be none -/
def xbd {α β : Type} (o : Option α) (k : α → Option β) : Option β := match o with
  | none => none
  | some a => k a
def xbd2 {α γ β : Type} (o : Option (α × γ)) (k : α → γ → Option β) : Option β := match o with
  | none => none
  | some p => k p.1 p.2
theorem xbd_some {α β : Type} {o : Option α} {k : α → Option β} {a : α} (h : o = some a) : xbd o k = k a := by rw [h]; rfl
theorem xbd_none {α β : Type} {o : Option α} {k : α → Option β} (h : o = none) : xbd o k = none := by rw [h]; rfl
theorem xbd2_some {α γ β : Type} {o : Option (α × γ)} {k : α → γ → Option β} {a : α} {u : γ} (h : o = some (a, u)) : xbd2 o k = k a u := by rw [h]; rfl
theorem xbd2_none {α γ β : Type} {o : Option (α × γ)} {k : α → γ → Option β} (h : o = none) : xbd2 o k = none := by rw [h]; rfl
/-- a world with some of its cells put anew, by their places -/
def xset : va_W → List Nat → va_W → va_W
  | w, i :: is, e :: es => xset (w.set i e) is es
  | w, [], _ => w
  | w, _ :: _, [] => w
theorem xset_at : ∀ (is : List Nat) (es w : va_W), es.length = is.length → ∀ (k : Nat) (e : Nat × va_E), (xset w is es)[k]? = some e → (k ∉ is ∧ w[k]? = some e) ∨ ∃ j : Nat, is[j]? = some k ∧ es[j]? = some e
  | [], es, w, _, k, e, h => by
    cases es <;> exact Or.inl ⟨List.not_mem_nil, h⟩
  | i :: is, [], w, hl, k, e, h => by simp at hl
  | i :: is, e0 :: es, w, hl, k, e, h => by
    have h' : (xset (w.set i e0) is es)[k]? = some e := h
    rcases xset_at is es (w.set i e0) (by simpa using hl) k e h' with ⟨h1, h2⟩ | ⟨j, h1, h2⟩
    · by_cases hk : i = k
      · subst hk
        have hlt : i < (w.set i e0).length := (List.getElem?_eq_some_iff.mp h2).1
        rw [List.length_set] at hlt
        rw [List.getElem?_set_self hlt] at h2
        exact Or.inr ⟨0, rfl, h2⟩
      · rw [List.getElem?_set_ne hk] at h2
        refine Or.inl ⟨fun z => ?_, h2⟩
        rcases List.mem_cons.mp z with z | z
        · exact hk z.symm
        · exact h1 z
    · exact Or.inr ⟨j + 1, h1, h2⟩
theorem xsub_at {is : List Nat} {ws w : va_W} (hs : is.map (fun i => ws[i]?) = w.map some) (k : Nat) (q : Nat × va_E) (hq : w[k]? = some q) : ∃ i : Nat, is[k]? = some i ∧ ws[i]? = some q := by
  have h1 : (is.map (fun i => ws[i]?))[k]? = some (some q) := by rw [hs, List.getElem?_map, hq]; rfl
  rw [List.getElem?_map] at h1
  cases hi : is[k]? with
  | none => rw [hi] at h1; cases h1
  | some i => rw [hi] at h1; exact ⟨i, rfl, Option.some.inj h1⟩
theorem xsub_P {D : va_G} {cl : List vw_C} {ws wc : va_W} {H : Heap} (h : va_P D cl ws H) (is : List Nat) (hs : is.map (fun i => ws[i]?) = wc.map some) : va_P D cl wc H := fun k q hk => by
  obtain ⟨i, -, h2⟩ := xsub_at hs k q hk
  exact h i q h2
theorem xset_PD {A0 : Nat → Prop} {D : va_G} {cl : List vw_C} {ws wc w1 : va_W} {H H1 : Heap} (hP : va_P D cl ws H) (hD : va_D A0 ws) (is : List Nat) (hC : is.map (fun i => ws[i]?) = wc.map some) (hl : w1.length = is.length)
    (hk : ∀ q : Nat, q < H.size → ¬ va_A wc H.size q → H1[q]? = H[q]?) (hF : ∀ q, va_A wc H.size q → A0 q) (hP1 : va_P D cl w1 H1) (hD1 : va_D (va_A wc H.size) w1) : va_P D cl (xset ws is w1) H1 ∧ va_D A0 (xset ws is w1) := by
  have apart : ∀ (k : Nat) (q : Nat × va_E), k ∉ is → ws[k]? = some q → q.1 < H.size ∧ ¬ va_A wc H.size q.1 := by
    intro k q hn hq
    have hlt := (hP k q hq).lt
    refine ⟨hlt, fun h => ?_⟩
    rcases h with ⟨k2, e, h⟩ | h
    · obtain ⟨i, h3, h4⟩ := xsub_at hC k2 (q.1, e) h
      have hij := hD.1 k i q (q.1, e) hq h4 rfl
      subst hij
      exact hn (List.mem_of_getElem? h3)
    · omega
  refine ⟨fun k q hq => ?_, fun i j x y hx hy hxy => ?_, fun k q hq => ?_⟩
  · rcases xset_at is w1 ws hl k q hq with ⟨h1, h2⟩ | ⟨j, h1, h2⟩
    · obtain ⟨g1, g2⟩ := apart k q h1 h2
      exact (hP k q h2).kept (hk q.1 g1 g2)
    · exact hP1 j q h2
  · rcases xset_at is w1 ws hl i x hx with ⟨h1, h2⟩ | ⟨i', h1, h2⟩ <;> rcases xset_at is w1 ws hl j y hy with ⟨g1, g2⟩ | ⟨j', g1, g2⟩
    · exact hD.1 i j x y h2 g2 hxy
    · exact absurd (by rw [hxy]; exact hD1.2 j' y g2) (apart i x h1 h2).2
    · exact absurd (by rw [← hxy]; exact hD1.2 i' x h2) (apart j y g1 g2).2
    · have e := hD1.1 i' j' x y h2 g2 hxy
      subst e
      rw [h1] at g1
      exact Option.some.inj g1
  · rcases xset_at is w1 ws hl k q hq with ⟨h1, h2⟩ | ⟨j, h1, h2⟩
    · exact hD.2 k q h2
    · exact hF _ (hD1.2 j q h2)
theorem xFree {A0 : Nat → Prop} {ws wc : va_W} {H0 H : Heap} {locs : List Loc} (hD : va_D A0 ws) (hS : va_S A0 H0 H locs) (hA : ∀ q, H0.size ≤ q → A0 q) (is : List Nat) (hC : is.map (fun i => ws[i]?) = wc.map some) : ∀ q, va_A wc H.size q → A0 q := by
  intro q h
  rcases h with ⟨k, e, h⟩ | h
  · obtain ⟨i, -, h2⟩ := xsub_at hC k (q, e) h
    exact hD.2 i (q, e) h2
  · exact hA q (Nat.le_trans hS.1 h)
/-- a part of a world, its cells apart as they were in the whole (no cell twice) -/
theorem xsub_D {A : Nat → Prop} {ws wc : va_W} (hD : va_D A ws) (is : List Nat) (hn : va_nd is = true) (hs : is.map (fun i => ws[i]?) = wc.map some) : va_D (fun _ => True) wc := (hD.sub is hn hs).weaken (fun _ _ _ _ => trivial)
section XC
variable {p : Program} {l : Launch} {e : Env} {R : Room} {s : State} {m : MethodId} {args : Array Value} {below : List Frame} {meth : Method} {c : Code} {H : Heap} {locs : List Loc} {cells slots : Nat} {Q : State → Prop}
variable {pc : Nat} {ls : Array Slot} {rest st0 As : List Value} {a : Array Value} {A : Nat → Prop} {H0 : Heap} {mc ms b : Nat} {w wc : va_W} {D : va_G} {tys : List (ClassId × FieldType)} {C : String} {S : Type}
theorem xPS (hN : xN s) (hK : va_K D vwCl tys s) (hP : va_P D vwCl w H) (hD : va_D A w) (is : List Nat) (hC : is.map (fun i => w[i]?) = wc.map some) (hn : va_nd is = true) : PreS s H (xPre D tys As wc H.size) As :=
  ⟨fun a U g mk q => by obtain ⟨q0, q1, qP, qK, qD, qN⟩ := q; exact ⟨q0, q1, qP, va_K.moved (u := U) (U := U.calling g mk a) (Vm.Alike.refl U.vm) qK, qD, xN.same (u := U) (U := U.calling g mk a) rfl qN⟩, fun U hU hW => ⟨rfl, by rw [hU], by rw [hU]; exact xsub_P hP is hC, va_K.moved hW.alike hK, xsub_D hD is hn hC, xN.warm hW hN⟩⟩
theorem xPV {T : u_T} {N ci j : Nat} {fs : List Value} (hN : xN s) (hK : va_K D vwCl tys s) (hP : va_P D vwCl w H) (hD : va_D A w) (is : List Nat) (hC : is.map (fun i => w[i]?) = wc.map some) (hn : va_nd is = true) (hc : vwCl[ci]? = some (C, T, N)) (he : w[j]? = some (b, .inr (ci, fs))) : PreV s H C b (xPre D tys (.ref b :: As) wc H.size) As :=
  ⟨(xPS hN hK hP hD is hC hn).1, va_recv hK hP (ci := ci) (q0 := j) hc he, (xPS hN hK hP hD is hC hn).2⟩
theorem xci {post : Int32 → S → Prop} {w1 : S → va_W} (hr : va_Run p l e R s m args below meth c H locs cells slots mc ms (F0 m pc ls st0) rest (va_Qi post (xB D tys (va_A wc H.size) w1) (va_A wc H.size) a) (va_A wc H.size)) (hP : va_P D vwCl w H) (hD : va_D A w) (hS : va_S A H0 H locs) (hA : ∀ q, H0.size ≤ q → A q) (is : List Nat) (hC : is.map (fun i => w[i]?) = wc.map some) (hl : ∀ u, (w1 u).length = is.length)
    (kk : ∀ (r : Int32) (u : S) (H1 : Heap) (locs1 : List Loc), post r u → va_P D vwCl (xset w is (w1 u)) H1 → va_D A (xset w is (w1 u)) → va_S A H0 H1 locs1 → W p l e R s m args below meth c H1 locs1 (cells + mc) (slots + ms) Q (F0 m (pc + 3) ls (.int r :: rest))) : W p l e R s m args below meth c H locs cells slots Q (F0 m pc ls st0) := by
  have hF := xFree hD hS hA is hC
  refine va_calli hr hS (fun q _ h => hF q h) hF (fun r u t H1 locs1 ht hvm hw hB hz1 hk1 hS1 => ?_)
  obtain ⟨hP1, hK1, hD1⟩ := hB
  rw [ht] at hP1
  obtain ⟨h1, h2⟩ := xset_PD hP hD is hC (hl u) hk1 hF hP1 hD1
  exact kk r u H1 locs1 hw h1 h2 hS1
theorem xcl {post : Int64 → S → Prop} {w1 : S → va_W} (hr : va_Run p l e R s m args below meth c H locs cells slots mc ms (F0 m pc ls st0) rest (va_Ql post (xB D tys (va_A wc H.size) w1) (va_A wc H.size) a) (va_A wc H.size)) (hP : va_P D vwCl w H) (hD : va_D A w) (hS : va_S A H0 H locs) (hA : ∀ q, H0.size ≤ q → A q) (is : List Nat) (hC : is.map (fun i => w[i]?) = wc.map some) (hl : ∀ u, (w1 u).length = is.length)
    (kk : ∀ (r : Int64) (u : S) (H1 : Heap) (locs1 : List Loc), post r u → va_P D vwCl (xset w is (w1 u)) H1 → va_D A (xset w is (w1 u)) → va_S A H0 H1 locs1 → W p l e R s m args below meth c H1 locs1 (cells + mc) (slots + ms) Q (F0 m (pc + 3) ls (.long r :: rest))) : W p l e R s m args below meth c H locs cells slots Q (F0 m pc ls st0) := by
  have hF := xFree hD hS hA is hC
  refine va_calll hr hS (fun q _ h => hF q h) hF (fun r u t H1 locs1 ht hvm hw hB hz1 hk1 hS1 => ?_)
  obtain ⟨hP1, hK1, hD1⟩ := hB
  rw [ht] at hP1
  obtain ⟨h1, h2⟩ := xset_PD hP hD is hC (hl u) hk1 hF hP1 hD1
  exact kk r u H1 locs1 hw h1 h2 hS1
theorem xcv {post : S → Prop} {w1 : S → va_W} (hr : va_Run p l e R s m args below meth c H locs cells slots mc ms (F0 m pc ls st0) rest (va_Qv post (xB D tys (va_A wc H.size) w1) (va_A wc H.size) a) (va_A wc H.size)) (hP : va_P D vwCl w H) (hD : va_D A w) (hS : va_S A H0 H locs) (hA : ∀ q, H0.size ≤ q → A q) (is : List Nat) (hC : is.map (fun i => w[i]?) = wc.map some) (hl : ∀ u, (w1 u).length = is.length)
    (kk : ∀ (u : S) (H1 : Heap) (locs1 : List Loc), post u → va_P D vwCl (xset w is (w1 u)) H1 → va_D A (xset w is (w1 u)) → va_S A H0 H1 locs1 → W p l e R s m args below meth c H1 locs1 (cells + mc) (slots + ms) Q (F0 m (pc + 3) ls rest)) : W p l e R s m args below meth c H locs cells slots Q (F0 m pc ls st0) := by
  have hF := xFree hD hS hA is hC
  refine va_callv hr hS (fun q _ h => hF q h) hF (fun u t H1 locs1 ht hvm hw hB hz1 hk1 hS1 => ?_)
  obtain ⟨hP1, hK1, hD1⟩ := hB
  rw [ht] at hP1
  obtain ⟨h1, h2⟩ := xset_PD hP hD is hC (hl u) hk1 hF hP1 hD1
  exact kk u H1 locs1 hw h1 h2 hS1
end XC
/-- what a walk of a body begins with -/
def xGo (l : Launch) (y : MethodName) (ws : List Cond) (rm : Room) (D : va_G) (tys : List (ClassId × FieldType)) (av : List Value) (w0 : va_W) (cc : ByteArray) (maxL : Nat) (G : ∀ (_ : Program) (_ : Env) (_ : State) (_ : MethodId) (_ : Array Value) (_ : List Frame) (_ : Method) (_ : Code) (_ : Nat → Prop) (_ : Array Slot), Prop) : Prop :=
  ∀ (p : Program) (e : Env) (s : State) (m : MethodId) (args : Array Value) (below : List Frame) (meth : Method) (c : Code) (A : Nat → Prop) (ls : Array Slot), p.tables.exec = Jvm.exec → c.code = cc → c.maxLocals = maxL → s.vm.findClass y.cls = some m.cls → (∀ w ∈ ws, w.before args s = true) → meth.name = y.name → xN s → va_K D vwCl tys s → (∀ q : Nat, s.heap.size ≤ q → A q) → va_P D vwCl w0 s.heap → va_D A w0 → va_S A s.heap s.heap [] → lv_has ls maxL (lv_args 0 av) → G p e s m args below meth c A ls
section XM
variable {S : Type} {l : Launch} {y : MethodName} {ws ws' : List Cond} {rm : Room} {D : va_G} {tys : List (ClassId × FieldType)} {av : List Value} {w0 : va_W} {sz : Nat} {w : S → va_W} {mc ms : Nat} {cc : ByteArray} {maxL : Nat}
theorem xMi_of {post : Int32 → S → Prop} (hy : plainFor y = true) (hw : ws = Cond.code y cc maxL (some .int) :: ws') (hlen : (lg_sl av).length ≤ maxL)
    (body : xGo l y ws rm D tys av w0 cc maxL (fun p e s m args below meth c A ls => ∀ Q : State → Prop,
      (∀ (v : Int32) (u : S) (H : Heap) (locs : List Loc) (pc : Nat) (ls : Array Slot), decode cc pc = .ok (.ireturn, 1) → post v u → va_P D vwCl (w u) H → va_D A (w u) → va_S A s.heap H locs → W p l e rm s m args below meth c H locs mc ms Q (F0 m pc ls [.int v])) →
      W p l e rm s m args below meth c s.heap [] 0 0 Q (F0 m 0 ls []))) : xMi l y ws rm D tys av w0 sz post w mc ms := by
  refine va_MetF (cc := cc) (maxL := maxL) (ret := some .int) hy hw ?_
  intro p e s m args below meth c s₁ B hml hv
  obtain ⟨rfl, hsz, hP, hK, hD0, hN⟩ := hv
  subst hsz
  rw [lg_entry_eq]
  have hl := lv_entry av (n := maxL) hlen
  refine body p e s m av.toArray below meth c (va_A w0 s.heap.size) _ B.exec B.bytes hml (findClass_of_methodNamed B.named) (atoms_spec (ws := ws) B.pre) (name_of_methodNamed B.named B.method).1 hN hK (fun q h => Or.inr h) hP hD0.self va_S.rf hl _ ?_
  intro v u H locs pc ls2 hd hp hP2 hD2 hS2
  exact W.iret (v := v) B.exec B.bytes B.returns (fun t ht hW => ⟨⟨v, u, rfl, hp, by rw [ht]; exact hP2, va_K.moved hW.alike hK, hD2⟩, hS2.F ht⟩) hS2.2.2 hd B.notSynchronized
theorem xMz_of {post : Int32 → S → Prop} (hy : plainFor y = true) (hw : ws = Cond.code y cc maxL (some .boolean) :: ws') (hlen : (lg_sl av).length ≤ maxL)
    (body : xGo l y ws rm D tys av w0 cc maxL (fun p e s m args below meth c A ls => ∀ Q : State → Prop,
      (∀ (v : Int32) (u : S) (H : Heap) (locs : List Loc) (pc : Nat) (ls : Array Slot), decode cc pc = .ok (.ireturn, 1) → (v = 0 ∨ v = 1) → post v u → va_P D vwCl (w u) H → va_D A (w u) → va_S A s.heap H locs → W p l e rm s m args below meth c H locs mc ms Q (F0 m pc ls [.int v])) →
      W p l e rm s m args below meth c s.heap [] 0 0 Q (F0 m 0 ls []))) : xMi l y ws rm D tys av w0 sz post w mc ms := by
  refine va_MetF (cc := cc) (maxL := maxL) (ret := some .boolean) hy hw ?_
  intro p e s m args below meth c s₁ B hml hv
  obtain ⟨rfl, hsz, hP, hK, hD0, hN⟩ := hv
  subst hsz
  rw [lg_entry_eq]
  have hl := lv_entry av (n := maxL) hlen
  refine body p e s m av.toArray below meth c (va_A w0 s.heap.size) _ B.exec B.bytes hml (findClass_of_methodNamed B.named) (atoms_spec (ws := ws) B.pre) (name_of_methodNamed B.named B.method).1 hN hK (fun q h => Or.inr h) hP hD0.self va_S.rf hl _ ?_
  intro v u H locs pc ls2 hd hv01 hp hP2 hD2 hS2
  exact W.zret (v := v) B.exec B.bytes B.returns (by rcases hv01 with h | h <;> subst h <;> rfl) (fun t ht hW => ⟨⟨v, u, rfl, hp, by rw [ht]; exact hP2, va_K.moved hW.alike hK, hD2⟩, hS2.F ht⟩) hS2.2.2 hd B.notSynchronized
theorem xMl_of {post : Int64 → S → Prop} (hy : plainFor y = true) (hw : ws = Cond.code y cc maxL (some .long) :: ws') (hlen : (lg_sl av).length ≤ maxL)
    (body : xGo l y ws rm D tys av w0 cc maxL (fun p e s m args below meth c A ls => ∀ Q : State → Prop,
      (∀ (v : Int64) (u : S) (H : Heap) (locs : List Loc) (pc : Nat) (ls : Array Slot), decode cc pc = .ok (.lreturn, 1) → post v u → va_P D vwCl (w u) H → va_D A (w u) → va_S A s.heap H locs → W p l e rm s m args below meth c H locs mc ms Q (F0 m pc ls [.long v])) →
      W p l e rm s m args below meth c s.heap [] 0 0 Q (F0 m 0 ls []))) : xMl l y ws rm D tys av w0 sz post w mc ms := by
  refine va_MetF (cc := cc) (maxL := maxL) (ret := some .long) hy hw ?_
  intro p e s m args below meth c s₁ B hml hv
  obtain ⟨rfl, hsz, hP, hK, hD0, hN⟩ := hv
  subst hsz
  rw [lg_entry_eq]
  have hl := lv_entry av (n := maxL) hlen
  refine body p e s m av.toArray below meth c (va_A w0 s.heap.size) _ B.exec B.bytes hml (findClass_of_methodNamed B.named) (atoms_spec (ws := ws) B.pre) (name_of_methodNamed B.named B.method).1 hN hK (fun q h => Or.inr h) hP hD0.self va_S.rf hl _ ?_
  intro v u H locs pc ls2 hd hp hP2 hD2 hS2
  exact W.lret (v := v) B.exec B.bytes B.returns (fun t ht hW => ⟨⟨v, u, rfl, hp, by rw [ht]; exact hP2, va_K.moved hW.alike hK, hD2⟩, hS2.F ht⟩) hS2.2.2 hd B.notSynchronized
theorem xMv_of {post : S → Prop} (hy : plainFor y = true) (hw : ws = Cond.code y cc maxL none :: ws') (hlen : (lg_sl av).length ≤ maxL)
    (body : xGo l y ws rm D tys av w0 cc maxL (fun p e s m args below meth c A ls => ∀ Q : State → Prop,
      (∀ (u : S) (H : Heap) (locs : List Loc) (pc : Nat) (ls : Array Slot), decode cc pc = .ok (.return_, 1) → post u → va_P D vwCl (w u) H → va_D A (w u) → va_S A s.heap H locs → W p l e rm s m args below meth c H locs mc ms Q (F0 m pc ls [])) →
      W p l e rm s m args below meth c s.heap [] 0 0 Q (F0 m 0 ls []))) : xMv l y ws rm D tys av w0 sz post w mc ms := by
  refine va_MetF (cc := cc) (maxL := maxL) (ret := none) hy hw ?_
  intro p e s m args below meth c s₁ B hml hv
  obtain ⟨rfl, hsz, hP, hK, hD0, hN⟩ := hv
  subst hsz
  rw [lg_entry_eq]
  have hl := lv_entry av (n := maxL) hlen
  refine body p e s m av.toArray below meth c (va_A w0 s.heap.size) _ B.exec B.bytes hml (findClass_of_methodNamed B.named) (atoms_spec (ws := ws) B.pre) (name_of_methodNamed B.named B.method).1 hN hK (fun q h => Or.inr h) hP hD0.self va_S.rf hl _ ?_
  intro u H locs pc ls2 hd hp hP2 hD2 hS2
  exact W.vret B.exec B.bytes B.returns (fun t ht hW => ⟨⟨u, rfl, hp, by rw [ht]; exact hP2, va_K.moved hW.alike hK, hD2⟩, hS2.F ht⟩) hS2.2.2 hd B.notSynchronized
end XM
theorem xMet_mono {l : Launch} {y : MethodName} {ws : List Cond} {rm : Room} {Pc : Array Value → State → Prop} {Q1 Q2 : Array Value → State → Outcome → State → Prop} {mc ms : Nat} {free : Addr → Prop} (h : Met l y ws rm Pc Q1 mc ms free) (hq : ∀ a st o t, Q1 a st o t → Q2 a st o t) : Met l y ws rm Pc Q2 mc ms free := by
  intro p e ha hc hk s m args below hf happ hP hK
  obtain ⟨n, o, h1, h2, h3, h4, h5⟩ := h p e ha hc hk s m args below hf happ hP hK
  exact ⟨n, o, h1, h2, h3, hq _ _ _ _ h4, h5⟩
section XMO
variable {S S' : Type} {l : Launch} {y : MethodName} {ws : List Cond} {rm : Room} {D : va_G} {tys : List (ClassId × FieldType)} {av : List Value} {w0 : va_W} {sz : Nat} {w : S → va_W} {w' : S' → va_W} {mc ms : Nat}
theorem xMi_mono {post : Int32 → S → Prop} {post' : Int32 → S' → Prop} (h : xMi l y ws rm D tys av w0 sz post w mc ms) (hq : ∀ r u, post r u → ∃ u', post' r u' ∧ w u = w' u') : xMi l y ws rm D tys av w0 sz post' w' mc ms := by
  refine xMet_mono h ?_
  rintro a st o t ⟨⟨r, u, ho, hp, hB⟩, hF⟩
  obtain ⟨u', h1, h2⟩ := hq r u hp
  refine ⟨⟨r, u', ho, h1, ?_⟩, hF⟩
  unfold xB at hB ⊢
  rw [← h2]
  exact hB
theorem xMl_mono {post : Int64 → S → Prop} {post' : Int64 → S' → Prop} (h : xMl l y ws rm D tys av w0 sz post w mc ms) (hq : ∀ r u, post r u → ∃ u', post' r u' ∧ w u = w' u') : xMl l y ws rm D tys av w0 sz post' w' mc ms := by
  refine xMet_mono h ?_
  rintro a st o t ⟨⟨r, u, ho, hp, hB⟩, hF⟩
  obtain ⟨u', h1, h2⟩ := hq r u hp
  refine ⟨⟨r, u', ho, h1, ?_⟩, hF⟩
  unfold xB at hB ⊢
  rw [← h2]
  exact hB
theorem xMv_mono {post : S → Prop} {post' : S' → Prop} (h : xMv l y ws rm D tys av w0 sz post w mc ms) (hq : ∀ u, post u → ∃ u', post' u' ∧ w u = w' u') : xMv l y ws rm D tys av w0 sz post' w' mc ms := by
  refine xMet_mono h ?_
  rintro a st o t ⟨⟨u, ho, hp, hB⟩, hF⟩
  obtain ⟨u', h1, h2⟩ := hq u hp
  refine ⟨⟨u', ho, h1, ?_⟩, hF⟩
  unfold xB at hB ⊢
  rw [← h2]
  exact hB
end XMO
/-! ===== the cells of each kind of thing ===== -/
abbrev xT (cI cP : ClassId) : List (ClassId × FieldType) := [(cI, .int), (cP, .object "BlindLanterns$Pass")]
def wRow (cI : ClassId) (h a n : Nat) (f : Nat → Int32) : va_W := [(h, .inr (3, [.ref a])), (a, .inl (cI, n, .inl f))]
def wTold (cI : ClassId) (o : Nat) (r a : Nat → Nat) (i4 i5 i6 i7 i8 i9 i10 : Int32) (k0 k1 k2 k3 : Nat → Int32) : va_W := [(o, .inr (5, [.ref (r 0), .ref (r 1), .ref (r 2), .ref (r 3), .int i4, .int i5, .int i6, .int i7, .int i8, .int i9, .int i10])), (r 0, .inr (3, [.ref (a 0)])), (a 0, .inl (cI, 6, .inl k0)), (r 1, .inr (3, [.ref (a 1)])), (a 1, .inl (cI, 6, .inl k1)), (r 2, .inr (3, [.ref (a 2)])), (a 2, .inl (cI, 6, .inl k2)), (r 3, .inr (3, [.ref (a 3)])), (a 3, .inl (cI, 6, .inl k3))]
def wPass (cI : ClassId) (o : Nat) (r a : Nat → Nat) (i2 i3 i4 : Int32) (k0 k1 : Nat → Int32) : va_W := [(o, .inr (1, [.ref (r 0), .ref (r 1), .int i2, .int i3, .int i4])), (r 0, .inr (3, [.ref (a 0)])), (a 0, .inl (cI, 6, .inl k0)), (r 1, .inr (3, [.ref (a 1)])), (a 1, .inl (cI, 6, .inl k1))]
def wFelt (cI : ClassId) (o : Nat) (r a : Nat → Nat) (i3 : Int32) (k0 k1 k2 : Nat → Int32) : va_W := [(o, .inr (0, [.ref (r 0), .ref (r 1), .ref (r 2), .int i3])), (r 0, .inr (3, [.ref (a 0)])), (a 0, .inl (cI, 10, .inl k0)), (r 1, .inr (3, [.ref (a 1)])), (a 1, .inl (cI, 10, .inl k1)), (r 2, .inr (3, [.ref (a 2)])), (a 2, .inl (cI, 10, .inl k2))]
def wReader (cI : ClassId) (o : Nat) (r a : Nat → Nat) (i1 : Int32) (k0 : Nat → Int32) : va_W := [(o, .inr (2, [.ref (r 0), .int i1])), (r 0, .inr (3, [.ref (a 0)])), (a 0, .inl (cI, 3, .inl k0))]
def wX (x : Nat) (r : Nat → Nat) (len : Int32) (t d : Nat) : va_W := [(x, .inr (6, [.ref (r 0), .ref (r 1), .ref (r 2), .ref (r 3), .ref (r 4), .ref (r 5), .ref (r 6), .ref (r 7), .ref (r 8), .int len, .ref t, .ref d]))]
def wHead (j p : Nat) (c : Int32) : va_W := [(j, .inr (4, [.ref p, .int c]))]
section XW
variable {p : Program} {l : Launch} {e : Env} {R : Room} {s : State} {m : MethodId} {args : Array Value} {below : List Frame} {meth : Method} {c : Code} {H : Heap} {locs : List Loc} {cells slots : Nat} {Q : State → Prop}
variable {pc : Nat} {ls : Array Slot} {rest st0 As : List Value} {a : Array Value} {A : Nat → Prop} {H0 : Heap} {mc ms b : Nat} {w : va_W} {D : va_G} {tys : List (ClassId × FieldType)} {C : String} {S : Type}
theorem xFreeW (hD : va_D A w) (hS : va_S A H0 H locs) (hA : ∀ q, H0.size ≤ q → A q) : ∀ q, va_A w H.size q → A q := by
  intro q h
  rcases h with ⟨k, e, h⟩ | h
  · exact hD.2 k (q, e) h
  · exact hA q (Nat.le_trans hS.1 h)
theorem xPSW (hN : xN s) (hK : va_K D vwCl tys s) (hP : va_P D vwCl w H) (hD : va_D A w) : PreS s H (xPre D tys As w H.size) As :=
  ⟨fun a U g mk q => by obtain ⟨q0, q1, qP, qK, qD, qN⟩ := q; exact ⟨q0, q1, qP, va_K.moved (u := U) (U := U.calling g mk a) (Vm.Alike.refl U.vm) qK, qD, xN.same (u := U) (U := U.calling g mk a) rfl qN⟩, fun U hU hW => ⟨rfl, by rw [hU], by rw [hU]; exact hP, va_K.moved hW.alike hK, hD.weaken (fun _ _ _ _ => trivial), xN.warm hW hN⟩⟩
theorem xPVW {T : u_T} {N ci j : Nat} {fs : List Value} (hN : xN s) (hK : va_K D vwCl tys s) (hP : va_P D vwCl w H) (hD : va_D A w) (hc : vwCl[ci]? = some (C, T, N)) (he : w[j]? = some (b, .inr (ci, fs))) : PreV s H C b (xPre D tys (.ref b :: As) w H.size) As :=
  ⟨(xPSW hN hK hP hD).1, va_recv hK hP (ci := ci) (q0 := j) hc he, (xPSW hN hK hP hD).2⟩
theorem xciW {post : Int32 → S → Prop} {w1 : S → va_W} (hr : va_Run p l e R s m args below meth c H locs cells slots mc ms (F0 m pc ls st0) rest (va_Qi post (xB D tys (va_A w H.size) w1) (va_A w H.size) a) (va_A w H.size)) (hD : va_D A w) (hS : va_S A H0 H locs) (hA : ∀ q, H0.size ≤ q → A q)
    (kk : ∀ (r : Int32) (u : S) (H1 : Heap) (locs1 : List Loc), post r u → va_P D vwCl (w1 u) H1 → va_D A (w1 u) → va_S A H0 H1 locs1 → W p l e R s m args below meth c H1 locs1 (cells + mc) (slots + ms) Q (F0 m (pc + 3) ls (.int r :: rest))) : W p l e R s m args below meth c H locs cells slots Q (F0 m pc ls st0) := by
  have hF := xFreeW hD hS hA
  refine va_calli hr hS (fun q _ h => hF q h) hF (fun r u t H1 locs1 ht hvm hw hB hz1 hk1 hS1 => ?_)
  obtain ⟨hP1, hK1, hD1⟩ := hB
  rw [ht] at hP1
  exact kk r u H1 locs1 hw hP1 (hD1.weaken (fun k q _ h => hF q.1 h)) hS1
theorem xcvW {post : S → Prop} {w1 : S → va_W} (hr : va_Run p l e R s m args below meth c H locs cells slots mc ms (F0 m pc ls st0) rest (va_Qv post (xB D tys (va_A w H.size) w1) (va_A w H.size) a) (va_A w H.size)) (hD : va_D A w) (hS : va_S A H0 H locs) (hA : ∀ q, H0.size ≤ q → A q)
    (kk : ∀ (u : S) (H1 : Heap) (locs1 : List Loc), post u → va_P D vwCl (w1 u) H1 → va_D A (w1 u) → va_S A H0 H1 locs1 → W p l e R s m args below meth c H1 locs1 (cells + mc) (slots + ms) Q (F0 m (pc + 3) ls rest)) : W p l e R s m args below meth c H locs cells slots Q (F0 m pc ls st0) := by
  have hF := xFreeW hD hS hA
  refine va_callv hr hS (fun q _ h => hF q h) hF (fun u t H1 locs1 ht hvm hw hB hz1 hk1 hS1 => ?_)
  obtain ⟨hP1, hK1, hD1⟩ := hB
  rw [ht] at hP1
  exact kk u H1 locs1 hw hP1 (hD1.weaken (fun k q _ h => hF q.1 h)) hS1
theorem xset_nil (w es : va_W) : xset w [] es = w := by cases es <;> rfl
/-- a call of a method that reads no cell -/
theorem xci0 {post : Int32 → S → Prop} (hr : va_Run p l e R s m args below meth c H locs cells slots mc ms (F0 m pc ls st0) rest (va_Qi post (xB D tys (va_A [] H.size) (fun _ => [])) (va_A [] H.size) a) (va_A [] H.size)) (hP : va_P D vwCl w H) (hD : va_D A w) (hS : va_S A H0 H locs) (hA : ∀ q, H0.size ≤ q → A q)
    (kk : ∀ (r : Int32) (u : S) (H1 : Heap) (locs1 : List Loc), post r u → va_P D vwCl w H1 → va_D A w → va_S A H0 H1 locs1 → W p l e R s m args below meth c H1 locs1 (cells + mc) (slots + ms) Q (F0 m (pc + 3) ls (.int r :: rest))) : W p l e R s m args below meth c H locs cells slots Q (F0 m pc ls st0) := by
  refine xci hr hP hD hS hA [] rfl (fun _ => rfl) (fun r u H1 locs1 hw h1 h2 h3 => ?_)
  rw [xset_nil] at h1 h2
  exact kk r u H1 locs1 hw h1 h2 h3
theorem xPS0 (hN : xN s) (hK : va_K D vwCl tys s) : PreS s H (xPre D tys As [] H.size) As := xPS (A := fun _ => True) (w := []) hN hK (fun k q h => by simp at h) ⟨fun i j p q h => by simp at h, fun k q h => by simp at h⟩ [] rfl rfl
end XW
theorem x_in {i : Int32} {n : Nat} (h : (decide (¬ (i < 0 ∨ n ≤ i.toNatClampNeg))) = true) : vp_in i n := @of_decide_eq_true (¬ (i < 0 ∨ n ≤ i.toNatClampNeg)) _ h
