/-! ===== shelves; what a constructor makes ===== -/
def wRefs (cP : ClassId) (q n : Nat) (g : Nat → Option Nat) : va_W := [(q, .inl (cP, n, .inr (.inr (.inr (.inr g)))))]
def wShelf8 (cI cP : ClassId) (j p : Nat) (c : Int32) (g : Nat → Option Nat) (b : Nat → Nat) (br ba : Nat → Nat → Nat) (bi : Nat → Nat → Int32) (bk : Nat → Nat → Nat → Int32) : va_W := wHead j p c ++ (wRefs cP p 8 g ++ (wPass cI (b 0) (br 0) (ba 0) (bi 0 2) (bi 0 3) (bi 0 4) (bk 0 0) (bk 0 1) ++ (wPass cI (b 1) (br 1) (ba 1) (bi 1 2) (bi 1 3) (bi 1 4) (bk 1 0) (bk 1 1) ++ (wPass cI (b 2) (br 2) (ba 2) (bi 2 2) (bi 2 3) (bi 2 4) (bk 2 0) (bk 2 1) ++ (wPass cI (b 3) (br 3) (ba 3) (bi 3 2) (bi 3 3) (bi 3 4) (bk 3 0) (bk 3 1) ++ (wPass cI (b 4) (br 4) (ba 4) (bi 4 2) (bi 4 3) (bi 4 4) (bk 4 0) (bk 4 1) ++ (wPass cI (b 5) (br 5) (ba 5) (bi 5 2) (bi 5 3) (bi 5 4) (bk 5 0) (bk 5 1) ++ (wPass cI (b 6) (br 6) (ba 6) (bi 6 2) (bi 6 3) (bi 6 4) (bk 6 0) (bk 6 1) ++ (wPass cI (b 7) (br 7) (ba 7) (bi 7 2) (bi 7 3) (bi 7 4) (bk 7 0) (bk 7 1))))))))))
def wShelf2 (cI cP : ClassId) (j p : Nat) (c : Int32) (g : Nat → Option Nat) (b : Nat → Nat) (br ba : Nat → Nat → Nat) (bi : Nat → Nat → Int32) (bk : Nat → Nat → Nat → Int32) : va_W := wHead j p c ++ (wRefs cP p 2 g ++ (wPass cI (b 0) (br 0) (ba 0) (bi 0 2) (bi 0 3) (bi 0 4) (bk 0 0) (bk 0 1) ++ (wPass cI (b 1) (br 1) (ba 1) (bi 1 2) (bi 1 3) (bi 1 4) (bk 1 0) (bk 1 1))))
def xfn (l : List Nat) : Nat → Nat := fun k => l.getD k 0
def xff (l : List (Nat → Nat)) : Nat → Nat → Nat := fun k => l.getD k (fun _ => 0)
theorem xcI {D : va_G} {cI cA cP : ClassId} {U : State} (h1 : va_K D vwCl (xT cI cP) U) (h2 : va_K D vwCl (xT cI cP ++ [(cA, .int)]) U) : cI = cA := by
  have a := (h1.2 0 (cI, .int) rfl).2
  have b := (h2.2 2 (cA, .int) rfl).2
  exact Option.some.inj ((show U.vm.findClass _ = some cI from a).symm.trans (show U.vm.findClass _ = some cA from b))
theorem xcP {D : va_G} {cI cA cP : ClassId} {U : State} (h1 : va_K D vwCl (xT cI cP) U) (h2 : va_K D vwCl (xT cI cP ++ [(cA, .object RX1)]) U) : cP = cA := by
  obtain ⟨k1, c1, -, -, -, a⟩ := (h1.2 1 (cP, .object "BlindLanterns$Pass") rfl).2
  obtain ⟨k2, c2, -, -, -, b⟩ := (h2.2 2 (cA, .object RX1) rfl).2
  exact Option.some.inj (a.symm.trans b)
section XCA
variable {p : Program} {l : Launch} {e : Env} {R : Room} {s : State} {m : MethodId} {args : Array Value} {below : List Frame} {meth : Method} {c : Code} {H : Heap} {locs : List Loc} {cells slots : Nat} {Q : State → Prop}
variable {pc : Nat} {ls : Array Slot} {rest st0 As : List Value} {a : Array Value} {A : Nat → Prop} {H0 : Heap} {mc ms b : Nat} {w wc : va_W} {D : va_G} {tys : List (ClassId × FieldType)} {C : String} {S : Type}
def xpick (w : va_W) (is : List Nat) : va_W := is.filterMap (fun i => w[i]?)
/-- behind a constructor: the caller's other cells, then what it made -/
theorem xcvL {ws : va_W} {e0 : Nat × va_E} {post : S → Prop} {w1 : S → va_W} (hr : va_Run p l e R s m args below meth c H locs cells slots mc ms (F0 m pc ls st0) rest (va_Qv post (xB D tys (va_A [e0] H.size) w1) (va_A [e0] H.size) a) (va_A [e0] H.size)) (hP : va_P D vwCl (ws ++ [e0]) H) (hD : va_D A (ws ++ [e0])) (hS : va_S A H0 H locs) (hA : ∀ q, H0.size ≤ q → A q)
    (kk : ∀ (u : S) (H1 : Heap) (locs1 : List Loc), post u → va_P D vwCl (ws ++ w1 u) H1 → va_D A (ws ++ w1 u) → va_S A H0 H1 locs1 → W p l e R s m args below meth c H1 locs1 (cells + mc) (slots + ms) Q (F0 m (pc + 3) ls rest)) : W p l e R s m args below meth c H locs cells slots Q (F0 m pc ls st0) := by
  have hi : (ws ++ [e0])[ws.length]? = some e0 := by simp
  have hF : ∀ q, va_A [e0] H.size q → A q := by
    intro q h
    rcases h with ⟨k, e, h⟩ | h
    · cases k with
      | zero => cases h; exact hD.2 _ _ hi
      | succ k => simp at h
    · exact hA q (Nat.le_trans hS.1 h)
  have apart : ∀ (k : Nat) (q : Nat × va_E), ws[k]? = some q → q.1 < H.size ∧ ¬ va_A [e0] H.size q.1 := by
    intro k q hq
    have hk : k < ws.length := (List.getElem?_eq_some_iff.mp hq).1
    have hq2 : (ws ++ [e0])[k]? = some q := by rw [List.getElem?_append_left hk]; exact hq
    have hlt := (hP k q hq2).lt
    refine ⟨hlt, fun h => ?_⟩
    rcases h with ⟨k2, e, h⟩ | h
    · cases k2 with
      | zero =>
        cases h
        have := hD.1 k ws.length q _ hq2 hi rfl
        omega
      | succ k2 => simp at h
    · omega
  refine va_callv hr hS (fun q _ h => hF q h) hF (fun u t H1 locs1 ht hvm hw hB hz1 hk1 hS1 => ?_)
  obtain ⟨hP1, hK1, hD1⟩ := hB
  rw [ht] at hP1
  refine kk u H1 locs1 hw (va_P.app (fun k q hq => ?_) hP1) (va_D.app ⟨fun i j x y hx hy hxy => ?_, fun k q hq => ?_⟩ (hD1.weaken (fun k q _ h => hF q.1 h)) (fun i j x y hx hy hxy => ?_)) hS1
  · have hk : k < ws.length := (List.getElem?_eq_some_iff.mp hq).1
    exact (hP k q (by rw [List.getElem?_append_left hk]; exact hq)).kept (hk1 q.1 (apart k q hq).1 (apart k q hq).2)
  · have h1 : i < ws.length := (List.getElem?_eq_some_iff.mp hx).1
    have h2 : j < ws.length := (List.getElem?_eq_some_iff.mp hy).1
    exact hD.1 i j x y (by rw [List.getElem?_append_left h1]; exact hx) (by rw [List.getElem?_append_left h2]; exact hy) hxy
  · have hk : k < ws.length := (List.getElem?_eq_some_iff.mp hq).1
    exact hD.2 k q (by rw [List.getElem?_append_left hk]; exact hq)
  · exact (apart i x hx).2 (by rw [hxy]; exact hD1.2 j y hy)
theorem xPSL {ws : va_W} {e0 : Nat × va_E} (hN : xN s) (hK : va_K D vwCl tys s) (hP : va_P D vwCl (ws ++ [e0]) H) : PreS s H (xPre D tys As [e0] H.size) As := by
  refine xPSW (A := fun _ => True) hN hK (fun k q hq => ?_) ⟨fun i j x y hx hy _ => ?_, fun _ _ _ => trivial⟩
  · cases k with
    | zero => cases hq; exact hP ws.length _ (by simp)
    | succ k => simp at hq
  · cases i with
    | zero =>
      cases j with
      | zero => rfl
      | succ j => simp at hy
    | succ i => simp at hx
end XCA
/-- the same world in another order -/
theorem xMv_perm {S : Type} {l : Launch} {y : MethodName} {ws : List Cond} {rm : Room} {D : va_G} {tys : List (ClassId × FieldType)} {av : List Value} {w0 : va_W} {sz : Nat} {post : S → Prop} {w w' : S → va_W} {mc ms : Nat} (h : xMv l y ws rm D tys av w0 sz post w mc ms) (is : List Nat) (hn : va_nd is = true) (hs : ∀ u, is.map (fun i => (w u)[i]?) = (w' u).map some) : xMv l y ws rm D tys av w0 sz post w' mc ms := by
  refine xMet_mono h ?_
  rintro a st o t ⟨⟨u, ho, hp, hP, hK, hD⟩, hF⟩
  exact ⟨⟨u, ho, hp, xsub_P hP is (hs u), hK, hD.sub is hn (hs u)⟩, hF⟩
