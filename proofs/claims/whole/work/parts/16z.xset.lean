/-! ===== a world put anew is the world that it is ===== -/
theorem xset_eq0 : ∀ (is : List Nat) (ws W W' : va_W), W.length = W'.length → is.map (fun i => W'[i]?) = ws.map some → (∀ i : Nat, i ∉ is → W[i]? = W'[i]?) → xset W is ws = W'
  | [], ws, W, W', _, _, h2 => by
    have e : xset W [] ws = W := by cases ws <;> rfl
    rw [e]
    exact List.ext_getElem? (fun i => h2 i List.not_mem_nil)
  | i :: is, [], W, W', _, h1, _ => by simp at h1
  | i :: is, w :: ws, W, W', hl, h1, h2 => by
    rw [List.map_cons, List.map_cons, List.cons.injEq] at h1
    show xset (W.set i w) is ws = W'
    refine xset_eq0 is ws (W.set i w) W' (by rw [List.length_set, hl]) h1.2 (fun j hj => ?_)
    by_cases e : i = j
    · subst e
      have hlt : i < W'.length := (List.getElem?_eq_some_iff.mp h1.1).1
      rw [List.getElem?_set_self (by rw [hl]; exact hlt), h1.1]
    · rw [List.getElem?_set_ne e]
      exact h2 j (fun z => (List.mem_cons.mp z).elim (fun z => e z.symm) hj)
theorem xset_eq {is : List Nat} {ws W W' : va_W} (n : Nat) (hW : W.length = n) (hW' : W'.length = n) (js : List Nat) (hc : ∀ i, i < n → i ∈ is ∨ i ∈ js) (h1 : is.map (fun i => W'[i]?) = ws.map some) (h2 : js.map (fun i => W[i]?) = js.map (fun i => W'[i]?)) : xset W is ws = W' := by
  refine xset_eq0 is ws W W' (hW.trans hW'.symm) h1 (fun i hi => ?_)
  by_cases hn : i < n
  · rcases hc i hn with z | z
    · exact absurd z hi
    · exact List.map_inj_left.mp h2 i z
  · rw [List.getElem?_eq_none (by omega), List.getElem?_eq_none (by omega)]
