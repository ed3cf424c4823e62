/-- the first n places of a row of references hold these -/
def xal (n : Nat) (g : Nat → Option Nat) (b : Nat → Nat) : Bool := (List.range n).all (fun k => match g k with | some v => v == b k | none => false)
theorem xal_iff {n : Nat} {g : Nat → Option Nat} {b : Nat → Nat} : xal n g b = true ↔ ∀ k, k < n → g k = some (b k) := by
  unfold xal
  rw [List.all_eq_true]
  constructor
  · intro h k hk
    have q := h k (List.mem_range.mpr hk)
    cases e : g k with
    | none => rw [e] at q; cases q
    | some v =>
      rw [e] at q
      have q2 : (v == b k) = true := q
      rw [eq_of_beq q2]
  · intro h k hk
    rw [h k (List.mem_range.mp hk)]
    show (b k == b k) = true
    exact beq_self_eq_true _
