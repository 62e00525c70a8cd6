/-- all rows of a method, read at once -/
def chkB (cc : ByteArray) (L : List (Nat × Instr × Nat)) : Bool := L.all fun r => decide (decode cc r.1 = .ok (r.2.1, r.2.2))
theorem getB' {cc : ByteArray} {L : List (Nat × Instr × Nat)} (h : chkB cc L = true) (j : Nat) {pc n : Nat} {i : Instr} (hj : L[j]? = some (pc, i, n)) : decode cc pc = .ok (i, n) := by
  have h1 := List.all_eq_true.mp h _ (List.mem_of_getElem? hj)
  have h2 : decide (decode cc pc = .ok (i, n)) = true := h1
  exact of_decide_eq_true h2
