/-! ### the land at the start, out of a new treaty -/
section PX
variable {K : Kmap} {V V0 : Vmap} {x o : Nat}
theorem LDI.at2 (e : V x 0 = .ref o) (l3 : V o 3 = V0 o 3) (l4 : V o 4 = V0 o 4) (l5 : V o 5 = V0 o 5) (l6 : V o 6 = V0 o 6) (l7 : V o 7 = V0 o 7) (l8 : V o 8 = V0 o 8) (h5 : ∀ j, V (vq V0 o 5) j = V0 (vq V0 o 5) j) (h6 : ∀ j, V (vq V0 o 6) j = V0 (vq V0 o 6) j) (h7 : ∀ j, V (vq V0 o 7) j = V0 (vq V0 o 7) j) (h8 : ∀ j, V (vq V0 o 8) j = V0 (vq V0 o 8) j) (z : LDZ K V0 o) : LDI V x := by
  obtain ⟨-, -, -, -, z3, z4, z5, z6, z7, z8⟩ := z
  have e0 : vq V x 0 = o := vq_of e
  unfold LDI
  rw [e0, vi_eq l3, vi_eq l4, vq_eq l5, vq_eq l6, vq_eq l7, vq_eq l8]
  exact ⟨z3, z4, fun j hj => by rw [vi_eq (h5 j)]; exact z5 j hj, fun j hj => by rw [vi_eq (h6 j)]; exact z6 j hj, fun j hj => by rw [vi_eq (h7 j)]; exact z7 j hj, fun j hj => by rw [vi_eq (h8 j)]; exact z8 j hj⟩
end PX
