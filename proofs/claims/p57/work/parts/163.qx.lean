/-! ### how the reference's check ends -/
section QX
variable {V V0 : Vmap} {m : Nat} {k n c X : Int}
theorem MCX.fin (h : MWI V m (2 * n) k c) (n0 : 0 ≤ n) (n8 : 8 * n ≤ vi V0 m 30) (hk : k.toNat = (vi V m 10).toNat) (hX : (c < 2 * n ∧ X = c) ∨ (2 * n ≤ c ∧ X = -1)) : MCX V0 V m n X := by
  unfold MWI at h
  rw [hk] at h
  exact Or.inr ⟨n0, n8, Or.inl ⟨c, h, hX⟩⟩
end QX
