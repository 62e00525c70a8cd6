section PPX
variable {K : Kmap} {V V1 W : Vmap} {m : Nat} {k n X : Int}
/-- as DCV, also where there are no stops -/
def DCW (V : Vmap) (m : Nat) (k : Int) : Prop := -2 ≤ k ∧ DCR (ar 143 V m) (msn V m) (k + 1).toNat
theorem DCW.beg (hk : k = vi V m 137 - 2) (h0 : 0 ≤ vi V m 137) : DCW V m k := ⟨by omega, fun j h1 h2 => by unfold msn at h2; omega⟩
theorem DCW.step (q : DCW V m k) (k0 : 0 ≤ k) (hl : vi V (vq V m 143) (k + 1).toNat < vi V (vq V m 143) k.toNat) (hn : n = k - 1) : DCW V m n := ⟨by omega, fun j h1 h2 => by
  by_cases c : j = k.toNat
  · rw [c, show k.toNat + 1 = (k + 1).toNat by omega]
    exact hl
  · exact q.2 j (by omega) h2⟩
theorem DCW.v (q : DCW V m k) (h : 0 ≤ k) : DCV V m k := ⟨by omega, q.2⟩
theorem NXR.no2 (q : DCW V m k) (hk : k < 0) (hX : X = 0) : NXR V V m X := nxp_0 (by
  have := q.2
  rw [show (k + 1).toNat = 0 by have := q.1; omega] at this
  exact this) (fun j _ => rfl) hX
end PPX
