def FXa (K : Kmap) (V : Vmap) (x : Nat) (ad : Nat → Nat) : Prop := K x = some (0, 10) ∧ V x 0 = .ref (ad 0) ∧ K (ad 0) = some (0, 0) ∧ V (ad 0) 0 = .int 0 ∧ V (ad 0) 3 = .int 8 ∧ V (ad 0) 4 = .int 8 ∧ V (ad 0) 5 = .ref (ad 1) ∧ K (ad 1) = some (1, 144) ∧ V (ad 0) 6 = .ref (ad 2) ∧ K (ad 2) = some (1, 144) ∧ V (ad 0) 7 = .ref (ad 3) ∧ K (ad 3) = some (1, 144) ∧ V (ad 0) 8 = .ref (ad 4) ∧ K (ad 4) = some (1, 144) ∧ V (ad 0) 9 = .ref (ad 5) ∧ K (ad 5) = some (1, 48) ∧ V (ad 0) 10 = .ref (ad 6) ∧ K (ad 6) = some (1, 4) ∧ V x 1 = .ref (ad 7) ∧ K (ad 7) = some (0, 1) ∧ V (ad 7) 1 = .int 0 ∧ V (ad 7) 2 = .ref (ad 8) ∧ K (ad 8) = some (0, 7) ∧ V (ad 8) 3 = .int 0 ∧ V x 2 = .ref (ad 9) ∧ K (ad 9) = some (0, 5) ∧ V (ad 9) 0 = .ref (ad 10) ∧ K (ad 10) = some (0, 7) ∧ V (ad 10) 3 = .int 0 ∧ V x 3 = .ref (ad 11) ∧ K (ad 11) = some (5, 9) ∧ V x 4 = .int 0 ∧ V x 5 = .ref (ad 12) ∧ K (ad 12) = some (6, 60) ∧ V x 6 = .int 0 ∧ V x 8 = .int 0 ∧ V x 10 = .int 0 ∧ V x 11 = .ref (ad 13) ∧ K (ad 13) = some (0, 7) ∧ V (ad 13) 3 = .int 0 ∧ V x 12 = .ref (ad 14) ∧ K (ad 14) = some (0, 7) ∧ V (ad 14) 3 = .int 0 ∧ V x 13 = .ref (ad 15) ∧ K (ad 15) = some (0, 7) ∧ V (ad 15) 3 = .int 0 ∧ V x 14 = .ref (ad 16) ∧ K (ad 16) = some (0, 7) ∧ V (ad 16) 3 = .int 0 ∧ V x 15 = .ref (ad 17) ∧ K (ad 17) = some (0, 7) ∧ V (ad 17) 3 = .int 0 ∧ V x 16 = .ref (ad 18) ∧ K (ad 18) = some (0, 7) ∧ V (ad 18) 0 = .int 1 ∧ V (ad 18) 1 = .int 7 ∧ V (ad 18) 2 = .ref (ad 19) ∧ K (ad 19) = some (1, 7) ∧ V (ad 18) 3 = .int 0 ∧ V x 17 = .ref (ad 20) ∧ K (ad 20) = some (0, 7) ∧ V (ad 20) 0 = .int 1 ∧ V (ad 20) 1 = .int 400 ∧ V (ad 20) 2 = .ref (ad 21) ∧ K (ad 21) = some (1, 400) ∧ V (ad 20) 3 = .int 0 ∧ V x 18 = .ref (ad 22) ∧ K (ad 22) = some (1, 11) ∧ V x 19 = .ref (ad 23) ∧ K (ad 23) = some (2, 8) ∧ ∀ j, V (ad 23) j = .long 0
def FX (K : Kmap) (V : Vmap) (x : Nat) : Prop := ∃ ad : Nat → Nat, FXa K V x ad
theorem FX.f0 {K : Kmap} {V : Vmap} {x : Nat} {ad : Nat → Nat} (h : FXa K V x ad) : K x = some (0, 10) := h.1
theorem FX.f1 {K : Kmap} {V : Vmap} {x : Nat} {ad : Nat → Nat} (h : FXa K V x ad) : V x 0 = .ref (ad 0) := h.2.1
theorem FX.f2 {K : Kmap} {V : Vmap} {x : Nat} {ad : Nat → Nat} (h : FXa K V x ad) : K (ad 0) = some (0, 0) := h.2.2.1
theorem FX.f3 {K : Kmap} {V : Vmap} {x : Nat} {ad : Nat → Nat} (h : FXa K V x ad) : V (ad 0) 0 = .int 0 := h.2.2.2.1
theorem FX.f4 {K : Kmap} {V : Vmap} {x : Nat} {ad : Nat → Nat} (h : FXa K V x ad) : V (ad 0) 3 = .int 8 := h.2.2.2.2.1
theorem FX.f5 {K : Kmap} {V : Vmap} {x : Nat} {ad : Nat → Nat} (h : FXa K V x ad) : V (ad 0) 4 = .int 8 := h.2.2.2.2.2.1
theorem FX.f6 {K : Kmap} {V : Vmap} {x : Nat} {ad : Nat → Nat} (h : FXa K V x ad) : V (ad 0) 5 = .ref (ad 1) := h.2.2.2.2.2.2.1
theorem FX.f7 {K : Kmap} {V : Vmap} {x : Nat} {ad : Nat → Nat} (h : FXa K V x ad) : K (ad 1) = some (1, 144) := h.2.2.2.2.2.2.2.1
theorem FX.f8 {K : Kmap} {V : Vmap} {x : Nat} {ad : Nat → Nat} (h : FXa K V x ad) : V (ad 0) 6 = .ref (ad 2) := h.2.2.2.2.2.2.2.2.1
theorem FX.f9 {K : Kmap} {V : Vmap} {x : Nat} {ad : Nat → Nat} (h : FXa K V x ad) : K (ad 2) = some (1, 144) := h.2.2.2.2.2.2.2.2.2.1
theorem FX.f10 {K : Kmap} {V : Vmap} {x : Nat} {ad : Nat → Nat} (h : FXa K V x ad) : V (ad 0) 7 = .ref (ad 3) := h.2.2.2.2.2.2.2.2.2.2.1
theorem FX.f11 {K : Kmap} {V : Vmap} {x : Nat} {ad : Nat → Nat} (h : FXa K V x ad) : K (ad 3) = some (1, 144) := h.2.2.2.2.2.2.2.2.2.2.2.1
theorem FX.f12 {K : Kmap} {V : Vmap} {x : Nat} {ad : Nat → Nat} (h : FXa K V x ad) : V (ad 0) 8 = .ref (ad 4) := h.2.2.2.2.2.2.2.2.2.2.2.2.1
theorem FX.f13 {K : Kmap} {V : Vmap} {x : Nat} {ad : Nat → Nat} (h : FXa K V x ad) : K (ad 4) = some (1, 144) := h.2.2.2.2.2.2.2.2.2.2.2.2.2.1
theorem FX.f14 {K : Kmap} {V : Vmap} {x : Nat} {ad : Nat → Nat} (h : FXa K V x ad) : V (ad 0) 9 = .ref (ad 5) := h.2.2.2.2.2.2.2.2.2.2.2.2.2.2.1
theorem FX.f15 {K : Kmap} {V : Vmap} {x : Nat} {ad : Nat → Nat} (h : FXa K V x ad) : K (ad 5) = some (1, 48) := h.2.2.2.2.2.2.2.2.2.2.2.2.2.2.2.1
theorem FX.f16 {K : Kmap} {V : Vmap} {x : Nat} {ad : Nat → Nat} (h : FXa K V x ad) : V (ad 0) 10 = .ref (ad 6) := h.2.2.2.2.2.2.2.2.2.2.2.2.2.2.2.2.1
theorem FX.f17 {K : Kmap} {V : Vmap} {x : Nat} {ad : Nat → Nat} (h : FXa K V x ad) : K (ad 6) = some (1, 4) := h.2.2.2.2.2.2.2.2.2.2.2.2.2.2.2.2.2.1
theorem FX.f18 {K : Kmap} {V : Vmap} {x : Nat} {ad : Nat → Nat} (h : FXa K V x ad) : V x 1 = .ref (ad 7) := h.2.2.2.2.2.2.2.2.2.2.2.2.2.2.2.2.2.2.1
theorem FX.f19 {K : Kmap} {V : Vmap} {x : Nat} {ad : Nat → Nat} (h : FXa K V x ad) : K (ad 7) = some (0, 1) := h.2.2.2.2.2.2.2.2.2.2.2.2.2.2.2.2.2.2.2.1
theorem FX.f20 {K : Kmap} {V : Vmap} {x : Nat} {ad : Nat → Nat} (h : FXa K V x ad) : V (ad 7) 1 = .int 0 := h.2.2.2.2.2.2.2.2.2.2.2.2.2.2.2.2.2.2.2.2.1
theorem FX.f21 {K : Kmap} {V : Vmap} {x : Nat} {ad : Nat → Nat} (h : FXa K V x ad) : V (ad 7) 2 = .ref (ad 8) := h.2.2.2.2.2.2.2.2.2.2.2.2.2.2.2.2.2.2.2.2.2.1
theorem FX.f22 {K : Kmap} {V : Vmap} {x : Nat} {ad : Nat → Nat} (h : FXa K V x ad) : K (ad 8) = some (0, 7) := h.2.2.2.2.2.2.2.2.2.2.2.2.2.2.2.2.2.2.2.2.2.2.1
theorem FX.f23 {K : Kmap} {V : Vmap} {x : Nat} {ad : Nat → Nat} (h : FXa K V x ad) : V (ad 8) 3 = .int 0 := h.2.2.2.2.2.2.2.2.2.2.2.2.2.2.2.2.2.2.2.2.2.2.2.1
theorem FX.f24 {K : Kmap} {V : Vmap} {x : Nat} {ad : Nat → Nat} (h : FXa K V x ad) : V x 2 = .ref (ad 9) := h.2.2.2.2.2.2.2.2.2.2.2.2.2.2.2.2.2.2.2.2.2.2.2.2.1
theorem FX.f25 {K : Kmap} {V : Vmap} {x : Nat} {ad : Nat → Nat} (h : FXa K V x ad) : K (ad 9) = some (0, 5) := h.2.2.2.2.2.2.2.2.2.2.2.2.2.2.2.2.2.2.2.2.2.2.2.2.2.1
theorem FX.f26 {K : Kmap} {V : Vmap} {x : Nat} {ad : Nat → Nat} (h : FXa K V x ad) : V (ad 9) 0 = .ref (ad 10) := h.2.2.2.2.2.2.2.2.2.2.2.2.2.2.2.2.2.2.2.2.2.2.2.2.2.2.1
theorem FX.f27 {K : Kmap} {V : Vmap} {x : Nat} {ad : Nat → Nat} (h : FXa K V x ad) : K (ad 10) = some (0, 7) := h.2.2.2.2.2.2.2.2.2.2.2.2.2.2.2.2.2.2.2.2.2.2.2.2.2.2.2.1
theorem FX.f28 {K : Kmap} {V : Vmap} {x : Nat} {ad : Nat → Nat} (h : FXa K V x ad) : V (ad 10) 3 = .int 0 := h.2.2.2.2.2.2.2.2.2.2.2.2.2.2.2.2.2.2.2.2.2.2.2.2.2.2.2.2.1
theorem FX.f29 {K : Kmap} {V : Vmap} {x : Nat} {ad : Nat → Nat} (h : FXa K V x ad) : V x 3 = .ref (ad 11) := h.2.2.2.2.2.2.2.2.2.2.2.2.2.2.2.2.2.2.2.2.2.2.2.2.2.2.2.2.2.1
theorem FX.f30 {K : Kmap} {V : Vmap} {x : Nat} {ad : Nat → Nat} (h : FXa K V x ad) : K (ad 11) = some (5, 9) := h.2.2.2.2.2.2.2.2.2.2.2.2.2.2.2.2.2.2.2.2.2.2.2.2.2.2.2.2.2.2.1
theorem FX.f31 {K : Kmap} {V : Vmap} {x : Nat} {ad : Nat → Nat} (h : FXa K V x ad) : V x 4 = .int 0 := h.2.2.2.2.2.2.2.2.2.2.2.2.2.2.2.2.2.2.2.2.2.2.2.2.2.2.2.2.2.2.2.1
theorem FX.f32 {K : Kmap} {V : Vmap} {x : Nat} {ad : Nat → Nat} (h : FXa K V x ad) : V x 5 = .ref (ad 12) := h.2.2.2.2.2.2.2.2.2.2.2.2.2.2.2.2.2.2.2.2.2.2.2.2.2.2.2.2.2.2.2.2.1
theorem FX.f33 {K : Kmap} {V : Vmap} {x : Nat} {ad : Nat → Nat} (h : FXa K V x ad) : K (ad 12) = some (6, 60) := h.2.2.2.2.2.2.2.2.2.2.2.2.2.2.2.2.2.2.2.2.2.2.2.2.2.2.2.2.2.2.2.2.2.1
theorem FX.f34 {K : Kmap} {V : Vmap} {x : Nat} {ad : Nat → Nat} (h : FXa K V x ad) : V x 6 = .int 0 := h.2.2.2.2.2.2.2.2.2.2.2.2.2.2.2.2.2.2.2.2.2.2.2.2.2.2.2.2.2.2.2.2.2.2.1
theorem FX.f35 {K : Kmap} {V : Vmap} {x : Nat} {ad : Nat → Nat} (h : FXa K V x ad) : V x 8 = .int 0 := h.2.2.2.2.2.2.2.2.2.2.2.2.2.2.2.2.2.2.2.2.2.2.2.2.2.2.2.2.2.2.2.2.2.2.2.1
theorem FX.f36 {K : Kmap} {V : Vmap} {x : Nat} {ad : Nat → Nat} (h : FXa K V x ad) : V x 10 = .int 0 := h.2.2.2.2.2.2.2.2.2.2.2.2.2.2.2.2.2.2.2.2.2.2.2.2.2.2.2.2.2.2.2.2.2.2.2.2.1
theorem FX.f37 {K : Kmap} {V : Vmap} {x : Nat} {ad : Nat → Nat} (h : FXa K V x ad) : V x 11 = .ref (ad 13) := h.2.2.2.2.2.2.2.2.2.2.2.2.2.2.2.2.2.2.2.2.2.2.2.2.2.2.2.2.2.2.2.2.2.2.2.2.2.1
theorem FX.f38 {K : Kmap} {V : Vmap} {x : Nat} {ad : Nat → Nat} (h : FXa K V x ad) : K (ad 13) = some (0, 7) := h.2.2.2.2.2.2.2.2.2.2.2.2.2.2.2.2.2.2.2.2.2.2.2.2.2.2.2.2.2.2.2.2.2.2.2.2.2.2.1
theorem FX.f39 {K : Kmap} {V : Vmap} {x : Nat} {ad : Nat → Nat} (h : FXa K V x ad) : V (ad 13) 3 = .int 0 := h.2.2.2.2.2.2.2.2.2.2.2.2.2.2.2.2.2.2.2.2.2.2.2.2.2.2.2.2.2.2.2.2.2.2.2.2.2.2.2.1
theorem FX.f40 {K : Kmap} {V : Vmap} {x : Nat} {ad : Nat → Nat} (h : FXa K V x ad) : V x 12 = .ref (ad 14) := h.2.2.2.2.2.2.2.2.2.2.2.2.2.2.2.2.2.2.2.2.2.2.2.2.2.2.2.2.2.2.2.2.2.2.2.2.2.2.2.2.1
theorem FX.f41 {K : Kmap} {V : Vmap} {x : Nat} {ad : Nat → Nat} (h : FXa K V x ad) : K (ad 14) = some (0, 7) := h.2.2.2.2.2.2.2.2.2.2.2.2.2.2.2.2.2.2.2.2.2.2.2.2.2.2.2.2.2.2.2.2.2.2.2.2.2.2.2.2.2.1
theorem FX.f42 {K : Kmap} {V : Vmap} {x : Nat} {ad : Nat → Nat} (h : FXa K V x ad) : V (ad 14) 3 = .int 0 := h.2.2.2.2.2.2.2.2.2.2.2.2.2.2.2.2.2.2.2.2.2.2.2.2.2.2.2.2.2.2.2.2.2.2.2.2.2.2.2.2.2.2.1
theorem FX.f43 {K : Kmap} {V : Vmap} {x : Nat} {ad : Nat → Nat} (h : FXa K V x ad) : V x 13 = .ref (ad 15) := h.2.2.2.2.2.2.2.2.2.2.2.2.2.2.2.2.2.2.2.2.2.2.2.2.2.2.2.2.2.2.2.2.2.2.2.2.2.2.2.2.2.2.2.1
theorem FX.f44 {K : Kmap} {V : Vmap} {x : Nat} {ad : Nat → Nat} (h : FXa K V x ad) : K (ad 15) = some (0, 7) := h.2.2.2.2.2.2.2.2.2.2.2.2.2.2.2.2.2.2.2.2.2.2.2.2.2.2.2.2.2.2.2.2.2.2.2.2.2.2.2.2.2.2.2.2.1
theorem FX.f45 {K : Kmap} {V : Vmap} {x : Nat} {ad : Nat → Nat} (h : FXa K V x ad) : V (ad 15) 3 = .int 0 := h.2.2.2.2.2.2.2.2.2.2.2.2.2.2.2.2.2.2.2.2.2.2.2.2.2.2.2.2.2.2.2.2.2.2.2.2.2.2.2.2.2.2.2.2.2.1
theorem FX.f46 {K : Kmap} {V : Vmap} {x : Nat} {ad : Nat → Nat} (h : FXa K V x ad) : V x 14 = .ref (ad 16) := h.2.2.2.2.2.2.2.2.2.2.2.2.2.2.2.2.2.2.2.2.2.2.2.2.2.2.2.2.2.2.2.2.2.2.2.2.2.2.2.2.2.2.2.2.2.2.1
theorem FX.f47 {K : Kmap} {V : Vmap} {x : Nat} {ad : Nat → Nat} (h : FXa K V x ad) : K (ad 16) = some (0, 7) := h.2.2.2.2.2.2.2.2.2.2.2.2.2.2.2.2.2.2.2.2.2.2.2.2.2.2.2.2.2.2.2.2.2.2.2.2.2.2.2.2.2.2.2.2.2.2.2.1
theorem FX.f48 {K : Kmap} {V : Vmap} {x : Nat} {ad : Nat → Nat} (h : FXa K V x ad) : V (ad 16) 3 = .int 0 := h.2.2.2.2.2.2.2.2.2.2.2.2.2.2.2.2.2.2.2.2.2.2.2.2.2.2.2.2.2.2.2.2.2.2.2.2.2.2.2.2.2.2.2.2.2.2.2.2.1
theorem FX.f49 {K : Kmap} {V : Vmap} {x : Nat} {ad : Nat → Nat} (h : FXa K V x ad) : V x 15 = .ref (ad 17) := h.2.2.2.2.2.2.2.2.2.2.2.2.2.2.2.2.2.2.2.2.2.2.2.2.2.2.2.2.2.2.2.2.2.2.2.2.2.2.2.2.2.2.2.2.2.2.2.2.2.1
theorem FX.f50 {K : Kmap} {V : Vmap} {x : Nat} {ad : Nat → Nat} (h : FXa K V x ad) : K (ad 17) = some (0, 7) := h.2.2.2.2.2.2.2.2.2.2.2.2.2.2.2.2.2.2.2.2.2.2.2.2.2.2.2.2.2.2.2.2.2.2.2.2.2.2.2.2.2.2.2.2.2.2.2.2.2.2.1
theorem FX.f51 {K : Kmap} {V : Vmap} {x : Nat} {ad : Nat → Nat} (h : FXa K V x ad) : V (ad 17) 3 = .int 0 := h.2.2.2.2.2.2.2.2.2.2.2.2.2.2.2.2.2.2.2.2.2.2.2.2.2.2.2.2.2.2.2.2.2.2.2.2.2.2.2.2.2.2.2.2.2.2.2.2.2.2.2.1
theorem FX.f52 {K : Kmap} {V : Vmap} {x : Nat} {ad : Nat → Nat} (h : FXa K V x ad) : V x 16 = .ref (ad 18) := h.2.2.2.2.2.2.2.2.2.2.2.2.2.2.2.2.2.2.2.2.2.2.2.2.2.2.2.2.2.2.2.2.2.2.2.2.2.2.2.2.2.2.2.2.2.2.2.2.2.2.2.2.1
theorem FX.f53 {K : Kmap} {V : Vmap} {x : Nat} {ad : Nat → Nat} (h : FXa K V x ad) : K (ad 18) = some (0, 7) := h.2.2.2.2.2.2.2.2.2.2.2.2.2.2.2.2.2.2.2.2.2.2.2.2.2.2.2.2.2.2.2.2.2.2.2.2.2.2.2.2.2.2.2.2.2.2.2.2.2.2.2.2.2.1
theorem FX.f54 {K : Kmap} {V : Vmap} {x : Nat} {ad : Nat → Nat} (h : FXa K V x ad) : V (ad 18) 0 = .int 1 := h.2.2.2.2.2.2.2.2.2.2.2.2.2.2.2.2.2.2.2.2.2.2.2.2.2.2.2.2.2.2.2.2.2.2.2.2.2.2.2.2.2.2.2.2.2.2.2.2.2.2.2.2.2.2.1
theorem FX.f55 {K : Kmap} {V : Vmap} {x : Nat} {ad : Nat → Nat} (h : FXa K V x ad) : V (ad 18) 1 = .int 7 := h.2.2.2.2.2.2.2.2.2.2.2.2.2.2.2.2.2.2.2.2.2.2.2.2.2.2.2.2.2.2.2.2.2.2.2.2.2.2.2.2.2.2.2.2.2.2.2.2.2.2.2.2.2.2.2.1
theorem FX.f56 {K : Kmap} {V : Vmap} {x : Nat} {ad : Nat → Nat} (h : FXa K V x ad) : V (ad 18) 2 = .ref (ad 19) := h.2.2.2.2.2.2.2.2.2.2.2.2.2.2.2.2.2.2.2.2.2.2.2.2.2.2.2.2.2.2.2.2.2.2.2.2.2.2.2.2.2.2.2.2.2.2.2.2.2.2.2.2.2.2.2.2.1
theorem FX.f57 {K : Kmap} {V : Vmap} {x : Nat} {ad : Nat → Nat} (h : FXa K V x ad) : K (ad 19) = some (1, 7) := h.2.2.2.2.2.2.2.2.2.2.2.2.2.2.2.2.2.2.2.2.2.2.2.2.2.2.2.2.2.2.2.2.2.2.2.2.2.2.2.2.2.2.2.2.2.2.2.2.2.2.2.2.2.2.2.2.2.1
theorem FX.f58 {K : Kmap} {V : Vmap} {x : Nat} {ad : Nat → Nat} (h : FXa K V x ad) : V (ad 18) 3 = .int 0 := h.2.2.2.2.2.2.2.2.2.2.2.2.2.2.2.2.2.2.2.2.2.2.2.2.2.2.2.2.2.2.2.2.2.2.2.2.2.2.2.2.2.2.2.2.2.2.2.2.2.2.2.2.2.2.2.2.2.2.1
theorem FX.f59 {K : Kmap} {V : Vmap} {x : Nat} {ad : Nat → Nat} (h : FXa K V x ad) : V x 17 = .ref (ad 20) := h.2.2.2.2.2.2.2.2.2.2.2.2.2.2.2.2.2.2.2.2.2.2.2.2.2.2.2.2.2.2.2.2.2.2.2.2.2.2.2.2.2.2.2.2.2.2.2.2.2.2.2.2.2.2.2.2.2.2.2.1
theorem FX.f60 {K : Kmap} {V : Vmap} {x : Nat} {ad : Nat → Nat} (h : FXa K V x ad) : K (ad 20) = some (0, 7) := h.2.2.2.2.2.2.2.2.2.2.2.2.2.2.2.2.2.2.2.2.2.2.2.2.2.2.2.2.2.2.2.2.2.2.2.2.2.2.2.2.2.2.2.2.2.2.2.2.2.2.2.2.2.2.2.2.2.2.2.2.1
theorem FX.f61 {K : Kmap} {V : Vmap} {x : Nat} {ad : Nat → Nat} (h : FXa K V x ad) : V (ad 20) 0 = .int 1 := h.2.2.2.2.2.2.2.2.2.2.2.2.2.2.2.2.2.2.2.2.2.2.2.2.2.2.2.2.2.2.2.2.2.2.2.2.2.2.2.2.2.2.2.2.2.2.2.2.2.2.2.2.2.2.2.2.2.2.2.2.2.1
theorem FX.f62 {K : Kmap} {V : Vmap} {x : Nat} {ad : Nat → Nat} (h : FXa K V x ad) : V (ad 20) 1 = .int 400 := h.2.2.2.2.2.2.2.2.2.2.2.2.2.2.2.2.2.2.2.2.2.2.2.2.2.2.2.2.2.2.2.2.2.2.2.2.2.2.2.2.2.2.2.2.2.2.2.2.2.2.2.2.2.2.2.2.2.2.2.2.2.2.1
theorem FX.f63 {K : Kmap} {V : Vmap} {x : Nat} {ad : Nat → Nat} (h : FXa K V x ad) : V (ad 20) 2 = .ref (ad 21) := h.2.2.2.2.2.2.2.2.2.2.2.2.2.2.2.2.2.2.2.2.2.2.2.2.2.2.2.2.2.2.2.2.2.2.2.2.2.2.2.2.2.2.2.2.2.2.2.2.2.2.2.2.2.2.2.2.2.2.2.2.2.2.2.1
theorem FX.f64 {K : Kmap} {V : Vmap} {x : Nat} {ad : Nat → Nat} (h : FXa K V x ad) : K (ad 21) = some (1, 400) := h.2.2.2.2.2.2.2.2.2.2.2.2.2.2.2.2.2.2.2.2.2.2.2.2.2.2.2.2.2.2.2.2.2.2.2.2.2.2.2.2.2.2.2.2.2.2.2.2.2.2.2.2.2.2.2.2.2.2.2.2.2.2.2.2.1
theorem FX.f65 {K : Kmap} {V : Vmap} {x : Nat} {ad : Nat → Nat} (h : FXa K V x ad) : V (ad 20) 3 = .int 0 := h.2.2.2.2.2.2.2.2.2.2.2.2.2.2.2.2.2.2.2.2.2.2.2.2.2.2.2.2.2.2.2.2.2.2.2.2.2.2.2.2.2.2.2.2.2.2.2.2.2.2.2.2.2.2.2.2.2.2.2.2.2.2.2.2.2.1
theorem FX.f66 {K : Kmap} {V : Vmap} {x : Nat} {ad : Nat → Nat} (h : FXa K V x ad) : V x 18 = .ref (ad 22) := h.2.2.2.2.2.2.2.2.2.2.2.2.2.2.2.2.2.2.2.2.2.2.2.2.2.2.2.2.2.2.2.2.2.2.2.2.2.2.2.2.2.2.2.2.2.2.2.2.2.2.2.2.2.2.2.2.2.2.2.2.2.2.2.2.2.2.1
theorem FX.f67 {K : Kmap} {V : Vmap} {x : Nat} {ad : Nat → Nat} (h : FXa K V x ad) : K (ad 22) = some (1, 11) := h.2.2.2.2.2.2.2.2.2.2.2.2.2.2.2.2.2.2.2.2.2.2.2.2.2.2.2.2.2.2.2.2.2.2.2.2.2.2.2.2.2.2.2.2.2.2.2.2.2.2.2.2.2.2.2.2.2.2.2.2.2.2.2.2.2.2.2.1
theorem FX.f68 {K : Kmap} {V : Vmap} {x : Nat} {ad : Nat → Nat} (h : FXa K V x ad) : V x 19 = .ref (ad 23) := h.2.2.2.2.2.2.2.2.2.2.2.2.2.2.2.2.2.2.2.2.2.2.2.2.2.2.2.2.2.2.2.2.2.2.2.2.2.2.2.2.2.2.2.2.2.2.2.2.2.2.2.2.2.2.2.2.2.2.2.2.2.2.2.2.2.2.2.2.1
theorem FX.f69 {K : Kmap} {V : Vmap} {x : Nat} {ad : Nat → Nat} (h : FXa K V x ad) : K (ad 23) = some (2, 8) := h.2.2.2.2.2.2.2.2.2.2.2.2.2.2.2.2.2.2.2.2.2.2.2.2.2.2.2.2.2.2.2.2.2.2.2.2.2.2.2.2.2.2.2.2.2.2.2.2.2.2.2.2.2.2.2.2.2.2.2.2.2.2.2.2.2.2.2.2.2.1
theorem FX.f70 {K : Kmap} {V : Vmap} {x : Nat} {ad : Nat → Nat} (h : FXa K V x ad) : ∀ j, V (ad 23) j = .long 0 := h.2.2.2.2.2.2.2.2.2.2.2.2.2.2.2.2.2.2.2.2.2.2.2.2.2.2.2.2.2.2.2.2.2.2.2.2.2.2.2.2.2.2.2.2.2.2.2.2.2.2.2.2.2.2.2.2.2.2.2.2.2.2.2.2.2.2.2.2.2.2

theorem FX.moved {K K1 : Kmap} {V V1 : Vmap} {x : Nat} (F : FX K V x) (hE : ∀ a k, K a = some k → K1 a = some k) (hF : ∀ b k, K b = some k → k ≠ (0, 11) → V1 b = V b) : FX K1 V1 x := by
  obtain ⟨ad, h⟩ := F
  exact ⟨ad, hE _ _ (FX.f0 h), (congrFun (hF _ _ (FX.f0 h) (by decide)) _).trans (FX.f1 h), hE _ _ (FX.f2 h), (congrFun (hF _ _ (FX.f2 h) (by decide)) _).trans (FX.f3 h), (congrFun (hF _ _ (FX.f2 h) (by decide)) _).trans (FX.f4 h), (congrFun (hF _ _ (FX.f2 h) (by decide)) _).trans (FX.f5 h), (congrFun (hF _ _ (FX.f2 h) (by decide)) _).trans (FX.f6 h), hE _ _ (FX.f7 h), (congrFun (hF _ _ (FX.f2 h) (by decide)) _).trans (FX.f8 h), hE _ _ (FX.f9 h), (congrFun (hF _ _ (FX.f2 h) (by decide)) _).trans (FX.f10 h), hE _ _ (FX.f11 h), (congrFun (hF _ _ (FX.f2 h) (by decide)) _).trans (FX.f12 h), hE _ _ (FX.f13 h), (congrFun (hF _ _ (FX.f2 h) (by decide)) _).trans (FX.f14 h), hE _ _ (FX.f15 h), (congrFun (hF _ _ (FX.f2 h) (by decide)) _).trans (FX.f16 h), hE _ _ (FX.f17 h), (congrFun (hF _ _ (FX.f0 h) (by decide)) _).trans (FX.f18 h), hE _ _ (FX.f19 h), (congrFun (hF _ _ (FX.f19 h) (by decide)) _).trans (FX.f20 h), (congrFun (hF _ _ (FX.f19 h) (by decide)) _).trans (FX.f21 h), hE _ _ (FX.f22 h), (congrFun (hF _ _ (FX.f22 h) (by decide)) _).trans (FX.f23 h), (congrFun (hF _ _ (FX.f0 h) (by decide)) _).trans (FX.f24 h), hE _ _ (FX.f25 h), (congrFun (hF _ _ (FX.f25 h) (by decide)) _).trans (FX.f26 h), hE _ _ (FX.f27 h), (congrFun (hF _ _ (FX.f27 h) (by decide)) _).trans (FX.f28 h), (congrFun (hF _ _ (FX.f0 h) (by decide)) _).trans (FX.f29 h), hE _ _ (FX.f30 h), (congrFun (hF _ _ (FX.f0 h) (by decide)) _).trans (FX.f31 h), (congrFun (hF _ _ (FX.f0 h) (by decide)) _).trans (FX.f32 h), hE _ _ (FX.f33 h), (congrFun (hF _ _ (FX.f0 h) (by decide)) _).trans (FX.f34 h), (congrFun (hF _ _ (FX.f0 h) (by decide)) _).trans (FX.f35 h), (congrFun (hF _ _ (FX.f0 h) (by decide)) _).trans (FX.f36 h), (congrFun (hF _ _ (FX.f0 h) (by decide)) _).trans (FX.f37 h), hE _ _ (FX.f38 h), (congrFun (hF _ _ (FX.f38 h) (by decide)) _).trans (FX.f39 h), (congrFun (hF _ _ (FX.f0 h) (by decide)) _).trans (FX.f40 h), hE _ _ (FX.f41 h), (congrFun (hF _ _ (FX.f41 h) (by decide)) _).trans (FX.f42 h), (congrFun (hF _ _ (FX.f0 h) (by decide)) _).trans (FX.f43 h), hE _ _ (FX.f44 h), (congrFun (hF _ _ (FX.f44 h) (by decide)) _).trans (FX.f45 h), (congrFun (hF _ _ (FX.f0 h) (by decide)) _).trans (FX.f46 h), hE _ _ (FX.f47 h), (congrFun (hF _ _ (FX.f47 h) (by decide)) _).trans (FX.f48 h), (congrFun (hF _ _ (FX.f0 h) (by decide)) _).trans (FX.f49 h), hE _ _ (FX.f50 h), (congrFun (hF _ _ (FX.f50 h) (by decide)) _).trans (FX.f51 h), (congrFun (hF _ _ (FX.f0 h) (by decide)) _).trans (FX.f52 h), hE _ _ (FX.f53 h), (congrFun (hF _ _ (FX.f53 h) (by decide)) _).trans (FX.f54 h), (congrFun (hF _ _ (FX.f53 h) (by decide)) _).trans (FX.f55 h), (congrFun (hF _ _ (FX.f53 h) (by decide)) _).trans (FX.f56 h), hE _ _ (FX.f57 h), (congrFun (hF _ _ (FX.f53 h) (by decide)) _).trans (FX.f58 h), (congrFun (hF _ _ (FX.f0 h) (by decide)) _).trans (FX.f59 h), hE _ _ (FX.f60 h), (congrFun (hF _ _ (FX.f60 h) (by decide)) _).trans (FX.f61 h), (congrFun (hF _ _ (FX.f60 h) (by decide)) _).trans (FX.f62 h), (congrFun (hF _ _ (FX.f60 h) (by decide)) _).trans (FX.f63 h), hE _ _ (FX.f64 h), (congrFun (hF _ _ (FX.f60 h) (by decide)) _).trans (FX.f65 h), (congrFun (hF _ _ (FX.f0 h) (by decide)) _).trans (FX.f66 h), hE _ _ (FX.f67 h), (congrFun (hF _ _ (FX.f0 h) (by decide)) _).trans (FX.f68 h), hE _ _ (FX.f69 h), fun j => (congrFun (hF _ _ (FX.f69 h) (by decide)) j).trans ((FX.f70 h) j)⟩
theorem FX.kind {K : Kmap} {V : Vmap} {x : Nat} (F : FX K V x) : K x = some (0, 10) := by
  obtain ⟨ad, h⟩ := F
  exact FX.f0 h

def mrefs : List (Nat × Nat × Nat) := [(5, (1, 144)), (6, (1, 144)), (7, (1, 144)), (8, (1, 144)), (11, (1, 9)), (12, (1, 9)), (13, (1, 60)), (14, (1, 60)), (15, (1, 60)), (16, (1, 60)), (17, (1, 60)), (18, (1, 60)), (19, (1, 60)), (20, (1, 60)), (21, (1, 60)), (22, (1, 60)), (23, (1, 240)), (24, (1, 60)), (25, (1, 60)), (26, (1, 600)), (27, (1, 600)), (28, (4, 60)), (29, (3, 400)), (39, (1, 220)), (40, (1, 220)), (41, (1, 12)), (42, (1, 12)), (43, (1, 12)), (44, (1, 12)), (45, (1, 12)), (46, (1, 12)), (49, (1, 4400)), (50, (1, 20)), (51, (1, 20)), (52, (1, 20)), (53, (1, 240)), (54, (1, 240)), (55, (1, 240)), (56, (1, 240)), (57, (1, 240)), (58, (1, 240)), (59, (1, 180)), (60, (1, 2200)), (61, (1, 20)), (62, (1, 20)), (63, (1, 20)), (64, (4, 20)), (65, (4, 240)), (67, (1, 100)), (68, (1, 100)), (69, (1, 100)), (70, (1, 100)), (71, (1, 100)), (72, (1, 100)), (73, (1, 100)), (74, (1, 100)), (75, (1, 100)), (76, (1, 100)), (77, (1, 100)), (78, (1, 100)), (79, (1, 100)), (80, (1, 900)), (81, (1, 220)), (94, (1, 10)), (95, (1, 10)), (96, (1, 10)), (97, (1, 10)), (98, (1, 10)), (99, (1, 10)), (100, (1, 10)), (101, (1, 10)), (102, (1, 10)), (103, (1, 10)), (104, (1, 10)), (105, (1, 48)), (106, (1, 4)), (107, (1, 40)), (108, (1, 40)), (109, (1, 40)), (110, (1, 40)), (111, (4, 40)), (112, (1, 60)), (113, (1, 60)), (114, (1, 60)), (115, (1, 60)), (116, (1, 60)), (117, (1, 144)), (121, (1, 60)), (122, (1, 480)), (123, (1, 480)), (124, (1, 10)), (125, (1, 10)), (126, (1, 10)), (127, (1, 10)), (128, (1, 200)), (129, (1, 200)), (130, (1, 200)), (131, (1, 200)), (132, (1, 200)), (134, (1, 7)), (135, (4, 63)), (136, (4, 441)), (139, (1, 8)), (140, (1, 8)), (141, (1, 24)), (142, (1, 24)), (143, (1, 8)), (144, (1, 8)), (146, (1, 200)), (147, (1, 200)), (148, (1, 200)), (149, (1, 200)), (150, (4, 200))]
def mints : List (Nat × Int32) := [(0, 8), (1, 8), (2, 0), (9, 0), (10, 0), (30, 0), (31, 0), (32, 0), (33, 0), (34, 0), (35, 0), (36, 0), (37, 0), (38, 0), (47, 0), (48, 0), (66, 0), (82, 0), (91, 0), (92, 0), (93, 0), (118, 0), (119, 100), (120, 0), (133, 0), (137, 0), (138, 0), (145, 0)]
def mlongs : List Nat := [83, 84, 85, 86, 87, 88, 89, 90]
def FM (K : Kmap) (V : Vmap) (x : Nat) : Prop := K x = some (0, 11) ∧ (∀ r ∈ mrefs, ∃ q, V x r.1 = .ref q ∧ K q = some r.2) ∧ (∀ r ∈ mints, V x r.1 = .int r.2) ∧ ∀ k ∈ mlongs, V x k = .long 0
def MI (K0 : Kmap) (V0 : Vmap) (K : Kmap) (V : Vmap) (x : Nat) (done : List (Nat × Nat × Nat)) (vals : List (Nat × Value)) (wr : List Nat) : Prop :=
  K x = some (0, 11) ∧ (∀ r ∈ done, ∃ q, V x r.1 = .ref q ∧ K q = some r.2 ∧ K0 q = none) ∧ (∀ r ∈ vals, V x r.1 = r.2) ∧ (∀ k, k ∉ wr → V x k = defaultValue (tyX12 k)) ∧ (∀ b, K0 b ≠ none → b ≠ x → V b = V0 b) ∧ ∀ a k, K0 a = some k → K a = some k
theorem MI.kx {K0 K K1 : Kmap} {V0 V : Vmap} {x q : Nat} {kd : Nat × Nat} {done : List (Nat × Nat × Nat)} {vals : List (Nat × Value)} {wr : List Nat} (h : MI K0 V0 K V x done vals wr) (hq : K q = none) (hK : K1 = updK K q kd) : K1 x = some (0, 11) := by
  rw [hK, updK_ne (K_old h.1 hq)]; exact h.1
theorem MI.newput {K0 K K1 : Kmap} {V0 V V1 V2 : Vmap} {x q k : Nat} {kd : Nat × Nat} {done : List (Nat × Nat × Nat)} {vals : List (Nat × Value)} {wr : List Nat} (h : MI K0 V0 K V x done vals wr) (hq : K q = none) (hK : K1 = updK K q kd) (hVo : ∀ b, b ≠ q → V1 b = V b) (hV : V2 = upd2 V1 x k (.ref q)) (hd : done.all (fun r => r.1 != k) = true) (hv : vals.all (fun r => r.1 != k) = true) : MI K0 V0 K1 V2 x ((k, kd) :: done) vals (k :: wr) := by
  obtain ⟨h1, h2, h3, h4, h5, h6⟩ := h
  have hxq : x ≠ q := K_old h1 hq
  have hK0q : K0 q = none := by
    cases e : K0 q with
    | none => rfl
    | some kk => rw [h6 q kk e] at hq; cases hq
  have hE : ∀ a kk, K a = some kk → K1 a = some kk := fun a kk ha => by rw [hK, updK_ne (K_old ha hq)]; exact ha
  have hx : ∀ j, j ≠ k → V2 x j = V x j := fun j hj => by rw [hV, upd2_ne (Or.inr hj), hVo x hxq]
  refine ⟨hE _ _ h1, fun r hr => ?_, fun r hr => ?_, fun j hj => ?_, fun b hb hbx => ?_, fun a kk ha => hE a kk (h6 a kk ha)⟩
  · rcases List.mem_cons.mp hr with rfl | hr
    · exact ⟨q, by rw [hV]; exact upd2_same _ _ _ _, by rw [hK]; exact updK_same, hK0q⟩
    · obtain ⟨q2, e1, e2, e3⟩ := h2 r hr
      have hne : r.1 ≠ k := by simpa using List.all_eq_true.mp hd r hr
      exact ⟨q2, by rw [hx _ hne]; exact e1, hE _ _ e2, e3⟩
  · have hne : r.1 ≠ k := by simpa using List.all_eq_true.mp hv r hr
    rw [hx _ hne]; exact h3 r hr
  · have h7 : j ≠ k ∧ j ∉ wr := by simpa using hj
    rw [hx _ h7.1]; exact h4 j h7.2
  · rw [hV, upd2_other hbx, hVo b (th_bold hb hK0q)]
    exact h5 b hb hbx
theorem MI.put {K0 K : Kmap} {V0 V V2 : Vmap} {x k : Nat} {v : Value} {done : List (Nat × Nat × Nat)} {vals : List (Nat × Value)} {wr : List Nat} (h : MI K0 V0 K V x done vals wr) (hV : V2 = upd2 V x k v) (hd : done.all (fun r => r.1 != k) = true) (hv : vals.all (fun r => r.1 != k) = true) : MI K0 V0 K V2 x done ((k, v) :: vals) (k :: wr) := by
  obtain ⟨h1, h2, h3, h4, h5, h6⟩ := h
  have hx : ∀ j, j ≠ k → V2 x j = V x j := fun j hj => by rw [hV, upd2_ne (Or.inr hj)]
  refine ⟨h1, fun r hr => ?_, fun r hr => ?_, fun j hj => ?_, fun b hb hbx => ?_, h6⟩
  · obtain ⟨q2, e1, e2⟩ := h2 r hr
    have hne : r.1 ≠ k := by simpa using List.all_eq_true.mp hd r hr
    exact ⟨q2, by rw [hx _ hne]; exact e1, e2⟩
  · rcases List.mem_cons.mp hr with rfl | hr
    · rw [hV]; exact upd2_same _ _ _ _
    · have hne : r.1 ≠ k := by simpa using List.all_eq_true.mp hv r hr
      rw [hx _ hne]; exact h3 r hr
  · have h7 : j ≠ k ∧ j ∉ wr := by simpa using hj
    rw [hx _ h7.1]; exact h4 j h7.2
  · rw [hV, upd2_other hbx]
    exact h5 b hb hbx
theorem MI.begins {K0 K : Kmap} {V0 V V2 : Vmap} {x a b c d : Nat} {v w : Value} {done : List (Nat × Nat × Nat)} {vals : List (Nat × Value)} {wr : List Nat} (h : MI K0 V0 K V x done vals wr) (hF : ∀ q, K q ≠ none → q ≠ x → q ≠ a → q ≠ b → q ≠ c → q ≠ d → V2 q = V q) (ha : K0 a = none) (hb : K0 b = none) (hc : K0 c = none) (hd0 : K0 d = none) (hv0 : V2 x 0 = v) (hv1 : V2 x 1 = w) (hQ : ∀ k, k ≠ 0 → k ≠ 1 → V2 x k = V x k) (hd : done.all (fun r => r.1 != 0 && r.1 != 1) = true) (hv : vals.all (fun r => r.1 != 0 && r.1 != 1) = true) : MI K0 V0 K V2 x done ((0, v) :: (1, w) :: vals) (0 :: 1 :: wr) := by
  obtain ⟨h1, h2, h3, h4, h5, h6⟩ := h
  refine ⟨h1, fun r hr => ?_, fun r hr => ?_, fun j hj => ?_, fun q hq hqx => ?_, h6⟩
  · obtain ⟨q2, e1, e2⟩ := h2 r hr
    have hne : r.1 ≠ 0 ∧ r.1 ≠ 1 := by simpa using List.all_eq_true.mp hd r hr
    exact ⟨q2, by rw [hQ _ hne.1 hne.2]; exact e1, e2⟩
  · rcases List.mem_cons.mp hr with rfl | hr
    · exact hv0
    · rcases List.mem_cons.mp hr with rfl | hr
      · exact hv1
      · have hne : r.1 ≠ 0 ∧ r.1 ≠ 1 := by simpa using List.all_eq_true.mp hv r hr
        rw [hQ _ hne.1 hne.2]; exact h3 r hr
  · have h7 : j ≠ 0 ∧ j ≠ 1 ∧ j ∉ wr := by simpa using hj
    rw [hQ _ h7.1 h7.2.1]; exact h4 j h7.2.2
  · have hqK : K q ≠ none := th_some h6 hq
    rw [hF q hqK hqx (th_bold hq ha) (th_bold hq hb) (th_bold hq hc) (th_bold hq hd0)]
    exact h5 q hq hqx
theorem MI.row {K0 K : Kmap} {V0 V V2 : Vmap} {x : Nat} {done : List (Nat × Nat × Nat)} {vals : List (Nat × Value)} {wr : List Nat} (h : MI K0 V0 K V x done vals wr) (hx : K0 x = some (0, 11)) (hF : ∀ b, K0 b ≠ none → V2 b = V b) : MI K0 V0 K V2 x done vals wr := by
  obtain ⟨h1, h2, h3, h4, h5, h6⟩ := h
  have e : V2 x = V x := hF x (by rw [hx]; exact fun h => by cases h)
  exact ⟨h1, fun r hr => by rw [e]; exact h2 r hr, fun r hr => by rw [e]; exact h3 r hr, fun k hk => by rw [e]; exact h4 k hk, fun b hb hbx => (hF b hb).trans (h5 b hb hbx), h6⟩
theorem MI.fm {K0 K : Kmap} {V0 V : Vmap} {x : Nat} {done : List (Nat × Nat × Nat)} {vals : List (Nat × Value)} {wr : List Nat} (h : MI K0 V0 K V x done vals wr) (hr : ∀ r ∈ mrefs, r ∈ done) (hi : ∀ r ∈ mints, (r.1, Value.int r.2) ∈ vals ∨ (r.1 ∉ wr ∧ defaultValue (tyX12 r.1) = .int r.2)) (hl : ∀ k ∈ mlongs, k ∉ wr ∧ defaultValue (tyX12 k) = .long 0) : FM K V x := by
  obtain ⟨h1, h2, h3, h4, h5, h6⟩ := h
  refine ⟨h1, fun r hm => ?_, fun r hm => ?_, fun k hk => ?_⟩
  · obtain ⟨q, e1, e2, -⟩ := h2 r (hr r hm)
    exact ⟨q, e1, e2⟩
  · rcases hi r hm with h | ⟨h, e⟩
    · exact h3 _ h
    · rw [h4 _ h, e]
  · rw [h4 _ (hl k hk).1, (hl k hk).2]
/-- the model's memory stays where its row stays -/
theorem FM.moved {K K1 : Kmap} {V V1 : Vmap} {x : Nat} (F : FM K V x) (hE : ∀ a k, K a = some k → K1 a = some k) (hF : V1 x = V x) : FM K1 V1 x := by
  obtain ⟨h1, h2, h3, h4⟩ := F
  refine ⟨hE _ _ h1, fun r hr => ?_, fun r hr => ?_, fun k hk => ?_⟩
  · obtain ⟨q, e1, e2⟩ := h2 r hr
    exact ⟨q, by rw [hF]; exact e1, hE _ _ e2⟩
  · rw [hF]; exact h3 r hr
  · rw [hF]; exact h4 k hk
