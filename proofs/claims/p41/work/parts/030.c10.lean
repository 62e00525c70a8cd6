/-! ### rows of the class with tags of their own -/
section C10
variable {M : MRec} {K0 : Kmap} {V0 : Vmap} {Φ : Option Value → Kmap → Vmap → Prop} {K : Kmap} {V : Vmap} {cells slots pc : Nat} {ls : List (Option Value)} {st : List Value}
/-- an int array of the class, with a tag of its own -/
theorem GO.newIT {X : Int} (t N : Nat) (hw : Cond.arrayClass (newarray.typeOf .int) ∈ gw) (ht : Nat.ble (t + 1) NT = true) (hbt : bt t = 0) (hd : ∀ K n, okv K (fT (t + 1, n) 0) (.int 0)) (hX : ir X) (h0 : 0 ≤ X) (h1 : X ≤ N) (h2 : Nat.ble N 5000 = true) (hl : lentab.getD t 0 = 0 ∨ X = ((lentab.getD t 0 : Nat) : Int)) (hcells : Nat.ble (cells + 1) (m_mc M) = true) (hslots : Nat.ble (slots + N) (m_ms M) = true) (d : Dc M pc (.newarray .int) 2)
    (kk : ∀ (q : Nat) (K1 : Kmap) (V1 : Vmap), K q = none → K1 = updK K q (t + 1, X.toNat) → ext K K1 → K1 q = some (t + 1, X.toNat) → (∀ j, V1 q j = .int 0) → (∀ b, b ≠ q → V1 b = V b) → GO M K0 V0 Φ K1 V1 (cells + 1) (slots + N) (pc + 2) ls (.ref q :: st)) : GO M K0 V0 Φ K V cells slots pc ls (ti X :: st) := fun p l e s m args below meth c D dA H locs lsA C hn S hW hF hS hL => by
  have ht := Nat.le_of_ble_eq_true ht
  have h2 := Nat.le_of_ble_eq_true h2
  have hs := Nat.le_of_ble_eq_true hslots
  have hXn : X.toNat ≤ N := by omega
  have hty : tyOf t = .int := by unfold tyOf; rw [hbt]; rfl
  refine sg_newa (N := X.toNat) C S (atype := .int) t (by omega) hty hw (fun _ _ h => h) (by rw [ti_int hX]; omega) (by show X.toNat * 4 ≤ _; omega) (Nat.le_of_ble_eq_true hcells) (by show _ ≤ m_ms M; omega) d fun q K1 V1 H1 h3 h4 h5 h6 S1 => ?_
  refine W.widen (Nat.le_refl _) (show slots + X.toNat ≤ slots + N by omega) ?_
  exact kk q K1 V1 h3 h4 (h4 ▸ ext.upd h3) (by rw [h4]; exact updK_same) h5 h6 p l e s m args below meth c D dA H1 locs lsA C hn S1 (hW.new h3 h4 ⟨by omega, by show X.toNat ≤ 5000; omega, hl.imp id (fun h => by show X.toNat = _; omega)⟩ (fun j hj => by rw [h5 j]; exact hd K X.toNat) h6) (hF.new S.2.2.2 h3 h4 h6) hS hL
end C10
