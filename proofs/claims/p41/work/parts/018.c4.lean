section GOS
variable {M : MRec} {K0 : Kmap} {V0 : Vmap} {Φ : Option Value → Kmap → Vmap → Prop} {K : Kmap} {V : Vmap} {cells slots pc : Nat} {ls : List (Option Value)} {st : List Value}
theorem GO.iast {a t n : Nat} {X Y lo hi : Int} (ht : bt t = 0) (he : fT (t + 1, n) 0 = (0, 0, 0, lo, hi)) (hw : (m_ws M).testBit (abase + (t + 1)) = true) (ha : K a = some (t + 1, n)) (hX : ir X) (h0 : 0 ≤ X) (h1 : X < n) (hY : ir Y) (h2 : lo ≤ Y) (h3 : Y ≤ hi) (d : Dc M pc .iastore 1) (kk : ∀ V1 : Vmap, V1 = upd2 V a X.toNat (ti Y) → GO M K0 V0 Φ K V1 cells slots (pc + 1) ls st) : GO M K0 V0 Φ K V cells slots pc ls (ti Y :: ti X :: .ref a :: st) := fun p l e s m args below meth c D dA H locs lsA C hn S hW hF hS hL => by
  have C0 := C
  obtain ⟨hx, hb, -, -, -, hown, hts, hKN⟩ := C
  have h9 := (hKN.2.2.1 t (hW.len ha).1).1 n (V a)
  have hty : tyOf t = .int := by unfold tyOf; rw [ht]; rfl
  rw [hty] at h9
  have e1 : (Int32.ofInt X).toNatClampNeg = X.toNat := by show (Int32.ofInt X).toInt.toNat = _; rw [ti_int hX]
  refine W.iast hx hb (S.1 a _ ha) h9 (fun q => by cases q) (by rw [arrV_size]; exact th_hin (by rw [ti_int hX]; exact h0) (by rw [ti_int hX]; exact h1)) rfl rfl d fun H1 eh z oq => ?_
  refine kk _ rfl p l e s m args below meth c D dA H1 _ lsA C0 hn (S.put ha ?_ (fun b hb => upd2_other hb) z oq) (hW.put ha (by rw [show fT (t + 1, n) X.toNat = fT (t + 1, n) 0 from rfl, he]; exact okv_int hY h2 h3) rfl) (hF.put (j := X.toNat) ha hw rfl) hS hL
  show H1[a]? = some (arrV (dA (bt t)) n (upd2 V a _ _ a))
  rw [eh, arrV_store, upd2_row, e1]
  rfl
theorem GO.zast {a t n : Nat} {X Y lo hi : Int} (ht : bt t = 3) (he : fT (t + 1, n) 0 = (0, 0, 0, lo, hi)) (hw : (m_ws M).testBit (abase + (t + 1)) = true) (ha : K a = some (t + 1, n)) (hX : ir X) (h0 : 0 ≤ X) (h1 : X < n) (hz : Y = 0 ∨ Y = 1) (h2 : lo ≤ Y) (h3 : Y ≤ hi) (d : Dc M pc .bastore 1) (kk : ∀ V1 : Vmap, V1 = upd2 V a X.toNat (ti Y) → GO M K0 V0 Φ K V1 cells slots (pc + 1) ls st) : GO M K0 V0 Φ K V cells slots pc ls (ti Y :: ti X :: .ref a :: st) := fun p l e s m args below meth c D dA H locs lsA C hn S hW hF hS hL => by
  have C0 := C
  obtain ⟨hx, hb, -, -, -, hown, hts, hKN⟩ := C
  have h9 := (hKN.2.2.1 t (hW.len ha).1).1 n (V a)
  have hty : tyOf t = .boolean := by unfold tyOf; rw [ht]; rfl
  rw [hty] at h9
  have hY : ir Y := by rcases hz with rfl | rfl <;> exact ⟨by omega, by omega⟩
  have hnr : narrow .boolean (.int (Int32.ofInt Y)) = .int (Int32.ofInt Y) := by rcases hz with rfl | rfl <;> rfl
  have e1 : (Int32.ofInt X).toNatClampNeg = X.toNat := by show (Int32.ofInt X).toInt.toNat = _; rw [ti_int hX]
  refine W.zast hx hb (S.1 a _ ha) h9 (fun q => by cases q) (by rw [arrV_size]; exact th_hin (by rw [ti_int hX]; exact h0) (by rw [ti_int hX]; exact h1)) rfl rfl d fun H1 eh z oq => ?_
  refine kk _ rfl p l e s m args below meth c D dA H1 _ lsA C0 hn (S.put ha ?_ (fun b hb => upd2_other hb) z oq) (hW.put ha (by rw [show fT (t + 1, n) X.toNat = fT (t + 1, n) 0 from rfl, he]; exact okv_int hY h2 h3) rfl) (hF.put (j := X.toNat) ha hw rfl) hS hL
  show H1[a]? = some (arrV (dA (bt t)) n (upd2 V a _ _ a))
  rw [eh, hnr, arrV_store, upd2_row, e1]
  rfl
theorem wi2b_rng {X : Int} : -128 ≤ wi2b X ∧ wi2b X ≤ 127 := by
  unfold wi2b
  have h1 := Int8.le_toInt (Int32.ofInt X).toInt8
  have h2 := Int8.toInt_lt (Int32.ofInt X).toInt8
  rw [Int8.toInt_toInt32]
  constructor <;> omega
theorem GO.bast {a t n : Nat} {X Y : Int} (ht : bt t = 2) (he : fT (t + 1, n) 0 = (0, 0, 0, -128, 127)) (hw : (m_ws M).testBit (abase + (t + 1)) = true) (ha : K a = some (t + 1, n)) (hX : ir X) (h0 : 0 ≤ X) (h1 : X < n) (d : Dc M pc .bastore 1) (kk : ∀ V1 : Vmap, V1 = upd2 V a X.toNat (ti (wi2b Y)) → GO M K0 V0 Φ K V1 cells slots (pc + 1) ls st) : GO M K0 V0 Φ K V cells slots pc ls (ti Y :: ti X :: .ref a :: st) := fun p l e s m args below meth c D dA H locs lsA C hn S hW hF hS hL => by
  have C0 := C
  obtain ⟨hx, hb, -, -, -, hown, hts, hKN⟩ := C
  have h9 := (hKN.2.2.1 t (hW.len ha).1).1 n (V a)
  have hty : tyOf t = .byte := by unfold tyOf; rw [ht]; rfl
  rw [hty] at h9
  have e1 : (Int32.ofInt X).toNatClampNeg = X.toNat := by show (Int32.ofInt X).toInt.toNat = _; rw [ti_int hX]
  have e2 : Value.int ((Int32.ofInt Y).toInt8.toInt32) = ti (wi2b Y) := ti_of _
  refine W.bast hx hb (S.1 a _ ha) h9 (fun q => by cases q) (by rw [arrV_size]; exact th_hin (by rw [ti_int hX]; exact h0) (by rw [ti_int hX]; exact h1)) rfl rfl d fun H1 eh z oq => ?_
  refine kk _ rfl p l e s m args below meth c D dA H1 _ lsA C0 hn (S.put ha ?_ (fun b hb => upd2_other hb) z oq) (hW.put ha (by rw [show fT (t + 1, n) X.toNat = fT (t + 1, n) 0 from rfl, he]; exact okv_int (wi2b_ir) wi2b_rng.1 wi2b_rng.2) rfl) (hF.put (j := X.toNat) ha hw rfl) hS hL
  show H1[a]? = some (arrV (dA (bt t)) n (upd2 V a _ _ a))
  rw [eh, arrV_store, upd2_row, e1, ← e2]
  rfl
theorem GO.last {a n : Nat} {X : Int} {Y : Int64} (hw : (m_ws M).testBit (abase + 2) = true) (ha : K a = some (2, n)) (hX : ir X) (h0 : 0 ≤ X) (h1 : X < n) (d : Dc M pc .lastore 1) (kk : ∀ V1 : Vmap, V1 = upd2 V a X.toNat (.long Y) → GO M K0 V0 Φ K V1 cells slots (pc + 1) ls st) : GO M K0 V0 Φ K V cells slots pc ls (.long Y :: ti X :: .ref a :: st) := fun p l e s m args below meth c D dA H locs lsA C hn S hW hF hS hL => by
  have C0 := C
  obtain ⟨hx, hb, -, -, -, hown, hts, hKN⟩ := C
  have e1 : (Int32.ofInt X).toNatClampNeg = X.toNat := by show (Int32.ofInt X).toInt.toNat = _; rw [ti_int hX]
  refine W.last hx hb (S.1 a _ ha) ((hKN.2.2.1 1 (by decide)).1 n (V a)) (fun q => by cases q) (by rw [arrV_size]; exact th_hin (by rw [ti_int hX]; exact h0) (by rw [ti_int hX]; exact h1)) rfl rfl d fun H1 eh z oq => ?_
  refine kk _ rfl p l e s m args below meth c D dA H1 _ lsA C0 hn (S.put ha ?_ (fun b hb => upd2_other hb) z oq) (hW.put ha ⟨Y, rfl⟩ rfl) (hF.put (j := X.toNat) ha hw rfl) hS hL
  show H1[a]? = some (arrV (dA (bt 1)) n (upd2 V a _ _ a))
  rw [eh, arrV_store, upd2_row, e1]
theorem GO.aast {a t ci n v : Nat} {X : Int} (hty0 : t < NT) (T : vw_C) (hc : TCl[ci]? = some T) (hty : tyOf t = .object T.1) (he : fT (t + 1, n) 0 = (2, 0, ci, 0, 0)) (hw : (m_ws M).testBit (abase + (t + 1)) = true) (ha : K a = some (t + 1, n)) (hv : K v = some (0, ci)) (hX : ir X) (h0 : 0 ≤ X) (h1 : X < n) (d : Dc M pc .aastore 1) (kk : ∀ V1 : Vmap, V1 = upd2 V a X.toNat (.ref v) → GO M K0 V0 Φ K V1 cells slots (pc + 1) ls st) : GO M K0 V0 Φ K V cells slots pc ls (.ref v :: ti X :: .ref a :: st) := fun p l e s m args below meth c D dA H locs lsA C hn S hW hF hS hL => by
  refine sg_aast C S hty0 T hc hty ha hv (by rw [ti_int hX]; exact h0) (by rw [ti_int hX]; exact h1) d fun V1 H1 locs1 e1 S1 => ?_
  rw [ti_int hX] at e1
  exact kk V1 e1 p l e s m args below meth c D dA H1 locs1 lsA C hn S1 (hW.put ha (by rw [show fT (t + 1, n) X.toNat = fT (t + 1, n) 0 from rfl, he]; exact Or.inr ⟨v, rfl, hv⟩) e1) (hF.put (j := X.toNat) ha hw e1) hS hL
/-! what is new -/
theorem GO.new {ci index : Nat} (T : vw_C) (ty : Nat → FieldType) (hc : TCl[ci]? = some T) (hr : rawC ci = true) (hin : ∀ w ∈ u_ws T.1 T.2.1 T.2.2, w ∈ gw) (hty : ∀ k, k < T.2.2 → parseFieldDescriptor (T.2.1 k).2.2.1 = some (ty k)) (hw1 : Cond.classLink (m_own M) index T.1 ∈ gw) (hw2 : Cond.instantiable T.1 T.2.2 ∈ gw) (hw3 : Cond.initialized T.1 ∈ gw) (hcells : Nat.ble (cells + 1) (m_mc M) = true) (hslots : Nat.ble (slots + T.2.2) (m_ms M) = true) (d : Dc M pc (.new index) 3)
    (kk : ∀ (q : Nat) (K1 : Kmap) (V1 : Vmap), K q = none → K1 = updK K q (0, ci) → ext K K1 → K1 q = some (0, ci) → (∀ j, V1 q j = defaultValue (ty j)) → (∀ b, b ≠ q → V1 b = V b) → GO M K0 V0 Φ K1 V1 (cells + 1) (slots + T.2.2) (pc + 3) ls (.ref q :: st)) : GO M K0 V0 Φ K V cells slots pc ls st := fun p l e s m args below meth c D dA H locs lsA C hn S hW hF hS hL => by
  refine sg_new C S T ty hc hin hty hw1 hw2 hw3 (Nat.le_of_ble_eq_true hcells) (Nat.le_of_ble_eq_true hslots) d fun q K1 V1 H1 h1 h2 h3 h4 S1 => ?_
  have h0 := rawC_sz hr
  exact kk q K1 V1 h1 h2 (h2 ▸ ext.upd h1) (by rw [h2]; exact updK_same) h3 h4 p l e s m args below meth c D dA H1 locs lsA C hn S1 (hW.new h1 h2 trivial (fun j hj => by rw [h0] at hj; omega) h4) (hF.new S.2.2.2 h1 h2 h4) hS hL
/-- an int array of the class -/
theorem GO.newI {X : Int} (hw : Cond.arrayClass (newarray.typeOf .int) ∈ gw) (hX : ir X) (h0 : 0 ≤ X) (N : Nat) (h1 : X ≤ N) (h2 : Nat.ble N 5000 = true) (hcells : Nat.ble (cells + 1) (m_mc M) = true) (hslots : Nat.ble (slots + N) (m_ms M) = true) (d : Dc M pc (.newarray .int) 2)
    (kk : ∀ (q : Nat) (K1 : Kmap) (V1 : Vmap), K q = none → K1 = updK K q (1, X.toNat) → ext K K1 → K1 q = some (1, X.toNat) → (∀ j, V1 q j = .int 0) → (∀ b, b ≠ q → V1 b = V b) → GO M K0 V0 Φ K1 V1 (cells + 1) (slots + N) (pc + 2) ls (.ref q :: st)) : GO M K0 V0 Φ K V cells slots pc ls (ti X :: st) := fun p l e s m args below meth c D dA H locs lsA C hn S hW hF hS hL => by
  have h2 := Nat.le_of_ble_eq_true h2
  have hs := Nat.le_of_ble_eq_true hslots
  have hXn : X.toNat ≤ N := by omega
  refine sg_newa (N := X.toNat) C S (atype := .int) 0 (by decide) rfl hw (fun _ _ h => h) (by rw [ti_int hX]; omega) (by show X.toNat * 4 ≤ _; omega) (Nat.le_of_ble_eq_true hcells) (by show _ ≤ m_ms M; omega) d fun q K1 V1 H1 h3 h4 h5 h6 S1 => ?_
  refine W.widen (Nat.le_refl _) (show slots + X.toNat ≤ slots + N by omega) ?_
  exact kk q K1 V1 h3 h4 (h4 ▸ ext.upd h3) (by rw [h4]; exact updK_same) h5 h6 p l e s m args below meth c D dA H1 locs lsA C hn S1 (hW.new h3 h4 ⟨by decide, by show X.toNat ≤ 5000; omega, Or.inl rfl⟩ (fun j hj => ⟨0, h5 j, (by decide : (-2147483648 : Int) ≤ (0 : Int32).toInt), (by decide : (0 : Int32).toInt ≤ (2147483647 : Int))⟩) h6) (hF.new S.2.2.2 h3 h4 h6) hS hL
end GOS
