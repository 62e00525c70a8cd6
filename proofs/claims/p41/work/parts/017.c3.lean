theorem le_and {a b : Bool} (h : (a && b) = true) : a = true ∧ b = true := by simpa using h
section GOH
variable {M : MRec} {K0 : Kmap} {V0 : Vmap} {Φ : Option Value → Kmap → Vmap → Prop} {K : Kmap} {V : Vmap} {cells slots pc : Nat} {ls : List (Option Value)} {st : List Value}
/-! fields -/
theorem GO.getI {a ci k index : Nat} {lo hi : Int} (ha : K a = some (0, ci)) (hf : FL (m_own M) index ci k) (hk : Nat.ble (k + 1) (szK (0, ci)) = true) (ht : fT (0, ci) k = (0, 0, 0, lo, hi)) (d : Dc M pc (.getfield index) 3) (kk : lo ≤ vi V a k → vi V a k ≤ hi → GO M K0 V0 Φ K V cells slots (pc + 3) ls (ti (vi V a k) :: st)) : GO M K0 V0 Φ K V cells slots pc ls (.ref a :: st) := fun p l e s m args below meth c D dA H locs lsA C hn S hW hF hS hL => by
  have h := hW.int ha (Nat.le_of_ble_eq_true hk) ht
  exact th_get C S.1 ha hf h.1 d (kk h.2.1 h.2.2 p l e s m args below meth c D dA H locs lsA C hn S hW hF hS hL)
theorem GO.getR {a ci k index cj : Nat} {lo hi : Int} (ha : K a = some (0, ci)) (hf : FL (m_own M) index ci k) (hk : Nat.ble (k + 1) (szK (0, ci)) = true) (ht : fT (0, ci) k = (1, 0, cj, lo, hi)) (d : Dc M pc (.getfield index) 3) (kk : V a k = .ref (vq V a k) → K (vq V a k) = some (0, cj) → GO M K0 V0 Φ K V cells slots (pc + 3) ls (.ref (vq V a k) :: st)) : GO M K0 V0 Φ K V cells slots pc ls (.ref a :: st) := fun p l e s m args below meth c D dA H locs lsA C hn S hW hF hS hL => by
  have h := hW.ref ha (Nat.le_of_ble_eq_true hk) ht
  exact th_get C S.1 ha hf h.1 d (kk h.1 h.2 p l e s m args below meth c D dA H locs lsA C hn S hW hF hS hL)
/-- an array of a fixed length -/
theorem GO.getA {a ci k index t n : Nat} {lo hi : Int} (ha : K a = some (0, ci)) (hf : FL (m_own M) index ci k) (hk : Nat.ble (k + 1) (szK (0, ci)) = true) (ht : fT (0, ci) k = (1, t + 1, 0, lo, hi)) (hN : lentab.getD t 0 = n) (hp : Nat.ble 1 n = true) (d : Dc M pc (.getfield index) 3) (kk : V a k = .ref (vq V a k) → K (vq V a k) = some (t + 1, n) → GO M K0 V0 Φ K V cells slots (pc + 3) ls (.ref (vq V a k) :: st)) : GO M K0 V0 Φ K V cells slots pc ls (.ref a :: st) := fun p l e s m args below meth c D dA H locs lsA C hn S hW hF hS hL => by
  have h := hW.ref ha (Nat.le_of_ble_eq_true hk) ht
  obtain ⟨n1, hn2⟩ := h.2
  have hl := hW.len hn2
  have hp := Nat.le_of_ble_eq_true hp
  have e1 : n1 = n := by omega
  subst e1
  exact th_get C S.1 ha hf h.1 d (kk h.1 hn2 p l e s m args below meth c D dA H locs lsA C hn S hW hF hS hL)
/-- an array of some length -/
theorem GO.getB {a ci k index t : Nat} {lo hi : Int} (ha : K a = some (0, ci)) (hf : FL (m_own M) index ci k) (hk : Nat.ble (k + 1) (szK (0, ci)) = true) (ht : fT (0, ci) k = (1, t + 1, 0, lo, hi)) (d : Dc M pc (.getfield index) 3) (kk : ∀ n : Nat, V a k = .ref (vq V a k) → K (vq V a k) = some (t + 1, n) → n ≤ 5000 → GO M K0 V0 Φ K V cells slots (pc + 3) ls (.ref (vq V a k) :: st)) : GO M K0 V0 Φ K V cells slots pc ls (.ref a :: st) := fun p l e s m args below meth c D dA H locs lsA C hn S hW hF hS hL => by
  have h := hW.ref ha (Nat.le_of_ble_eq_true hk) ht
  obtain ⟨n, hn2⟩ := h.2
  have hl := hW.len hn2
  exact th_get C S.1 ha hf h.1 d (kk n h.1 hn2 hl.2.1 p l e s m args below meth c D dA H locs lsA C hn S hW hF hS hL)
/-- null or an object -/
theorem GO.getN {a ci k index cj : Nat} {lo hi : Int} (ha : K a = some (0, ci)) (hf : FL (m_own M) index ci k) (hk : Nat.ble (k + 1) (szK (0, ci)) = true) (ht : fT (0, ci) k = (2, 0, cj, lo, hi)) (d : Dc M pc (.getfield index) 3) (kn : V a k = .null → GO M K0 V0 Φ K V cells slots (pc + 3) ls (.null :: st)) (kk : V a k = .ref (vq V a k) → K (vq V a k) = some (0, cj) → GO M K0 V0 Φ K V cells slots (pc + 3) ls (.ref (vq V a k) :: st)) : GO M K0 V0 Φ K V cells slots pc ls (.ref a :: st) := fun p l e s m args below meth c D dA H locs lsA C hn S hW hF hS hL => by
  rcases hW.nul ha (Nat.le_of_ble_eq_true hk) ht with h | h
  · exact th_get C S.1 ha hf h d (kn h p l e s m args below meth c D dA H locs lsA C hn S hW hF hS hL)
  · exact th_get C S.1 ha hf h.1 d (kk h.1 h.2 p l e s m args below meth c D dA H locs lsA C hn S hW hF hS hL)
/-- null or an array -/
theorem GO.getNB {a ci k index t : Nat} {lo hi : Int} (ha : K a = some (0, ci)) (hf : FL (m_own M) index ci k) (hk : Nat.ble (k + 1) (szK (0, ci)) = true) (ht : fT (0, ci) k = (2, t + 1, 0, lo, hi)) (d : Dc M pc (.getfield index) 3) (kn : V a k = .null → GO M K0 V0 Φ K V cells slots (pc + 3) ls (.null :: st)) (kk : ∀ n : Nat, V a k = .ref (vq V a k) → K (vq V a k) = some (t + 1, n) → n ≤ 5000 → GO M K0 V0 Φ K V cells slots (pc + 3) ls (.ref (vq V a k) :: st)) : GO M K0 V0 Φ K V cells slots pc ls (.ref a :: st) := fun p l e s m args below meth c D dA H locs lsA C hn S hW hF hS hL => by
  rcases hW.nul ha (Nat.le_of_ble_eq_true hk) ht with h | h
  · exact th_get C S.1 ha hf h d (kn h p l e s m args below meth c D dA H locs lsA C hn S hW hF hS hL)
  · obtain ⟨n, hn2⟩ := h.2
    exact th_get C S.1 ha hf h.1 d (kk n h.1 hn2 (hW.len hn2).2.1 p l e s m args below meth c D dA H locs lsA C hn S hW hF hS hL)
theorem GO.getL {a ci k index t cj : Nat} {lo hi : Int} (ha : K a = some (0, ci)) (hf : FL (m_own M) index ci k) (hk : Nat.ble (k + 1) (szK (0, ci)) = true) (ht : fT (0, ci) k = (3, t, cj, lo, hi)) (d : Dc M pc (.getfield index) 3) (kk : GO M K0 V0 Φ K V cells slots (pc + 3) ls (.long (vlg V a k) :: st)) : GO M K0 V0 Φ K V cells slots pc ls (.ref a :: st) := fun p l e s m args below meth c D dA H locs lsA C hn S hW hF hS hL => th_get C S.1 ha hf (hW.lng ha (Nat.le_of_ble_eq_true hk) ht) d (kk p l e s m args below meth c D dA H locs lsA C hn S hW hF hS hL)
theorem okv_int {K : Kmap} {X lo hi : Int} (hX : ir X) (h1 : lo ≤ X) (h2 : X ≤ hi) {t c : Nat} : okv K (0, t, c, lo, hi) (ti X) := ⟨Int32.ofInt X, rfl, by rw [ti_int hX]; exact h1, by rw [ti_int hX]; exact h2⟩
theorem fullO {c : Nat} (h : c < 12) : fullK (0, c) := fun _ => Or.inl h
theorem fullA {t n : Nat} : fullK (t + 1, n) := fun h => by cases h
theorem upd2_int {V V1 : Vmap} {a k : Nat} {X : Int} (e : V1 = upd2 V a k (ti X)) (h : ir X) : vi V1 a k = X := by
  have h1 : V1 a k = ti X := by rw [e, upd2_same]
  rw [vi_of h1, ti_int h]
/-- an int into a field -/
theorem GO.putI {a ci k index : Nat} {X lo hi : Int} (ha : K a = some (0, ci)) (hf : FP (m_own M) index ci k .int false) (ht : fT (0, ci) k = (0, 0, 0, lo, hi)) (hw : (m_ws M).testBit (keyK (0, ci) k) = true) (hX : ir X) (h1 : lo ≤ X) (h2 : X ≤ hi) (d : Dc M pc (.putfield index) 3)
    (kk : ∀ V1 : Vmap, V1 = upd2 V a k (ti X) → GO M K0 V0 Φ K V1 cells slots (pc + 3) ls st) : GO M K0 V0 Φ K V cells slots pc ls (ti X :: .ref a :: st) := fun p l e s m args below meth c D dA H locs lsA C hn S hW hF hS hL => by
  refine sg_put C S ha hf rfl rfl d (fun V1 H1 locs1 e1 S1 => ?_)
  exact kk V1 e1 p l e s m args below meth c D dA H1 locs1 lsA C hn S1 (hW.put ha (by rw [ht]; exact okv_int hX h1 h2) e1) (hF.put ha hw e1) hS hL
theorem GO.putZ {a ci k index : Nat} {X lo hi : Int} (ha : K a = some (0, ci)) (hf : FP (m_own M) index ci k .boolean false) (ht : fT (0, ci) k = (0, 0, 0, lo, hi)) (hw : (m_ws M).testBit (keyK (0, ci) k) = true) (hz : X = 0 ∨ X = 1) (h1 : lo ≤ X) (h2 : X ≤ hi) (d : Dc M pc (.putfield index) 3)
    (kk : ∀ V1 : Vmap, V1 = upd2 V a k (ti X) → GO M K0 V0 Φ K V1 cells slots (pc + 3) ls st) : GO M K0 V0 Φ K V cells slots pc ls (ti X :: .ref a :: st) := fun p l e s m args below meth c D dA H locs lsA C hn S hW hF hS hL => by
  have hX : ir X := by rcases hz with rfl | rfl <;> exact ⟨by omega, by omega⟩
  refine sg_put C S ha hf (by rcases hz with rfl | rfl <;> rfl) (by rcases hz with rfl | rfl <;> rfl) d (fun V1 H1 locs1 e1 S1 => ?_)
  exact kk V1 e1 p l e s m args below meth c D dA H1 locs1 lsA C hn S1 (hW.put ha (by rw [ht]; exact okv_int hX h1 h2) e1) (hF.put ha hw e1) hS hL
theorem GO.putL {a ci k index t cj : Nat} {X : Int64} {lo hi : Int} (ha : K a = some (0, ci)) (hf : FP (m_own M) index ci k .long false) (ht : fT (0, ci) k = (3, t, cj, lo, hi)) (hw : (m_ws M).testBit (keyK (0, ci) k) = true) (d : Dc M pc (.putfield index) 3)
    (kk : ∀ V1 : Vmap, V1 = upd2 V a k (.long X) → GO M K0 V0 Φ K V1 cells slots (pc + 3) ls st) : GO M K0 V0 Φ K V cells slots pc ls (.long X :: .ref a :: st) := fun p l e s m args below meth c D dA H locs lsA C hn S hW hF hS hL => by
  refine sg_put C S ha hf rfl rfl d (fun V1 H1 locs1 e1 S1 => ?_)
  exact kk V1 e1 p l e s m args below meth c D dA H1 locs1 lsA C hn S1 (hW.put ha (by rw [ht]; exact ⟨X, rfl⟩) e1) (hF.put ha hw e1) hS hL
/-- into a raw object, in its constructor: a final field -/
theorem okv_raw {K : Kmap} {ci k : Nat} {v : Value} (h : okv K (fT (0, ci + 12) k) v ∨ True) : True := trivial
def rawC (ci : Nat) : Bool := Nat.ble 12 ci && Nat.ble (ci + 1) 24
theorem rawC_sz0 : (List.range 24).all (fun c => !rawC c || sztab.getD c 0 == 0) = true := by decide +kernel
theorem rawC_sz {ci : Nat} (h : rawC ci = true) : szK (0, ci) = 0 := by
  have h2 := Nat.le_of_ble_eq_true (le_and h).2
  have h1 := List.all_eq_true.mp rawC_sz0 ci (List.mem_range.mpr (by omega))
  rw [h] at h1
  have h3 : sztab.getD ci 0 = 0 := by simpa using h1
  exact h3
theorem WT.putRaw {K : Kmap} {V V1 : Vmap} (h : WT K V) {a j ci : Nat} {v : Value} (hc : rawC ci = true) (ha : K a = some (0, ci)) (e : V1 = upd2 V a j v) : WT K V1 := by
  subst e
  intro b kb hb
  refine ⟨(h b kb hb).1, fun i hi => ?_⟩
  by_cases hba : b = a
  · subst hba
    cases ha.symm.trans hb
    have h0 := rawC_sz hc
    omega
  · rw [upd2_ne (Or.inl hba)]
    exact (h b kb hb).2 i hi
theorem GO.putRF {a ci k index : Nat} {v : Value} {ty : FieldType} (hi : (m_y M).name = "<init>") (hc : rawC ci = true) (hw : (m_ws M).testBit (keyK (0, ci) k) = true) (ha : K a = some (0, ci)) (hf : FP (m_own M) index ci k ty true) (h1 : narrow ty v = v) (h2 : fits ty v = true) (d : Dc M pc (.putfield index) 3)
    (kk : ∀ V1 : Vmap, V1 = upd2 V a k v → GO M K0 V0 Φ K V1 cells slots (pc + 3) ls st) : GO M K0 V0 Φ K V cells slots pc ls (v :: .ref a :: st) := fun p l e s m args below meth c D dA H locs lsA C hn S hW hF hS hL => by
  refine sg_putF C S (hn.trans hi) ha hf h1 h2 d (fun V1 H1 locs1 e1 S1 => ?_)
  exact kk V1 e1 p l e s m args below meth c D dA H1 locs1 lsA C hn S1 (hW.putRaw hc ha e1) (hF.put ha hw e1) hS hL
theorem GO.putRW {a ci k index : Nat} {v : Value} {ty : FieldType} (hc : rawC ci = true) (hw : (m_ws M).testBit (keyK (0, ci) k) = true) (ha : K a = some (0, ci)) (hf : FP (m_own M) index ci k ty false) (h1 : narrow ty v = v) (h2 : fits ty v = true) (d : Dc M pc (.putfield index) 3)
    (kk : ∀ V1 : Vmap, V1 = upd2 V a k v → GO M K0 V0 Φ K V1 cells slots (pc + 3) ls st) : GO M K0 V0 Φ K V cells slots pc ls (v :: .ref a :: st) := fun p l e s m args below meth c D dA H locs lsA C hn S hW hF hS hL => by
  refine sg_put C S ha hf h1 h2 d (fun V1 H1 locs1 e1 S1 => ?_)
  exact kk V1 e1 p l e s m args below meth c D dA H1 locs1 lsA C hn S1 (hW.putRaw hc ha e1) (hF.put ha hw e1) hS hL
/-- a field of a raw object, as it was put there -/
theorem GO.getRaw {a ci k index : Nat} {v : Value} (ha : K a = some (0, ci)) (hf : FL (m_own M) index ci k) (hv : V a k = v) (d : Dc M pc (.getfield index) 3) (kk : GO M K0 V0 Φ K V cells slots (pc + 3) ls (v :: st)) : GO M K0 V0 Φ K V cells slots pc ls (.ref a :: st) := fun p l e s m args below meth c D dA H locs lsA C hn S hW hF hS hL => th_get C S.1 ha hf hv d (kk p l e s m args below meth c D dA H locs lsA C hn S hW hF hS hL)
/-! arrays -/
theorem bt9 (t : Nat) : bt t < 9 := by
  unfold bt
  by_cases h : t < 158
  · exact (by decide +kernel : ∀ t, t < 158 → [0, 1, 2, 3, 4, 5, 6, 7, 8, 0, 0, 0, 0, 0, 0, 0, 0, 0, 0, 0, 0, 0, 0, 0, 0, 0, 0, 0, 0, 0, 3, 2, 0, 0, 0, 0, 0, 0, 0, 0, 0, 0, 0, 0, 0, 0, 0, 0, 0, 0, 0, 0, 0, 0, 0, 3, 3, 0, 0, 0, 0, 0, 0, 0, 0, 0, 0, 0, 0, 0, 0, 0, 0, 0, 0, 0, 0, 0, 0, 0, 0, 0, 0, 0, 0, 0, 0, 0, 0, 3, 0, 0, 0, 0, 0, 0, 0, 0, 0, 0, 0, 0, 0, 0, 0, 0, 0, 0, 0, 3, 3, 0, 0, 0, 0, 0, 0, 0, 0, 0, 0, 3, 0, 0, 0, 0, 0, 0, 0, 0, 0, 0, 0, 0, 0, 0, 0, 0, 0, 0, 0, 0, 0, 0, 0, 0, 0, 0, 0, 0, 0, 0, 0, 0, 0, 0, 0, 8].getD t 0 < 9) t h
  · rw [List.getD, List.getElem?_eq_none (by simp; omega)]
    decide
theorem GO.iald {a t n : Nat} {X lo hi : Int} (ht : bt t = 0) (he : fT (t + 1, n) 0 = (0, 0, 0, lo, hi)) (ha : K a = some (t + 1, n)) (hX : ir X) (h0 : 0 ≤ X) (h1 : X < n) (d : Dc M pc .iaload 1) (kk : lo ≤ vi V a X.toNat → vi V a X.toNat ≤ hi → GO M K0 V0 Φ K V cells slots (pc + 1) ls (ti (vi V a X.toNat) :: st)) : GO M K0 V0 Φ K V cells slots pc ls (ti X :: .ref a :: st) := fun p l e s m args below meth c D dA H locs lsA C hn S hW hF hS hL => by
  have hlt : X.toNat < n := by omega
  have h := hW.int (kd := (t + 1, n)) ha (j := X.toNat) hlt he
  have hk := kk h.2.1 h.2.2 p l e s m args below meth c D dA H locs lsA C hn S hW hF hS hL
  obtain ⟨hx, hb, -, -, -, hown, hts, hKN⟩ := C
  have h9 := (hKN.2.2.1 t (hW.len ha).1).1 n (V a)
  have hty : tyOf t = .int := by unfold tyOf; rw [ht]; rfl
  rw [hty] at h9
  have e1 : (Int32.ofInt X).toNatClampNeg = X.toNat := by show (Int32.ofInt X).toInt.toNat = _; rw [ti_int hX]
  exact W.iald (v := ti (vi V a X.toNat)) hx hb (S.1 a _ ha) h9 (fun q => by cases q) (by rw [arrV_size]; exact th_hin (by rw [ti_int hX]; exact h0) (by rw [ti_int hX]; exact h1)) (by rw [arrV_read _ _ (by rw [e1]; exact hlt), e1]; exact congrArg some h.1) rfl rfl d hk
theorem GO.zald {a t n : Nat} {X lo hi : Int} (ht : bt t = 3) (he : fT (t + 1, n) 0 = (0, 0, 0, lo, hi)) (ha : K a = some (t + 1, n)) (hX : ir X) (h0 : 0 ≤ X) (h1 : X < n) (d : Dc M pc .baload 1) (kk : lo ≤ vi V a X.toNat → vi V a X.toNat ≤ hi → GO M K0 V0 Φ K V cells slots (pc + 1) ls (ti (vi V a X.toNat) :: st)) : GO M K0 V0 Φ K V cells slots pc ls (ti X :: .ref a :: st) := fun p l e s m args below meth c D dA H locs lsA C hn S hW hF hS hL => by
  have hlt : X.toNat < n := by omega
  have h := hW.int (kd := (t + 1, n)) ha (j := X.toNat) hlt he
  have hk := kk h.2.1 h.2.2 p l e s m args below meth c D dA H locs lsA C hn S hW hF hS hL
  obtain ⟨hx, hb, -, -, -, hown, hts, hKN⟩ := C
  have h9 := (hKN.2.2.1 t (hW.len ha).1).1 n (V a)
  have hty : tyOf t = .boolean := by unfold tyOf; rw [ht]; rfl
  rw [hty] at h9
  have e1 : (Int32.ofInt X).toNatClampNeg = X.toNat := by show (Int32.ofInt X).toInt.toNat = _; rw [ti_int hX]
  exact W.zald (v := ti (vi V a X.toNat)) hx hb (S.1 a _ ha) h9 (fun q => by cases q) (by rw [arrV_size]; exact th_hin (by rw [ti_int hX]; exact h0) (by rw [ti_int hX]; exact h1)) (by rw [arrV_read _ _ (by rw [e1]; exact hlt), e1]; exact congrArg some h.1) rfl rfl d hk
theorem GO.bald {a t n : Nat} {X lo hi : Int} (ht : bt t = 2) (he : fT (t + 1, n) 0 = (0, 0, 0, lo, hi)) (ha : K a = some (t + 1, n)) (hX : ir X) (h0 : 0 ≤ X) (h1 : X < n) (d : Dc M pc .baload 1) (kk : lo ≤ vi V a X.toNat → vi V a X.toNat ≤ hi → GO M K0 V0 Φ K V cells slots (pc + 1) ls (ti (vi V a X.toNat) :: st)) : GO M K0 V0 Φ K V cells slots pc ls (ti X :: .ref a :: st) := fun p l e s m args below meth c D dA H locs lsA C hn S hW hF hS hL => by
  have hlt : X.toNat < n := by omega
  have h := hW.int (kd := (t + 1, n)) ha (j := X.toNat) hlt he
  have hk := kk h.2.1 h.2.2 p l e s m args below meth c D dA H locs lsA C hn S hW hF hS hL
  obtain ⟨hx, hb, -, -, -, hown, hts, hKN⟩ := C
  have h9 := (hKN.2.2.1 t (hW.len ha).1).1 n (V a)
  have hty : tyOf t = .byte := by unfold tyOf; rw [ht]; rfl
  rw [hty] at h9
  have e1 : (Int32.ofInt X).toNatClampNeg = X.toNat := by show (Int32.ofInt X).toInt.toNat = _; rw [ti_int hX]
  exact W.bald (v := ti (vi V a X.toNat)) hx hb (S.1 a _ ha) h9 (fun q => by cases q) (by rw [arrV_size]; exact th_hin (by rw [ti_int hX]; exact h0) (by rw [ti_int hX]; exact h1)) (by rw [arrV_read _ _ (by rw [e1]; exact hlt), e1]; exact congrArg some h.1) rfl rfl d hk
theorem GO.lald {a n : Nat} {X : Int} (ha : K a = some (2, n)) (hX : ir X) (h0 : 0 ≤ X) (h1 : X < n) (d : Dc M pc .laload 1) (kk : GO M K0 V0 Φ K V cells slots (pc + 1) ls (.long (vlg V a X.toNat) :: st)) : GO M K0 V0 Φ K V cells slots pc ls (ti X :: .ref a :: st) := fun p l e s m args below meth c D dA H locs lsA C hn S hW hF hS hL => by
  have hlt : X.toNat < n := by omega
  have h := hW.lng (kd := (2, n)) ha (j := X.toNat) hlt rfl
  exact th_lald C S.1 ha (by rw [ti_int hX]; exact h0) (by rw [ti_int hX]; exact h1) (by rw [ti_int hX]; exact h) d (kk p l e s m args below meth c D dA H locs lsA C hn S hW hF hS hL)
/-- null or an object out of an array -/
theorem GO.aald {a t n ci : Nat} {X : Int} {Cn : String} (hty : tyOf t = .object Cn) (he : fT (t + 1, n) 0 = (2, 0, ci, 0, 0)) (ha : K a = some (t + 1, n)) (hX : ir X) (h0 : 0 ≤ X) (h1 : X < n) (d : Dc M pc .aaload 1) (kn : V a X.toNat = .null → GO M K0 V0 Φ K V cells slots (pc + 1) ls (.null :: st)) (kk : V a X.toNat = .ref (vq V a X.toNat) → K (vq V a X.toNat) = some (0, ci) → GO M K0 V0 Φ K V cells slots (pc + 1) ls (.ref (vq V a X.toNat) :: st)) : GO M K0 V0 Φ K V cells slots pc ls (ti X :: .ref a :: st) := fun p l e s m args below meth c D dA H locs lsA C hn S hW hF hS hL => by
  have hlt : X.toNat < n := by omega
  have h := hW.nul (kd := (t + 1, n)) ha (j := X.toNat) hlt he
  have hk : ∃ v, V a X.toNat = v ∧ W p l e (m_rm M) s m args below meth c H locs cells slots (MQ below (HQ D dA K0 V0 (m_ws M) Φ) args s (m_mc M) (m_ms M) (AK K0 s.heap.size)) (F0 m (pc + 1) lsA (v :: st)) := by
    rcases h with h | h
    · exact ⟨_, h, kn h p l e s m args below meth c D dA H locs lsA C hn S hW hF hS hL⟩
    · exact ⟨_, h.1, kk h.1 h.2 p l e s m args below meth c D dA H locs lsA C hn S hW hF hS hL⟩
  obtain ⟨v, hv, hk⟩ := hk
  obtain ⟨hx, hb, -, -, -, hown, hts, hKN⟩ := C
  have h9 := (hKN.2.2.1 t (hW.len ha).1).1 n (V a)
  rw [hty] at h9
  have e1 : (Int32.ofInt X).toNatClampNeg = X.toNat := by show (Int32.ofInt X).toInt.toNat = _; rw [ti_int hX]
  exact W.aald (v := v) (ty := .object Cn) hx hb (S.1 a _ ha) h9 rfl (fun q => by cases q) (by rw [arrV_size]; exact th_hin (by rw [ti_int hX]; exact h0) (by rw [ti_int hX]; exact h1)) (by rw [arrV_read _ _ (by rw [e1]; exact hlt), e1]; exact congrArg some hv) rfl rfl d hk
theorem GO.alen {a t n : Nat} (ha : K a = some (t + 1, n)) (d : Dc M pc .arraylength 1) (kk : n ≤ 5000 → GO M K0 V0 Φ K V cells slots (pc + 1) ls (ti n :: st)) : GO M K0 V0 Φ K V cells slots pc ls (.ref a :: st) := fun p l e s m args below meth c D dA H locs lsA C hn S hW hF hS hL => th_alen C S.1 (hW.len ha).1 ha d (by
  have h := kk (hW.len ha).2.1 p l e s m args below meth c D dA H locs lsA C hn S hW hF hS hL
  have e1 : Int32.ofNat n = Int32.ofInt (n : Int) := Int32.ofInt_eq_ofNat.symm
  rw [e1]; exact h)
end GOH
