section DS
def fsumI : Nat → (Nat → Int) → Int
  | 0, _ => 0
  | n + 1, f => fsumI n f + f n
theorem fsumI_congr {n : Nat} {f g : Nat → Int} (h : ∀ j, j < n → f j = g j) : fsumI n f = fsumI n g := by
  induction n with
  | zero => rfl
  | succ n ih => simp only [fsumI]; rw [ih (fun j hj => h j (by omega)), h n (by omega)]
theorem fsumI_upd {n : Nat} {f g : Nat → Int} {i : Nat} (hi : i < n) (h : ∀ j, j ≠ i → g j = f j) : fsumI n g = fsumI n f - f i + g i := by
  induction n with
  | zero => omega
  | succ n ih =>
    simp only [fsumI]
    by_cases e : i = n
    · subst e
      rw [fsumI_congr (f := g) (g := f) (fun j hj => h j (by omega))]
      omega
    · rw [ih (by omega), h n (by omega)]
      omega
theorem fsumI_nn {n : Nat} {f : Nat → Int} (h : ∀ j, j < n → 0 ≤ f j) : 0 ≤ fsumI n f := by
  induction n with
  | zero => exact Int.le_refl _
  | succ n ih =>
    simp only [fsumI]
    have h1 := ih (fun j hj => h j (by omega))
    have h2 := h n (by omega)
    omega
theorem vq_up {V V1 : Vmap} {a k b j : Nat} {v : Value} (e : V1 = upd2 V a k v) (h : b ≠ a ∨ j ≠ k) : vq V1 b j = vq V b j := by
  unfold vq; rw [uq_ne e h]
/-- the days of the search for a way, together -/
def dsum (V : Vmap) (x : Nat) : Int := fsumI 144 (fun j => vi V (vq V x 117) j)
theorem dsum_put {K : Kmap} {V V1 : Vmap} {x j : Nat} {n : Int} (e : V1 = upd2 V (vq V x 117) j (ti n)) (hx : K x = some (0, 11)) (ha : K (vq V x 117) = some (95 + 1, 144)) (hj : j < 144) (hn : ir n) : dsum V1 x = dsum V x - vi V (vq V x 117) j + n := by
  have hne : x ≠ vq V x 117 := K_ne hx ha (by decide)
  have hq : vq V1 x 117 = vq V x 117 := vq_up e (Or.inl hne)
  unfold dsum
  rw [hq, fsumI_upd (f := fun j => vi V (vq V x 117) j) hj (fun i hi => vi_up e (Or.inr hi))]
  show _ - _ + vi V1 (vq V x 117) j = _
  rw [upd2_int e hn]
theorem dsum_nn {K : Kmap} {V : Vmap} {x : Nat} (hW : WT K V) (hx : K x = some (0, 11)) : 0 ≤ dsum V x := by
  have h := hW.ref hx (j := 117) (Nat.le_of_ble_eq_true rfl) (t := 95 + 1) (c := 0) (lo := 0) (hi := 0) rfl
  obtain ⟨n, hn⟩ := h.2
  have hl := hW.len hn
  have e1 : n = 144 := by
    have h2 : lentab.getD 95 0 = 144 := rfl
    have h3 := hl.2.2
    rw [h2] at h3
    omega
  subst e1
  exact fsumI_nn (fun j hj => (hW.int (kd := (95 + 1, 144)) hn (j := j) hj rfl).2.1)
end DS
section UW
variable {M : MRec} {K0 : Kmap} {V0 : Vmap} {Φ : Option Value → Kmap → Vmap → Prop} {K : Kmap} {V : Vmap} {cells slots pc : Nat} {ls : List (Option Value)} {st : List Value}
/-- what all memory keeps, as a fact -/
theorem GO.useWT (kk : WT K V → GO M K0 V0 Φ K V cells slots pc ls st) : GO M K0 V0 Φ K V cells slots pc ls st := fun p l e s m args below meth c D dA H locs lsA C hn S hW hF hS hL => kk hW p l e s m args below meth c D dA H locs lsA C hn S hW hF hS hL
end UW
/-! the order of the stops in the reference -/
def oe (V : Vmap) (x j : Nat) : Int := vi V (vq V x 143) j
def SWP (V V1 : Vmap) (x : Nat) (a b : Int) : Prop := vi V1 x 137 = vi V x 137 ∧ oe V1 x a.toNat = oe V x b.toNat ∧ oe V1 x b.toNat = oe V x a.toNat ∧ ∀ j : Nat, j ≠ a.toNat → j ≠ b.toNat → oe V1 x j = oe V x j
theorem swp_of {K : Kmap} {V V1 V2 : Vmap} {x n : Nat} {a b z : Int} (e1 : V1 = upd2 V (vq V x 143) a.toNat (ti (vi V (vq V x 143) b.toNat))) (e2 : V2 = upd2 V1 (vq V x 143) b.toNat (ti z)) (hz : z = vi V (vq V x 143) a.toNat) (hx : K x = some (0, 11)) (ha : K (vq V x 143) = some (115 + 1, n)) (h1 : ir (vi V (vq V x 143) b.toNat)) (h2 : ir z) : SWP V V2 x a b := by
  have hne : x ≠ vq V x 143 := K_ne hx ha (by simp)
  have q1 : vq V1 x 143 = vq V x 143 := vq_up e1 (Or.inl hne)
  have q2 : vq V2 x 143 = vq V x 143 := (vq_up e2 (Or.inl hne)).trans q1
  refine ⟨(vi_up e2 (Or.inl hne)).trans (vi_up e1 (Or.inl hne)), ?_, ?_, fun j h3 h4 => ?_⟩
  · unfold oe
    rw [q2]
    by_cases h : a.toNat = b.toNat
    · rw [h, upd2_int e2 h2, hz, h]
    · rw [vi_up e2 (Or.inr h), upd2_int e1 h1]
  · unfold oe
    rw [q2, upd2_int e2 h2, hz]
  · unfold oe
    rw [q2, vi_up e2 (Or.inr h4), vi_up e1 (Or.inr h3)]
/-- no two of the first n alike -/
def oinj (V : Vmap) (x : Nat) (n : Int) : Prop := ∀ i j : Nat, (i : Int) < n → (j : Int) < n → i ≠ j → oe V x i ≠ oe V x j
theorem swp_inj {V V1 : Vmap} {x : Nat} {a b n : Int} (h : SWP V V1 x a b) (hi : oinj V x n) (ha : 0 ≤ a ∧ a < n) (hb : 0 ≤ b ∧ b < n) : oinj V1 x n := by
  obtain ⟨-, h1, h2, h3⟩ := h
  have src : ∀ i : Nat, (i : Int) < n → ∃ i' : Nat, (i' : Int) < n ∧ oe V1 x i = oe V x i' ∧ (i = a.toNat ∧ i' = b.toNat ∨ i = b.toNat ∧ i' = a.toNat ∨ i ≠ a.toNat ∧ i ≠ b.toNat ∧ i' = i) := fun i hi => by
    by_cases e1 : i = a.toNat
    · exact ⟨b.toNat, by omega, by rw [e1, h1], Or.inl ⟨e1, rfl⟩⟩
    · by_cases e2 : i = b.toNat
      · exact ⟨a.toNat, by omega, by rw [e2, h2], Or.inr (Or.inl ⟨e2, rfl⟩)⟩
      · exact ⟨i, hi, h3 i e1 e2, Or.inr (Or.inr ⟨e1, e2, rfl⟩)⟩
  intro i j hi1 hj1 hne
  obtain ⟨i', g1, g2, g3⟩ := src i hi1
  obtain ⟨j', k1, k2, k3⟩ := src j hj1
  rw [g2, k2]
  exact hi i' j' g1 k1 (by omega)
/-- the next order: none (0), or one that is behind it in the row of all -/
def NXO (V V1 : Vmap) (x : Nat) (X : Int) : Prop := vi V1 x 137 = vi V x 137 ∧ oinj V1 x (vi V x 137) ∧ (X = 0 → ∀ j : Nat, oe V1 x j = oe V x j) ∧ (X ≠ 0 → ∃ k : Nat, (k : Int) < vi V x 137 ∧ (∀ j : Nat, j < k → oe V1 x j = oe V x j) ∧ oe V x k < oe V1 x k)
def NXI (V V1 : Vmap) (x : Nat) (k : Int) : Prop := vi V1 x 137 = vi V x 137 ∧ (∀ j : Nat, (j : Int) ≤ k → oe V1 x j = oe V x j) ∧ oinj V1 x (vi V x 137)
theorem nxi_rf {V : Vmap} {x : Nat} {k : Int} (h : oinj V x (vi V x 137)) : NXI V V x k := ⟨rfl, fun _ _ => rfl, h⟩
theorem nxi_step {V V1 V2 : Vmap} {x : Nat} {k a b : Int} (h : NXI V V1 x k) (hs : SWP V1 V2 x a b) (h1 : k < a) (h0 : 0 ≤ k) (h2 : a < b) (h3 : b < vi V x 137) : NXI V V2 x k := by
  obtain ⟨g1, g2, g3⟩ := h
  refine ⟨hs.1.trans g1, fun j hj => ?_, swp_inj hs g3 (by omega) (by omega)⟩
  rw [hs.2.2.2 j (by omega) (by omega)]
  exact g2 j hj
theorem nxo_0 {V : Vmap} {x : Nat} (h : oinj V x (vi V x 137)) : NXO V V x 0 := ⟨rfl, h, fun _ _ => rfl, fun h => absurd rfl h⟩
theorem nxo_1 {V Vs V1 : Vmap} {x : Nat} {k q : Int} (hj : oinj V x (vi V x 137)) (hs : SWP V Vs x k q) (h : NXI Vs V1 x k) (h0 : 0 ≤ k) (h1 : k < q) (h2 : q < vi V x 137) (h3 : oe V x k.toNat ≤ oe V x q.toNat) : NXO V V1 x 1 := by
  obtain ⟨g1, g2, g3⟩ := h
  refine ⟨g1.trans hs.1, hs.1 ▸ g3, fun h => by omega, fun _ => ⟨k.toNat, by omega, fun j hj => ?_, ?_⟩⟩
  · rw [g2 j (by omega)]
    exact hs.2.2.2 j (by omega) (by omega)
  · rw [g2 k.toNat (by omega), hs.2.1]
    have := hj k.toNat q.toNat (by omega) (by omega) (by omega)
    omega
def OIN (V : Vmap) (x : Nat) (n : Int) : Prop := ∀ j : Nat, (j : Int) < n → oe V x j = j
theorem oin_0 {V : Vmap} {x : Nat} {n : Int} (h : n ≤ 0) : OIN V x n := fun j hj => by omega
theorem oin_step {K : Kmap} {V V1 : Vmap} {x m : Nat} {i : Int} (h : OIN V x i) (e : V1 = upd2 V (vq V x 143) i.toNat (ti i)) (hx : K x = some (0, 11)) (ha : K (vq V x 143) = some (115 + 1, m)) (hi : ir i) (h0 : 0 ≤ i) : OIN V1 x (i + 1) := fun j hj => by
  have hne : x ≠ vq V x 143 := K_ne hx ha (by simp)
  unfold oe
  rw [vq_up e (Or.inl hne)]
  by_cases hji : j = i.toNat
  · rw [hji, upd2_int e hi]; omega
  · rw [vi_up e (Or.inr hji)]
    exact h j (by omega)
theorem oin_inj {V : Vmap} {x : Nat} {n : Int} (h : OIN V x n) {k : Int} (hk : k ≤ n) : oinj V x k := fun i j hi hj hne => by
  rw [h i (by omega), h j (by omega)]
  omega
/-- the same stops in the same order -/
def OSM (V V1 : Vmap) (x : Nat) : Prop := vi V1 x 137 = vi V x 137 ∧ ∀ j : Nat, oe V1 x j = oe V x j
theorem OSM.rf {V : Vmap} {x : Nat} : OSM V V x := ⟨rfl, fun _ => rfl⟩
theorem OSM.fld {K : Kmap} {V V1 V2 : Vmap} {x k n : Nat} {v : Value} (h : OSM V V1 x) (e : V2 = upd2 V1 x k v) (hk : k ≠ 137) (hk2 : k ≠ 143) (hx : K x = some (0, 11)) (hq : K (vq V1 x 143) = some (115 + 1, n)) : OSM V V2 x := ⟨(vi_up e (Or.inr (Ne.symm hk))).trans h.1, fun j => by
  refine Eq.trans ?_ (h.2 j)
  unfold oe
  rw [vq_up e (Or.inr (Ne.symm hk2)), vi_up e (Or.inl (K_ne hq hx (by simp)))]⟩
theorem OSM.arr {K : Kmap} {V V1 V2 : Vmap} {x i n m t q : Nat} {v : Value} (h : OSM V V1 x) (e : V2 = upd2 V1 q i v) (hx : K x = some (0, 11)) (ha : K q = some (t + 1, m)) (hq : K (vq V1 x 143) = some (115 + 1, n)) (ht : t ≠ 115) : OSM V V2 x := ⟨(vi_up e (Or.inl (K_ne hx ha (by simp)))).trans h.1, fun j => by
  refine Eq.trans ?_ (h.2 j)
  unfold oe
  rw [vq_up e (Or.inl (K_ne hx ha (by simp))), vi_up e (Or.inl (K_ne hq ha (by intro e; cases e; exact ht rfl)))]⟩
theorem osm_inj {V V1 : Vmap} {x : Nat} (h : OSM V V1 x) (hi : oinj V x (vi V x 137)) : oinj V1 x (vi V1 x 137) := fun i j h1 h2 h3 => by
  rw [h.1] at h1 h2
  rw [h.2, h.2]
  exact hi i j h1 h2 h3
theorem nxo_inj {V V1 : Vmap} {x : Nat} {X : Int} (h : NXO V V1 x X) : oinj V1 x (vi V1 x 137) := h.1.symm ▸ h.2.1
theorem osm_put {K : Kmap} {V V2 : Vmap} {x k : Nat} {v : Value} (hW : WT K V) (hx : K x = some (0, 11)) (e : V2 = upd2 V x k v) (hk : k ≠ 137) (hk2 : k ≠ 143) : OSM V V2 x := by
  have h := hW.ref hx (j := 143) (Nat.le_of_ble_eq_true rfl) (t := 115 + 1) (c := 0) (lo := 0) (hi := 0) rfl
  obtain ⟨n, hn⟩ := h.2
  exact OSM.fld OSM.rf e hk hk2 hx hn
def rkf : Nat → (Nat → Int) → Int
  | 0, _ => 0
  | n + 1, f => 8 * rkf n f + f n
theorem rkf_congr {n : Nat} {f g : Nat → Int} (h : ∀ j, j < n → f j = g j) : rkf n f = rkf n g := by
  induction n with
  | zero => rfl
  | succ n ih => simp only [rkf]; rw [ih (fun j hj => h j (by omega)), h n (by omega)]
theorem rkf_lt {n k : Nat} {f g : Nat → Int} (hk : k < n) (h : ∀ j, j < k → g j = f j) (h1 : f k < g k) (hf : ∀ j, j < n → 0 ≤ f j ∧ f j ≤ 7) (hg : ∀ j, j < n → 0 ≤ g j ∧ g j ≤ 7) : rkf n f < rkf n g := by
  induction n with
  | zero => omega
  | succ n ih =>
    simp only [rkf]
    by_cases e : k = n
    · subst e
      rw [rkf_congr (f := g) (g := f) h]
      omega
    · have h2 := ih (by omega) (fun j hj => hf j (by omega)) (fun j hj => hg j (by omega))
      have h3 := hf n (by omega)
      have h4 := hg n (by omega)
      omega
theorem rkf_ub {n : Nat} {f : Nat → Int} (hf : ∀ j, j < n → 0 ≤ f j ∧ f j ≤ 7) : 0 ≤ rkf n f ∧ rkf n f < 8 ^ n := by
  induction n with
  | zero => simp [rkf]
  | succ n ih =>
    simp only [rkf]
    have h1 := ih (fun j hj => hf j (by omega))
    have h2 := hf n (by omega)
    rw [Int.pow_succ]
    omega
def ornk (V : Vmap) (x : Nat) : Int := rkf (vi V x 137).toNat (oe V x)
theorem WT.oe {K : Kmap} {V : Vmap} {x : Nat} (hW : WT K V) (hx : K x = some (0, 11)) : (0 ≤ vi V x 137 ∧ vi V x 137 ≤ 8) ∧ ∀ j, j < 8 → 0 ≤ oe V x j ∧ oe V x j ≤ 7 := by
  refine ⟨(hW.int hx (j := 137) (Nat.le_of_ble_eq_true rfl) rfl).2, fun j hj => ?_⟩
  have h := hW.ref hx (j := 143) (Nat.le_of_ble_eq_true rfl) (t := 115 + 1) (c := 0) (lo := 0) (hi := 0) rfl
  obtain ⟨n, hn⟩ := h.2
  have hl := hW.len hn
  have e1 : n = 8 := by
    have h2 : lentab.getD 115 0 = 8 := rfl
    have h3 := hl.2.2
    rw [h2] at h3
    omega
  subst e1
  exact (hW.int (kd := (115 + 1, 8)) hn (j := j) hj rfl).2
theorem ornk_ub {K : Kmap} {V : Vmap} {x : Nat} (hW : WT K V) (hx : K x = some (0, 11)) : ornk V x < 16777216 := by
  have h := hW.oe hx
  have h1 := (rkf_ub (n := (vi V x 137).toNat) (f := Jvm.Pilot.@@N@@.oe V x) (fun j hj => h.2 j (by omega))).2
  have h2 : ((8 : Int) ^ (vi V x 137).toNat) ≤ 8 ^ 8 := by
    have h3 : (8 : Nat) ^ (vi V x 137).toNat ≤ 8 ^ 8 := Nat.pow_le_pow_right (by omega) (by omega)
    exact_mod_cast h3
  have h4 : ((8 : Int) ^ 8) = 16777216 := rfl
  unfold ornk
  omega
theorem pl_rank {K : Kmap} {V Vb V1 : Vmap} {x : Nat} {X : Int} (hW : WT K V) (hW1 : WT K V1) (hx : K x = some (0, 11)) (ho : OSM V Vb x) (hn : NXO Vb V1 x X) : (X ≠ 0 → ornk V x < ornk V1 x) ∧ (X = 0 → ornk V1 x = ornk V x) := by
  obtain ⟨h1, h2, h3, h4⟩ := hn
  have b0 := hW.oe hx
  have b1 := hW1.oe hx
  have e : vi V1 x 137 = vi V x 137 := h1.trans ho.1
  unfold ornk
  rw [e]
  refine ⟨fun h => ?_, fun h => ?_⟩
  · obtain ⟨k, k1, k2, k3⟩ := h4 h
    rw [ho.1] at k1
    refine rkf_lt (k := k) (by omega) (fun j hj => ?_) ?_ (fun j hj => b0.2 j (by omega)) (fun j hj => b1.2 j (by omega))
    · rw [k2 j hj, ho.2 j]
    · rw [← ho.2 k]; exact k3
  · exact rkf_congr fun j hj => by rw [h3 h j, ho.2 j]
