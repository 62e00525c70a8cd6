/-! ### the reference: what counts -/
section YM
variable {K K1 : Kmap} {V V0 V1 V2 V3 V4 : Vmap} {x m : Nat} {L : List TXL} {a b c d i j n p s w z X Y Z : Int}
def isb (V : Vmap) (m i : Nat) : Int := vi V (vq V m 64) i
def iss (V : Vmap) (m j : Nat) : Int := vi V (vq V m 65) j
abbrev Bm (V : Vmap) (m i : Nat) : Prop := isb V m i ≠ 0
theorem MTS.cl (h : MTS V m L) {u : Nat} (hu : u < L.length) : (clA L u).length ≤ 12 ∧ vi V (vq V m 50) u = ((clA L u).length : Int) ∧ ∀ (j : Nat) (r : CLT), (clA L u)[j]? = some r → vi V (vq V m 53) (12 * u + j) = r.1 ∧ vi V (vq V m 56) (12 * u + j) = r.2.1 ∧ vi V (vq V m 57) (12 * u + j) = r.2.2.1 ∧ vi V (vq V m 58) (12 * u + j) = r.2.2.2 := by
  have hr := List.getElem?_eq_getElem hu
  obtain ⟨a1, a2, a3, a4, a5⟩ := h.2 _ _ hr
  rw [clA_at hr]
  exact ⟨a1, a4, a5⟩
/-! strikes() -/
def RS1 (V : Vmap) (m : Nat) (i : Int) : Prop := ∀ j : Nat, (j : Int) < i → iss V m j = 0
theorem RS1.beg : RS1 V m 0 := fun j hj => by omega
theorem RS1.step (h : RS1 V m i) (e : V1 = upd2 V (vq V m 65) i.toNat (ti 0)) (hn : m ≠ vq V m 65) (h0 : 0 ≤ i) (hm : n = i + 1) : RS1 V1 m n := fun j hj => by
  unfold iss
  rw [vq_up e (Or.inl hn)]
  by_cases q : j = i.toNat
  · subst q
    exact upd2_int e (ir_c rfl)
  · rw [vi_up e (Or.inr q)]
    exact h j (by omega)
def RS2 (V V1 : Vmap) (m : Nat) (n i : Int) : Prop := ∀ L, MTS V m L → OKL L → 0 ≤ n → n ≤ (L.length : Int) → ∃ k : Nat, (k : Int) = n - 1 - i ∧ k ≤ n.toNat ∧ ∀ u v : Nat, (u : Int) < n → v < 12 → (iss V1 m (12 * u + v) ≠ 0 ↔ STK L (Bm V m) n.toNat k u v)
def RS3 (V V1 : Vmap) (m : Nat) (n i j : Int) : Prop := ∀ L, MTS V m L → OKL L → 0 ≤ n → n ≤ (L.length : Int) → ∃ k : Nat, (k : Int) = n - 1 - i ∧ k ≤ n.toNat ∧ ∀ u v : Nat, (u : Int) < n → v < 12 → (iss V1 m (12 * u + v) ≠ 0 ↔ STK L (Bm V m) n.toNat k u v ∨ (Bm V m i.toNat ∧ ∃ (j' : Nat) (r : CLT), (j' : Int) < j ∧ (clA L i.toNat)[j']? = some r ∧ r.1 = 120 ∧ ¬ STK L (Bm V m) n.toNat k i.toNat j' ∧ r.2.2.1 < i ∧ r.2.2.1 = (u : Int) ∧ r.2.2.2 = (v : Int)))
def RSK (V V1 : Vmap) (m : Nat) (n : Int) : Prop := ∀ L, MTS V m L → OKL L → 0 ≤ n → n ≤ (L.length : Int) → ∀ u v : Nat, (u : Int) < n → v < 12 → (iss V1 m (12 * u + v) ≠ 0 ↔ STK L (Bm V m) n.toNat n.toNat u v)
theorem RS2.beg (h : RS1 V1 m i) (hi : 12 * n ≤ i) (hz : z = n - 1) : RS2 V V1 m n z := fun L _ _ h0 _ => ⟨0, by omega, Nat.zero_le _, fun u v hu hv => by
  rw [h _ (by omega)]
  exact ⟨fun q => absurd rfl q, fun q => q.elim⟩⟩
theorem RS3.beg (h : RS2 V V1 m n i) : RS3 V V1 m n i 0 := fun L hL hO h0 hn => by
  obtain ⟨k, h1, h2, h3⟩ := h L hL hO h0 hn
  refine ⟨k, h1, h2, fun u v hu hv => ?_⟩
  rw [h3 u v hu hv]
  refine ⟨Or.inl, fun q => ?_⟩
  rcases q with q | ⟨-, j', r, q, -⟩
  · exact q
  · omega
theorem RS3.no (h : RS3 V V1 m n i j) (hi : 0 ≤ i) (h0 : 0 ≤ j) (hno : ∀ L, MTS V m L → OKL L → i.toNat < L.length → ∀ r, (clA L i.toNat)[j.toNat]? = some r → (∀ k : Nat, (k : Int) = n - 1 - i → (iss V1 m (12 * i.toNat + j.toNat) ≠ 0 ↔ STK L (Bm V m) n.toNat k i.toNat j.toNat)) → r.1 = 120 → r.2.2.1 < i → ∀ k : Nat, (k : Int) = n - 1 - i → STK L (Bm V m) n.toNat k i.toNat j.toNat) (hj : z = j + 1) : RS3 V V1 m n i z := fun L hL hO h0n hn => by
  obtain ⟨k, h1, h2, h3⟩ := h L hL hO h0n hn
  refine ⟨k, h1, h2, fun u v hu hv => ?_⟩
  rw [h3 u v hu hv]
  constructor
  · rintro (q | ⟨q0, j', r, q1, q2⟩)
    · exact Or.inl q
    · exact Or.inr ⟨q0, j', r, by omega, q2⟩
  · rintro (q | ⟨q0, j', r, q1, q2, q3, q4, q5, q6⟩)
    · exact Or.inl q
    · by_cases e : (j' : Int) < j
      · exact Or.inr ⟨q0, j', r, e, q2, q3, q4, q5, q6⟩
      · have ej : j' = j.toNat := by omega
        subst ej
        have hcl := clA_lt q2
        have hl12 := (hL.cl hcl).1
        have hj12 := (List.getElem?_eq_some_iff.mp q2).1
        refine absurd (hno L hL hO hcl r q2 (fun k' hk' => ?_) q3 q5 k h1) q4
        have ek : k' = k := by omega
        subst ek
        rw [h3 i.toNat j.toNat (by omega) (by omega)]
        refine ⟨fun q => ?_, Or.inl⟩
        rcases q with q | ⟨-, j2, r2, -, -, -, -, z5, z6, -⟩
        · exact q
        · omega
theorem RS3.n1 (h : RS3 V V1 m n i j) (hi : 0 ≤ i) (h0 : 0 ≤ j) (hM : ∀ L, MTS V m L → MTS V1 m L) (hx : w = 12 * i + j) (hl : vi V1 (vq V1 m 53) w.toNat ≠ 120) (hj : z = j + 1) : RS3 V V1 m n i z := h.no hi h0 (fun L hL hO hcl r hr _ h120 _ _ _ => by
  have h1 := (((hM L hL).cl hcl).2.2 _ _ hr).1
  rw [show w.toNat = 12 * i.toNat + j.toNat by omega] at hl
  exact absurd (h1.trans h120) hl) hj
theorem RS3.n2 (h : RS3 V V1 m n i j) (hi : 0 ≤ i) (h0 : 0 ≤ j) (hx : w = 12 * i + j) (hl : vi V1 (vq V1 m 65) w.toNat ≠ 0) (hj : z = j + 1) : RS3 V V1 m n i z := h.no hi h0 (fun L hL hO hcl r hr hk _ _ k hk1 => (hk k hk1).mp (by
  unfold iss
  rw [show 12 * i.toNat + j.toNat = w.toNat by omega]
  exact hl)) hj
theorem RS3.n3 (h : RS3 V V1 m n i j) (hi : 0 ≤ i) (h0 : 0 ≤ j) (hM : ∀ L, MTS V m L → MTS V1 m L) (hx : w = 12 * i + j) (hl : i ≤ vi V1 (vq V1 m 57) w.toNat) (hj : z = j + 1) : RS3 V V1 m n i z := h.no hi h0 (fun L hL hO hcl r hr _ _ hlt _ _ => by
  have h1 := (((hM L hL).cl hcl).2.2 _ _ hr).2.2.1
  rw [show w.toNat = 12 * i.toNat + j.toNat by omega] at hl
  omega) hj
theorem RS3.hit {y : Int} (h : RS3 V V1 m n i j) (hi : 0 ≤ i) (h0 : 0 ≤ j) (hM : ∀ L, MTS V m L → MTS V1 m L) (hB : ∀ u, isb V1 m u = isb V m u) (hb : vi V1 (vq V1 m 64) i.toNat ≠ 0) (hlen : j < vi V1 (vq V1 m 50) i.toNat) (hx : w = 12 * i + j) (hl : vi V1 (vq V1 m 53) w.toNat = 120) (hs : vi V1 (vq V1 m 65) w.toNat = 0) (ha : vi V1 (vq V1 m 57) w.toNat < i) (hy : y = 12 * vi V1 (vq V1 m 57) w.toNat + vi V1 (vq V1 m 58) w.toNat) (e : V2 = upd2 V1 (vq V1 m 65) y.toNat (ti 1)) (hn5 : m ≠ vq V1 m 65) (hj : z = j + 1) : RS3 V V2 m n i z := fun L hL hO h0n hn => by
  obtain ⟨k, h1, h2, h3⟩ := h L hL hO h0n hn
  refine ⟨k, h1, h2, fun u v hu hv => ?_⟩
  have hiL : i.toNat < L.length := by
    refine Classical.byContradiction fun q => ?_
    omega
  obtain ⟨c1, c2, c3⟩ := (hM L hL).cl hiL
  have hjl : j.toNat < (clA L i.toNat).length := by omega
  have hr := List.getElem?_eq_getElem hjl
  obtain ⟨r1, r2, r3, r4⟩ := c3 _ _ hr
  have ew : w.toNat = 12 * i.toNat + j.toNat := by omega
  rw [ew] at hl hs ha hy
  have hok := hO _ _ _ hr
  generalize (clA L i.toNat)[j.toNat] = r at hr r1 r2 r3 r4 hok
  obtain ⟨-, k2, k3, k4, k5, -⟩ := hok
  have hBi : Bm V m i.toNat := by
    show isb V m i.toNat ≠ 0
    rw [← hB]
    exact hb
  have hq : vq V2 m 65 = vq V1 m 65 := vq_up e (Or.inl hn5)
  have hrow : iss V2 m (12 * u + v) ≠ 0 ↔ (iss V1 m (12 * u + v) ≠ 0 ∨ (r.2.2.1 = (u : Int) ∧ r.2.2.2 = (v : Int))) := by
    unfold iss
    rw [hq]
    by_cases ey : 12 * u + v = y.toNat
    · rw [ey, upd2_int e (ir_c rfl)]
      exact ⟨fun _ => Or.inr ⟨by omega, by omega⟩, fun _ => by decide⟩
    · rw [vi_up e (Or.inr ey)]
      refine ⟨Or.inl, fun q => ?_⟩
      rcases q with q | ⟨q1, q2⟩
      · exact q
      · exfalso
        omega
  have hns : ¬ STK L (Bm V m) n.toNat k i.toNat j.toNat := fun q => by
    have h9 := (h3 i.toNat j.toNat (by omega) (by omega)).mpr (Or.inl q)
    exact h9 hs
  rw [hrow, h3 u v hu hv]
  constructor
  · rintro ((q | ⟨q0, j', r', q1, q2⟩) | ⟨q1, q2⟩)
    · exact Or.inl q
    · exact Or.inr ⟨q0, j', r', by omega, q2⟩
    · exact Or.inr ⟨hBi, j.toNat, r, by omega, hr, by omega, hns, by omega, q1, q2⟩
  · rintro (q | ⟨q0, j', r', q1, q2, q3, q4, q5, q6, q7⟩)
    · exact Or.inl (Or.inl q)
    · by_cases ej : (j' : Int) < j
      · exact Or.inl (Or.inr ⟨q0, j', r', ej, q2, q3, q4, q5, q6, q7⟩)
      · have e9 : j' = j.toNat := by omega
        subst e9
        rw [hr] at q2
        cases q2
        exact Or.inr ⟨q6, q7⟩
theorem RS3.up (h : RS3 V V1 m n i j) (hi : 0 ≤ i) (g : ∀ L, MTS V m L → i.toNat < L.length → Bm V m i.toNat → ((clA L i.toNat).length : Int) ≤ j) (hz : z = i - 1) : RS2 V V1 m n z := fun L hL hO h0 hn => by
  obtain ⟨k, h1, h2, h3⟩ := h L hL hO h0 hn
  have ek : n.toNat - 1 - k = i.toNat := by omega
  refine ⟨k + 1, by omega, by omega, fun u v hu hv => ?_⟩
  rw [h3 u v hu hv]
  constructor
  · rintro (q | ⟨q0, j', r, q1, q2, q3, q4, q5, q6, q7⟩)
    · exact stk_up q
    · refine Or.inr ?_
      rw [ek]
      exact ⟨q0, j', r, q2, q3, q4, by omega, q6, q7⟩
  · rintro (q | q)
    · exact Or.inl q
    · rw [ek] at q
      obtain ⟨q0, j', r, q2, q3, q4, q5, q6, q7⟩ := q
      have h9 := g L hL (clA_lt q2) q0
      have h8 := (List.getElem?_eq_some_iff.mp q2).1
      exact Or.inr ⟨q0, j', r, by omega, q2, q3, q4, by omega, q6, q7⟩
theorem RS3.e1 (h : RS3 V V1 m n i j) (hi : 0 ≤ i) (hM : ∀ L, MTS V m L → MTS V1 m L) (hlen : vi V1 (vq V1 m 50) i.toNat ≤ j) (hz : z = i - 1) : RS2 V V1 m n z := h.up hi (fun L hL hiL _ => by
  have := ((hM L hL).cl hiL).2.1
  omega) hz
theorem RS3.e2 (h : RS3 V V1 m n i j) (hi : 0 ≤ i) (hB : ∀ u, isb V1 m u = isb V m u) (hb : vi V1 (vq V1 m 64) i.toNat = 0) (hz : z = i - 1) : RS2 V V1 m n z := h.up hi (fun L hL hiL hBi => absurd hb (by
  have h9 : isb V m i.toNat ≠ 0 := hBi
  rw [← hB] at h9
  exact h9)) hz
theorem RS2.end (h : RS2 V V1 m n i) (hi : i < 0) : RSK V V1 m n := fun L hL hO h0 hn u v hu hv => by
  obtain ⟨k, h1, h2, h3⟩ := h L hL hO h0 hn
  have e : k = n.toNat := by omega
  rw [h3 u v hu hv, e]
/-! numberBy() -/
def RCT (V : Vmap) (m : Nat) (L : List TXL) (i j : Nat) : Prop := Bm V m i ∧ iss V m (12 * i + j) = 0 ∧ ∃ r, (clA L i)[j]? = some r
def okN (c a b : Int) : Prop := c = 107 ∨ (c ≠ 120 ∧ a = 0 ∧ b = 0)
def NB1 (V : Vmap) (m : Nat) (c a b n i : Int) : Prop := ∀ L, MTS V m L → OKL L → okN c a b → n ≤ (L.length : Int) → NUMO L (RCT V m L) c a b n.toNat i
def NB2 (V : Vmap) (m : Nat) (c a b n i j : Int) : Prop := j < vi V (vq V m 50) i.toNat ∧ ∀ L, MTS V m L → OKL L → okN c a b → n ≤ (L.length : Int) → NUMI L (RCT V m L) c a b i.toNat j
def NMB (V : Vmap) (m : Nat) (c a b n X : Int) : Prop := ∀ L, MTS V m L → OKL L → okN c a b → n ≤ (L.length : Int) → NUMS L (RCT V m L) c a b n.toNat X
theorem NB1.beg (h0 : 0 ≤ n) (hz : z = n - 1) : NB1 V m c a b n z := fun L _ _ _ _ => NUMO.beg (by omega)
theorem NB1.step (h : NB1 V m c a b n i) (g : NB2 V m c a b n i w) (h0 : 0 ≤ i) (hw : w < 0) (hj : j = i - 1) : NB1 V m c a b n j := fun L hL hO hk hn => (h L hL hO hk hn).step (g.2 L hL hO hk hn) h0 hw hj
theorem NB1.skip (h : NB1 V m c a b n i) (h0 : 0 ≤ i) (hb : vi V (vq V m 64) i.toNat = 0) (hj : j = i - 1) : NB1 V m c a b n j := fun L hL hO hk hn => (h L hL hO hk hn).skip (fun v hv => hv.1 hb) h0 hj
theorem NB2.beg (h0 : 0 ≤ i) (hi : i < n) (hz : z = vi V (vq V m 50) i.toNat - 1) : NB2 V m c a b n i z := ⟨by omega, fun L hL _ _ hn => NUMI.beg (by
  have := (hL.cl (u := i.toNat) (by omega)).2.1
  omega)⟩
theorem NB2.step (h : NB2 V m c a b n i j) (hj0 : 0 ≤ j) (h0 : 0 ≤ i) (hi : i < n) (g : ∀ L, MTS V m L → OKL L → okN c a b → i.toNat < L.length → ∀ r, (clA L i.toNat)[j.toNat]? = some r → MTQ c a b r → ¬ RCT V m L i.toNat j.toNat) (hz : z = j - 1) : NB2 V m c a b n i z := ⟨by have := h.1; omega, fun L hL hO hk hn => (h.2 L hL hO hk hn).step hj0 (fun r hr hm => g L hL hO hk (by omega) r hr hm) hz⟩
theorem NB2.n0 (h : NB2 V m c a b n i j) (hj0 : 0 ≤ j) (h0 : 0 ≤ i) (hi : i < n) (hx : w = 12 * i + j) (hl : vi V (vq V m 53) w.toNat ≠ c) (hz : z = j - 1) : NB2 V m c a b n i z := h.step hj0 h0 hi (fun L hL hO hk hiL r hr hm _ => by
  have h1 := ((hL.cl hiL).2.2 _ _ hr).1
  rw [show w.toNat = 12 * i.toNat + j.toNat by omega] at hl
  exact hl (h1.trans hm.1)) hz
theorem NB2.ns (h : NB2 V m c a b n i j) (hj0 : 0 ≤ j) (h0 : 0 ≤ i) (hi : i < n) (hx : w = 12 * i + j) (hl : vi V (vq V m 65) w.toNat ≠ 0) (hz : z = j - 1) : NB2 V m c a b n i z := h.step hj0 h0 hi (fun L hL hO hk hiL r hr hm hc => by
  rw [show w.toNat = 12 * i.toNat + j.toNat by omega] at hl
  exact hl hc.2.1) hz
theorem okN.ab {r : CLT} (h : okN c a b) (hm : MTQ c a b r) (hO : okC r) : r.2.2.1 = a ∧ r.2.2.2 = b := by
  rcases h with h | ⟨h1, h2, h3⟩
  · exact hm.2 h
  · by_cases e : c = 107
    · exact hm.2 e
    · obtain ⟨-, -, -, -, -, q⟩ := hO
      have h9 := hm.1
      have := q (by omega) (by omega)
      omega
theorem NB2.na (h : NB2 V m c a b n i j) (hj0 : 0 ≤ j) (h0 : 0 ≤ i) (hi : i < n) (hx : w = 12 * i + j) (hl : vi V (vq V m 57) w.toNat ≠ a) (hz : z = j - 1) : NB2 V m c a b n i z := h.step hj0 h0 hi (fun L hL hO hk hiL r hr hm _ => by
  have h1 := ((hL.cl hiL).2.2 _ _ hr).2.2.1
  rw [show w.toNat = 12 * i.toNat + j.toNat by omega] at hl
  exact hl (h1.trans (hk.ab hm (hO _ _ _ hr)).1)) hz
theorem NB2.nb (h : NB2 V m c a b n i j) (hj0 : 0 ≤ j) (h0 : 0 ≤ i) (hi : i < n) (hx : w = 12 * i + j) (hl : vi V (vq V m 58) w.toNat ≠ b) (hz : z = j - 1) : NB2 V m c a b n i z := h.step hj0 h0 hi (fun L hL hO hk hiL r hr hm _ => by
  have h1 := ((hL.cl hiL).2.2 _ _ hr).2.2.2
  rw [show w.toNat = 12 * i.toNat + j.toNat by omega] at hl
  exact hl (h1.trans (hk.ab hm (hO _ _ _ hr)).2)) hz
theorem NMB.none (h : NB1 V m c a b n i) (hi : i < 0) (hX : X = -1) : NMB V m c a b n X := fun L hL hO hk hn => NUMS.none (h L hL hO hk hn) hi hX
theorem NMB.hit (h : NB1 V m c a b n i) (h' : NB2 V m c a b n i j) (hj0 : 0 ≤ j) (h0 : 0 ≤ i) (hi : i < n) (hb : vi V (vq V m 64) i.toNat ≠ 0) (hx : w = 12 * i + j) (hl : vi V (vq V m 53) w.toNat = c) (hs : vi V (vq V m 65) w.toNat = 0) (ha : vi V (vq V m 57) w.toNat = a) (hbb : vi V (vq V m 58) w.toNat = b) (hX : X = vi V (vq V m 56) w.toNat) : NMB V m c a b n X := fun L hL hO hk hn => by
  have hiL : i.toNat < L.length := by omega
  obtain ⟨c1, c2, c3⟩ := hL.cl hiL
  have hjl2 : j.toNat < (clA L i.toNat).length := by have := h'.1; omega
  have hr := List.getElem?_eq_getElem hjl2
  obtain ⟨r1, r2, r3, r4⟩ := c3 _ _ hr
  rw [show w.toNat = 12 * i.toNat + j.toNat by omega] at hl hs ha hbb hX
  exact NUMS.hit (h L hL hO hk hn) (h'.2 L hL hO hk hn) h0 hj0 (by omega) hr ⟨r1.symm.trans hl, fun _ => ⟨r3.symm.trans ha, r4.symm.trans hbb⟩⟩ ⟨hb, hs, _, hr⟩ (hX.trans r2)
/-! binds() -/
def RB1 (V V1 : Vmap) (m : Nat) (p d i : Int) : Prop := ∀ L, MTS V m L → OKL L → 0 ≤ d → d ≤ 3599 → BND L (yrm V m p.toNat) d (Bm V1 m) i.toNat
def RBD (V V1 : Vmap) (m : Nat) (p d : Int) : Prop := ∀ L, MTS V m L → OKL L → 0 ≤ d → d ≤ 3599 → MTS V1 m L ∧ ∀ i j : Nat, (RCT V1 m L i j ∧ i < L.length ↔ CNF L (yrm V m p.toNat) d i j)
theorem RB1.beg : RB1 V V1 m p d 0 := fun L _ _ _ _ => BND.nil
theorem RB1.put (h : RB1 V V1 m p d i) (h0 : 0 ≤ i) (hB : ∀ u : Nat, (u : Int) < i → isb V2 m u = isb V1 m u) (e : V3 = upd2 V2 (vq V2 m 64) i.toNat (ti X)) (rX : ir X) (hne : m ≠ vq V2 m 64) (g : ∀ L, MTS V m L → OKL L → 0 ≤ d → d ≤ 3599 → (X ≠ 0 ↔ BDR L (Bm V1 m) (yrm V m p.toNat i.toNat) d i.toNat)) (hn : n = i + 1) : RB1 V V3 m p d n := fun L hL hO hd0 hd => by
  have h1 := h L hL hO hd0 hd
  have hq : vq V3 m 64 = vq V2 m 64 := vq_up e (Or.inl hne)
  have hlow : ∀ k : Nat, k < i.toNat → (Bm V1 m k ↔ Bm V3 m k) := fun k hk => by
    have e9 : isb V3 m k = isb V1 m k := by
      rw [← hB k (by omega)]
      unfold isb
      rw [hq]
      exact vi_up e (Or.inr (by omega))
    show isb V1 m k ≠ 0 ↔ isb V3 m k ≠ 0
    rw [e9]
  rw [hn, show (i + 1).toNat = i.toNat + 1 by omega]
  refine (h1.cong hlow).more ?_
  have e8 : isb V3 m i.toNat = X := by
    unfold isb
    rw [hq]
    exact upd2_int e rX
  have h9 := g L hL hO hd0 hd
  constructor
  · intro q
    have q' : isb V3 m i.toNat ≠ 0 := q
    rw [e8] at q'
    exact BDR.cong hlow (h9.mp q')
  · intro q
    show isb V3 m i.toNat ≠ 0
    rw [e8]
    exact h9.mpr (BDR.cong (fun k hk => (hlow k hk).symm) q)
/-- a text's days, as the reference tells them -/
theorem MTS.day (h : MTS V m L) (h0 : 0 ≤ i) (hi : i < vi V m 47) : ∃ t, L[i.toNat]? = some t ∧ vi V (vq V m 51) i.toNat = t.1 ∧ vi V (vq V m 52) i.toNat = t.2.1 := by
  have hl := h.1
  have hr := List.getElem?_eq_getElem (show i.toNat < L.length by omega)
  obtain ⟨a1, a2, a3, a4, a5⟩ := h.2 _ _ hr
  exact ⟨_, hr, a2, a3⟩
theorem RB1.zz (e : V3 = upd2 V1 (vq V1 m 64) i.toNat (ti X)) (h : RB1 V V1 m p d i) (hM : ∀ L, MTS V m L → MTS V1 m L) (h0 : i = 0) (hi : i < vi V1 m 47) (hX : X ≠ 0 ↔ vi V1 (vq V1 m 51) i.toNat ≤ d ∧ d ≤ vi V1 (vq V1 m 52) i.toNat) (rX : ir X) (hne : m ≠ vq V1 m 64) (hn : n = i + 1) : RB1 V V3 m p d n := h.put (by omega) (fun _ _ => rfl) e rX hne (fun L hL hO hd0 hd => by
  obtain ⟨t, h1, h2, h3⟩ := (hM L hL).day (by omega) hi
  rw [hX, h2, h3]
  exact ⟨fun q => ⟨t, h1, q.1, q.2, Or.inl (by omega)⟩, fun ⟨t', h1', q1, q2, _⟩ => by
    rw [h1] at h1'
    cases h1'
    exact ⟨q1, q2⟩⟩) hn
theorem RB1.nf (h : RB1 V V1 m p d i) (hM : ∀ L, MTS V m L → MTS V1 m L) (h0 : 0 ≤ i) (hi : i < vi V1 m 47) (hf : d < vi V1 (vq V1 m 51) i.toNat ∨ vi V1 (vq V1 m 52) i.toNat < d) (e : V3 = upd2 V1 (vq V1 m 64) i.toNat (ti 0)) (hne : m ≠ vq V1 m 64) (hn : n = i + 1) : RB1 V V3 m p d n := h.put h0 (fun _ _ => rfl) e (ir_c rfl) hne (fun L hL hO hd0 hd => by
  obtain ⟨t, h1, h2, h3⟩ := (hM L hL).day h0 hi
  refine ⟨fun q => absurd rfl q, fun ⟨t', h1', q1, q2, _⟩ => ?_⟩
  rw [h1] at h1'
  cases h1'
  exfalso
  omega) hn
theorem RB1.ny (h : RB1 V V1 m p d i) (h0 : 0 < i) (hp : 0 ≤ p) (hY : ∀ q u, yrm V1 m q u = yrm V m q u) (hy : vi V1 (vq V1 m 59) (20 * p + i).toNat = -1) (e : V3 = upd2 V1 (vq V1 m 64) i.toNat (ti 0)) (hne : m ≠ vq V1 m 64) (hn : n = i + 1) : RB1 V V3 m p d n := h.put (by omega) (fun _ _ => rfl) e (ir_c rfl) hne (fun L hL hO hd0 hd => by
  refine ⟨fun q => absurd rfl q, fun ⟨t', h1', q1, q2, q3⟩ => ?_⟩
  rcases q3 with q3 | ⟨q3, -⟩
  · omega
  · refine absurd ?_ q3
    rw [← hY]
    unfold yrm
    rw [show 20 * p.toNat + i.toNat = (20 * p + i).toNat by omega]
    exact hy) hn
theorem RB1.g {g1 : Int} (e : V3 = upd2 V2 (vq V2 m 64) i.toNat (ti X)) (h : RB1 V V1 m p d i) (hM : ∀ L, MTS V m L → MTS V1 m L) (hM2 : ∀ L, MTS V m L → MTS V2 m L) (h0 : 0 < i) (hp : 0 ≤ p) (hi : i < vi V1 m 47) (hf : vi V1 (vq V1 m 51) i.toNat ≤ d ∧ d ≤ vi V1 (vq V1 m 52) i.toNat) (hY : ∀ q u, yrm V1 m q u = yrm V m q u) (hy : Y = vi V1 (vq V1 m 59) (20 * p + i).toNat) (hyn : Y ≠ -1) (hym : -1 ≤ Y) (hy9 : Y ≤ 3599) (hs : RSK V1 V2 m i) (hB : ∀ u, isb V2 m u = isb V1 m u) (hnb : NMB V2 m 103 0 0 i Z) (hg : (Z = -1 ∧ g1 = 0) ∨ (Z ≠ -1 ∧ g1 = Z)) (hz : ir (d - Y) → z = d - Y) (hX : X ≠ 0 ↔ g1 ≤ z) (rX : ir X) (hne : m ≠ vq V2 m 64) (hn : n = i + 1) : RB1 V V3 m p d n := h.put (by omega) (fun u _ => hB u) e rX hne (fun L hL hO hd0 hd => by
  obtain ⟨t, h1, h2, h3⟩ := (hM L hL).day (by omega) hi
  have hlen := (hM L hL).1
  have ez := hz ⟨by omega, by omega⟩
  have hyr : yrm V m p.toNat i.toNat = Y := by
    rw [← hY, hy]
    unfold yrm
    rw [show 20 * p.toNat + i.toNat = (20 * p + i).toNat by omega]
  have hS := hs L (hM L hL) hO (by omega) (by omega)
  have hN := hnb L (hM2 L hL) hO (Or.inr ⟨by decide, rfl, rfl⟩) (by omega)
  have hge := hN.ge hO
  have hC : ∀ u v, (u < i.toNat → (RCT V2 m L u v ↔ CNQ L (Bm V1 m) i.toNat u v)) := fun u v hu => by
    have hl12 := ((hM L hL).cl (u := u) (by omega)).1
    constructor
    · rintro ⟨q1, q2, r, q3⟩
      have hv := (List.getElem?_eq_some_iff.mp q3).1
      refine ⟨hu, ?_, ⟨r, q3⟩, fun q => ?_⟩
      · show isb V1 m u ≠ 0
        rw [← hB]
        exact q1
      · exact (hS u v (by omega) (by omega)).mpr q q2
    · rintro ⟨-, q1, ⟨r, q3⟩, q4⟩
      have hv := (List.getElem?_eq_some_iff.mp q3).1
      refine ⟨?_, ?_, r, q3⟩
      · show isb V2 m u ≠ 0
        rw [hB]
        exact q1
      · exact Classical.byContradiction fun q => q4 ((hS u v (by omega) (by omega)).mp q)
  have hN2 : NUMS L (CNQ L (Bm V1 m) i.toNat) 103 0 0 i.toNat Z := hN.cong2 hC
  rw [hX, hyr]
  constructor
  · intro q
    refine ⟨t, h1, by omega, by omega, Or.inr ⟨hyn, by omega, fun W hW => ?_⟩⟩
    have := hN2.uniq hW
    omega
  · rintro ⟨t', h1', -, -, q3⟩
    rcases q3 with q3 | ⟨-, q4, q5⟩
    · omega
    · have := q5 Z hN2
      omega) hn
theorem RB1.ga (e : V3 = upd2 V2 (vq V2 m 64) i.toNat (ti X)) (h : RB1 V V1 m p d i) (hM : ∀ L, MTS V m L → MTS V1 m L) (hM2 : ∀ L, MTS V m L → MTS V2 m L) (h0 : 0 < i) (hp : 0 ≤ p) (hi : i < vi V1 m 47) (hf : vi V1 (vq V1 m 51) i.toNat ≤ d ∧ d ≤ vi V1 (vq V1 m 52) i.toNat) (hY : ∀ q u, yrm V1 m q u = yrm V m q u) (hy : Y = vi V1 (vq V1 m 59) (20 * p + i).toNat) (hyn : Y ≠ -1) (hym : -1 ≤ Y) (hy9 : Y ≤ 3599) (hs : RSK V1 V2 m i) (hB : ∀ u, isb V2 m u = isb V1 m u) (hnb : NMB V2 m 103 0 0 i Z) (hg : Z ≠ -1) (hz : ir (d - Y) → z = d - Y) (hX : X ≠ 0 ↔ Z ≤ z) (rX : ir X) (hne : m ≠ vq V2 m 64) (hn : n = i + 1) : RB1 V V3 m p d n := RB1.g (g1 := Z) e h hM hM2 h0 hp hi hf hY hy hyn hym hy9 hs hB hnb (Or.inr ⟨hg, rfl⟩) hz hX rX hne hn
theorem isb_fr {ws : Nat} (hF : FR ws K V K V1) (hm : K m = some (0, 11)) (hW : WT K V) (b1 : ws.testBit (keyK (0, 11) 64) = false) (b2 : ws.testBit (abase + 56) = false) (u : Nat) : isb V1 m u = isb V m u := by
  obtain ⟨N, hA⟩ := (hW.ref hm (j := 64) (Nat.le_of_ble_eq_true rfl) rfl).2
  unfold isb
  rw [vq_eq (hF _ _ 64 hm hm b1)]
  exact vi_frA hF hA hA b2
theorem RBD.mk (h : RB1 V V1 m p d i) (hM : ∀ L, MTS V m L → MTS V1 m L) (hM2 : ∀ L, MTS V m L → MTS V2 m L) (hi : vi V1 m 47 ≤ i) (hB : ∀ u, isb V2 m u = isb V1 m u) (hs : RSK V1 V2 m (vi V1 m 47)) : RBD V V2 m p d := fun L hL hO hd0 hd => by
  have hlen := (hM L hL).1
  have hb := (h L hL hO hd0 hd).mono (m := L.length) (by omega)
  have hS := hs L (hM L hL) hO (by omega) (by omega)
  rw [hlen, Int.toNat_natCast] at hS
  refine ⟨hM2 L hL, fun u v => ?_⟩
  rw [CNF.iff hb]
  constructor
  · rintro ⟨⟨q1, q2, r, q3⟩, hu⟩
    have hl12 := ((hM L hL).cl hu).1
    have hv := (List.getElem?_eq_some_iff.mp q3).1
    refine ⟨hu, ?_, ⟨r, q3⟩, fun q => ?_⟩
    · show isb V1 m u ≠ 0
      rw [← hB]
      exact q1
    · exact (hS u v (by omega) (by omega)).mpr q q2
  · rintro ⟨hu, q1, ⟨r, q3⟩, q4⟩
    have hl12 := ((hM L hL).cl hu).1
    have hv := (List.getElem?_eq_some_iff.mp q3).1
    refine ⟨⟨?_, ?_, r, q3⟩, hu⟩
    · show isb V2 m u ≠ 0
      rw [hB]
      exact q1
    · exact Classical.byContradiction fun q => q4 ((hS u v (by omega) (by omega)).mp q)
end YM
