/-! ### texts, new and old -/
section CT
variable {K K0 K1 K2 K3 K4 K5 : Kmap} {V V0 V1 V2 V3 V4 V5 : Vmap} {x o q t m : Nat} {a b n X : Int} {v w : Value} {l : List CLT}
/-- the table of clauses, new -/
def TBM (K : Kmap) (V : Vmap) (x : Nat) (m : Int) : Prop := vi V x 1 = m ∧ K (vq V x 2) = some (156, (6 * m).toNat)
def TBZ (K : Kmap) (V : Vmap) (x : Nat) : Prop := K (vq V x 2) = none ∧ ∀ j, vi V (vq V x 2) j = 0
theorem TBM.mk {N : Nat} {z : Int} (f1 : V x 1 = ti z) (rz : ir z) (f2 : V x 2 = .ref o) (hK : K o = some (156, N)) (hN : N = (6 * z).toNat) : TBM K V x z := ⟨vi_at f1 rz, by rw [vq_of f2, ← hN]; exact hK⟩
theorem TBZ.mk (f2 : V x 2 = .ref o) (hn : K o = none) (e : V = upd2 V0 x 2 v) (hne : o ≠ x) (hz : ∀ j, V0 o j = .int 0) : TBZ K V x := by
  refine ⟨by rw [vq_of f2]; exact hn, fun j => ?_⟩
  rw [vq_of f2, vi_up e (Or.inl hne)]
  exact (vi_of (hz j)).trans rfl
def CBN (K0 K : Kmap) (V : Vmap) (t : Nat) (z : Int) : Prop := K t = some (0, 33) ∧ K0 t = none ∧ K0 (vq V t 2) = none ∧ vi V t 1 = z ∧ vi V t 3 = 0 ∧ K (vq V t 2) = some (156, (6 * z).toNat) ∧ ∀ j, vi V (vq V t 2) j = 0
/-- a new text -/
def NTX (K0 K : Kmap) (V : Vmap) (x : Nat) (a b n z : Int) : Prop := vi V x 0 = a ∧ vi V x 1 = b ∧ vi V x 4 = 0 ∧ K0 (vq V x 3) = none ∧ K (vq V x 3) = some (145, n.toNat) ∧ CBN K0 K V (vq V x 2) z
theorem ext_none (hE : ext K K1) (h : K1 o = none) : K o = none := by
  cases hk : K o with
  | none => rfl
  | some kd =>
    rcases hE o kd hk with q | ⟨ci, cj, -, -, -, q⟩
    · rw [h] at q; cases q
    · rw [h] at q; cases q
theorem NTX.mk {N s : Nat} {z : Int} (f0 : V5 x 0 = ti a) (ra : ir a) (f1 : V5 x 1 = ti b) (rb : ir b) (f4 : V5 x 4 = ti 0) (f2 : V5 x 2 = .ref t) (f3 : V5 x 3 = .ref s) (hs : K5 s = some (145, N)) (hN : N = n.toNat) (hs0 : K0 s = none) (ht5 : K5 t = some (0, 33)) (ht0 : K0 t = none) (ht : K2 t = some (0, 33)) (h3 : vi V2 t 3 = 0) (hM : TBM K2 V2 t z) (hZ : TBZ K1 V2 t) (hE1 : ext K0 K1) (hx : K2 x = some (0, 20)) (hs2 : K2 s = none) (hE2 : ext K2 K5) (e3 : V3 = upd2 V2 x 2 v) (hV : ∀ y, y ≠ s → V4 y = V3 y) (e5 : V5 = upd2 V4 x 3 w) : NTX K0 K5 V5 x a b n z := by
  have hf : ∀ y, y ≠ x → y ≠ s → V5 y = V2 y := fun y h1 h2 => by
    have a1 : V5 y = V4 y := funext fun j => uq_ne e5 (Or.inl h1)
    have a2 : V3 y = V2 y := funext fun j => uq_ne e3 (Or.inl h1)
    rw [a1, hV y h2, a2]
  have g1 := hf t (K_ne ht hx (by decide)) (K_old ht hs2)
  have r2 : vq V5 t 2 = vq V2 t 2 := by unfold vq; rw [g1]
  have g2 := hf (vq V2 t 2) (K_ne hM.2 hx (by simp)) (K_old hM.2 hs2)
  refine ⟨vi_at f0 ra, vi_at f1 rb, vi_at f4 (ir_c rfl), by rw [vq_of f3]; exact hs0, by rw [vq_of f3, ← hN]; exact hs, ?_⟩
  rw [vq_of f2]
  refine ⟨ht5, ht0, ?_, ?_, ?_, ?_, fun j => ?_⟩
  · rw [r2]; exact ext_none hE1 hZ.1
  · unfold vi; rw [g1]; exact hM.1
  · unfold vi; rw [g1]; exact h3
  · rw [r2]; exact hE2.arr hM.2
  · rw [r2]; unfold vi; rw [g2]; exact hZ.2 j
/-- a new reader -/
def SCW (V : Vmap) (x s : Nat) (e : Int) (t : Nat) : Prop := V x 0 = .ref s ∧ vi V x 1 = e ∧ V x 2 = .ref t ∧ vi V x 3 = 0 ∧ vi V x 4 = 0 ∧ vi V x 5 = 0
/-! ### what a text says -/
def rowOkT (V : Vmap) (R j : Nat) (r : CLT) : Prop := ∃ st en, (vi V R (6 * j) = r.1 ∧ vi V R (6 * j + 1) = r.2.1 ∧ vi V R (6 * j + 2) = r.2.2.1 ∧ vi V R (6 * j + 3) = r.2.2.2 ∧ vi V R (6 * j + 4) = st ∧ vi V R (6 * j + 5) = en) ∧ (askB r.1 → st < en) ∧ (¬ askB r.1 → en ≤ st)
def TXT (K : Kmap) (V : Vmap) (t : Nat) (l : List CLT) : Prop := K (vq V t 2) = some (0, 33) ∧ TRM K V (vq V t 2) 6 12 ∧ vi V (vq V t 2) 1 = 12 ∧ vi V (vq V t 2) 3 = (l.length : Int) ∧ (∃ N, K (vq V (vq V t 2) 2) = some (156, N)) ∧ ∀ j r, l[j]? = some r → rowOkT V (vq V (vq V t 2) 2) j r
abbrev TXL : Type := Int × Int × List CLT
def lwO (V : Vmap) (x : Nat) : Nat := vq V x 1
def txA (V : Vmap) (x : Nat) : Nat := vq V (lwO V x) 0
def txN (V : Vmap) (x : Nat) : Int := vi V (lwO V x) 1
def txO (V : Vmap) (x i : Nat) : Nat := vq V (txA V x) i
/-- the texts are those of a list -/
def CTS (K : Kmap) (V : Vmap) (x : Nat) (L : List TXL) : Prop := txN V x = (L.length : Int) ∧ ∀ i t, L[i]? = some t → V (txA V x) i = .ref (txO V x i) ∧ K (txO V x i) = some (0, 8) ∧ vi V (txO V x i) 0 = t.1 ∧ vi V (txO V x i) 1 = t.2.1 ∧ TXT K V (txO V x i) t.2.2
/-! what stays -/
def SAM (P : Nat × Nat → Nat → Prop) (K : Kmap) (V V1 : Vmap) : Prop := ∀ o kd j, K o = some kd → P kd j → V1 o j = V o j
/-- the places that texts are told by; those of the tape -/
def TXK (kd : Nat × Nat) (j : Nat) : Prop := (kd = (0, 8) ∧ j < 3) ∨ (kd = (0, 33) ∧ j < 4) ∨ kd.1 = 156 ∨ (kd = (0, 10) ∧ j = 1) ∨ (kd = (0, 1) ∧ j < 2) ∨ kd.1 = 9
def TPK (kd : Nat × Nat) (j : Nat) : Prop := (kd = (0, 10) ∧ j = 17) ∨ (kd = (0, 31) ∧ (j = 2 ∨ j = 3)) ∨ kd.1 = 154
section SAMS
variable {P : Nat × Nat → Nat → Prop}
theorem SAM.rf : SAM P K V V := fun _ _ _ _ _ => rfl
theorem SAM.tr (h : SAM P K V V1) (g : SAM P K V1 V2) : SAM P K V V2 := fun o kd j ho hp => (g o kd j ho hp).trans (h o kd j ho hp)
theorem SAM.nw (hE : ext K K1) (hq : K1 q = none) (hV : ∀ y, y ≠ q → V1 y = V y) : SAM P K V V1 := fun o kd j ho _ => by rw [hV o (K_old ho (ext_none hE hq))]
theorem SAM.put {k : Nat} {kq : Nat × Nat} (hE : ext K K1) (hq : K1 q = some kq) (e : V1 = upd2 V q k v) (hp : ∀ kd, K q = some kd → ¬ P kd k) : SAM P K V V1 := fun o kd j ho hpo => by
  refine uq_ne e ?_
  by_cases h1 : o = q
  · subst h1
    refine Or.inr (fun h2 => ?_)
    subst h2
    exact hp kd ho hpo
  · exact Or.inl h1
end SAMS
theorem fullK_txk {kd : Nat × Nat} {j : Nat} (h : TXK kd j) : fullK kd := by
  rcases h with ⟨rfl, -⟩ | ⟨rfl, -⟩ | h | ⟨rfl, -⟩ | ⟨rfl, -⟩ | h
  · exact fun _ => Or.inl (by decide)
  · exact fun _ => Or.inr (by decide)
  · exact fun e => absurd e (by rw [h]; decide)
  · exact fun _ => Or.inl (by decide)
  · exact fun _ => Or.inl (by decide)
  · exact fun e => absurd e (by rw [h]; decide)
theorem fullK_tpk {kd : Nat × Nat} {j : Nat} (h : TPK kd j) : fullK kd := by
  rcases h with ⟨rfl, -⟩ | ⟨rfl, -⟩ | h
  · exact fun _ => Or.inl (by decide)
  · exact fun _ => Or.inr (by decide)
  · exact fun e => absurd e (by rw [h]; decide)
def kpbits (ws : Nat) : Bool := [keyK (0, 8) 0, keyK (0, 8) 1, keyK (0, 8) 2, keyK (0, 33) 0, keyK (0, 33) 1, keyK (0, 33) 2, keyK (0, 33) 3, abase + 156, keyK (0, 10) 1].all fun b => !ws.testBit b
def txbits (ws : Nat) : Bool := [keyK (0, 8) 0, keyK (0, 8) 1, keyK (0, 8) 2, keyK (0, 33) 0, keyK (0, 33) 1, keyK (0, 33) 2, keyK (0, 33) 3, abase + 156, keyK (0, 10) 1, keyK (0, 1) 0, keyK (0, 1) 1, abase + 9].all fun b => !ws.testBit b
def tpbits (ws : Nat) : Bool := [keyK (0, 10) 17, keyK (0, 31) 2, keyK (0, 31) 3, abase + 154].all fun b => !ws.testBit b
theorem SAM.frx {ws : Nat} (hE : ext K K1) (hF : FR ws K1 V K2 V1) (hE2 : ext K1 K2) (hb : txbits ws = true) : SAM TXK K V V1 := fun o kd j ho hp => by
  simp only [txbits, List.all_cons, List.all_nil, Bool.and_true, Bool.and_eq_true, Bool.not_eq_true'] at hb
  obtain ⟨b0, b1, b2, d0, d1, d2, d3, e1, c1, l0, l1, a9⟩ := hb
  have h1 := hE.full ho (fullK_txk hp)
  have h2 := hE2.full h1 (fullK_txk hp)
  refine hF o kd j h1 h2 ?_
  rcases hp with ⟨rfl, hj⟩ | ⟨rfl, hj⟩ | h | ⟨rfl, rfl⟩ | ⟨rfl, hj⟩ | h
  · match j, hj with
    | 0, _ => exact b0
    | 1, _ => exact b1
    | 2, _ => exact b2
    | j + 3, h => exact absurd h (by omega)
  · match j, hj with
    | 0, _ => exact d0
    | 1, _ => exact d1
    | 2, _ => exact d2
    | 3, _ => exact d3
    | j + 4, h => exact absurd h (by omega)
  · obtain ⟨t, n⟩ := kd
    have h' : t = 156 := h
    subst h'
    exact e1
  · exact c1
  · match j, hj with
    | 0, _ => exact l0
    | 1, _ => exact l1
    | j + 2, h => exact absurd h (by omega)
  · obtain ⟨t, n⟩ := kd
    have h' : t = 9 := h
    subst h'
    exact a9
theorem SAM.frt {ws : Nat} (hE : ext K K1) (hF : FR ws K1 V K2 V1) (hE2 : ext K1 K2) (hb : tpbits ws = true) : SAM TPK K V V1 := fun o kd j ho hp => by
  simp only [tpbits, List.all_cons, List.all_nil, Bool.and_true, Bool.and_eq_true, Bool.not_eq_true'] at hb
  obtain ⟨b0, b1, b2, d0⟩ := hb
  have h1 := hE.full ho (fullK_tpk hp)
  have h2 := hE2.full h1 (fullK_tpk hp)
  refine hF o kd j h1 h2 ?_
  rcases hp with ⟨rfl, rfl⟩ | ⟨rfl, rfl | rfl⟩ | h
  · exact b0
  · exact b1
  · exact b2
  · obtain ⟨t, n⟩ := kd
    have h' : t = 154 := h
    subst h'
    exact d0
/-- what a reader does, beside its own objects -/
theorem SAM.sfr {P : Nat × Nat → Nat → Prop} (h : SFR V V1 x) (h0 : K x = none) (h1 : K (scT V x) = none) (h2 : K (scS V x) = none) (h3 : K (cbT V x) = none) (h4 : K (cbR V x) = none) : SAM P K V V1 := fun o kd j ho _ => by
  rw [h.2.2.2.2.2.2 o (K_old ho h0) (K_old ho h1) (K_old ho h2) (K_old ho h3) (K_old ho h4)]
theorem TXT.keep (h : TXT K V t l) (ht : K t = some (0, 8)) (hE : ext K K1) (g : SAM TXK K V V1) : TXT K1 V1 t l := by
  obtain ⟨h0, ⟨r1, r2, r3, tg, r4⟩, h1, h2, ⟨N, h3⟩, h4⟩ := h
  have q1 : vq V1 t 2 = vq V t 2 := vq_eq (g t _ 2 ht (Or.inl ⟨rfl, by decide⟩))
  have k2 : ∀ k, k < 4 → vi V1 (vq V t 2) k = vi V (vq V t 2) k := fun k hk => vi_eq (g _ _ k h0 (Or.inr (Or.inl ⟨rfl, hk⟩)))
  have q2 : vq V1 (vq V t 2) 2 = vq V (vq V t 2) 2 := vq_eq (g _ _ 2 h0 (Or.inr (Or.inl ⟨rfl, by decide⟩)))
  have q3 : ∀ j, vi V1 (vq V (vq V t 2) 2) j = vi V (vq V (vq V t 2) 2) j := fun j => vi_eq (g _ _ j h3 (Or.inr (Or.inr (Or.inl rfl))))
  unfold TXT
  rw [q1, q2]
  refine ⟨hE.obj (Or.inr (by decide)) h0, ⟨by rw [k2 0 (by decide)]; exact r1, by rw [k2 3 (by decide)]; exact r2, by rw [k2 3 (by decide)]; exact r3, tg, by rw [q2]; exact hE.arr r4⟩, by rw [k2 1 (by decide)]; exact h1, by rw [k2 3 (by decide)]; exact h2, ⟨N, hE.arr h3⟩, fun j r hr => ?_⟩
  obtain ⟨st, en, p1, p2⟩ := h4 j r hr
  refine ⟨st, en, ?_, p2⟩
  simp only [q3]
  exact p1
theorem lw_own (hx : K x = some (0, 10)) (hW : WT K V) : K (lwO V x) = some (0, 1) ∧ ∃ N, K (txA V x) = some (8 + 1, N) := by
  have h1 : K (lwO V x) = some (0, 1) := (hW.ref hx (j := 1) (Nat.le_of_ble_eq_true rfl) rfl).2
  exact ⟨h1, (hW.ref h1 (j := 0) (Nat.le_of_ble_eq_true rfl) rfl).2⟩
/-- the law's object and its row of texts stay -/
theorem SAM.law (g : SAM TXK K V V1) (hx : K x = some (0, 10)) (hW : WT K V) : lwO V1 x = lwO V x ∧ txA V1 x = txA V x ∧ txN V1 x = txN V x ∧ ∀ i, V1 (txA V x) i = V (txA V x) i := by
  obtain ⟨hl, N, hA⟩ := lw_own hx hW
  have s1 : lwO V1 x = lwO V x := vq_eq (g _ _ 1 hx (by unfold TXK; simp))
  have s2 : txA V1 x = txA V x := by unfold txA; rw [s1]; exact vq_eq (g _ _ 0 hl (by unfold TXK; simp))
  exact ⟨s1, s2, by unfold txN; rw [s1]; exact vi_eq (g _ _ 1 hl (by unfold TXK; simp)), fun i => g _ _ i hA (by unfold TXK; simp)⟩
theorem CTS.sam {L : List TXL} (h : CTS K V x L) (hE : ext K K1) (hx : K x = some (0, 10)) (hW : WT K V) (g : SAM TXK K V V1) : CTS K1 V1 x L := by
  obtain ⟨h1, h2⟩ := h
  obtain ⟨s1, s2, s3, s4⟩ := g.law hx hW
  refine ⟨by rw [s3]; exact h1, fun i t ht => ?_⟩
  obtain ⟨a1, a2, a3, a4, a5⟩ := h2 i t ht
  have e1 : txO V1 x i = txO V x i := by unfold txO; rw [s2]; exact vq_eq (s4 i)
  rw [e1, s2, s4 i]
  exact ⟨a1, hE.obj (Or.inl (by decide)) a2, by rw [vi_eq (g _ _ 0 a2 (by unfold TXK; simp))]; exact a3, by rw [vi_eq (g _ _ 1 a2 (by unfold TXK; simp))]; exact a4, a5.keep a2 hE g⟩
theorem TSame.sam (hx : K x = some (0, 10)) (hW : WT K V) (g : SAM TPK K V V1) : TSame V V1 x ∧ tpO V1 x = tpO V x := by
  obtain ⟨hT, hC, -, -⟩ := tp_own hx hW
  have s1 : tpO V1 x = tpO V x := vq_eq (g _ _ 17 hx (by unfold TPK; simp))
  refine ⟨⟨by unfold tpN; rw [s1]; exact vi_eq (g _ _ 3 hT (by unfold TPK; simp)), fun j => ?_⟩, s1⟩
  unfold tpC
  rw [s1, vq_eq (g _ _ 2 hT (by unfold TPK; simp))]
  exact vi_eq (g _ _ j hC (by unfold TPK; simp))
theorem CTS.nil (h : txN V x = 0) : CTS K V x [] := ⟨h, fun i t ht => by simp at ht⟩
/-- addText() -/
def ADT (V V1 : Vmap) (x t : Nat) (X : Int) : Prop := vi V x 1 < 20 → X = vi V x 1 ∧ vi V1 x 1 = vi V x 1 + 1 ∧ vq V1 x 0 = vq V x 0 ∧ V1 (vq V x 0) (vi V x 1).toNat = .ref t ∧ ∀ i, i ≠ (vi V x 1).toNat → V1 (vq V x 0) i = V (vq V x 0) i
def adbits (ws : Nat) : Bool := [keyK (0, 1) 0, keyK (0, 1) 1, abase + 9].all fun b => !ws.testBit b
theorem ADT.full (h : 20 ≤ vi V x 1) : ADT V V1 x t X := fun h20 => absurd h20 (by omega)
theorem ADT.mk {z : Int} {ws : Nat} (hx : K x = some (0, 1)) (hW : WT K V) (e1 : V1 = upd2 V (vq V x 0) (vi V x 1).toNat (.ref t)) (hF : FR ws K V1 K V2) (hb : adbits ws = true) (e3 : V3 = upd2 V2 x 1 (ti z)) (hz : z = vi V x 1 + 1) (rz : ir z) (hX : X = vi V x 1) : ADT V V3 x t X := fun h20 => by
  simp only [adbits, List.all_cons, List.all_nil, Bool.and_true, Bool.and_eq_true, Bool.not_eq_true'] at hb
  obtain ⟨b0, b1, b2⟩ := hb
  obtain ⟨N, hA⟩ := (hW.ref hx (j := 0) (Nat.le_of_ble_eq_true rfl) rfl).2
  have hne : x ≠ vq V x 0 := K_ne hx hA (by simp)
  have a0 : vq V1 x 0 = vq V x 0 := vq_up e1 (Or.inl hne)
  have a1 : vq V2 x 0 = vq V1 x 0 := vq_eq (hF _ _ 0 hx hx b0)
  have a2 : ∀ i, V2 (vq V x 0) i = V1 (vq V x 0) i := fun i => hF _ _ i hA hA b2
  refine ⟨hX, by rw [upd2_int e3 rz, hz], by rw [vq_up e3 (Or.inr (by decide)), a1, a0], ?_, fun i hi => ?_⟩
  · rw [uq_ne e3 (Or.inl (Ne.symm hne)), a2]; exact uq_at e1
  · rw [uq_ne e3 (Or.inl (Ne.symm hne)), a2]; exact uq_ne e1 (Or.inr hi)
/-- faultAnswer() -/
def FAN (V : Vmap) (x : Nat) (X : Int) : Prop := 0 ≤ vi V x 5 → vi V x 5 ≤ 5 → 0 ≤ vi V x 6 → vi V x 6 ≤ 1000 → X = -1000 * vi V x 5 - vi V x 6
theorem FAN.mk {z : Int} (h1 : ir ((-1000) * vi V x 5) → z = (-1000) * vi V x 5) (h2 : ir (z - vi V x 6) → X = z - vi V x 6) : FAN V x X := fun a b c d => by
  have e1 := h1 ⟨by omega, by omega⟩
  have e2 := h2 ⟨by omega, by omega⟩
  omega
/-! a reader begins -/
def ntbits (ws : Nat) : Bool := [keyK (0, 8) 0, keyK (0, 8) 1, keyK (0, 8) 2, keyK (0, 8) 3, keyK (0, 8) 4, keyK (0, 33) 1, keyK (0, 33) 2, keyK (0, 33) 3, abase + 156].all fun b => !ws.testBit b
theorem NTX.fr {ws : Nat} {z : Int} (h : NTX K0 K V t a b n z) (ht : K t = some (0, 8)) (hF : FR ws K V K1 V1) (hE : ext K K1) (hb : ntbits ws = true) : NTX K0 K1 V1 t a b n z := by
  simp only [ntbits, List.all_cons, List.all_nil, Bool.and_true, Bool.and_eq_true, Bool.not_eq_true'] at hb
  obtain ⟨b0, b1, b2, b3, b4, d1, d2, d3, e1⟩ := hb
  obtain ⟨h0, h1, h4, h30, h3, ht0, htn, hrn, hm, hs, hR, hz⟩ := h
  have k1 := hE.obj (Or.inl (by decide)) ht
  have k2 := hE.obj (Or.inr (by decide)) ht0
  have q2 : vq V1 t 2 = vq V t 2 := vq_eq (hF _ _ 2 ht k1 b2)
  have q3 : vq V1 t 3 = vq V t 3 := vq_eq (hF _ _ 3 ht k1 b3)
  have r2 : vq V1 (vq V t 2) 2 = vq V (vq V t 2) 2 := vq_eq (hF _ _ 2 ht0 k2 d2)
  unfold NTX CBN
  rw [q2, q3, r2]
  exact ⟨by rw [vi_fr hF ht k1 b0]; exact h0, by rw [vi_fr hF ht k1 b1]; exact h1, by rw [vi_fr hF ht k1 b4]; exact h4, h30, hE.arr h3, k2, htn, hrn, by rw [vi_fr hF ht0 k2 d1]; exact hm, by rw [vi_fr hF ht0 k2 d3]; exact hs, hE.arr hR, fun j => by rw [vi_frA hF hR (hE.arr hR) e1]; exact hz j⟩
theorem NTX.nw {z : Int} (h : NTX K0 K V t a b n z) (ht : K t = some (0, 8)) (hE : ext K K1) (hq : K q = none) (hV : ∀ y, y ≠ q → V1 y = V y) : NTX K0 K1 V1 t a b n z := by
  obtain ⟨h0, h1, h4, h30, h3, ht0, htn, hrn, hm, hs, hR, hz⟩ := h
  have f1 := hV t (K_old ht hq)
  have f2 := hV _ (K_old ht0 hq)
  have f3 := hV _ (K_old hR hq)
  have q2 : vq V1 t 2 = vq V t 2 := by unfold vq; rw [f1]
  have q3 : vq V1 t 3 = vq V t 3 := by unfold vq; rw [f1]
  have r2 : vq V1 (vq V t 2) 2 = vq V (vq V t 2) 2 := vq_eq (congrFun f2 2)
  unfold NTX CBN
  rw [q2, q3, r2]
  exact ⟨by unfold vi; rw [f1]; exact h0, by unfold vi; rw [f1]; exact h1, by unfold vi; rw [f1]; exact h4, h30, hE.arr h3, hE.obj (Or.inr (by decide)) ht0, htn, hrn, by unfold vi; rw [f2]; exact hm, by unfold vi; rw [f2]; exact hs, hE.arr hR, fun j => by unfold vi; rw [f3]; exact hz j⟩
theorem NTX.old {z : Int} (h : NTX K0 K V t a b n z) (hE : ext K1 K0) : NTX K1 K V t a b n z := by
  obtain ⟨h0, h1, h4, h30, h3, ht0, htn, hrn, hm, hs, hR, hz⟩ := h
  exact ⟨h0, h1, h4, ext_none hE h30, h3, ht0, ext_none hE htn, ext_none hE hrn, hm, hs, hR, hz⟩
theorem AT.new {s e : Nat} {z : Int} {src : Nat → Int} (hS : SCW V x s (e : Int) t) (hN : NTX K0 K V t a b (e : Int) z) (he : e ≤ 200) (hs : ∀ j : Nat, j < e → vi V s j = src j ∧ 0 ≤ src j ∧ src j ≤ 255) : AT K V x src e (TmC V x) ∧ psE (TmC V x) (0, 0, fun _ => 0) := by
  obtain ⟨s0, s1, s2, s3, s4, s5⟩ := hS
  have t1 : scT V x = t := vq_of s2
  have n0 : scN V x = 0 := by unfold scN; rw [t1]; exact hN.2.2.1
  have q0 : vq V x 0 = s := vq_of s0
  have hT : TmC V x = (0, 0, fun j => cvt (vi V (scS V x) j)) := by
    unfold TmC
    rw [s3, n0]
    rfl
  refine ⟨⟨⟨s1, he, ⟨e, Nat.le_refl _, ?_⟩, fun j hj => by rw [q0]; exact hs j hj⟩, s5, rfl, by omega, by omega, by rw [hT]; exact Nat.zero_le _, fun j hj => ?_⟩, by rw [hT]; exact ⟨rfl, rfl⟩⟩
  · unfold scS
    rw [t1]
    exact hN.2.2.2.2.1
  · rw [n0] at hj
    exact absurd hj (Nat.not_lt_zero _)
theorem CLC.new {s mm : Nat} {c : Int} (hS : SCW V x s c t) (hN : NTX K0 K V t a b n (mm : Int)) (hm : mm ≤ 12) (hW : WT K V) : CLC K V x mm [] := by
  obtain ⟨-, -, -, -, -, ht0, htn, hrn, hm1, hs, hR, hz⟩ := hN
  have t1 : scT V x = t := vq_of hS.2.2.1
  have t2 : cbT V x = vq V t 2 := by unfold cbT; rw [t1]
  have h0 := (hW.int ht0 (j := 0) (Nat.le_of_ble_eq_true rfl) rfl).2
  have hR' : K (vq V (vq V t 2) 2) = some (155 + 1, 6 * mm) := by rw [hR, show (6 * (mm : Int)).toNat = 6 * mm by omega]
  unfold CLC CLT0 cbN cbC cbR TRM
  rw [t2]
  exact ⟨⟨by omega, by omega, by omega, 155, hR'⟩, hm1, hm, hs, fun j r hr => by simp at hr, fun i _ => hz i⟩
/-- the clauses that a reader has read are its text's -/
theorem CLC.txt (h : CLC K V x 12 l) (hx : K x = some (0, 4)) (hW : WT K V) : TXT K V (scT V x) l := by
  obtain ⟨-, hC, hR, -⟩ := sc_own hx hW
  obtain ⟨h1, h2, -, h4, h5, -⟩ := h
  exact ⟨hC, h1, h2, h4, hR, fun j r hr => by
    obtain ⟨st, en, p1, p2⟩ := h5 j r hr
    exact ⟨st, en, p1, p2⟩⟩
/-! text() -/
def TXC (V : Vmap) (x : Nat) (a b n : Int) : Prop := 0 ≤ a ∧ a ≤ b ∧ b ≤ 3599 ∧ 1 ≤ n ∧ n ≤ 200 ∧ txN V x < 20 ∧ n ≤ tpN V x
abbrev pz : PS := (0, 0, fun _ => 0)
def CTX (K K1 : Kmap) (V V1 : Vmap) (x : Nat) (a b n X : Int) : Prop := ∀ L, CTS K V x L → (¬ TXC V x a b n ∧ X = -1 ∧ CTS K1 V1 x L ∧ TSame V V1 x) ∨ (TXC V x a b n ∧ tpN V1 x = 0 ∧ match texF (tpC V x) n.toNat pz with
  | .error q => X = -1000 * q.1 - (q.2 : Int) ∧ CTS K1 V1 x L
  | .ok r => X = (L.length : Int) ∧ CTS K1 V1 x (L ++ [(a, b, r.2)]))
theorem CTX.no (h : ¬ TXC V x a b n) (hX : X = -1) : CTX K K V V x a b n X := fun L hL => Or.inl ⟨h, hX, hL, rfl, fun _ => rfl⟩
/-- the reader stands ready, before it reads; x: IceTreaty, t: its text, q: the reader -/
def RDY (K K1 : Kmap) (V V1 : Vmap) (t q : Nat) (a b n z : Int) : Prop := ext K K1 ∧ K q = none ∧ K t = none ∧ K1 q = some (0, 4) ∧ K1 t = some (0, 8) ∧ SAM TXK K V V1 ∧ SAM TPK K V V1 ∧ NTX K K1 V1 t a b n z
theorem RDY.mk {w1 w2 : Nat} {z : Int} (hq1 : K t = none) (hE1 : ext K K1) (hV1 : ∀ y, y ≠ t → V1 y = V y) (hN : NTX K1 K2 V2 t a b n z) (ht : K2 t = some (0, 8)) (hE2 : ext K1 K2) (hF2 : FR w1 K1 V1 K2 V2) (hq3 : K2 q = none) (hE3 : ext K2 K3) (hV3 : ∀ y, y ≠ q → V3 y = V2 y) (hq4 : K4 q = some (0, 4)) (hE4 : ext K3 K4) (hF4 : FR w2 K3 V3 K4 V4) (b1 : txbits w1 = true) (b2 : tpbits w1 = true) (c1 : txbits w2 = true) (c2 : tpbits w2 = true) (c3 : ntbits w2 = true) : RDY K K4 V V4 t q a b n z := by
  have e12 := hE1.tr hE2
  have e13 := e12.tr hE3
  have t3 := hE3.obj (Or.inl (by decide)) ht
  exact ⟨e13.tr hE4, ext_none e12 hq3, hq1, hq4, hE4.obj (Or.inl (by decide)) t3,
    ((SAM.nw ext.rf hq1 hV1).tr (SAM.frx hE1 hF2 hE2 b1)).tr ((SAM.nw e12 hq3 hV3).tr (SAM.frx e13 hF4 hE4 c1)),
    ((SAM.nw ext.rf hq1 hV1).tr (SAM.frt hE1 hF2 hE2 b2)).tr ((SAM.nw e12 hq3 hV3).tr (SAM.frt e13 hF4 hE4 c2)),
    ((hN.nw ht hE3 hq3 hV3).fr t3 hF4 hE4 c3).old hE1⟩
/-- it has read, and the tape is empty -/
def RDD (K K1 : Kmap) (V V1 : Vmap) (x t q : Nat) : Prop := ext K K1 ∧ K1 q = some (0, 4) ∧ K1 t = some (0, 8) ∧ K t = none ∧ SAM TXK K V V1 ∧ tpN V1 x = 0 ∧ tpO V1 x = tpO V x
theorem RDD.mk {s e : Nat} {z : Int} (h : RDY K K1 V V1 t q a b (e : Int) z) (hS : SCW V1 q s (e : Int) t) (hx : K x = some (0, 10)) (hW : WT K V) (hr : SFR V1 V2 q) (e3 : V3 = upd2 V2 (vq V2 x 17) 3 (ti 0)) : RDD K K1 V V3 x t q ∧ SAM TXK K V V2 ∧ SAM TPK K V V2 ∧ vq V2 x 17 = tpO V x := by
  obtain ⟨hE, hq0, ht0, hq, ht, s1, s2, hN⟩ := h
  have t1 : scT V1 q = t := vq_of hS.2.2.1
  have n1 : K (scT V1 q) = none := by rw [t1]; exact ht0
  have n2 : K (scS V1 q) = none := by unfold scS; rw [t1]; exact hN.2.2.2.1
  have n3 : K (cbT V1 q) = none := by unfold cbT; rw [t1]; exact hN.2.2.2.2.2.2.1
  have n4 : K (cbR V1 q) = none := by unfold cbR cbT; rw [t1]; exact hN.2.2.2.2.2.2.2.1
  have a1 : SAM TXK K V V2 := s1.tr (SAM.sfr hr hq0 n1 n2 n3 n4)
  have a2 : SAM TPK K V V2 := s2.tr (SAM.sfr hr hq0 n1 n2 n3 n4)
  obtain ⟨hT, hC, -, -⟩ := tp_own hx hW
  have o2 : vq V2 x 17 = tpO V x := (TSame.sam hx hW a2).2
  rw [o2] at e3
  refine ⟨⟨hE, hq, ht, ht0, a1.tr (SAM.put hE (hE.obj (Or.inr (by decide)) hT) e3 (fun kd hk hp => ?_)), ?_⟩, a1, a2, o2⟩
  · rw [hT] at hk
    cases hk
    unfold TXK at hp
    simp at hp
  · have o3 : tpO V3 x = tpO V x := (vq_up e3 (Or.inl (K_ne hx hT (by decide)))).trans o2
    refine ⟨?_, o3⟩
    unfold tpN
    rw [o3]
    exact upd2_int e3 (ir_c rfl)
theorem CTS.add {L : List TXL} {t : Nat} (h : CTS K V x L) (hE : ext K K1) (hx : K x = some (0, 10)) (hW : WT K V) (g : SAM TXK K V V1) (had : ADT V1 V2 (vq V1 x 1) t X) {w : Nat} (hF : FR w K1 V1 K1 V2) (hb : kpbits w = true) (hx1 : K1 x = some (0, 10)) (hl20 : txN V x < 20) (ht : K1 t = some (0, 8)) (h0 : vi V1 t 0 = a) (h1 : vi V1 t 1 = b) (hT : TXT K1 V1 t l) : X = (L.length : Int) ∧ CTS K1 V2 x (L ++ [(a, b, l)]) := by
  obtain ⟨s1, s2, s3, s4⟩ := g.law hx hW
  obtain ⟨hl, N, hA⟩ := lw_own hx hW
  obtain ⟨hl0, hold⟩ := h
  have kb := hb
  simp only [kpbits, List.all_cons, List.all_nil, Bool.and_true, Bool.and_eq_true, Bool.not_eq_true'] at hb
  obtain ⟨b0, b1, b2, d0, d1, d2, d3, e1, c1⟩ := hb
  have o1 : vq V1 x 1 = lwO V x := s1
  rw [o1] at had
  have n1 : vi V1 (lwO V x) 1 = txN V x := by have := s3; unfold txN at this; rw [s1] at this; exact this
  have r1 : vq V1 (lwO V x) 0 = txA V x := by have := s2; unfold txA at this; rw [s1] at this; exact this
  obtain ⟨p1, p2, p3, p4, p5⟩ := had (by rw [n1]; exact hl20)
  rw [n1] at p1 p2 p4 p5
  rw [r1] at p3 p4 p5
  have q1 : lwO V2 x = lwO V x := (vq_eq (hF _ _ 1 hx1 hx1 c1)).trans o1
  have q2 : txA V2 x = txA V x := by unfold txA; rw [q1]; exact p3
  have q3 : txN V2 x = (L.length : Int) + 1 := by unfold txN; rw [q1, p2, hl0]
  have kf : ∀ o, K1 o = some (0, 8) → V2 o 0 = V1 o 0 ∧ V2 o 1 = V1 o 1 ∧ V2 o 2 = V1 o 2 := fun o ho => ⟨hF _ _ _ ho ho b0, hF _ _ _ ho ho b1, hF _ _ _ ho ho b2⟩
  have tk : ∀ o l, K1 o = some (0, 8) → TXT K1 V1 o l → TXT K1 V2 o l := fun o l ho hl => by
    obtain ⟨h0, ⟨r1, r2, r3, tg, r4⟩, h1, h2, ⟨N, h3⟩, h4⟩ := hl
    have z1 : vq V2 o 2 = vq V1 o 2 := vq_eq (kf o ho).2.2
    have z2 : vq V2 (vq V1 o 2) 2 = vq V1 (vq V1 o 2) 2 := vq_eq (hF _ _ 2 h0 h0 d2)
    have z3 : ∀ j, vi V2 (vq V1 (vq V1 o 2) 2) j = vi V1 (vq V1 (vq V1 o 2) 2) j := fun j => vi_frA hF h3 h3 e1
    unfold TXT
    rw [z1, z2]
    refine ⟨h0, ⟨by rw [vi_fr hF h0 h0 d0]; exact r1, by rw [vi_fr hF h0 h0 d3]; exact r2, by rw [vi_fr hF h0 h0 d3]; exact r3, tg, by rw [z2]; exact r4⟩, by rw [vi_fr hF h0 h0 d1]; exact h1, by rw [vi_fr hF h0 h0 d3]; exact h2, ⟨N, h3⟩, fun j r hr => ?_⟩
    obtain ⟨st, en, y1, y2⟩ := h4 j r hr
    refine ⟨st, en, ?_, y2⟩
    simp only [z3]
    exact y1
  refine ⟨by rw [p1, hl0], by rw [q3, List.length_append]; simp, fun i tt hi => ?_⟩
  have e2 : txO V2 x i = vq V2 (txA V x) i := by unfold txO; rw [q2]
  rw [e2, q2]
  by_cases c : i < L.length
  · rw [List.getElem?_append_left c] at hi
    obtain ⟨a1, a2, a3, a4, a5⟩ := hold i tt hi
    have w1 : V2 (txA V x) i = V (txA V x) i := (p5 i (by rw [hl0]; omega)).trans (s4 i)
    have w2 : vq V2 (txA V x) i = txO V x i := vq_eq w1
    rw [w1, w2]
    have k1 := hE.obj (Or.inl (by decide)) a2
    obtain ⟨f0, f1, f2⟩ := kf _ k1
    exact ⟨a1, k1, by rw [vi_eq f0, vi_eq (g _ _ 0 a2 (by unfold TXK; simp))]; exact a3, by rw [vi_eq f1, vi_eq (g _ _ 1 a2 (by unfold TXK; simp))]; exact a4, tk _ _ k1 (a5.keep a2 hE g)⟩
  · have hi2 : i = L.length := by
      have := (List.getElem?_eq_some_iff.mp hi).1
      rw [List.length_append] at this
      simp at this
      omega
    subst hi2
    have e3 : (L ++ [(a, b, l)])[L.length]? = some (a, b, l) := by simp
    rw [e3] at hi
    cases hi
    have w1 : V2 (txA V x) L.length = .ref t := by
      have := p4
      rw [hl0] at this
      exact this
    have w2 : vq V2 (txA V x) L.length = t := vq_of w1
    rw [w1, w2]
    obtain ⟨f0, f1, f2⟩ := kf t ht
    exact ⟨rfl, ht, by rw [vi_eq f0]; exact h0, by rw [vi_eq f1]; exact h1, tk _ _ ht hT⟩
/-! text(), from its start to its end -/
theorem SRC.mk {w1 : Nat} (hx : K x = some (0, 10)) (hW : WT K V) (hq1 : K t = none) (hE1 : ext K K1) (hV1 : ∀ y, y ≠ t → V1 y = V y) (hE2 : ext K1 K2) (hF2 : FR w1 K1 V1 K2 V2) (hq3 : K2 q = none) (hV3 : ∀ y, y ≠ q → V3 y = V2 y) (b2 : tpbits w1 = true) : vq V3 (vq V3 x 17) 2 = vq V (tpO V x) 2 := by
  have g : SAM TPK K V V3 := ((SAM.nw ext.rf hq1 hV1).tr (SAM.frt hE1 hF2 hE2 b2)).tr (SAM.nw (hE1.tr hE2) hq3 hV3)
  obtain ⟨hT, -, -, -⟩ := tp_own hx hW
  have e1 : vq V3 x 17 = tpO V x := (TSame.sam hx hW g).2
  rw [e1]
  exact vq_eq (g _ _ 2 hT (by unfold TPK; simp))
/-- the reader's numbers, and the tape behind it -/
theorem AT.tape {s : Nat} {z : Int} (hx : K x = some (0, 10)) (hW : WT K V) (hR : RDY K K1 V V1 t q a b n z) (hS : SCW V1 q s n t) (hs : s = vq V (tpO V x) 2) (h1 : 1 ≤ n) (h2 : n ≤ 200) : AT K1 V1 q (tpC V x) n.toNat (TmC V1 q) ∧ psE (TmC V1 q) (0, 0, fun _ => 0) := by
  obtain ⟨hE, hq0, ht0, hq, ht, s1, s2, hN⟩ := hR
  obtain ⟨hT, hC, -, -⟩ := tp_own hx hW
  obtain ⟨e, rfl⟩ := Int.eq_ofNat_of_zero_le (show 0 ≤ n by omega)
  refine AT.new (e := e) hS hN (by omega) (fun j hj => ?_)
  have c1 : vi V1 s j = tpC V x j := by rw [hs]; exact vi_eq (s2 _ _ j hC (by unfold TPK; simp))
  have c2 := (hW.int hC (j := j) (show j < 400 by omega) rfl).2
  exact ⟨c1, c2⟩
def t01bits (ws : Nat) : Bool := [keyK (0, 8) 0, keyK (0, 8) 1].all fun b => !ws.testBit b
theorem CTX.core {s w1 : Nat} (hx : K x = some (0, 10)) (hW : WT K V) (hc : TXC V x a b n) (hR : RDY K K1 V V1 t q a b n 12) (hS : SCW V1 q s n t) (hs : s = vq V (tpO V x) 2) (hW1 : WT K1 V1) (hW2 : WT K1 V2) (hT : TXR K1 V1 V2 q) (hF : FR w1 K1 V1 K1 V2) (hb : t01bits w1 = true) (e3 : V3 = upd2 V2 (vq V2 x 17) 3 (ti 0)) :
    RDD K K1 V V3 x t q ∧ match texF (tpC V x) n.toNat pz with
      | .ok r => vi V3 q 5 = 0 ∧ TXT K1 V3 t r.2 ∧ vi V3 t 0 = a ∧ vi V3 t 1 = b
      | .error p => vi V3 q 5 = p.1 ∧ vi V3 q 6 = (p.2 : Int) ∧ 1 ≤ p.1 ∧ p.1 ≤ 5 ∧ p.2 ≤ 200 := by
  obtain ⟨c1, c2, c3, c4, c5, c6, c7⟩ := hc
  obtain ⟨hA, hP⟩ := AT.tape hx hW hR hS hs c4 c5
  have hn : ((n.toNat : Nat) : Int) = n := by omega
  have hS' := hS
  have hR' := hR
  rw [← hn] at hS' hR'
  obtain ⟨hE, hq0, ht0, hq, ht, s1, s2, hN⟩ := hR
  have hL : CLC K1 V1 q 12 [] := CLC.new hS hN (by decide) hW1
  obtain ⟨g1, g2⟩ := hT (tpC V x) n.toNat (TmC V1 q) hA (by rw [hP.1, hP.2]; exact Nat.le_refl _) hL
  obtain ⟨hD, a1, a2, a3⟩ := RDD.mk hR' hS' hx hW g1 e3
  refine ⟨hD, ?_⟩
  rw [a3] at e3
  obtain ⟨hTp, -, -, -⟩ := tp_own hx hW
  have hTp1 := hE.obj (Or.inr (by decide)) hTp
  have nq : q ≠ tpO V x := K_ne hq hTp1 (by decide)
  have nt : t ≠ tpO V x := K_ne ht hTp1 (by decide)
  have hcg := texF_cg (src := tpC V x) (e := n.toNat) hP
  have hbd := texF_bd (src := tpC V x) (e := n.toNat) (s := pz) (Nat.zero_le _)
  simp only [t01bits, List.all_cons, List.all_nil, Bool.and_true, Bool.and_eq_true, Bool.not_eq_true'] at hb
  cases h1 : texF (tpC V x) n.toNat (TmC V1 q) with
  | error p =>
    rw [h1] at g2 hcg
    cases h2 : texF (tpC V x) n.toNat pz with
    | ok r => rw [h2] at hcg; exact hcg.elim
    | error p2 =>
      rw [h2] at hcg hbd
      have hcg' : p = p2 := hcg
      subst hcg'
      obtain ⟨-, f1, f2, -⟩ := g2
      obtain ⟨d1, d2, d3⟩ := hbd
      exact ⟨by rw [vi_up e3 (Or.inl nq)]; exact f1, by rw [vi_up e3 (Or.inl nq)]; exact f2, d1, d2, by omega⟩
  | ok r =>
    rw [h1] at g2 hcg
    cases h2 : texF (tpC V x) n.toNat pz with
    | error p => rw [h2] at hcg; exact hcg.elim
    | ok r2 =>
      rw [h2] at hcg
      obtain ⟨-, hcl⟩ := hcg
      obtain ⟨f1, f2⟩ := g2
      have k1 := f2.txt hq hW2
      have t1 : scT V2 q = t := g1.1.trans (vq_of hS.2.2.1)
      rw [t1, hcl] at k1
      have s3 : SAM TXK K1 V2 V3 := SAM.put ext.rf hTp1 e3 (fun kd hk hp => by
        rw [hTp1] at hk
        cases hk
        unfold TXK at hp
        simp at hp)
      exact ⟨by rw [vi_up e3 (Or.inl nq)]; exact f1.2.1, k1.keep ht ext.rf s3, by rw [vi_up e3 (Or.inl nt), vi_fr hF ht ht hb.1]; exact hN.1, by rw [vi_up e3 (Or.inl nt), vi_fr hF ht ht hb.2]; exact hN.2.1⟩
theorem CTX.er {s w1 : Nat} (hx : K x = some (0, 10)) (hW : WT K V) (hc : TXC V x a b n) (hR : RDY K K1 V V1 t q a b n 12) (hS : SCW V1 q s n t) (hs : s = vq V (tpO V x) 2) (hW1 : WT K1 V1) (hW2 : WT K1 V2) (hT : TXR K1 V1 V2 q) (hF : FR w1 K1 V1 K1 V2) (hb : t01bits w1 = true) (e3 : V3 = upd2 V2 (vq V2 x 17) 3 (ti 0)) (hf : vi V3 q 5 ≠ 0) (hX : FAN V3 q X) : CTX K K1 V V3 x a b n X := fun L hL => by
  obtain ⟨⟨hE, -, -, -, hsm, h0, -⟩, h2⟩ := CTX.core hx hW hc hR hS hs hW1 hW2 hT hF hb e3
  refine Or.inr ⟨hc, h0, ?_⟩
  cases h1 : texF (tpC V x) n.toNat pz with
  | ok r => rw [h1] at h2; exact absurd h2.1 hf
  | error p =>
    rw [h1] at h2
    obtain ⟨d1, d2, d3, d4, d5⟩ := h2
    have := hX (by omega) (by omega) (by omega) (by omega)
    exact ⟨by omega, hL.sam hE hx hW hsm⟩
theorem CTX.ok {s w1 w2 : Nat} (hx : K x = some (0, 10)) (hW : WT K V) (hc : TXC V x a b n) (hR : RDY K K1 V V1 t q a b n 12) (hS : SCW V1 q s n t) (hs : s = vq V (tpO V x) 2) (hW1 : WT K1 V1) (hW2 : WT K1 V2) (hT : TXR K1 V1 V2 q) (hF : FR w1 K1 V1 K1 V2) (hb : t01bits w1 = true) (e3 : V3 = upd2 V2 (vq V2 x 17) 3 (ti 0)) (hf : vi V3 q 5 = 0) (had : ADT V3 V4 (vq V3 x 1) t X) (hF2 : FR w2 K1 V3 K1 V4) (hb2 : kpbits w2 = true) (hb3 : tpbits w2 = true) : CTX K K1 V V4 x a b n X := fun L hL => by
  obtain ⟨⟨hE, -, ht, -, hsm, h0, e1⟩, h2⟩ := CTX.core hx hW hc hR hS hs hW1 hW2 hT hF hb e3
  have hx1 := hE.obj (Or.inl (by decide)) hx
  refine Or.inr ⟨hc, ?_, ?_⟩
  · have g : SAM TPK K1 V3 V4 := SAM.frt ext.rf hF2 ext.rf hb3
    have hTp1 := hE.obj (Or.inr (by decide)) (tp_own hx hW).1
    have e2 : tpO V4 x = tpO V3 x := vq_eq (g _ _ 17 hx1 (by unfold TPK; simp))
    unfold tpN at h0 ⊢
    rw [e2, vi_eq (g _ _ 3 (by rw [e1]; exact hTp1) (by unfold TPK; simp))]
    exact h0
  · cases h1 : texF (tpC V x) n.toNat pz with
    | error p =>
      rw [h1] at h2
      obtain ⟨d1, d2, d3, d4, d5⟩ := h2
      omega
    | ok r =>
      rw [h1] at h2
      obtain ⟨-, k1, k2, k3⟩ := h2
      exact hL.add hE hx hW hsm had hF2 hb2 hx1 hc.2.2.2.2.2.1 ht k2 k3 k1
end CT
