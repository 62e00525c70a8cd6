/-! ### readings -/
section RX
variable {K K0 K1 K2 K3 K4 K5 : Kmap} {V V0 V1 V2 V3 V4 V5 : Vmap} {x o q t m : Nat} {a b n i j p X Y Z : Int} {l : List CLT}
/-- hasCondition() -/
def HCN (K : Kmap) (V : Vmap) (t : Nat) (j X : Int) : Prop := ∀ l, TXT K V t l → (X ≠ 0 ↔ ∃ r, 0 ≤ j ∧ l[j.toNat]? = some r ∧ askB r.1)
theorem HCN.out (h : j < 0 ∨ vi V (vq V t 2) 3 ≤ j) (hX : X = 0) : HCN K V t j X := fun l hl => ⟨fun h1 => absurd hX h1, fun ⟨r, h0, hr, _⟩ => by
  have h1 := (List.getElem?_eq_some_iff.mp hr).1
  have h2 : vi V (vq V t 2) 3 = (l.length : Int) := hl.2.2.2.1
  exfalso
  omega⟩
theorem HCN.in (h0 : 0 ≤ j) (h1 : j < vi V (vq V t 2) 3) (g5 : TG K V (vq V t 2) j 5 Y) (g4 : TG K V (vq V t 2) j 4 Z) (hX : X ≠ 0 ↔ Z < Y) : HCN K V t j X := fun l hl => by
  obtain ⟨-, hR, -, hn, -, hrow⟩ := hl
  have hw := hR.1
  have hlt : j.toNat < l.length := by omega
  have e5 := g5 6 12 (by decide) (by decide) hR
  have e4 := g4 6 12 (by decide) (by decide) hR
  unfold tgv at e5 e4
  rw [if_pos ⟨h0, h1, by decide, by rw [hw]; decide⟩, hw, show (j * ((6 : Nat) : Int) + 5).toNat = 6 * j.toNat + 5 by omega] at e5
  rw [if_pos ⟨h0, h1, by decide, by rw [hw]; decide⟩, hw, show (j * ((6 : Nat) : Int) + 4).toNat = 6 * j.toNat + 4 by omega] at e4
  have hr : l[j.toNat]? = some l[j.toNat] := List.getElem?_eq_getElem hlt
  obtain ⟨st, en, ⟨-, -, -, -, c4, c5⟩, p1, p2⟩ := hrow _ _ hr
  rw [hX]
  refine ⟨fun h => ⟨_, h0, hr, Classical.byContradiction fun hc => ?_⟩, fun ⟨r, _, hr2, ha⟩ => ?_⟩
  · have := p2 hc
    omega
  · rw [hr] at hr2
    cases hr2
    have := p1 ha
    omega
/-- below their count the texts are there -/
def TNL (V : Vmap) (o : Nat) : Prop := ∀ i : Nat, (i : Int) < vi V o 1 → V (vq V o 0) i ≠ .null
theorem CTS.tnl {L : List TXL} (h : CTS K V x L) : TNL V (lwO V x) := fun i hi => by
  have hi2 : i < L.length := by have := h.1; unfold txN at this; omega
  have := (h.2 i _ (List.getElem?_eq_getElem hi2)).1
  intro hc
  have hc2 : V (txA V x) i = .null := hc
  rw [this] at hc2
  cases hc2
/-- how many readings there are -/
def rdN (V : Vmap) (x : Nat) : Int := vi V (vq V (lwO V x) 2) 3
def RNK (kd : Nat × Nat) (j : Nat) : Prop := (kd = (0, 10) ∧ j = 1) ∨ (kd = (0, 1) ∧ j = 2) ∨ (kd = (0, 32) ∧ j = 3)
def rnbits (ws : Nat) : Bool := [keyK (0, 10) 1, keyK (0, 1) 2, keyK (0, 32) 3].all fun b => !ws.testBit b
theorem SAM.frr {ws : Nat} (hE : ext K K1) (hF : FR ws K1 V K2 V1) (hE2 : ext K1 K2) (hb : rnbits ws = true) : SAM RNK K V V1 := fun o kd j ho hp => by
  simp only [rnbits, List.all_cons, List.all_nil, Bool.and_true, Bool.and_eq_true, Bool.not_eq_true'] at hb
  obtain ⟨b0, b1, b2⟩ := hb
  rcases hp with ⟨rfl, rfl⟩ | ⟨rfl, rfl⟩ | ⟨rfl, rfl⟩
  · have h1 := hE.obj (Or.inl (by decide)) ho
    exact hF _ _ _ h1 (hE2.obj (Or.inl (by decide)) h1) b0
  · have h1 := hE.obj (Or.inl (by decide)) ho
    exact hF _ _ _ h1 (hE2.obj (Or.inl (by decide)) h1) b1
  · have h1 := hE.obj (Or.inr (by decide)) ho
    exact hF _ _ _ h1 (hE2.obj (Or.inr (by decide)) h1) b2
theorem rd_own (hx : K x = some (0, 10)) (hW : WT K V) : K (lwO V x) = some (0, 1) ∧ K (vq V (lwO V x) 2) = some (0, 32) ∧ 0 ≤ rdN V x ∧ rdN V x ≤ 20 := by
  have h1 := (lw_own hx hW).1
  have h2 : K (vq V (lwO V x) 2) = some (0, 32) := (hW.ref h1 (j := 2) (Nat.le_of_ble_eq_true rfl) rfl).2
  exact ⟨h1, h2, (hW.int h2 (j := 3) (Nat.le_of_ble_eq_true rfl) rfl).2⟩
theorem SAM.rdn (g : SAM RNK K V V1) (hx : K x = some (0, 10)) (hW : WT K V) : lwO V1 x = lwO V x ∧ vq V1 (lwO V x) 2 = vq V (lwO V x) 2 ∧ rdN V1 x = rdN V x := by
  obtain ⟨h1, h2, -, -⟩ := rd_own hx hW
  have s1 : lwO V1 x = lwO V x := vq_eq (g _ _ 1 hx (by unfold RNK; simp))
  have s2 : vq V1 (lwO V x) 2 = vq V (lwO V x) 2 := vq_eq (g _ _ 2 h1 (by unfold RNK; simp))
  exact ⟨s1, s2, by unfold rdN; rw [s1, s2]; exact vi_eq (g _ _ 3 h2 (by unfold RNK; simp))⟩
/-- addReading() -/
def ADR (V V1 : Vmap) (o : Nat) : Prop := vi V (vq V o 2) 3 < 20 → vi V1 (vq V o 2) 3 = vi V (vq V o 2) 3 + 1
theorem ADR.mk {c : Int} (h : APP K V V1 (vq V o 2) a b c 0 0 X) (ho : K o = some (0, 1)) (hW : WT K V) (ra : ir a) (rb : ir b) (rc : ir c) (h2 : V2 = V1 ∨ ∃ q k v N, V2 = upd2 V1 q k v ∧ K q = some (158, N)) : ADR V V2 o := fun h20 => by
  have hT : K (vq V o 2) = some (0, 32) := (hW.ref ho (j := 2) (Nat.le_of_ble_eq_true rfl) rfl).2
  obtain ⟨k, hC⟩ := (hW.ref hT (j := 2) (Nat.le_of_ble_eq_true rfl) rfl).2
  have hk : k = 60 := by
    rcases (hW.len hC).2.2 with h | h
    · exact absurd h (by decide)
    · exact h
  subst hk
  have h0 := (hW.int hT (j := 0) (Nat.le_of_ble_eq_true rfl) rfl).2
  have h1 := (hW.int hT (j := 1) (Nat.le_of_ble_eq_true rfl) rfl).2
  have h3 := (hW.int hT (j := 3) (Nat.le_of_ble_eq_true rfl) rfl).2
  have hM : TRM K V (vq V o 2) 3 20 := ⟨by omega, by omega, by omega, _, hC⟩
  have e1 : vi V1 (vq V o 2) 3 = vi V (vq V o 2) 3 + 1 := by
    rcases h 3 20 (by decide) (by decide) hM (by omega) with ⟨q, -, -⟩ | ⟨q, -, q2⟩
    · omega
    · rw [q2]
      exact (apv_all (a := a) (b := b) (c := c) (d := 0) (e := 0) hM hT q (by decide) ra rb rc (ir_c rfl) (ir_c rfl)).1
  rcases h2 with h2 | ⟨q, k, v, N, h2, hq⟩
  · rw [h2]; exact e1
  · rw [vi_up h2 (Or.inl (K_ne hT hq (by simp)))]; exact e1
/-! reading() -/
def ASKC (L : List TXL) (i j : Int) : Prop := ∃ t r, 0 ≤ i ∧ L[i.toNat]? = some t ∧ 0 ≤ j ∧ t.2.2[j.toNat]? = some r ∧ askB r.1
def RDC (V : Vmap) (x : Nat) (L : List TXL) (p i j n : Int) : Prop := 0 ≤ p ∧ p < vi V x 4 ∧ ASKC L i j ∧ 1 ≤ n ∧ n ≤ 100 ∧ rdN V x < 20 ∧ n ≤ tpN V x
def CRX (K K1 : Kmap) (V V1 : Vmap) (x : Nat) (p i j n X : Int) : Prop := PN V x → ∀ L, CTS K V x L → (¬ RDC V x L p i j n ∧ X = -1 ∧ CTS K1 V1 x L ∧ TSame V V1 x ∧ rdN V1 x = rdN V x) ∨ (RDC V x L p i j n ∧ tpN V1 x = 0 ∧ CTS K1 V1 x L ∧ match reaF (tpC V x) n.toNat pz with
  | .error q => X = -1000 * q.1 - (q.2 : Int) ∧ rdN V1 x = rdN V x
  | .ok _ => X = 0 ∧ rdN V1 x = rdN V x + 1)
theorem CRX.no (h : PN V x → ∀ L, CTS K V x L → ¬ RDC V x L p i j n) (hX : X = -1) : CRX K K V V x p i j n X := fun hp L hL => Or.inl ⟨h hp L hL, hX, hL, ⟨rfl, fun _ => rfl⟩, rfl⟩
/-- no such party; no such text; no such clause -/
theorem RDC.np {L : List TXL} (h : PN V x → p < 0 ∨ vi V x 4 ≤ p) (hp : PN V x) : ¬ RDC V x L p i j n := by
  rintro ⟨h1, h2, -⟩
  have := h hp
  omega
theorem RDC.nt {L : List TXL} (h : TNL V (vq V x 1) → i < 0 ∨ vi V (vq V x 1) 1 ≤ i) (hL : CTS K V x L) : ¬ RDC V x L p i j n := by
  rintro ⟨-, -, ⟨t, r, h0, h1, -⟩, -⟩
  have h2 := h hL.tnl
  have h3 := (List.getElem?_eq_some_iff.mp h1).1
  have h4 := hL.1
  unfold txN lwO at h4
  omega
theorem CTS.cond {L : List TXL} (hL : CTS K V x L) (h0 : 0 ≤ i) (h1 : i < vi V (vq V x 1) 1) (ht : t = vq V (vq V (vq V x 1) 0) i.toNat) (h : HCN K V t j X) : X ≠ 0 ↔ ASKC L i j := by
  have h4 := hL.1
  unfold txN lwO at h4
  have hlt : i.toNat < L.length := by omega
  have hr : L[i.toNat]? = some L[i.toNat] := List.getElem?_eq_getElem hlt
  obtain ⟨-, -, -, -, hT⟩ := hL.2 _ _ hr
  have hT' : TXT K V t L[i.toNat].2.2 := by rw [ht]; exact hT
  rw [h _ hT']
  refine ⟨fun ⟨r, a1, a2, a3⟩ => ⟨_, r, h0, hr, a1, a2, a3⟩, fun ⟨t2, r, a0, a1, a2, a3, a4⟩ => ?_⟩
  rw [hr] at a1
  cases a1
  exact ⟨r, a2, a3, a4⟩
theorem RDC.nc {L : List TXL} (hL : CTS K V x L) (h0 : 0 ≤ i) (h1 : i < vi V (vq V x 1) 1) (ht : t = vq V (vq V (vq V x 1) 0) i.toNat) (h : HCN K V t j X) (hX : X = 0) : ¬ RDC V x L p i j n := by
  rintro ⟨-, -, h2, -⟩
  exact (hL.cond h0 h1 ht h).mpr h2 hX
theorem RDC.nn {L : List TXL} (h : n < 1 ∨ 100 < n ∨ 20 ≤ rdN V x ∨ tpN V x < n) : ¬ RDC V x L p i j n := by
  rintro ⟨-, -, -, h1, h2, h3, h4⟩
  omega
theorem RDY.sfr {s : Nat} {z : Int} (h : RDY K K1 V V1 t q a b n z) (hS : SCW V1 q s n t) (hr : SFR V1 V2 q) {P : Nat × Nat → Nat → Prop} (g : SAM P K V V1) : SAM P K V V2 := by
  obtain ⟨hE, hq0, ht0, hq, ht, s1, s2, hN⟩ := h
  have t1 : scT V1 q = t := vq_of hS.2.2.1
  exact g.tr (SAM.sfr hr hq0 (by rw [t1]; exact ht0) (by unfold scS; rw [t1]; exact hN.2.2.2.1) (by unfold cbT; rw [t1]; exact hN.2.2.2.2.2.2.1) (by unfold cbR cbT; rw [t1]; exact hN.2.2.2.2.2.2.2.1))
theorem RNY.mk {w1 w2 : Nat} (hq1 : K t = none) (hE1 : ext K K1) (hV1 : ∀ y, y ≠ t → V1 y = V y) (hE2 : ext K1 K2) (hF2 : FR w1 K1 V1 K2 V2) (hq3 : K2 q = none) (hE3 : ext K2 K3) (hV3 : ∀ y, y ≠ q → V3 y = V2 y) (hE4 : ext K3 K4) (hF4 : FR w2 K3 V3 K4 V4) (b1 : rnbits w1 = true) (c1 : rnbits w2 = true) : SAM RNK K V V4 :=
  ((SAM.nw ext.rf hq1 hV1).tr (SAM.frr hE1 hF2 hE2 b1)).tr ((SAM.nw (hE1.tr hE2) hq3 hV3).tr (SAM.frr ((hE1.tr hE2).tr hE3) hF4 hE4 c1))
theorem CRX.core {s : Nat} (hx : K x = some (0, 10)) (hW : WT K V) (h1 : 1 ≤ n) (h2 : n ≤ 100) (hR : RDY K K1 V V1 t q a b n 1) (hr : SAM RNK K V V1) (hS : SCW V1 q s n t) (hs : s = vq V (tpO V x) 2) (hW1 : WT K1 V1) (hT : RDR K1 V1 V2 q) (e3 : V3 = upd2 V2 (vq V2 x 17) 3 (ti 0)) :
    RDD K K1 V V3 x t q ∧ SAM RNK K V V3 ∧ match reaF (tpC V x) n.toNat pz with
      | .ok _ => vi V3 q 5 = 0
      | .error p => vi V3 q 5 = p.1 ∧ vi V3 q 6 = (p.2 : Int) ∧ 1 ≤ p.1 ∧ p.1 ≤ 5 ∧ p.2 ≤ 200 := by
  obtain ⟨hA, hP⟩ := AT.tape hx hW hR hS hs h1 (by omega)
  have hn : ((n.toNat : Nat) : Int) = n := by omega
  have hS' := hS
  have hR' := hR
  rw [← hn] at hS' hR'
  obtain ⟨hE, hq0, ht0, hq, ht, s1, s2, hN⟩ := hR
  have hL : CLC K1 V1 q 1 [] := CLC.new hS hN (by decide) hW1
  obtain ⟨g1, g2⟩ := hT (tpC V x) n.toNat (TmC V1 q) hA (by rw [hP.1, hP.2]; exact Nat.le_refl _) hL
  obtain ⟨hD, a1, a2, a3⟩ := RDD.mk hR' hS' hx hW g1 e3
  have r2 := RDY.sfr hR' hS' g1 hr
  rw [a3] at e3
  obtain ⟨hTp, -, -, -⟩ := tp_own hx hW
  have hTp1 := hE.obj (Or.inr (by decide)) hTp
  have nq : q ≠ tpO V x := K_ne hq hTp1 (by decide)
  refine ⟨hD, r2.tr (SAM.put hE hTp1 e3 (fun kd hk hp => ?_)), ?_⟩
  · rw [hTp] at hk
    cases hk
    unfold RNK at hp
    simp at hp
  have hcg := reaF_cg (src := tpC V x) (e := n.toNat) _ _ hP
  have hbd := reaF_bd (src := tpC V x) (e := n.toNat) pz (Nat.zero_le _)
  cases h1 : reaF (tpC V x) n.toNat (TmC V1 q) with
  | error p =>
    rw [h1] at g2 hcg
    cases h2 : reaF (tpC V x) n.toNat pz with
    | ok r => rw [h2] at hcg; exact hcg.elim
    | error p2 =>
      rw [h2] at hcg hbd
      have hcg' : p = p2 := hcg
      subst hcg'
      obtain ⟨-, f1, f2, -⟩ := g2
      obtain ⟨d1, d2, d3⟩ := hbd
      exact ⟨by rw [vi_up e3 (Or.inl nq)]; exact f1, by rw [vi_up e3 (Or.inl nq)]; exact f2, d1, d2, by omega⟩
  | ok r =>
    rw [h1] at g2 hcg
    cases h2 : reaF (tpC V x) n.toNat pz with
    | error p => rw [h2] at hcg; exact hcg.elim
    | ok r2 =>
      show vi V3 q 5 = 0
      rw [vi_up e3 (Or.inl nq)]
      exact g2.2.1
theorem CRX.er {s : Nat} (hx : K x = some (0, 10)) (hW : WT K V) (hc : ∀ L, CTS K V x L → RDC V x L p i j n) (hR : RDY K K1 V V1 t q a b n 1) (hr : SAM RNK K V V1) (hS : SCW V1 q s n t) (hs : s = vq V (tpO V x) 2) (hW1 : WT K1 V1) (hT : RDR K1 V1 V2 q) (e3 : V3 = upd2 V2 (vq V2 x 17) 3 (ti 0)) (hf : vi V3 q 5 ≠ 0) (hX : FAN V3 q X) : CRX K K1 V V3 x p i j n X := fun _ L hL => by
  have hc' := hc L hL
  obtain ⟨⟨hE, -, -, -, hsm, h0, -⟩, hrn, h2⟩ := CRX.core hx hW hc'.2.2.2.1 hc'.2.2.2.2.1 hR hr hS hs hW1 hT e3
  refine Or.inr ⟨hc', h0, hL.sam hE hx hW hsm, ?_⟩
  cases h1 : reaF (tpC V x) n.toNat pz with
  | ok r => rw [h1] at h2; exact absurd h2 hf
  | error e =>
    rw [h1] at h2
    obtain ⟨d1, d2, d3, d4, d5⟩ := h2
    have := hX (by omega) (by omega) (by omega) (by omega)
    exact ⟨by omega, (hrn.rdn hx hW).2.2⟩
theorem CRX.ok {s w2 : Nat} (hx : K x = some (0, 10)) (hW : WT K V) (hc : ∀ L, CTS K V x L → RDC V x L p i j n) (hR : RDY K K1 V V1 t q a b n 1) (hr : SAM RNK K V V1) (hS : SCW V1 q s n t) (hs : s = vq V (tpO V x) 2) (hW1 : WT K1 V1) (hT : RDR K1 V1 V2 q) (e3 : V3 = upd2 V2 (vq V2 x 17) 3 (ti 0)) (hf : vi V3 q 5 = 0) (had : ADR V3 V4 (vq V3 x 1)) (hF2 : FR w2 K1 V3 K1 V4) (hb2 : txbits w2 = true) (hb3 : tpbits w2 = true) (hb4 : w2.testBit (keyK (0, 1) 2) = false) (hX : X = 0) : CRX K K1 V V4 x p i j n X := fun _ L hL => by
  have hc' := hc L hL
  obtain ⟨⟨hE, -, -, -, hsm, h0, e1⟩, hrn, h2⟩ := CRX.core hx hW hc'.2.2.2.1 hc'.2.2.2.2.1 hR hr hS hs hW1 hT e3
  have hx1 := hE.obj (Or.inl (by decide)) hx
  have hTp1 := hE.obj (Or.inr (by decide)) (tp_own hx hW).1
  obtain ⟨r1, r2, r3⟩ := hrn.rdn hx hW
  have hl1 := hE.obj (Or.inl (by decide)) (rd_own hx hW).1
  have g : SAM TPK K1 V3 V4 := SAM.frt ext.rf hF2 ext.rf hb3
  have g2 : SAM TXK K V V4 := hsm.tr (SAM.frx hE hF2 ext.rf hb2)
  have o1 : vq V3 x 1 = lwO V x := r1
  rw [o1] at had
  unfold ADR at had
  rw [r2] at had
  have n3 : vi V3 (vq V (lwO V x) 2) 3 = rdN V x := by have := r3; unfold rdN at this; rw [r1, r2] at this; exact this
  have h9 := had (by rw [n3]; exact hc'.2.2.2.2.2.1)
  have l4 : lwO V4 x = lwO V x := (g2.law hx hW).1
  have q4 : vq V4 (lwO V x) 2 = vq V (lwO V x) 2 := (vq_eq (hF2 _ _ 2 hl1 hl1 hb4)).trans r2
  refine Or.inr ⟨hc', ?_, hL.sam hE hx hW g2, ?_⟩
  · have e2 : tpO V4 x = tpO V3 x := vq_eq (g _ _ 17 hx1 (by unfold TPK; simp))
    unfold tpN at h0 ⊢
    rw [e2, vi_eq (g _ _ 3 (by rw [e1]; exact hTp1) (by unfold TPK; simp))]
    exact h0
  · cases h1 : reaF (tpC V x) n.toNat pz with
    | error e =>
      rw [h1] at h2
      obtain ⟨d1, d2, d3, d4, d5⟩ := h2
      omega
    | ok r =>
      refine ⟨hX, ?_⟩
      unfold rdN at n3 ⊢
      rw [l4, q4, h9, n3]
end RX
