/-! ### numbers and counts, on both sides -/
section YN
variable {K K1 K2 : Kmap} {V V0 V1 V2 : Vmap} {x m o q : Nat} {L : List TXL} {C C' : Nat → Prop} {a b c d e i p w z v X Y Z : Int} {k n : Nat}
noncomputable def cntN (C : Nat → Prop) : Nat → Int
  | 0 => 0
  | k + 1 => cntN C k + @ite Int (C k) (Classical.propDecidable _) 1 0
theorem cntN_yes (h : C k) : cntN C (k + 1) = cntN C k + 1 := by
  show cntN C k + @ite Int (C k) (Classical.propDecidable _) 1 0 = _
  rw [@if_pos (C k) (Classical.propDecidable _) h]
theorem cntN_no (h : ¬ C k) : cntN C (k + 1) = cntN C k := by
  show cntN C k + @ite Int (C k) (Classical.propDecidable _) 1 0 = _
  rw [@if_neg (C k) (Classical.propDecidable _) h, Int.add_zero]
theorem cntN_cong : ∀ n : Nat, (∀ j, j < n → (C j ↔ C' j)) → cntN C n = cntN C' n := by
  intro n
  induction n with
  | zero => intro _; rfl
  | succ n ih =>
    intro h
    have h1 := ih (fun j hj => h j (by omega))
    by_cases q : C n
    · rw [cntN_yes q, cntN_yes ((h n (by omega)).mp q), h1]
    · rw [cntN_no q, cntN_no (fun q' => q ((h n (by omega)).mpr q')), h1]
theorem cntN_tail : ∀ n : Nat, k ≤ n → (∀ j, C j → j < k) → cntN C n = cntN C k := by
  intro n
  induction n with
  | zero =>
    intro h _
    rw [show k = 0 by omega]
  | succ n ih =>
    intro h hC
    by_cases q : k = n + 1
    · rw [q]
    · rw [cntN_no (fun hc => by have := hC n hc; omega)]
      exact ih (by omega) hC
def bct (v : Int) : Nat → Int
  | 0 => 0
  | k + 1 => bct v k + (if tb v k = true then 1 else 0)
theorem bct_cnt : ∀ n : Nat, (∀ j, j < n → (tb v j = true ↔ C j)) → bct v n = cntN C n := by
  intro n
  induction n with
  | zero => intro _; rfl
  | succ n ih =>
    intro h
    have h1 := ih (fun j hj => h j (by omega))
    show bct v n + (if tb v n = true then 1 else 0) = _
    by_cases q : tb v n = true
    · rw [if_pos q, cntN_yes ((h n (by omega)).mp q), h1]
    · rw [if_neg q, cntN_no (fun q' => q ((h n (by omega)).mpr q')), h1, Int.add_zero]
/-- an int whose bits from the 12th on are nought -/
theorem low12 (hv : ir v) (h : ∀ j, 12 ≤ j → j < 32 → tb v j = false) : 0 ≤ v ∧ v < 4096 := by
  have e : Int32.ofInt v &&& Int32.ofInt 4095 = Int32.ofInt v := by
    apply Int32.toBitVec_inj.mp
    apply BitVec.eq_of_getLsbD_eq
    intro j hj
    rw [Int32.toBitVec_and, BitVec.getLsbD_and]
    by_cases q : j < 12
    · have h1 : (Int32.ofInt 4095).toBitVec.getLsbD j = true := (by decide +kernel : ∀ j : Nat, j < 12 → (Int32.ofInt 4095).toBitVec.getLsbD j = true) j q
      rw [h1, Bool.and_true]
    · have h1 : (Int32.ofInt v).toBitVec.getLsbD j = false := h j (by omega) hj
      rw [h1, Bool.false_and]
  have e2 : (Int32.ofInt v).toInt = v := ti_int hv
  have e3 : (Int32.ofInt v).toBitVec.toNat ≤ 4095 := by
    rw [← e, Int32.toBitVec_and, BitVec.toNat_and]
    exact Nat.and_le_right
  have e4 : (Int32.ofInt v).toInt = (((Int32.ofInt v).toBitVec.toNat : Nat) : Int) := by
    show (Int32.ofInt v).toBitVec.toInt = _
    rw [BitVec.toInt_eq_toNat_of_lt (by omega)]
  omega
def BCP (v X : Int) : Prop := 0 ≤ v → v < 4096 → X = bct v 12
def bq1 (v : Int) : Int := v - wand (wushr v 1) 1431655765
def bq2 (v : Int) : Int := wand (bq1 v) 858993459 + wand (wushr (bq1 v) 2) 858993459
def bq3 (v : Int) : Int := bq2 v + wushr (bq2 v) 4
def bq4 (v : Int) : Int := wand (bq3 v) 252645135
def bq5 (v : Int) : Int := bq4 v + wushr (bq4 v) 8
def bq6 (v : Int) : Int := bq5 v + wushr (bq5 v) 16
def bqB (v : Int) : Bool := decide (-2147483648 ≤ bq1 v) && decide (bq1 v ≤ 2147483647) && decide (-2147483648 ≤ bq2 v) && decide (bq2 v ≤ 2147483647) && decide (-2147483648 ≤ bq3 v) && decide (bq3 v ≤ 2147483647) && decide (-2147483648 ≤ bq5 v) && decide (bq5 v ≤ 2147483647) && decide (-2147483648 ≤ bq6 v) && decide (bq6 v ≤ 2147483647) && decide (wand (bq6 v) 63 = bct v 12)
set_option maxRecDepth 20000 in
theorem bq_all : (List.range 4096).all (fun n => bqB (n : Int)) = true := by decide +kernel
theorem BCP.mk {z1 z2 z3 z4 z5 z6 : Int} (h1 : ir (v - wand (wushr v 1) 1431655765) → z1 = v - wand (wushr v 1) 1431655765) (h2 : ir (wand z1 858993459 + wand (wushr z1 2) 858993459) → z2 = wand z1 858993459 + wand (wushr z1 2) 858993459) (h3 : ir (z2 + wushr z2 4) → z3 = z2 + wushr z2 4) (h4 : z4 = wand z3 252645135) (h5 : ir (z4 + wushr z4 8) → z5 = z4 + wushr z4 8) (h6 : ir (z5 + wushr z5 16) → z6 = z5 + wushr z5 16) : BCP v (wand z6 63) := fun h0 hv => by
  obtain ⟨n, rfl⟩ := Int.eq_ofNat_of_zero_le h0
  have hb := List.all_eq_true.mp bq_all n (List.mem_range.mpr (by omega))
  simp only [bqB, Bool.and_eq_true, decide_eq_true_eq] at hb
  obtain ⟨⟨⟨⟨⟨⟨⟨⟨⟨⟨a1, a2⟩, b1⟩, b2⟩, c1⟩, c2⟩, d1⟩, d2⟩, e1⟩, e2⟩, f⟩ := hb
  have g1 : z1 = bq1 (n : Int) := h1 ⟨a1, a2⟩
  subst g1
  have g2 : z2 = bq2 (n : Int) := h2 ⟨b1, b2⟩
  subst g2
  have g3 : z3 = bq3 (n : Int) := h3 ⟨c1, c2⟩
  subst g3
  have g4 : z4 = bq4 (n : Int) := h4
  subst g4
  have g5 : z5 = bq5 (n : Int) := h5 ⟨d1, d2⟩
  subst g5
  have g6 : z6 = bq6 (n : Int) := h6 ⟨e1, e2⟩
  subst g6
  exact f
/-! counts() -/
def COK (n t i p d : Int) : Prop := 0 ≤ i ∧ i < t ∧ 0 ≤ p ∧ p < n ∧ 0 ≤ d ∧ d ≤ 3599
def COX (K : Kmap) (V : Vmap) (x : Nat) (i p d X : Int) : Prop := ∀ L, CTS K V x L → (¬ COK (vi V x 4) (L.length : Int) i p d ∧ X = -1) ∨ (COK (vi V x 4) (L.length : Int) i p d ∧ X = cntN (CNF L (yrw V x p.toNat) d i.toNat) 12)
theorem COX.no (h : p < 0 ∨ vi V x 4 ≤ p ∨ d < 0 ∨ 3599 < d) (hX : X = -1) : COX K V x i p d X := fun L hL => Or.inl ⟨fun q => by unfold COK at q; omega, hX⟩
theorem COX.nt (h : TNL V (vq V x 1) → i < 0 ∨ vi V (vq V x 1) 1 ≤ i) (hX : X = -1) : COX K V x i p d X := fun L hL => Or.inl ⟨fun q => by
  have h1 := h hL.tnl
  have h2 : vi V (vq V x 1) 1 = (L.length : Int) := hL.1
  unfold COK at q
  omega, hX⟩
theorem COX.ok (h : ∀ L, CTS K V x L → CTL K V1 (lwO V x) L ∧ OKL L ∧ CNB V1 (lwO V x) (CNF L (yrw V x p.toNat) d)) (hp : 0 ≤ p ∧ p < vi V x 4) (hd : 0 ≤ d ∧ d ≤ 3599) (hi0 : 0 ≤ i) (hi : i < vi V (vq V x 1) 1) (h20 : i < 20) (hz : z = rgv V1 (vq V1 (vq V x 1) 4) 20 i) (hb : BCP z X) : COX K V x i p d X := fun L hL => by
  obtain ⟨g1, g2, g3⟩ := h L hL
  have h2 : vi V (vq V x 1) 1 = (L.length : Int) := hL.1
  refine Or.inr ⟨by unfold COK; omega, ?_⟩
  rw [← rgv_in (n := 20) hi0 (by omega)] at hz
  have hz2 : z = cnR V1 (lwO V x) i.toNat := hz
  have hbit : ∀ j, j < 32 → (tb z j = true ↔ CNF L (yrw V x p.toNat) d i.toNat j) := fun j hj => by
    rw [hz2]
    exact g3 i.toNat j (by omega) hj
  have hlow := low12 (v := z) (by rw [hz]; exact vi_ir) (fun j hj hj2 => by
    cases e9 : tb z j with
    | false => rfl
    | true =>
      have := (CHs.v12 CNF.chs g1 ((hbit j hj2).mp e9)).1
      omega)
  rw [hb hlow.1 hlow.2]
  exact bct_cnt 12 (fun j hj => hbit j (by omega))
/-- the reference's -/
def RCI (V : Vmap) (m : Nat) (i n : Int) (j : Int) : Prop := ∀ L, MTS V m L → 0 ≤ i → i < (L.length : Int) → n = cntN (RCT V m L i.toNat) j.toNat ∧ (0 < j → Bm V m i.toNat)
theorem RCI.beg : RCI V m i 0 0 := fun L _ _ _ => ⟨rfl, fun h => by omega⟩
theorem RCI.step {j n' : Int} (h : RCI V m i n' j) (h0 : 0 ≤ i) (hj : 0 ≤ j) (hlen : j < vi V (vq V m 50) i.toNat) (hb : vi V (vq V m 64) i.toNat ≠ 0) (hs : (vi V (vq V m 65) (12 * i + j).toNat = 0 ∧ z = n' + 1) ∨ (vi V (vq V m 65) (12 * i + j).toNat ≠ 0 ∧ z = n')) (hw : w = j + 1) : RCI V m i z w := fun L hL hi0 hi => by
  obtain ⟨h1, -⟩ := h L hL hi0 hi
  obtain ⟨c1, c2, -⟩ := hL.cl (u := i.toNat) (by omega)
  have hr := List.getElem?_eq_getElem (show j.toNat < (clA L i.toNat).length by omega)
  have ex : (12 * i + j).toNat = 12 * i.toNat + j.toNat := by omega
  rw [ex] at hs
  refine ⟨?_, fun _ => hb⟩
  rw [hw, show (j + 1).toNat = j.toNat + 1 by omega]
  rcases hs with ⟨s1, s2⟩ | ⟨s1, s2⟩
  · rw [cntN_yes (show RCT V m L i.toNat j.toNat from ⟨hb, s1, _, hr⟩), s2, h1]
  · rw [cntN_no (fun q : RCT V m L i.toNat j.toNat => s1 q.2.1), s2, h1]
def RCO (V V1 : Vmap) (m : Nat) (i p d X : Int) : Prop := ∀ L, MTS V m L → OKL L → (¬ COK (vi V m 9) (L.length : Int) i p d ∧ X = -1) ∨ (COK (vi V m 9) (L.length : Int) i p d ∧ X = cntN (CNF L (yrm V m p.toNat) d i.toNat) 12)
theorem RCO.no (h : i < 0 ∨ vi V m 47 ≤ i ∨ p < 0 ∨ vi V m 9 ≤ p ∨ d < 0 ∨ 3599 < d) (hX : X = -1) : RCO V V1 m i p d X := fun L hL _ => Or.inl ⟨fun q => by
  have h2 := hL.1
  unfold COK at q
  omega, hX⟩
theorem RCO.ok {j : Int} (hb : RBD V V1 m p d) (h : RCI V1 m i X j) (hp : 0 ≤ p ∧ p < vi V m 9) (hd : 0 ≤ d ∧ d ≤ 3599) (hi0 : 0 ≤ i) (hi : i < vi V m 47) (hj : 0 ≤ j) (he : vi V1 (vq V1 m 50) i.toNat ≤ j ∨ vi V1 (vq V1 m 64) i.toNat = 0) (hj12 : j ≤ 12) : RCO V V1 m i p d X := fun L hL hO => by
  have hl := hL.1
  obtain ⟨g1, g2⟩ := hb L hL hO hd.1 hd.2
  obtain ⟨h1, h2⟩ := h L g1 hi0 (by omega)
  refine Or.inr ⟨by unfold COK; omega, ?_⟩
  have hc : ∀ k, (CNF L (yrm V m p.toNat) d i.toNat k ↔ RCT V1 m L i.toNat k) := fun k => by
    rw [← g2 i.toNat k]
    exact ⟨fun q => q.1, fun q => ⟨q, by omega⟩⟩
  rw [cntN_cong 12 (fun k _ => hc k), h1]
  refine (cntN_tail 12 (by omega) (fun k hk => ?_)).symm
  obtain ⟨k1, k2, r, k3⟩ := hk
  have hlt := (List.getElem?_eq_some_iff.mp k3).1
  rcases he with he | he
  · have := (g1.cl (u := i.toNat) (by omega)).2.1
    omega
  · exact absurd he k1
theorem COX.both (f : COX K V x i p d X) (f1 : RCO V1 V2 m i p d Y) (hT : TXE K V x m) (hC : CWI K V x) (hY : YRL V x m) (hn : vi V x 4 = vi V1 m 9) (h9 : vi V x 4 ≤ 9) (h47 : vi V m 47 ≤ 20) (hM : ∀ L, MTS V m L → MTS V1 m L) (hYM : YMS V V1 m) : X = Y := by
  obtain ⟨-, -, L, h3, h4⟩ := hT
  obtain ⟨-, L', c1, c2, -⟩ := hC
  have e := c1.uniq h3
  subst e
  have hl := h4.1
  have key : COK (vi V x 4) (L'.length : Int) i p d → cntN (CNF L' (yrw V x p.toNat) d i.toNat) 12 = cntN (CNF L' (yrm V1 m p.toNat) d i.toNat) 12 := fun q => by
    have ey : ∀ j, j < L'.length → yrw V x p.toNat j = yrm V1 m p.toNat j := fun j hj => by
      unfold COK at q
      rw [hYM.2]
      exact ((hY.2 p.toNat j (by omega) (by omega)).1 (by omega)).1 (by omega)
    exact cntN_cong 12 (fun j _ => ⟨CNF.yes ey, CNF.yes (fun j hj => (ey j hj).symm)⟩)
  rcases f L' c1 with ⟨p1, p2⟩ | ⟨p1, p2⟩
  · rcases f1 L' (hM L' h4) c2 with ⟨q1, q2⟩ | ⟨q1, q2⟩
    · omega
    · exact absurd (by rw [hn]; exact q1) p1
  · rcases f1 L' (hM L' h4) c2 with ⟨q1, q2⟩ | ⟨q1, q2⟩
    · exact absurd (by rw [← hn]; exact p1) q1
    · rw [p2, q2, key p1]
/-! number() -/
def NBK (n w p d : Int) : Prop := 0 ≤ p ∧ p < n ∧ 0 ≤ d ∧ d ≤ 3599 ∧ ((0 ≤ w ∧ w ≤ 3) ∨ (10 ≤ w ∧ w ≤ 25))
def NBV (L : List TXL) (y : Nat → Int) (d w X : Int) : Prop := (w = 0 ∧ ∃ Z, NUMS L (CNF L y d) 97 0 0 L.length Z ∧ ((Z = -1 ∧ X = 0) ∨ (Z ≠ -1 ∧ X = Z))) ∨ (w = 1 ∧ NUMS L (CNF L y d) 113 0 0 L.length X) ∨ (w = 2 ∧ ∃ Z, NUMS L (CNF L y d) 103 0 0 L.length Z ∧ ((Z = -1 ∧ X = 0) ∨ (Z ≠ -1 ∧ X = Z))) ∨ (w = 3 ∧ ∃ Z, NUMS L (CNF L y d) 122 0 0 L.length Z ∧ ((Z = -1 ∧ X = 0) ∨ (Z ≠ -1 ∧ X = 1))) ∨ (10 ≤ w ∧ NUMS L (CNF L y d) 107 ((w - 10) / 4) ((w - 10) % 4) L.length X)
theorem NBV.uniq {y : Nat → Int} (h : NBV L y d w X) (g : NBV L y d w Y) : X = Y := by
  rcases h with ⟨h0, Z, h1, h2⟩ | ⟨h0, h1⟩ | ⟨h0, Z, h1, h2⟩ | ⟨h0, Z, h1, h2⟩ | ⟨h0, h1⟩
  · rcases g with ⟨g0, Z', g1, g2⟩ | ⟨g0, g1⟩ | ⟨g0, Z', g1, g2⟩ | ⟨g0, Z', g1, g2⟩ | ⟨g0, g1⟩
    · have := h1.uniq g1
      omega
    all_goals omega
  · rcases g with ⟨g0, Z', g1, g2⟩ | ⟨g0, g1⟩ | ⟨g0, Z', g1, g2⟩ | ⟨g0, Z', g1, g2⟩ | ⟨g0, g1⟩
    · omega
    · exact h1.uniq g1
    all_goals omega
  · rcases g with ⟨g0, Z', g1, g2⟩ | ⟨g0, g1⟩ | ⟨g0, Z', g1, g2⟩ | ⟨g0, Z', g1, g2⟩ | ⟨g0, g1⟩
    · omega
    · omega
    · have := h1.uniq g1
      omega
    all_goals omega
  · rcases g with ⟨g0, Z', g1, g2⟩ | ⟨g0, g1⟩ | ⟨g0, Z', g1, g2⟩ | ⟨g0, Z', g1, g2⟩ | ⟨g0, g1⟩
    · omega
    · omega
    · omega
    · have := h1.uniq g1
      omega
    · omega
  · rcases g with ⟨g0, Z', g1, g2⟩ | ⟨g0, g1⟩ | ⟨g0, Z', g1, g2⟩ | ⟨g0, Z', g1, g2⟩ | ⟨g0, g1⟩
    · omega
    · omega
    · omega
    · omega
    · exact h1.uniq g1
theorem NBV.yes {y y' : Nat → Int} (hy : ∀ i, i < L.length → y i = y' i) (h : NBV L y d w X) : NBV L y' d w X := by
  have e : CNF L y d = CNF L y' d := funext fun i => funext fun j => propext ⟨CNF.yes hy, CNF.yes (fun i hi => (hy i hi).symm)⟩
  unfold NBV at h ⊢
  rw [← e]
  exact h
def NBX (K : Kmap) (V : Vmap) (x : Nat) (w p d X : Int) : Prop := ∀ L, CTS K V x L → (¬ NBK (vi V x 4) w p d ∧ X = -1) ∨ (NBK (vi V x 4) w p d ∧ NBV L (yrw V x p.toNat) d w X)
theorem NBX.no (h : p < 0 ∨ vi V x 4 ≤ p ∨ d < 0 ∨ 3599 < d ∨ ((w < 0 ∨ 3 < w) ∧ (w < 10 ∨ 25 < w))) (hX : X = -1) : NBX K V x w p d X := fun L hL => Or.inl ⟨fun q => by unfold NBK at q; omega, hX⟩
/-- what was weighed, as it is read -/
def WGD (K : Kmap) (V V1 : Vmap) (x : Nat) (p d : Int) : Prop := ∀ L, CTS K V x L → CTL K V1 (lwO V x) L ∧ OKL L ∧ CNB V1 (lwO V x) (CNF L (yrw V x p.toNat) d)
theorem NMO.get (h : NMO K V1 (vq V x 1) c a b Z) (hw : WGD K V V1 x p d) (hL : CTS K V x L) : NUMS L (CNF L (yrw V x p.toNat) d) c a b L.length Z := by
  obtain ⟨g1, g2, g3⟩ := hw L hL
  exact h L _ g1 g2 g3 CNF.chs
theorem NMO.ge (h : NMO K V1 (vq V x 1) c a b Z) (hw : WGD K V V1 x p d) (hL : CTS K V x L) : -1 ≤ Z := (h.get hw hL).ge (hw L hL).2.1
theorem NBX.v0 (hw : WGD K V V1 x p d) (hp : 0 ≤ p ∧ p < vi V x 4) (hd : 0 ≤ d ∧ d ≤ 3599) (hq : w = 0) (hn : NMO K V1 (vq V x 1) 97 0 0 Z) (hX : (0 ≤ Z ∧ X = Z) ∨ (Z ≤ 0 ∧ X = 0)) : NBX K V x w p d X := fun L hL => Or.inr ⟨by unfold NBK; omega, Or.inl ⟨hq, Z, hn.get hw hL, by have := hn.ge hw hL; omega⟩⟩
theorem NBX.v1 (hw : WGD K V V1 x p d) (hp : 0 ≤ p ∧ p < vi V x 4) (hd : 0 ≤ d ∧ d ≤ 3599) (hq : w = 1) (hn : NMO K V1 (vq V x 1) 113 0 0 X) : NBX K V x w p d X := fun L hL => Or.inr ⟨by unfold NBK; omega, Or.inr (Or.inl ⟨hq, hn.get hw hL⟩)⟩
theorem NBX.v2 (hw : WGD K V V1 x p d) (hp : 0 ≤ p ∧ p < vi V x 4) (hd : 0 ≤ d ∧ d ≤ 3599) (hq : w = 2) (hn : NMO K V1 (vq V x 1) 103 0 0 Z) (hX : (0 ≤ Z ∧ X = Z) ∨ (Z ≤ 0 ∧ X = 0)) : NBX K V x w p d X := fun L hL => Or.inr ⟨by unfold NBK; omega, Or.inr (Or.inr (Or.inl ⟨hq, Z, hn.get hw hL, by have := hn.ge hw hL; omega⟩))⟩
theorem NBX.v3 (hw : WGD K V V1 x p d) (hp : 0 ≤ p ∧ p < vi V x 4) (hd : 0 ≤ d ∧ d ≤ 3599) (hq : w = 3) (hn : NMO K V1 (vq V x 1) 122 0 0 Z) (hX : (Z = -1 ∧ X = 0) ∨ (Z ≠ -1 ∧ X = 1)) : NBX K V x w p d X := fun L hL => Or.inr ⟨by unfold NBK; omega, Or.inr (Or.inr (Or.inr (Or.inl ⟨hq, Z, hn.get hw hL, hX⟩)))⟩
theorem NBX.vk (hw : WGD K V V1 x p d) (hp : 0 ≤ p ∧ p < vi V x 4) (hd : 0 ≤ d ∧ d ≤ 3599) (hq : 10 ≤ w ∧ w ≤ 25) (hn : NMO K V1 (vq V x 1) 107 ((w - 10) / 4) ((w - 10) % 4) X) : NBX K V x w p d X := fun L hL => Or.inr ⟨by unfold NBK; omega, Or.inr (Or.inr (Or.inr (Or.inr ⟨hq.1, hn.get hw hL⟩)))⟩
/-- the reference's: a number by a letter -/
def RNM (V V1 : Vmap) (m : Nat) (c a b p d Z : Int) : Prop := ∀ L, MTS V m L → OKL L → okN c a b → 0 ≤ d → d ≤ 3599 → NUMS L (CNF L (yrm V m p.toNat) d) c a b L.length Z
theorem RNM.mk (hb : RBD V V1 m p d) (hn : NMB V1 m c a b (vi V1 m 47) Z) : RNM V V1 m c a b p d Z := fun L hL hO hk hd0 hd => by
  obtain ⟨g1, g2⟩ := hb L hL hO hd0 hd
  have h1 := hn L g1 hO hk (by rw [g1.1]; exact Int.le_refl _)
  rw [g1.1, Int.toNat_natCast] at h1
  refine h1.cong2 (fun i j hi => ?_)
  rw [← g2 i j]
  exact ⟨fun q => ⟨q, hi⟩, fun q => q.1⟩
def RNE (V V1 : Vmap) (m : Nat) (c p d e X : Int) : Prop := ∃ Z, RNM V V1 m c 0 0 p d Z ∧ ((Z = -1 ∧ X = e) ∨ (Z ≠ -1 ∧ X = Z))
def RNB (V V1 : Vmap) (m : Nat) (w p d X : Int) : Prop := ∀ L, MTS V m L → OKL L → (¬ NBK (vi V m 9) w p d ∧ X = -1) ∨ (NBK (vi V m 9) w p d ∧ NBV L (yrm V m p.toNat) d w X)
theorem RNB.no (h : p < 0 ∨ vi V m 9 ≤ p ∨ d < 0 ∨ 3599 < d ∨ ((w < 0 ∨ 3 < w) ∧ (w < 10 ∨ 25 < w))) (hX : X = -1) : RNB V V1 m w p d X := fun L hL _ => Or.inl ⟨fun q => by unfold NBK at q; omega, hX⟩
theorem RNB.v0 (h : RNE V V1 m 97 p d 0 X) (hp : 0 ≤ p ∧ p < vi V m 9) (hd : 0 ≤ d ∧ d ≤ 3599) (hq : w = 0) : RNB V V1 m w p d X := fun L hL hO => by
  obtain ⟨Z, h1, h2⟩ := h
  exact Or.inr ⟨by unfold NBK; omega, Or.inl ⟨hq, Z, h1 L hL hO (Or.inr ⟨by decide, rfl, rfl⟩) hd.1 hd.2, h2⟩⟩
theorem RNB.v1 (h : RNE V V1 m 113 p d (-1) X) (hp : 0 ≤ p ∧ p < vi V m 9) (hd : 0 ≤ d ∧ d ≤ 3599) (hq : w = 1) : RNB V V1 m w p d X := fun L hL hO => by
  obtain ⟨Z, h1, h2⟩ := h
  have e : Z = X := by omega
  subst e
  exact Or.inr ⟨by unfold NBK; omega, Or.inr (Or.inl ⟨hq, h1 L hL hO (Or.inr ⟨by decide, rfl, rfl⟩) hd.1 hd.2⟩)⟩
theorem RNB.v2 (h : RNE V V1 m 103 p d 0 X) (hp : 0 ≤ p ∧ p < vi V m 9) (hd : 0 ≤ d ∧ d ≤ 3599) (hq : w = 2) : RNB V V1 m w p d X := fun L hL hO => by
  obtain ⟨Z, h1, h2⟩ := h
  exact Or.inr ⟨by unfold NBK; omega, Or.inr (Or.inr (Or.inl ⟨hq, Z, h1 L hL hO (Or.inr ⟨by decide, rfl, rfl⟩) hd.1 hd.2, h2⟩))⟩
/-- whether claims are asleep -/
def RSL (V V1 : Vmap) (m : Nat) (p d X : Int) : Prop := ∃ Z, RNM V V1 m 122 0 0 p d Z ∧ (X ≠ 0 ↔ Z ≠ -1)
theorem RNB.v3 (h : RSL V V1 m p d Y) (hp : 0 ≤ p ∧ p < vi V m 9) (hd : 0 ≤ d ∧ d ≤ 3599) (hq : w = 3) (hX : (Y = 0 ∧ X = 0) ∨ (Y ≠ 0 ∧ X = 1)) : RNB V V1 m w p d X := fun L hL hO => by
  obtain ⟨Z, h1, h2⟩ := h
  refine Or.inr ⟨by unfold NBK; omega, Or.inr (Or.inr (Or.inr (Or.inl ⟨hq, Z, h1 L hL hO (Or.inr ⟨by decide, rfl, rfl⟩) hd.1 hd.2, ?_⟩)))⟩
  by_cases q : Z = -1
  · have : Y = 0 := Classical.byContradiction fun hy => (h2.mp hy) q
    omega
  · have := h2.mpr q
    omega
theorem RNB.vk (h : RNM V V1 m 107 ((w - 10) / 4) ((w - 10) % 4) p d X) (hp : 0 ≤ p ∧ p < vi V m 9) (hd : 0 ≤ d ∧ d ≤ 3599) (hq : 10 ≤ w ∧ w ≤ 25) : RNB V V1 m w p d X := fun L hL hO => Or.inr ⟨by unfold NBK; omega, Or.inr (Or.inr (Or.inr (Or.inr ⟨hq.1, h L hL hO (Or.inl rfl) hd.1 hd.2⟩)))⟩
/-- both sides know the same days of yes -/
theorem yr_both (hT : TXE K V x m) (hY : YRL V x m) (h9 : vi V x 4 ≤ 9) (h47 : vi V m 47 ≤ 20) (hL : CTS K V x L) (hYM : YMS V V1 m) (hp0 : 0 ≤ p) (hp : p < vi V x 4) : ∀ j, j < L.length → yrw V x p.toNat j = yrm V1 m p.toNat j := fun j hj => by
  have h1 := hT.cnt
  have h2 := hL.1
  rw [hYM.2]
  exact ((hY.2 p.toNat j (by omega) (by omega)).1 (by omega)).1 (by omega)
theorem NBX.both (f : NBX K V x w p d X) (f1 : RNB V1 V2 m w p d Y) (hT : TXE K V x m) (hC : CWI K V x) (hY : YRL V x m) (hn : vi V x 4 = vi V1 m 9) (h9 : vi V x 4 ≤ 9) (h47 : vi V m 47 ≤ 20) (hM : ∀ L, MTS V m L → MTS V1 m L) (hYM : YMS V V1 m) : X = Y := by
  have hT' := hT
  obtain ⟨-, -, L, h3, h4⟩ := hT
  obtain ⟨-, L', c1, c2, -⟩ := hC
  have e := c1.uniq h3
  subst e
  rcases f L' c1 with ⟨p1, p2⟩ | ⟨p1, p2⟩
  · rcases f1 L' (hM L' h4) c2 with ⟨q1, q2⟩ | ⟨q1, q2⟩
    · omega
    · exact absurd (by rw [hn]; exact q1) p1
  · rcases f1 L' (hM L' h4) c2 with ⟨q1, q2⟩ | ⟨q1, q2⟩
    · exact absurd (by rw [← hn]; exact p1) q1
    · have hk := p1
      unfold NBK at hk
      exact (p2.yes (yr_both hT' hY h9 h47 c1 hYM (by omega) (by omega))).uniq q2
/-- claimsAreAsleep() -/
def CAS (K : Kmap) (V V1 : Vmap) (x : Nat) (p : Int) (q : Nat) (X : Int) : Prop := q = vq V (vq V x 3) p.toNat → 0 ≤ p → p < vi V x 4 → CWI K V1 x ∧ ∀ L, CTS K V x L → ∃ Z, NUMS L (CNF L (yrw V x p.toNat) (tdy V x)) 122 0 0 L.length Z ∧ (X ≠ 0 ↔ Z ≠ -1)
theorem CAS.mk {ws : Nat} (hC : CWI K V x) (hw : WGH K V V1 (vq V x 1) q p d) (hd : d = tdy V x) (hd0 : 0 ≤ d) (hF : FR ws K V K V1) (hW : WT K V) (hx : K x = some (0, 10)) (b1 : txbits ws = true) (b2 : ycbits ws = true) (hn : NMO K V1 (vq V x 1) 122 0 0 Z) (hX : X ≠ 0 ↔ Z ≠ -1) : CAS K V V1 x p q X := fun hq hp0 hp => by
  obtain ⟨g1, g2⟩ := CWI.weigh hC hw rfl hq ⟨hp0, hp⟩ hF hW hx b1 b2
  refine ⟨g1, fun L hL => ⟨Z, ?_, hX⟩⟩
  obtain ⟨a1, a2, a3⟩ := g2 (by omega) L hL
  rw [← hd]
  exact hn L _ a1 a2 a3 CNF.chs
/-! what was weighed is kept -/
theorem CWI.put {kd : Nat × Nat} {j a : Nat} {u : Value} (h : CWI K V x) (ha : K a = some kd) (e : V1 = upd2 V a j u) (hW : WT K V) (hx : K x = some (0, 10)) (hb : Nat.testBit (2 ^ keyK kd j) (keyK kd j) = true) (b1 : txbits (2 ^ keyK kd j) = true) (b2 : ycbits (2 ^ keyK kd j) = true) (b3 : cwbits (2 ^ keyK kd j) = true) : CWI K V1 x := CWI.fr h (FR.put FR.rf ha hb e) ext.rf hW hx b1 b2 b3
theorem CWI.party {ws : Nat} (h : CWI K V x) (hn : NEWY K V V1 x X) (hN1 : PN V1 x) (hF : FR ws K V K1 V1) (hE : ext K K1) (hW : WT K V) (hx : K x = some (0, 10)) (b1 : txbits ws = true) (b3 : cwbits ws = true) : CWI K1 V1 x := by
  obtain ⟨hN, L, h1, h2, h3⟩ := h
  have g : SAM TXK K V V1 := SAM.frx ext.rf hF hE b1
  have s1 := (g.law hx hW).1
  have hlo := (lw_own hx hW).1
  have hlo1 := hE.obj (Or.inl (by decide)) hlo
  simp only [cwbits, List.all_cons, List.all_nil, Bool.and_true, Bool.and_eq_true, Bool.not_eq_true'] at b3
  obtain ⟨c1, c2, c3, c4⟩ := b3
  have e7 : vi V1 (lwO V x) 7 = vi V (lwO V x) 7 := vi_fr hF hlo hlo1 c3
  obtain ⟨N, hA⟩ := (hW.ref hlo (j := 4) (Nat.le_of_ble_eq_true rfl) rfl).2
  refine ⟨hN1, L, h1.sam hE hx hW g, h2, fun h7 => ?_⟩
  rw [s1, e7] at h7
  have hp := h3 h7
  rcases hn with ⟨-, e⟩ | ⟨n0, n9, n4, n3, hold, hrow, -⟩
  · subst e; exact hp
  · refine hp.same s1 (vi_fr hF hlo hlo1 c2) e7 (by omega) (fun u => ?_) (fun p hpp i => ?_)
    · unfold cnR
      rw [vq_eq (hF _ _ 4 hlo hlo1 c1)]
      exact vi_frA hF hA (hE.arr hA) c4
    · obtain ⟨ha, hr, hk, hw⟩ := yr_at hW hx hN hpp
      have e1 : pty V1 x p = pty V x p := by
        unfold pty
        rw [n3]
        exact vq_eq (hrow p hpp)
      have e2 : yrA V1 x p = yrA V x p := by
        unfold yrA
        rw [e1]
        exact vq_eq (congrFun (hold _ _ hk (by decide) (by decide)) 3)
      unfold yrw
      rw [e2]
      exact vi_eq (congrFun (hold _ _ hw (by decide) (by decide)) i)
theorem CWI.gro (h : CWI K V x) (hE : ext K K1) : CWI K1 V x := by
  obtain ⟨hN, L, h1, h2, h3⟩ := h
  refine ⟨hN, L, ⟨h1.1, fun i t ht => ?_⟩, h2, h3⟩
  obtain ⟨a1, a2, a3, a4, a5⟩ := h1.2 i t ht
  exact ⟨a1, hE.obj (Or.inl (by decide)) a2, a3, a4, a5.keep a2 hE SAM.rf⟩
theorem CWI.yes {ws : Nat} (h : CWI K V x) (f : YSC V V1 x p i X) (hN1 : PN V1 x) (hF : FR ws K V K1 V1) (hE : ext K K1) (hW : WT K V) (hx : K x = some (0, 10)) (b1 : txbits ws = true) : CWI K1 V1 x := by
  have h' := h
  obtain ⟨hN, L, h1, h2, h3⟩ := h
  rcases f with f | ⟨-, -, V2, e1, e2⟩
  · obtain ⟨-, -, e⟩ := f h1.tnl hN
    subst e
    exact CWI.gro h' hE
  · have g : SAM TXK K V V1 := SAM.frx ext.rf hF hE b1
    have s1 := (g.law hx hW).1
    refine ⟨hN1, L, h1.sam hE hx hW g, h2, fun h7 => absurd ?_ h7⟩
    rw [s1]
    exact upd2_int e2 (ir_c rfl)
/-- text(): forgotten, if there is a new one -/
def FGT (V V1 : Vmap) (x : Nat) : Prop := vi V1 (lwO V x) 7 = -1 ∨ (vi V1 (lwO V x) 7 = vi V (lwO V x) 7 ∧ vi V1 (lwO V x) 1 = vi V (lwO V x) 1)
def LWK (kd : Nat × Nat) (j : Nat) : Prop := (kd = (0, 1) ∧ (j = 1 ∨ j = 7)) ∨ (kd = (0, 10) ∧ j = 1)
def lwbits (ws : Nat) : Bool := [keyK (0, 1) 1, keyK (0, 1) 7, keyK (0, 10) 1].all fun b => !ws.testBit b
theorem SAM.frl {ws : Nat} (hE : ext K K1) (hF : FR ws K1 V K2 V1) (hE2 : ext K1 K2) (hb : lwbits ws = true) : SAM LWK K V V1 := fun o kd j ho hp => by
  simp only [lwbits, List.all_cons, List.all_nil, Bool.and_true, Bool.and_eq_true, Bool.not_eq_true'] at hb
  obtain ⟨b1, b7, c1⟩ := hb
  rcases hp with ⟨rfl, rfl | rfl⟩ | ⟨rfl, rfl⟩
  · have h1 := hE.obj (Or.inl (by decide)) ho
    exact hF _ _ _ h1 (hE2.obj (Or.inl (by decide)) h1) b1
  · have h1 := hE.obj (Or.inl (by decide)) ho
    exact hF _ _ _ h1 (hE2.obj (Or.inl (by decide)) h1) b7
  · have h1 := hE.obj (Or.inl (by decide)) ho
    exact hF _ _ _ h1 (hE2.obj (Or.inl (by decide)) h1) c1
theorem FGT.no : FGT V V x := Or.inr ⟨rfl, rfl⟩
theorem FGT.er {V3 : Vmap} {u : Value} (g : SAM LWK K V V2) (hx : K x = some (0, 10)) (hW : WT K V) (e3 : V3 = upd2 V2 o 3 u) : FGT V V3 x := by
  have hlo := (lw_own hx hW).1
  exact Or.inr ⟨by rw [vi_up e3 (Or.inr (by decide))]; exact vi_eq (g _ _ 7 hlo (by unfold LWK; simp)), by rw [vi_up e3 (Or.inr (by decide))]; exact vi_eq (g _ _ 1 hlo (by unfold LWK; simp))⟩
theorem FGT.ok {V3 V4 : Vmap} {u : Value} (g : SAM LWK K V V2) (hx : K x = some (0, 10)) (hW : WT K V) (e3 : V3 = upd2 V2 o 3 u) (had : vi V3 (vq V3 x 1) 1 < 20 → vi V4 (vq V3 x 1) 7 = -1) (h20 : vi V (vq V x 1) 1 < 20) : FGT V V4 x := by
  have hlo := (lw_own hx hW).1
  have e1 : vq V3 x 1 = lwO V x := by
    rw [vq_up e3 (Or.inr (by decide))]
    exact vq_eq (g _ _ 1 hx (by unfold LWK; simp))
  rw [e1, vi_up e3 (Or.inr (by decide)), vi_eq (g _ _ 1 hlo (by unfold LWK; simp))] at had
  exact Or.inl (had h20)
def cxbits (ws : Nat) : Bool := [keyK (0, 1) 4, keyK (0, 1) 6, abase + 134, keyK (0, 10) 1].all fun b => !ws.testBit b
theorem CWI.text {ws : Nat} (h : CWI K V x) (f : CTX K K1 V V1 x a b c X) (g : FGT V V1 x) (hN1 : PN V1 x) (hF : FR ws K V K1 V1) (hE : ext K K1) (hW : WT K V) (hx : K x = some (0, 10)) (b2 : ycbits ws = true) (b3 : cxbits ws = true) : CWI K1 V1 x := by
  obtain ⟨hN, L, h1, h2, h3⟩ := h
  have hlo := (lw_own hx hW).1
  have hlo1 := hE.obj (Or.inl (by decide)) hlo
  simp only [cxbits, List.all_cons, List.all_nil, Bool.and_true, Bool.and_eq_true, Bool.not_eq_true'] at b3
  obtain ⟨c1, c2, c4, c0⟩ := b3
  have s1 : lwO V1 x = lwO V x := vq_eq (hF x _ 1 hx (hE.obj (Or.inl (by decide)) hx) c0)
  obtain ⟨N, hA⟩ := (hW.ref hlo (j := 4) (Nat.le_of_ble_eq_true rfl) rfl).2
  have hY := YCS.fr hF hE hW hx hN b2
  have old : CTS K1 V1 x L → CWI K1 V1 x := fun hL => by
    refine ⟨hN1, L, hL, h2, fun h7 => ?_⟩
    rw [s1] at h7
    rcases g with e7 | ⟨e7, -⟩
    · exact absurd e7 h7
    · rw [e7] at h7
      refine (h3 h7).same s1 (vi_fr hF hlo hlo1 c2) e7 (by rw [hY.1]; exact Int.le_refl _) (fun u => ?_) (fun p hp i => (hY.2 p hp).2.2 i)
      unfold cnR
      rw [vq_eq (hF _ _ 4 hlo hlo1 c1)]
      exact vi_frA hF hA (hE.arr hA) c4
  rcases f L h1 with ⟨-, -, hL, -⟩ | ⟨-, -, hm⟩
  · exact old hL
  · cases h9 : texF (tpC V x) c.toNat pz with
    | error q =>
      rw [h9] at hm
      exact old hm.2
    | ok r =>
      rw [h9] at hm
      have hl2 : txN V1 x = ((L ++ [(a, b, r.2)]).length : Int) := hm.2.1
      have hl1 : txN V x = (L.length : Int) := h1.1
      have e9 : txN V1 x = vi V1 (lwO V x) 1 := by unfold txN; rw [s1]
      refine ⟨hN1, _, hm.2, OKL.add h2 (texF_ok h9), fun h7 => ?_⟩
      rw [s1] at h7
      rcases g with e7 | ⟨-, e1⟩
      · exact absurd e7 h7
      · exfalso
        rw [List.length_append] at hl2
        have h8 : txN V x = vi V (lwO V x) 1 := rfl
        have h9 : ([(a, b, r.2)] : List TXL).length = 1 := rfl
        omega
/-- the day that was weighed last, and 1 -/
def wdN (V : Vmap) (x : Nat) : Int := vi V (lwO V x) 7 + 1
theorem wdN_at {V0 : Vmap} (h : V x 1 = .ref o) (hc : V o 7 = V0 o 7) (h0 : vi V0 o 7 = -1) : wdN V x = 0 := by
  have hq : lwO V x = o := vq_of h
  unfold wdN
  rw [hq, vi_eq hc, h0]
  rfl
theorem wdN_nw (hW : WT K V) (hx : K x = some (0, 10)) (hq : K q = none) (hV : ∀ y, y ≠ q → V1 y = V y) : wdN V1 x = wdN V x := by
  have hl := (lw_own hx hW).1
  have e1 : lwO V1 x = lwO V x := by unfold lwO vq; rw [hV x (K_old hx hq)]
  unfold wdN vi
  rw [e1, hV _ (K_old hl hq)]
theorem wdN_fr {ws : Nat} (hF : FR ws K V K1 V1) (hE : ext K K1) (hW : WT K V) (hx : K x = some (0, 10)) (hb : ws.testBit (keyK (0, 10) 1) = false) (hb2 : ws.testBit (keyK (0, 1) 7) = false) : wdN V1 x = wdN V x := by
  have hl := (lw_own hx hW).1
  have e1 : lwO V1 x = lwO V x := vq_eq (hF _ _ 1 hx (hE.obj (Or.inl (by decide)) hx) hb)
  unfold wdN
  rw [e1, vi_fr hF hl (hE.obj (Or.inl (by decide)) hl) hb2]
theorem CWI.start (hN : PN V x) (h5 : txN V x = 0) (h7 : wdN V x = 0) : CWI K V x := CWI.nil hN h5 (by unfold wdN at h7; omega)
end YN
