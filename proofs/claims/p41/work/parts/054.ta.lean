/-! ### the tape -/
theorem b255 : ∀ i : Fin 32, 8 ≤ i.val → (255#32 : BitVec 32).getLsbD i.val = false := by decide
theorem i8_and (y : Int32) : y.toInt8.toInt32 &&& Int32.ofInt 255 = y &&& Int32.ofInt 255 := by
  apply Int32.toBitVec.inj
  rw [Int32.toBitVec_and, Int32.toBitVec_and, Int8.toBitVec_toInt32, Int32.toBitVec_toInt8]
  have e : (Int32.ofInt 255).toBitVec = 255#32 := by decide
  rw [e]
  apply BitVec.eq_of_getLsbD_eq
  intro i hi
  rw [BitVec.getLsbD_and, BitVec.getLsbD_and]
  by_cases h : i < 8
  · congr 1
    rw [BitVec.getLsbD_signExtend, BitVec.getLsbD_signExtend, if_pos h, if_pos hi, decide_eq_true hi, decide_eq_true h, Bool.true_and, Bool.true_and]
  · rw [b255 ⟨i, hi⟩ (Nat.le_of_not_lt h), Bool.and_false, Bool.and_false]
theorem wi2b_and {z : Int} : wand (wi2b z) 255 = wand z 255 := by
  unfold wand wi2b
  rw [Int32.ofInt_toInt, i8_and]
section TA
variable {K : Kmap} {V V0 V1 V2 V3 V4 V5 V6 : Vmap} {x m : Nat} {a b c d e n s X Z : Int} {l l1 l2 : List Int}
def tpO (V : Vmap) (x : Nat) : Nat := vq V x 17
def tpN (V : Vmap) (x : Nat) : Int := vi V (tpO V x) 3
def tpC (V : Vmap) (x j : Nat) : Int := vi V (vq V (tpO V x) 2) j
/-- the reference's tape, its bytes without their signs -/
def mtC (V : Vmap) (m j : Nat) : Int := wand (vi V (vq V m 29) j) 255
theorem tp_own (hx : K x = some (0, 10)) (hW : WT K V) : K (tpO V x) = some (0, 31) ∧ K (vq V (tpO V x) 2) = some (153 + 1, 400) ∧ TRM K V (tpO V x) 1 400 ∧ vi V (tpO V x) 1 = ((400 : Nat) : Int) := by
  have hT : K (tpO V x) = some (0, 31) := (hW.ref hx (j := 17) (Nat.le_of_ble_eq_true rfl) rfl).2
  obtain ⟨k, hC⟩ := (hW.ref hT (j := 2) (Nat.le_of_ble_eq_true rfl) rfl).2
  have hk : k = 400 := by
    rcases (hW.len hC).2.2 with h | h
    · exact absurd h (by decide)
    · exact h
  subst hk
  have h0 := (hW.int hT (j := 0) (Nat.le_of_ble_eq_true rfl) rfl).2
  have h1 := (hW.int hT (j := 1) (Nat.le_of_ble_eq_true rfl) rfl).2
  have h3 := (hW.int hT (j := 3) (Nat.le_of_ble_eq_true rfl) rfl).2
  exact ⟨hT, hC, ⟨by omega, by omega, by omega, 153, hC⟩, by omega⟩
theorem tp_rng (hx : K x = some (0, 10)) (hW : WT K V) : 0 ≤ tpN V x ∧ tpN V x ≤ 400 := by
  obtain ⟨-, -, hM, -⟩ := tp_own hx hW
  exact ⟨hM.2.1, hM.2.2.1⟩
/-- numbers are written behind a row of others, if there is room -/
def FEDg (n0 n1 : Int) (c0 c1 : Nat → Int) (l : List Int) : Prop := n0 + (l.length : Int) ≤ 400 → n1 = n0 + (l.length : Int) ∧ (∀ j : Nat, (j : Int) < n0 → c1 j = c0 j) ∧ ∀ i : Nat, i < l.length → c1 (n0.toNat + i) = l.getD i 0
theorem FEDg.rf {n0 : Int} {c0 : Nat → Int} : FEDg n0 n0 c0 c0 [] := fun _ => ⟨by simp, fun _ _ => rfl, fun i hi => absurd hi (Nat.not_lt_zero i)⟩
theorem gd1 {i : Nat} (h : i < l.length) : (l ++ l1).getD i 0 = l.getD i 0 := by
  show ((l ++ l1)[i]?).getD 0 = (l[i]?).getD 0
  rw [List.getElem?_append_left h]
theorem gd2 {i : Nat} (h : l.length ≤ i) : (l ++ l1).getD i 0 = l1.getD (i - l.length) 0 := by
  show ((l ++ l1)[i]?).getD 0 = (l1[i - l.length]?).getD 0
  rw [List.getElem?_append_right h]
theorem FEDg.tr {n0 n1 n2 : Int} {c0 c1 c2 : Nat → Int} (h : FEDg n0 n1 c0 c1 l) (g : FEDg n1 n2 c1 c2 l1) (h0 : 0 ≤ n0) : FEDg n0 n2 c0 c2 (l ++ l1) := fun hr => by
  have hl : (((l ++ l1).length : Nat) : Int) = (l.length : Int) + (l1.length : Int) := by rw [List.length_append]; omega
  rw [hl] at hr ⊢
  obtain ⟨a1, a2, a3⟩ := h (by omega)
  obtain ⟨b1, b2, b3⟩ := g (by omega)
  refine ⟨by omega, fun j hj => (b2 j (by omega)).trans (a2 j hj), fun i hi => ?_⟩
  by_cases hi2 : i < l.length
  · rw [b2 _ (by omega), a3 i hi2, gd1 hi2]
  · have hi3 : i - l.length < l1.length := by rw [List.length_append] at hi; omega
    have q := b3 (i - l.length) hi3
    rw [gd2 (by omega), ← q]
    congr 1
    omega
def FED (V V1 : Vmap) (x : Nat) (l : List Int) : Prop := FEDg (tpN V x) (tpN V1 x) (tpC V x) (tpC V1 x) l
def MFD (V V1 : Vmap) (m : Nat) (l : List Int) : Prop := FEDg (vi V m 30) (vi V1 m 30) (mtC V m) (mtC V1 m) l
theorem APP.fed (h : APP K V V1 (tpO V x) a 0 0 0 0 X) (hx : K x = some (0, 10)) (hW : WT K V) (ra : ir a) : FED V V1 x [a] := fun hr => by
  obtain ⟨hT, hC, hM, h1⟩ := tp_own hx hW
  have hr2 : vi V (tpO V x) 3 + 1 ≤ 400 := hr
  have r0 : ir 0 := ir_c rfl
  rcases h 1 400 (by decide) (by decide) hM h1 with ⟨q, -, -⟩ | ⟨q, -, q2⟩
  · omega
  · obtain ⟨c1, c2, c3, c4⟩ := apv_all (a := a) (b := 0) (c := 0) (d := 0) (e := 0) hM hT q (by decide) ra r0 r0 r0 r0
    rw [← q2] at c1 c2 c3 c4
    have n1 : x ≠ tpO V x := K_ne hx hT (by decide)
    have n2 : x ≠ vq V (tpO V x) 2 := K_ne hx hC (by decide)
    have e1 : tpO V1 x = tpO V x := vq_eq (congrFun (c3 x n1 n2) 17)
    have e2 : vq V1 (tpO V x) 2 = vq V (tpO V x) 2 := vq_eq (c2 2 (by decide))
    have hg : ∀ j, tpC V1 x j = vi V1 (vq V (tpO V x) 2) j := fun j => by unfold tpC; rw [e1, e2]
    refine ⟨?_, fun j hj => ?_, fun i hi => ?_⟩
    · unfold tpN; rw [e1]; exact c1
    · have hj2 : (j : Int) < vi V (tpO V x) 3 := hj
      rw [hg, c4, if_pos (Or.inl (by omega))]
      rfl
    · have hi0 : i = 0 := Nat.lt_one_iff.mp hi
      subst hi0
      have h3 : 0 ≤ vi V (tpO V x) 3 := hM.2.1
      have e3 : ((((tpN V x).toNat + 0 : Nat)) : Int) = vi V (tpO V x) 3 := by show (((vi V (tpO V x) 3).toNat + 0 : Nat) : Int) = _; omega
      rw [hg, c4, if_neg (by omega), if_pos (by omega)]
      rfl
theorem MFD.put {z : Int} (hm : K m = some (0, 11)) (hW : WT K V) (e1 : V1 = upd2 V (vq V m 29) (vi V m 30).toNat (ti (wi2b z))) (e2 : V2 = upd2 V1 m 30 (ti Z)) (hZ : Z = vi V m 30 + 1) (rZ : ir Z) : MFD V V2 m [wand z 255] := fun hr => by
  obtain ⟨k, hk⟩ := (hW.ref hm (j := 29) (Nat.le_of_ble_eq_true rfl) rfl).2
  have hne : m ≠ vq V m 29 := K_ne hm hk (by simp)
  have q1 : vq V2 m 29 = vq V m 29 := (vq_up e2 (Or.inr (by decide))).trans (vq_up e1 (Or.inl hne))
  have h30 : 0 ≤ vi V m 30 := (hW.int hm (j := 30) (Nat.le_of_ble_eq_true rfl) rfl).2.1
  have hg : ∀ j, mtC V2 m j = wand (vi V1 (vq V m 29) j) 255 := fun j => by unfold mtC; rw [q1, vi_up e2 (Or.inl (Ne.symm hne))]
  refine ⟨?_, fun j hj => ?_, fun i hi => ?_⟩
  · rw [upd2_int e2 rZ, hZ]; rfl
  · rw [hg, vi_up e1 (Or.inr (by omega))]; rfl
  · have hi0 : i = 0 := Nat.lt_one_iff.mp hi
    subst hi0
    rw [hg, Nat.add_zero, upd2_int e1 wi2b_ir, wi2b_and]
    rfl
/-- four bytes of a number -/
def byt (n : Int) : List Int := [wand (wshr n 24) 255, wand (wshr n 16) 255, wand (wshr n 8) 255, wand (wshr n 0) 255]
theorem byt_take {j : Nat} (hj : j < 4) : (byt n).take (j + 1) = (byt n).take j ++ [wand (wshr n (24 - 8 * (j : Int))) 255] := by
  match j, hj with
  | 0, _ => rfl
  | 1, _ => rfl
  | 2, _ => rfl
  | 3, _ => rfl
  | j + 4, h => omega
/-- in feedNumber() -/
def FDI (V0 V : Vmap) (x : Nat) (n s : Int) : Prop := ∃ j : Nat, j ≤ 4 ∧ s = 24 - 8 * (j : Int) ∧ FED V0 V x ((byt n).take j)
theorem FDI.beg : FDI V V x n 24 := ⟨0, by decide, rfl, FEDg.rf⟩
theorem FDI.step (h : FDI V0 V x n s) (hs : 0 ≤ s) (ap : APP K V V1 (tpO V x) (wand (wshr n s) 255) 0 0 0 0 X) (hx : K x = some (0, 10)) (hW : WT K V) (h0 : 0 ≤ tpN V0 x) (hZ : Z = s - 8) : FDI V0 V1 x n Z := by
  obtain ⟨j, hj, rfl, h1⟩ := h
  have hj2 : j < 4 := by omega
  refine ⟨j + 1, by omega, by omega, ?_⟩
  rw [byt_take hj2]
  exact FEDg.tr h1 (ap.fed hx hW wand_ir) h0
theorem FDI.end (h : FDI V0 V x n s) (hs : s < 0) : FED V0 V x (byt n) := by
  obtain ⟨j, hj, rfl, h1⟩ := h
  have h4 : j = 4 := by omega
  subst h4
  exact h1
/-- in types() -/
def MFI (V0 V : Vmap) (m : Nat) (n s : Int) : Prop := ∃ j : Nat, j ≤ 4 ∧ s = 3 - (j : Int) ∧ MFD V0 V m ((byt n).take j)
theorem MFI.beg : MFI V V m n 3 := ⟨0, by decide, rfl, FEDg.rf⟩
theorem wi2b_2 {u : Int} : wi2b (wi2b u) = wi2b u := by
  unfold wi2b
  rw [of_toInt, Int8.toInt8_toInt32]
theorem MFI.step {y Y u : Int} (h : MFI V0 V m n s) (hs : 0 ≤ s) (hm : K m = some (0, 11)) (hW : WT K V) (e1 : V1 = upd2 V (vq V m 29) (vi V m 30).toNat (ti (wi2b u))) (hu : u = wi2b (wshr n y)) (hy : y = 8 * s) (e2 : V2 = upd2 V1 m 30 (ti Y)) (hY : Y = vi V m 30 + 1) (rY : ir Y) (h0 : 0 ≤ vi V0 m 30) (hZ : Z = s - 1) : MFI V0 V2 m n Z := by
  rw [hu, wi2b_2] at e1
  obtain ⟨j, hj, rfl, h1⟩ := h
  have hj2 : j < 4 := by omega
  refine ⟨j + 1, by omega, by omega, ?_⟩
  rw [byt_take hj2, show 24 - 8 * (j : Int) = y by omega]
  exact FEDg.tr h1 (MFD.put hm hW e1 e2 hY rY) h0
theorem MFI.end (h : MFI V0 V m n s) (hs : s < 0) : MFD V0 V m (byt n) := by
  obtain ⟨j, hj, rfl, h1⟩ := h
  have h4 : j = 4 := by omega
  subst h4
  exact h1
/-- feed(), on both sides -/
def byts (a b c d e : Int) : List Int := byt a ++ (byt b ++ (byt c ++ (byt d ++ byt e)))
theorem byts_tr {n0 n1 n2 n3 n4 n5 : Int} {c0 c1 c2 c3 c4 c5 : Nat → Int} (h1 : FEDg n0 n1 c0 c1 (byt a)) (h2 : FEDg n1 n2 c1 c2 (byt b)) (h3 : FEDg n2 n3 c2 c3 (byt c)) (h4 : FEDg n3 n4 c3 c4 (byt d)) (h5 : FEDg n4 n5 c4 c5 (byt e)) (h0 : 0 ≤ n0) (hr : n0 + 20 ≤ 400) : FEDg n0 n5 c0 c5 (byts a b c d e) := by
  have l4 : ∀ q : Int, (((byt q).length : Nat) : Int) = 4 := fun q => rfl
  have e1 := (h1 (by rw [l4]; omega)).1
  rw [l4] at e1
  have e2 := (h2 (by rw [l4]; omega)).1
  rw [l4] at e2
  have e3 := (h3 (by rw [l4]; omega)).1
  rw [l4] at e3
  have e4 := (h4 (by rw [l4]; omega)).1
  rw [l4] at e4
  exact h1.tr (h2.tr (h3.tr (h4.tr h5 (by omega)) (by omega)) (by omega)) h0
def FDR (V V1 : Vmap) (x : Nat) (a b c d e X : Int) : Prop := (380 < tpN V x ∧ X = -1 ∧ V1 = V) ∨ (tpN V x ≤ 380 ∧ X = tpN V1 x ∧ FED V V1 x (byts a b c d e))
def MFR (V V1 : Vmap) (m : Nat) (a b c d e X : Int) : Prop := (380 < vi V m 30 ∧ X = -1 ∧ V1 = V) ∨ (vi V m 30 ≤ 380 ∧ X = vi V1 m 30 ∧ MFD V V1 m (byts a b c d e))
theorem FDR.mk (hr : tpN V x ≤ 380) (hx : K x = some (0, 10)) (hW : WT K V) (h1 : FED V V1 x (byt a)) (h2 : FED V1 V2 x (byt b)) (h3 : FED V2 V3 x (byt c)) (h4 : FED V3 V4 x (byt d)) (h5 : FED V4 V5 x (byt e)) (hX : X = tpN V5 x) : FDR V V5 x a b c d e X := Or.inr ⟨hr, hX, byts_tr h1 h2 h3 h4 h5 (tp_rng hx hW).1 (by omega)⟩
theorem MFR.mk (hr : vi V m 30 ≤ 380) (hm : K m = some (0, 11)) (hW : WT K V) (h1 : MFD V V1 m (byt a)) (h2 : MFD V1 V2 m (byt b)) (h3 : MFD V2 V3 m (byt c)) (h4 : MFD V3 V4 m (byt d)) (h5 : MFD V4 V5 m (byt e)) (hX : X = vi V5 m 30) : MFR V V5 m a b c d e X := Or.inr ⟨hr, hX, byts_tr h1 h2 h3 h4 h5 (hW.int hm (j := 30) (Nat.le_of_ble_eq_true rfl) rfl).2.1 (by omega)⟩
/-- both tapes are alike -/
def TPR (V : Vmap) (x m : Nat) : Prop := tpN V x = vi V m 30 ∧ ∀ j : Nat, (j : Int) < tpN V x → tpC V x j = mtC V m j
def TSame (V V1 : Vmap) (x : Nat) : Prop := tpN V1 x = tpN V x ∧ ∀ j, tpC V1 x j = tpC V x j
def MTSame (V V1 : Vmap) (m : Nat) : Prop := vi V1 m 30 = vi V m 30 ∧ ∀ j, mtC V1 m j = mtC V m j
theorem TPR.same (h : TPR V x m) (g : TSame V V1 x) (g1 : MTSame V V1 m) : TPR V1 x m := by
  obtain ⟨h1, h2⟩ := h
  exact ⟨by rw [g.1, g1.1]; exact h1, fun j hj => by rw [g.2, g1.2]; exact h2 j (by rw [← g.1]; exact hj)⟩
theorem TPR.zero (h : tpN V x = 0) (h1 : vi V m 30 = 0) : TPR V x m := ⟨by omega, fun j hj => by omega⟩
theorem TPR.fed (h : TPR V x m) (hx : K x = some (0, 10)) (hW : WT K V) (f : FDR V V1 x a b c d e X) (g : MTSame V V1 m) (f1 : MFR V1 V2 m a b c d e Z) (g1 : TSame V1 V2 x) : X = Z ∧ TPR V2 x m := by
  obtain ⟨h1, h2⟩ := h
  have hr := tp_rng hx hW
  rcases f with ⟨p1, p2, rfl⟩ | ⟨p1, p2, p3⟩
  · rcases f1 with ⟨q1, q2, rfl⟩ | ⟨q1, q2, q3⟩
    · exact ⟨by omega, h1, h2⟩
    · omega
  · rcases f1 with ⟨q1, q2, q3⟩ | ⟨q1, q2, q3⟩
    · have := g.1; omega
    · have l20 : (((byts a b c d e).length : Nat) : Int) = 20 := rfl
      obtain ⟨a1, a2, a3⟩ := p3 (by rw [l20]; omega)
      obtain ⟨b1, b2, b3⟩ := q3 (by rw [l20]; omega)
      rw [l20] at a1 b1
      have g2 := g.1
      have g3 := g1.1
      refine ⟨by omega, by omega, fun j hj => ?_⟩
      rw [g1.2]
      by_cases q : (j : Int) < tpN V x
      · rw [a2 j q, b2 j (by omega), g.2]; exact h2 j q
      · have l20' : (byts a b c d e).length = 20 := rfl
        have c1 := a3 (j - (tpN V x).toNat) (by omega)
        have c2 := b3 (j - (tpN V x).toNat) (by omega)
        rw [show (tpN V x).toNat + (j - (tpN V x).toNat) = j by omega] at c1
        rw [show (vi V1 m 30).toNat + (j - (tpN V x).toNat) = j by omega] at c2
        rw [c1, c2]
end TA
