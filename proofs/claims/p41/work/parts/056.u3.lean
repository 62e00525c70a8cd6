/-! ### the reference's reader: clauses -/
section U3
variable {K : Kmap} {V0 V V1 V2 V3 : Vmap} {x : Nat} {c A B : Int}
/-- the clauses that are said -/
def RLC (V : Vmap) (x : Nat) (l : List CLT) : Prop := vi V x 38 = (l.length : Int) ∧ l.length ≤ 12 ∧ ∀ j r, l[j]? = some r → ar 41 V x j = r.1 ∧ ar 44 V x j = r.2.1 ∧ ar 45 V x j = r.2.2.1 ∧ ar 46 V x j = r.2.2.2
/-- so far the clause is as rest says -/
def RLE (V0 V : Vmap) (x : Nat) (rest : (Nat → Int) → Nat → PS → PCl) : Prop := ∀ (src : Nat → Int) (e : Nat) (l : List CLT), e ≤ 200 → TP V0 x src e → vi V0 x 38 = (l.length : Int) → claS src e l.length (Tm V0 x) = rest src e (Tm V x)
/-- the clause falls -/
def RLX (V0 V : Vmap) (x : Nat) : Prop := ∀ (src : Nat → Int) (e : Nat) (l : List CLT), e ≤ 200 → TP V0 x src e → vi V0 x 38 = (l.length : Int) → ∃ q, claS src e l.length (Tm V0 x) = .error q ∧ ER V x q
variable {rest r1 : (Nat → Int) → Nat → PS → PCl} {rn : (Nat → Int) → Nat → Int → PS → PCl}
theorem Tm_eq (hp : vi V1 x 31 = vi V x 31) (hc : vi V1 x 36 = vi V x 36) (hS : sd V1 x = sd V x) : Tm V1 x = Tm V x := by unfold Tm; rw [hp, hc, hS]
theorem RLE.to (h : RLE V0 V x rest) (e : ∀ src e s, rest src e s = r1 src e s) : RLE V0 V x r1 := fun src e0 l h200 hT hl => (h src e0 l h200 hT hl).trans (e src e0 _)
theorem RLE.same (h : RLE V0 V x rest) (hp : vi V1 x 31 = vi V x 31) (hc : vi V1 x 36 = vi V x 36) (hS : sd V1 x = sd V x) : RLE V0 V1 x rest := fun src e l h200 hT hl => by rw [Tm_eq hp hc hS]; exact h src e l h200 hT hl
theorem RLE.num {most X : Int} (h : RLE V0 V x (fun src e s => bnn (numQ src e most s) (fun s1 n => rn src e n s1))) (hT : ∀ src e, TP V0 x src e → TP V x src e) (hn : NUMR V V1 x most X) (hX : X ≠ 0) (hc : vi V1 x 36 = vi V x 36) (hS : sd V1 x = sd V x) : RLE V0 V1 x (fun src e s => rn src e (vi V1 x 34) s) := fun src e l h200 hTP hl => by
  have h1 := h src e l h200 hTP hl
  have h2 := (hn src e (hT src e hTP)).1 hX
  have e1 : numQ src e most (Tm V x) = .ok (Tm V1 x, vi V1 x 34) := by
    have h2' : numS src e most (Tm V x).1 = .ok ((vi V1 x 31).toNat, vi V1 x 34) := h2
    unfold numQ
    rw [h2']
    show Except.ok (((vi V1 x 31).toNat, (vi V x 36).toNat, sd V x), vi V1 x 34) = Except.ok (((vi V1 x 31).toNat, (vi V1 x 36).toNat, sd V1 x), vi V1 x 34)
    rw [hc, hS]
  have h3 : claS src e l.length (Tm V0 x) = bnn (numQ src e most (Tm V x)) (fun s1 n => rn src e n s1) := h1
  rw [h3, e1]
  rfl
theorem RLX.num {most X : Int} (h : RLE V0 V x (fun src e s => bnn (numQ src e most s) (fun s1 n => rn src e n s1))) (hT : ∀ src e, TP V0 x src e → TP V x src e) (hn : NUMR V V1 x most X) (hX : X = 0) : RLX V0 V1 x := fun src e l h200 hTP hl => by
  have h1 : claS src e l.length (Tm V0 x) = bnn (numQ src e most (Tm V x)) (fun s1 n => rn src e n s1) := h src e l h200 hTP hl
  obtain ⟨q, h2, h3⟩ := (hn src e (hT src e hTP)).2 hX
  refine ⟨q, ?_, h3⟩
  have e1 : numQ src e most (Tm V x) = .error q := by
    have h2' : numS src e most (Tm V x).1 = .error q := h2
    unfold numQ
    rw [h2']
  rw [h1, e1]
  rfl
theorem RLE.tk {k X : Int} (h : RLE V0 V x (fun src e s => bnc (tak src e k s) (r1 src e))) (hT : ∀ src e, TP V0 x src e → TP V x src e) (h0 : 0 ≤ vi V x 31) (ht : (X ≠ 0 → sgn V x = k ∧ vi V1 x 31 = vi V x 31 + 1) ∧ (X = 0 → sgn V x ≠ k ∧ vi V1 x 33 = -1000 - vi V x 31)) (hX : X ≠ 0) (hc : vi V1 x 36 = vi V x 36) (hS : sd V1 x = sd V x) : RLE V0 V1 x r1 := fun src e l h200 hTP hl => by
  have h1 : claS src e l.length (Tm V0 x) = bnc (tak src e k (Tm V x)) (r1 src e) := h src e l h200 hTP hl
  obtain ⟨h2, h3⟩ := ht.1 hX
  have hs := (hT src e hTP).sg h0
  have e1 : tak src e k (Tm V x) = .ok (Tm V1 x) := by
    unfold tak
    rw [if_pos (show rdS src e (Tm V x).1 = k from hs.symm.trans h2)]
    show Except.ok ((vi V x 31).toNat + 1, (vi V x 36).toNat, sd V x) = Except.ok ((vi V1 x 31).toNat, (vi V1 x 36).toNat, sd V1 x)
    rw [hc, hS, show (vi V1 x 31).toNat = (vi V x 31).toNat + 1 by omega]
  rw [h1, e1]
  rfl
theorem RLX.tk {k X : Int} (h : RLE V0 V x (fun src e s => bnc (tak src e k s) (r1 src e))) (hT : ∀ src e, TP V0 x src e → TP V x src e) (h0 : 0 ≤ vi V x 31) (ht : (X ≠ 0 → sgn V x = k ∧ vi V1 x 31 = vi V x 31 + 1) ∧ (X = 0 → sgn V x ≠ k ∧ vi V1 x 33 = -1000 - vi V x 31)) (hX : X = 0) : RLX V0 V1 x := fun src e l h200 hTP hl => by
  have h1 : claS src e l.length (Tm V0 x) = bnc (tak src e k (Tm V x)) (r1 src e) := h src e l h200 hTP hl
  obtain ⟨h2, h3⟩ := ht.2 hX
  have hs := (hT src e hTP).sg h0
  refine ⟨(1, (vi V x 31).toNat), ?_, ?_⟩
  · have e1 : tak src e k (Tm V x) = .error (1, (vi V x 31).toNat) := by
      unfold tak
      rw [if_neg (show ¬ rdS src e (Tm V x).1 = k from fun q => h2 (hs.trans q))]
      rfl
    rw [h1, e1]
    rfl
  · unfold ER
    show _ = -1000 * 1 - (((vi V x 31).toNat : Nat) : Int)
    omega
theorem RLE.con {X : Int} (h : RLE V0 V x (fun src e s => bnc (conF src e s) (r1 src e))) (hT : ∀ src e, TP V0 x src e → TP V x src e) (hn : CND V V1 x X) (hX : X ≠ 0) : RLE V0 V1 x r1 := fun src e l h200 hTP hl => by
  have h1 : claS src e l.length (Tm V0 x) = bnc (conF src e (Tm V x)) (r1 src e) := h src e l h200 hTP hl
  rw [h1, (hn src e h200 (hT src e hTP)).1 hX]
  rfl
theorem RLX.con {X : Int} (h : RLE V0 V x (fun src e s => bnc (conF src e s) (r1 src e))) (hT : ∀ src e, TP V0 x src e → TP V x src e) (hn : CND V V1 x X) (hX : X = 0) : RLX V0 V1 x := fun src e l h200 hTP hl => by
  have h1 : claS src e l.length (Tm V0 x) = bnc (conF src e (Tm V x)) (r1 src e) := h src e l h200 hTP hl
  obtain ⟨q, h2, h3⟩ := (hn src e h200 (hT src e hTP)).2 hX
  refine ⟨q, ?_, h3⟩
  rw [h1, h2]
  rfl
/-- no letter of a clause -/
theorem RLX.e1 (hT : ∀ src e, TP V0 x src e → TP V x src e) (hp : vi V x 31 = vi V0 x 31) (h0 : 0 ≤ vi V0 x 31) (hc : isCL (sgn V0 x) = false) (hf : vi V1 x 33 = -1000 - vi V0 x 31) : RLX V0 V1 x := fun src e l h200 hTP hl => by
  have hs := hTP.sg h0
  refine ⟨(1, (vi V0 x 31).toNat), ?_, ?_⟩
  · unfold claS
    rw [if_neg (show ¬ isCL (rdS src e (Tm V0 x).1) = true by show ¬ isCL (rdS src e (vi V0 x 31).toNat) = true; rw [← hs, hc]; decide)]
    rfl
  · unfold ER
    show _ = -1000 * 1 - (((vi V0 x 31).toNat : Nat) : Int)
    omega
theorem RLX.e4 (h0 : 0 ≤ vi V0 x 31) (hc : isCL (sgn V0 x) = true) (h12 : vi V0 x 38 = 12) (hf : vi V1 x 33 = -4000 - vi V0 x 31) : RLX V0 V1 x := fun src e l h200 hTP hl => by
  have hs := hTP.sg h0
  refine ⟨(4, (vi V0 x 31).toNat), ?_, ?_⟩
  · unfold claS
    rw [if_pos (show isCL (rdS src e (Tm V0 x).1) = true by show isCL (rdS src e (vi V0 x 31).toNat) = true; rw [← hs]; exact hc), if_pos (by omega)]
    rfl
  · unfold ER
    show _ = -1000 * 4 - (((vi V0 x 31).toNat : Nat) : Int)
    omega
/-- a letter -/
theorem RLE.beg (h0 : 0 ≤ vi V0 x 31) (hsg : sgn V0 x = c) (hc : isCL (sgn V0 x) = true) (h12 : vi V0 x 38 ≤ 11) (hp : vi V x 31 = vi V0 x 31 + 1) (hcd : vi V x 36 = vi V0 x 36) (hS : sd V x = sd V0 x) : RLE V0 V x (fun src e => claG src e c) := fun src e l h200 hTP hl => by
  have hs := hTP.sg h0
  have e1 : Tm V x = adv (Tm V0 x) := by
    show ((vi V x 31).toNat, (vi V x 36).toNat, sd V x) = ((vi V0 x 31).toNat + 1, (vi V0 x 36).toNat, sd V0 x)
    rw [hcd, hS, show (vi V x 31).toNat = (vi V0 x 31).toNat + 1 by omega]
  unfold claS
  rw [if_pos (show isCL (rdS src e (Tm V0 x).1) = true by show isCL (rdS src e (vi V0 x 31).toNat) = true; rw [← hs]; exact hc), if_neg (by omega), e1]
  show claG src e (rdS src e (vi V0 x 31).toNat) _ = _
  rw [← hs, hsg]
/-- what is said of other clauses stays -/
def RLB (V0 V : Vmap) (x : Nat) (k : Nat) (c : Int) : Prop := ar 41 V x k = c ∧ ∀ j, j ≠ k → ar 41 V x j = ar 41 V0 x j ∧ ar 44 V x j = ar 44 V0 x j ∧ ar 45 V x j = ar 45 V0 x j ∧ ar 46 V x j = ar 46 V0 x j
theorem RLB.beg {k : Nat} {a b d : Int} (h1 : ar 41 V x = updf (ar 41 V0 x) k c) (h4 : ar 44 V x = updf (ar 44 V0 x) k a) (h5 : ar 45 V x = updf (ar 45 V0 x) k b) (h6 : ar 46 V x = updf (ar 46 V0 x) k d) : RLB V0 V x k c ∧ ar 44 V x k = a ∧ ar 45 V x k = b ∧ ar 46 V x k = d := by
  refine ⟨⟨by rw [h1, updf_at], fun j hj => ?_⟩, by rw [h4, updf_at], by rw [h5, updf_at], by rw [h6, updf_at]⟩
  rw [h1, h4, h5, h6, updf_of hj, updf_of hj, updf_of hj, updf_of hj]
  exact ⟨rfl, rfl, rfl, rfl⟩
theorem RLB.same {k : Nat} (h : RLB V0 V x k c) (h1 : ar 41 V1 x = ar 41 V x) (h4 : ar 44 V1 x = ar 44 V x) (h5 : ar 45 V1 x = ar 45 V x) (h6 : ar 46 V1 x = ar 46 V x) : RLB V0 V1 x k c := by
  unfold RLB
  rw [h1, h4, h5, h6]
  exact h
theorem RLB.put {k : Nat} {a b d : Int} (h : RLB V0 V x k c) (h1 : ar 41 V1 x = ar 41 V x) (h4 : ar 44 V1 x = ar 44 V x ∨ ar 44 V1 x = updf (ar 44 V x) k a) (h5 : ar 45 V1 x = ar 45 V x ∨ ar 45 V1 x = updf (ar 45 V x) k b) (h6 : ar 46 V1 x = ar 46 V x ∨ ar 46 V1 x = updf (ar 46 V x) k d) : RLB V0 V1 x k c := by
  refine ⟨by rw [h1]; exact h.1, fun j hj => ?_⟩
  obtain ⟨a1, a2, a3, a4⟩ := h.2 j hj
  refine ⟨by rw [h1]; exact a1, ?_, ?_, ?_⟩
  · rcases h4 with h4 | h4 <;> rw [h4]
    · exact a2
    · rw [updf_of hj]; exact a2
  · rcases h5 with h5 | h5 <;> rw [h5]
    · exact a3
    · rw [updf_of hj]; exact a3
  · rcases h6 with h6 | h6 <;> rw [h6]
    · exact a4
    · rw [updf_of hj]; exact a4
/-- behind the letter and a condition -/
def rA (src : Nat → Int) (e : Nat) (c : Int) (s : PS) : PCl := if c = 102 ∨ c = 108 ∨ c = 99 ∨ c = 110 ∨ c = 115 then gL src e c s else claG src e c s
/-- behind what k and x say -/
def rB (src : Nat → Int) (e : Nat) (c a b : Int) (s : PS) : PCl := if c = 110 ∨ c = 115 ∨ c = 97 ∨ c = 113 ∨ c = 107 ∨ c = 103 then kE src e c a b s else .ok (s, (c, 0, a, b))
def RL1 (V0 V : Vmap) (x k : Nat) (c : Int) : Prop := RLB V0 V x k c ∧ ar 44 V x k = 0 ∧ ar 45 V x k = 0 ∧ ar 46 V x k = 0 ∧ RLE V0 V x (fun src e => rA src e c)
def RL2 (V0 V : Vmap) (x k : Nat) (c : Int) : Prop := RLB V0 V x k c ∧ ar 44 V x k = 0 ∧ RLE V0 V x (fun src e => rB src e c (ar 45 V x k) (ar 46 V x k))
/-- readsClause() -/
def RCS (V0 V : Vmap) (x : Nat) (X : Int) : Prop := (X ≠ 0 → ∀ (src : Nat → Int) (e : Nat) (l : List CLT), e ≤ 200 → TP V0 x src e → RLC V0 x l → ∃ r, claS src e l.length (Tm V0 x) = .ok (Tm V x, r) ∧ RLC V x (l ++ [r])) ∧ (X = 0 → RLX V0 V x)
theorem RL1.no {k : Nat} (h : RLE V0 V x (fun src e => claG src e c)) (hn : ¬ (c = 102 ∨ c = 108 ∨ c = 99 ∨ c = 110 ∨ c = 115)) (hb : RLB V0 V1 x k c ∧ ar 44 V1 x k = 0 ∧ ar 45 V1 x k = 0 ∧ ar 46 V1 x k = 0) (hp : vi V1 x 31 = vi V x 31) (hc : vi V1 x 36 = vi V x 36) (hS : sd V1 x = sd V x) : RL1 V0 V1 x k c := ⟨hb.1, hb.2.1, hb.2.2.1, hb.2.2.2, (h.same hp hc hS).to (fun src e s => by unfold rA; rw [if_neg hn])⟩
theorem RL1.yes {k : Nat} {X : Int} (h : RLE V0 V x (fun src e => claG src e c)) (hn : c = 102 ∨ c = 108 ∨ c = 99 ∨ c = 110 ∨ c = 115) (hT : ∀ src e, TP V0 x src e → TP V x src e) (hcn : CND V V1 x X) (hX : X ≠ 0) (hb : RLB V0 V2 x k c ∧ ar 44 V2 x k = 0 ∧ ar 45 V2 x k = 0 ∧ ar 46 V2 x k = 0) (hp : vi V2 x 31 = vi V1 x 31) (hc : vi V2 x 36 = vi V1 x 36) (hS : sd V2 x = sd V1 x) : RL1 V0 V2 x k c := by
  have h1 : RLE V0 V x (fun src e s => bnc (conF src e s) (gL src e c)) := h.to (fun src e s => by unfold claG; rw [if_neg (by omega), if_neg (by omega), if_pos hn])
  exact ⟨hb.1, hb.2.1, hb.2.2.1, hb.2.2.2, ((h1.con hT hcn hX).same hp hc hS).to (fun src e s => by unfold rA; rw [if_pos hn])⟩
theorem RLX.ask {X : Int} (h : RLE V0 V x (fun src e => claG src e c)) (hn : c = 102 ∨ c = 108 ∨ c = 99 ∨ c = 110 ∨ c = 115) (hT : ∀ src e, TP V0 x src e → TP V x src e) (hcn : CND V V1 x X) (hX : X = 0) : RLX V0 V1 x := by
  have h1 : RLE V0 V x (fun src e s => bnc (conF src e s) (gL src e c)) := h.to (fun src e s => by unfold claG; rw [if_neg (by omega), if_neg (by omega), if_pos hn])
  exact RLX.con h1 hT hcn hX
theorem RL1.k {k : Nat} (h : RL1 V0 V x k c) (hc : c = 107) : RLE V0 V x (fun src e => kA src e c) := h.2.2.2.2.to (fun src e s => by unfold rA claG; rw [if_neg (by omega), if_pos hc])
theorem RL1.xx {k : Nat} (h : RL1 V0 V x k c) (hc : c = 120) : RLE V0 V x (fun src e => xA src e c) := h.2.2.2.2.to (fun src e s => by unfold rA claG; rw [if_neg (by omega), if_neg (by omega), if_pos hc])
/-- neither k nor x -/
theorem RL2.no {k : Nat} (h : RL1 V0 V x k c) (hl : isCL c = true) (h1 : c ≠ 107) (h2 : c ≠ 120) (e1 : ar 41 V1 x = ar 41 V x) (e4 : ar 44 V1 x = ar 44 V x) (e5 : ar 45 V1 x = ar 45 V x) (e6 : ar 46 V1 x = ar 46 V x) (hp : vi V1 x 31 = vi V x 31) (hc : vi V1 x 36 = vi V x 36) (hS : sd V1 x = sd V x) : RL2 V0 V1 x k c := by
  obtain ⟨a1, a2, a3, a4, a5⟩ := h
  refine ⟨a1.same e1 e4 e5 e6, by rw [e4]; exact a2, (a5.same hp hc hS).to fun src e s => ?_⟩
  rw [e5, e6, a3, a4]
  have hcl : c = 97 ∨ c = 99 ∨ c = 102 ∨ c = 103 ∨ c = 107 ∨ c = 108 ∨ c = 110 ∨ c = 113 ∨ c = 115 ∨ c = 120 ∨ c = 122 := of_decide_eq_true hl
  unfold rA rB
  by_cases q1 : c = 102 ∨ c = 108 ∨ c = 99 ∨ c = 110 ∨ c = 115
  · rw [if_pos q1]
    unfold gL cEnd
    by_cases q2 : c = 110 ∨ c = 115
    · rw [if_pos q2, if_pos (by omega)]
    · rw [if_neg q2, if_neg (by omega)]
  · rw [if_neg q1]
    unfold claG
    rw [if_neg h1, if_neg h2, if_neg q1]
    by_cases q2 : c = 97 ∨ c = 113 ∨ c = 103
    · rw [if_pos q2, if_pos (by omega)]
    · rw [if_neg q2, if_neg (by omega)]
      rfl
theorem RL2.k {k : Nat} {a b : Int} (h : RL1 V0 V x k c) (hc : c = 107) (he : RLE V0 V1 x (fun src e => kE src e c a b)) (e1 : ar 41 V1 x = ar 41 V x) (e4 : ar 44 V1 x = ar 44 V x) (e5 : ar 45 V1 x = updf (ar 45 V x) k a) (e6 : ar 46 V1 x = updf (ar 46 V x) k b) : RL2 V0 V1 x k c := by
  obtain ⟨a1, a2, a3, a4, a5⟩ := h
  refine ⟨a1.put (a := 0) e1 (Or.inl e4) (Or.inr e5) (Or.inr e6), by rw [e4]; exact a2, he.to fun src e s => ?_⟩
  rw [e5, e6, updf_at, updf_at]
  unfold rB
  rw [if_pos (by omega)]
theorem RL2.xx {k : Nat} {a b : Int} (h : RL1 V0 V x k c) (hc : c = 120) (he : RLE V0 V1 x (fun _ _ s => .ok (s, (c, 0, a, b)))) (e1 : ar 41 V1 x = ar 41 V x) (e4 : ar 44 V1 x = ar 44 V x) (e5 : ar 45 V1 x = updf (ar 45 V x) k a) (e6 : ar 46 V1 x = updf (ar 46 V x) k b) : RL2 V0 V1 x k c := by
  obtain ⟨a1, a2, a3, a4, a5⟩ := h
  refine ⟨a1.put (a := 0) e1 (Or.inl e4) (Or.inr e5) (Or.inr e6), by rw [e4]; exact a2, he.to fun src e s => ?_⟩
  rw [e5, e6, updf_at, updf_at]
  unfold rB
  rw [if_neg (by omega)]
theorem RL2.n {k : Nat} (h : RL2 V0 V x k c) (hc : c = 110 ∨ c = 115 ∨ c = 97 ∨ c = 113 ∨ c = 107 ∨ c = 103) : RLE V0 V x (fun src e => kE src e c (ar 45 V x k) (ar 46 V x k)) := h.2.2.to (fun src e s => by unfold rB; rw [if_pos hc])
theorem RL2.o {k : Nat} (h : RL2 V0 V x k c) (hc : ¬ (c = 110 ∨ c = 115 ∨ c = 97 ∨ c = 113 ∨ c = 107 ∨ c = 103)) : RLE V0 V x (fun _ _ s => .ok (s, (c, 0, ar 45 V x k, ar 46 V x k))) := h.2.2.to (fun src e s => by unfold rB; rw [if_neg hc])
/-- the clause is said -/
theorem RCS.fin {X n : Int} {k : Nat} (h : RLB V0 V x k c) (hk : vi V0 x 38 = (k : Int)) (hk12 : k < 12) (he : RLE V0 V2 x (fun _ _ s => .ok (s, (c, n, ar 45 V x k, ar 46 V x k)))) (e4 : (ar 44 V1 x = ar 44 V x ∧ ar 44 V x k = n) ∨ ar 44 V1 x = updf (ar 44 V x) k n) (e38 : vi V1 x 38 = vi V0 x 38 + 1) (hp : vi V1 x 31 = vi V2 x 31) (hc : vi V1 x 36 = vi V2 x 36) (hS : sd V1 x = sd V2 x) (e1 : ar 41 V1 x = ar 41 V x) (e5 : ar 45 V1 x = ar 45 V x) (e6 : ar 46 V1 x = ar 46 V x) (hX : X ≠ 0) : RCS V0 V1 x X := by
  refine ⟨fun _ src e l h200 hTP hl => ?_, fun q => absurd q hX⟩
  obtain ⟨l1, l2, l3⟩ := hl
  have hkl : k = l.length := by omega
  subst hkl
  refine ⟨(c, n, ar 45 V x l.length, ar 46 V x l.length), ?_, ?_⟩
  · rw [(he.same hp hc hS) src e l h200 hTP l1]
  · have hlen : (l ++ [(c, n, ar 45 V x l.length, ar 46 V x l.length)]).length = l.length + 1 := by simp
    refine ⟨by rw [e38, l1, hlen]; rfl, by rw [hlen]; omega, fun j r hr => ?_⟩
    rw [e1, e5, e6]
    by_cases hj : j < l.length
    · rw [List.getElem?_append_left hj] at hr
      obtain ⟨a1, a2, a3, a4⟩ := h.2 j (by omega)
      have e44 : ar 44 V1 x j = ar 44 V x j := by
        rcases e4 with ⟨q, -⟩ | q
        · rw [q]
        · rw [q, updf_of (by omega)]
      rw [e44, a1, a2, a3, a4]
      exact l3 j r hr
    · have hj2 : j = l.length := by
        have := (List.getElem?_eq_some_iff.mp hr).1
        omega
      subst hj2
      have e9 : (l ++ [(c, n, ar 45 V x l.length, ar 46 V x l.length)])[l.length]? = some (c, n, ar 45 V x l.length, ar 46 V x l.length) := by simp
      rw [e9] at hr
      cases hr
      refine ⟨h.1, ?_, rfl, rfl⟩
      rcases e4 with ⟨q, q2⟩ | q
      · rw [q]; exact q2
      · rw [q, updf_at]
end U3
