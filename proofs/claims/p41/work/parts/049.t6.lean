/-! ### clauses -/
abbrev CLT : Type := Int × Int × Int × Int
abbrev PCl : Type := Except (Int × Nat) (PS × CLT)
def bnc (r : PE) (f : PS → PCl) : PCl := match r with
  | .ok s => f s
  | .error q => .error q
def numQ (src : Nat → Int) (e : Nat) (most : Int) (s : PS) : Except (Int × Nat) (PS × Int) := match numS src e most s.1 with
  | .ok r => .ok ((r.1, s.2), r.2)
  | .error q => .error q
def bnn (r : Except (Int × Nat) (PS × Int)) (f : PS → Int → PCl) : PCl := match r with
  | .ok s => f s.1 s.2
  | .error q => .error q
def isCL (c : Int) : Bool := decide (c = 97 ∨ c = 99 ∨ c = 102 ∨ c = 103 ∨ c = 107 ∨ c = 108 ∨ c = 110 ∨ c = 113 ∨ c = 115 ∨ c = 120 ∨ c = 122)
def askB (c : Int) : Prop := c = 102 ∨ c = 108 ∨ c = 110 ∨ c = 115 ∨ c = 99
section CSP
variable (src : Nat → Int) (e : Nat)
def kE (c a b : Int) (s : PS) : PCl := bnn (numQ src e 999999 s) (fun s1 n => .ok (s1, (c, n, a, b)))
def kD (c a b : Int) (s : PS) : PCl := bnc (tak src e 61 s) (kE src e c a b)
def kC (c a : Int) (s : PS) : PCl := bnn (numQ src e 3 s) (fun s1 b => kD src e c a b s1)
def kB (c a : Int) (s : PS) : PCl := bnc (tak src e 46 s) (kC src e c a)
def kA (c : Int) (s : PS) : PCl := bnn (numQ src e 3 s) (fun s1 a => kB src e c a s1)
def xC (c a : Int) (s : PS) : PCl := bnn (numQ src e 11 s) (fun s1 b => .ok (s1, (c, 0, a, b)))
def xB (c a : Int) (s : PS) : PCl := bnc (tak src e 46 s) (xC src e c a)
def xA (c : Int) (s : PS) : PCl := bnn (numQ src e 19 s) (fun s1 a => xB src e c a s1)
def cEnd (c n a b : Int) (s : PS) : PCl := .ok (s, (c, n, a, b))
def gL (c : Int) (s : PS) : PCl := if c = 110 ∨ c = 115 then kE src e c 0 0 s else cEnd c 0 0 0 s
/-- a clause behind its letter -/
def claG (c : Int) (s : PS) : PCl :=
  if c = 107 then kA src e c s
  else if c = 120 then xA src e c s
  else if c = 102 ∨ c = 108 ∨ c = 99 ∨ c = 110 ∨ c = 115 then bnc (conF src e s) (gL src e c)
  else if c = 97 ∨ c = 113 ∨ c = 103 then kE src e c 0 0 s
  else cEnd c 0 0 0 s
def claS (j : Nat) (s : PS) : PCl := if isCL (rdS src e s.1) = true then (if 12 ≤ j then .error (4, s.1) else claG src e (rdS src e s.1) (adv s)) else .error (1, s.1)
end CSP
section T6
variable {K : Kmap} {V V0 V1 V2 V3 V4 V5 V6 : Vmap} {x m : Nat} {l : List CLT} {row : CLT} {st en : Int}
def cbN (V : Vmap) (x : Nat) : Int := vi V (cbT V x) 3
/-- a cell of the clauses' table -/
def cbC (V : Vmap) (x i : Nat) : Int := vi V (cbR V x) i
def rowIs (V : Vmap) (x j : Nat) (r : CLT) (st en : Int) : Prop := cbC V x (6 * j) = r.1 ∧ cbC V x (6 * j + 1) = r.2.1 ∧ cbC V x (6 * j + 2) = r.2.2.1 ∧ cbC V x (6 * j + 3) = r.2.2.2 ∧ cbC V x (6 * j + 4) = st ∧ cbC V x (6 * j + 5) = en
def rowOk (V : Vmap) (x j : Nat) (r : CLT) : Prop := ∃ st en, rowIs V x j r st en ∧ (askB r.1 → st < en) ∧ (¬ askB r.1 → en ≤ st)
/-- the table stands: so many rows, all below as l says, nought above -/
def CLT0 (K : Kmap) (V : Vmap) (x m n : Nat) (l : List CLT) : Prop := TRM K V (cbT V x) 6 m ∧ vi V (cbT V x) 1 = (m : Int) ∧ m ≤ 12 ∧ cbN V x = (n : Int) ∧ (∀ j r, l[j]? = some r → rowOk V x j r) ∧ ∀ i, 6 * n ≤ i → cbC V x i = 0
def CLC (K : Kmap) (V : Vmap) (x m : Nat) (l : List CLT) : Prop := CLT0 K V x m l.length l
/-- a row is being written -/
def CLP (K : Kmap) (V : Vmap) (x m : Nat) (l : List CLT) (row : CLT) (st en : Int) : Prop := CLT0 K V x m (l.length + 1) l ∧ rowIs V x l.length row st en ∧ l.length < m
/-- what the table shows stays -/
def CSame (V V1 : Vmap) (x : Nat) : Prop := cbT V1 x = cbT V x ∧ cbR V1 x = cbR V x ∧ (∀ k, k < 4 → vi V1 (cbT V x) k = vi V (cbT V x) k) ∧ vq V1 (cbT V x) 2 = vq V (cbT V x) 2 ∧ ∀ i, vi V1 (cbR V x) i = vi V (cbR V x) i
theorem CSame.cell (h : CSame V V1 x) (i : Nat) : cbC V1 x i = cbC V x i := by unfold cbC; rw [h.2.1]; exact h.2.2.2.2 i
theorem rowIs.same {j : Nat} (h : rowIs V x j row st en) (g : CSame V V1 x) : rowIs V1 x j row st en := by
  unfold rowIs
  simp only [g.cell]
  exact h
theorem CLT0.same {n : Nat} (h : CLT0 K V x m n l) (g : CSame V V1 x) : CLT0 K V1 x m n l := by
  obtain ⟨⟨a1, a2, a3, t, a4⟩, b, c, d, f, z⟩ := h
  have g' := g
  obtain ⟨g1, g2, g3, g4, g5⟩ := g
  refine ⟨⟨by rw [g1, g3 0 (by decide)]; exact a1, by rw [g1, g3 3 (by decide)]; exact a2, by rw [g1, g3 3 (by decide)]; exact a3, t, by rw [g1, g4]; exact a4⟩, by rw [g1, g3 1 (by decide)]; exact b, c, by unfold cbN; rw [g1, g3 3 (by decide)]; exact d, fun j r hr => ?_, fun i hi => by rw [g'.cell]; exact z i hi⟩
  obtain ⟨st, en, q1, q2⟩ := f j r hr
  exact ⟨st, en, q1.same g', q2⟩
theorem CLP.same (h : CLP K V x m l row st en) (g : CSame V V1 x) : CLP K V1 x m l row st en := ⟨h.1.same g, h.2.1.same g, h.2.2⟩
theorem CLC.same (h : CLC K V x m l) (g : CSame V V1 x) : CLC K V1 x m l := CLT0.same h g
def clbits (ws : Nat) : Bool := [keyK (0, 4) 2, keyK (0, 8) 2, keyK (0, 33) 0, keyK (0, 33) 1, keyK (0, 33) 2, keyK (0, 33) 3, abase + 156].all fun b => !ws.testBit b
theorem CSame.fr {ws : Nat} (hF : FR ws K V K V1) (hx : K x = some (0, 4)) (hW : WT K V) (hb : clbits ws = true) : CSame V V1 x := by
  simp only [clbits, List.all_cons, List.all_nil, Bool.and_true, Bool.and_eq_true, Bool.not_eq_true'] at hb
  obtain ⟨b2, c2, d0, d1, d2, d3, e1⟩ := hb
  obtain ⟨hT, hC, ⟨n, hR⟩, -⟩ := sc_own hx hW
  have t1 : scT V1 x = scT V x := by unfold scT vq; rw [hF x _ 2 hx hx b2]
  have t2 : cbT V1 x = cbT V x := by unfold cbT; rw [t1]; unfold vq; rw [hF _ _ 2 hT hT c2]
  have t3 : vq V1 (cbT V x) 2 = vq V (cbT V x) 2 := by unfold vq; rw [hF _ _ 2 hC hC d2]
  refine ⟨t2, by unfold cbR; rw [t2]; exact t3, fun k hk => ?_, t3, fun i => vi_frA hF hR hR e1⟩
  have : k = 0 ∨ k = 1 ∨ k = 2 ∨ k = 3 := by omega
  rcases this with rfl | rfl | rfl | rfl
  · exact vi_fr hF hC hC d0
  · exact vi_fr hF hC hC d1
  · exact vi_fr hF hC hC d2
  · exact vi_fr hF hC hC d3
theorem CSame.put {k : Nat} {v : Value} (hx : K x = some (0, 4)) (hW : WT K V) (e1 : V1 = upd2 V x k v) (hk : 3 ≤ k) : CSame V V1 x := by
  obtain ⟨hT, hC, ⟨n, hR⟩, -⟩ := sc_own hx hW
  have s := SFR.put hx hW e1 hk
  have n2 : cbT V x ≠ x := K_ne hC hx (by decide)
  exact ⟨s.2.2.1, s.2.2.2.1, fun j _ => vi_up e1 (Or.inl n2), vq_up e1 (Or.inl n2), fun i => vi_up e1 (Or.inl (K_ne hR hx (by simp)))⟩
/-! the table is written -/
/-- set(): of the row that is written, one number -/
abbrev STT (K : Kmap) (V V1 : Vmap) (x : Nat) (c n : Int) : Prop := TPU K V V1 (cbT V x) (vi V (cbT V x) 3 - 1) c n
theorem STT.sfr {c n : Int} (h : STT K V V1 x c n) (hx : K x = some (0, 4)) (hW : WT K V) : SFR V V1 x := by
  obtain ⟨hT, hC, ⟨N, hR⟩, -⟩ := sc_own hx hW
  rcases h.1 with rfl | ⟨j, e1⟩
  · exact SFR.rf
  · have e2 : V1 = upd2 V (cbR V x) j (ti n) := e1
    have n0 : x ≠ cbR V x := K_ne hx hR (by simp)
    have n1 : scT V x ≠ cbR V x := K_ne hT hR (by simp)
    have n2 : cbT V x ≠ cbR V x := K_ne hC hR (by simp)
    have t1 : scT V1 x = scT V x := vq_up e2 (Or.inl n0)
    have t3 : cbT V1 x = cbT V x := by conv => lhs; unfold cbT
                                       rw [t1]; exact vq_up e2 (Or.inl n1)
    exact ⟨t1, by conv => lhs; unfold scS
                  rw [t1]; exact vq_up e2 (Or.inl n1), t3, by conv => lhs; unfold cbR
                                                              rw [t3]; exact vq_up e2 (Or.inl n2), vq_up e2 (Or.inl n0), vi_up e2 (Or.inl n0), fun o _ _ _ _ h5 => funext fun i => uq_ne e2 (Or.inl h5)⟩
/-- a number of the row, put -/
def rset (row : CLT) (c n : Int) : CLT := (if c = 0 then n else row.1, if c = 1 then n else row.2.1, if c = 2 then n else row.2.2.1, if c = 3 then n else row.2.2.2)
theorem STT.clp {c n : Int} (h : STT K V V1 x c n) (hx : K x = some (0, 4)) (hW : WT K V) (c0 : 0 ≤ c) (c5 : c ≤ 5) (rn : ir n) (hp : CLP K V x m l row st en) : CLP K V1 x m l (rset row c n) (if c = 4 then n else st) (if c = 5 then n else en) := by
  obtain ⟨hT, hC, ⟨N, hR⟩, -⟩ := sc_own hx hW
  obtain ⟨⟨hRM, hm1, hm12, hn, hl, hz⟩, hrow, hlm⟩ := hp
  have e1 : V1 = tpv V (cbT V x) (vi V (cbT V x) 3 - 1) c n := h.2 6 m (by decide) (by omega) hRM
  have hn1 : vi V (cbT V x) 3 = ((l.length + 1 : Nat) : Int) := hn
  have hw : vi V (cbT V x) 0 = 6 := hRM.1
  have s := h.sfr hx hW
  have hne := hRM.ne hC
  have k1 : ∀ j, vi V1 (cbT V x) j = vi V (cbT V x) j := fun j => by rw [e1]; exact tpv_i hne
  have hin : TIN V (cbT V x) (vi V (cbT V x) 3 - 1) c := by unfold TIN; rw [hw, hn1]; omega
  have cell : ∀ i, cbC V1 x i = if i = 6 * l.length + c.toNat then n else cbC V x i := fun i => by
    unfold cbC
    rw [s.2.2.2.1, e1]
    have q := tpv_at (V := V) (x := cbT V x) (r := vi V (cbT V x) 3 - 1) (c := c) (n := n) (j := i) rn
    have q2 : vi (tpv V (cbT V x) (vi V (cbT V x) 3 - 1) c n) (cbR V x) i = _ := q
    rw [q2]
    have e2 : ((vi V (cbT V x) 3 - 1) * vi V (cbT V x) 0 + c).toNat = 6 * l.length + c.toNat := by rw [hw, hn1]; omega
    by_cases hi : i = 6 * l.length + c.toNat
    · rw [if_pos hi, if_pos ⟨hin, by rw [e2]; exact hi⟩]
    · rw [if_neg hi, if_neg (fun z => hi (by rw [← e2]; exact z.2))]
      rfl
  refine ⟨⟨⟨by rw [s.2.2.1, k1]; exact hRM.1, by rw [s.2.2.1, k1]; exact hRM.2.1, by rw [s.2.2.1, k1]; exact hRM.2.2.1, ?_⟩, by rw [s.2.2.1, k1]; exact hm1, hm12, by unfold cbN; rw [s.2.2.1, k1]; exact hn, fun j r hr => ?_, fun i hi => ?_⟩, ?_, hlm⟩
  · obtain ⟨t, ht⟩ := hRM.2.2.2
    exact ⟨t, by rw [s.2.2.1]; rw [show vq V1 (cbT V x) 2 = vq V (cbT V x) 2 by rw [e1]; exact tpv_q hne]; exact ht⟩
  · have hj : j < l.length := (List.getElem?_eq_some_iff.mp hr).1
    obtain ⟨s1, e1, ⟨q1, q2, q3, q4, q5, q6⟩, q7⟩ := hl j r hr
    exact ⟨s1, e1, ⟨by rw [cell, if_neg (by omega)]; exact q1, by rw [cell, if_neg (by omega)]; exact q2, by rw [cell, if_neg (by omega)]; exact q3, by rw [cell, if_neg (by omega)]; exact q4, by rw [cell, if_neg (by omega)]; exact q5, by rw [cell, if_neg (by omega)]; exact q6⟩, q7⟩
  · rw [cell, if_neg (by omega)]; exact hz i hi
  · obtain ⟨q1, q2, q3, q4, q5, q6⟩ := hrow
    have hc : c = 0 ∨ c = 1 ∨ c = 2 ∨ c = 3 ∨ c = 4 ∨ c = 5 := by omega
    unfold rowIs rset
    simp only [cell]
    rcases hc with rfl | rfl | rfl | rfl | rfl | rfl <;> simp_all <;> omega
/-- a row is begun -/
theorem APP.clp {c X : Int} (h : APP K V V1 (cbT V x) c 0 0 0 0 X) (hX : X ≠ -1) (hx : K x = some (0, 4)) (hW : WT K V) (rc : ir c) (hp : CLC K V x m l) : SFR V V1 x ∧ CLP K V1 x m l (c, 0, 0, 0) 0 0 := by
  obtain ⟨hT, hC, ⟨N, hR⟩, -⟩ := sc_own hx hW
  obtain ⟨hRM, hm1, hm12, hn, hl, hz⟩ := hp
  have hn1 : vi V (cbT V x) 3 = ((l.length : Nat) : Int) := hn
  rcases h 6 m (by decide) (by omega) hRM hm1 with ⟨-, q, -⟩ | ⟨hlt, hX2, e1⟩
  · exact absurd q hX
  · obtain ⟨a1, a2, a3, a4⟩ := apv_all hRM hC hlt (by omega) rc (ir_c rfl : ir 0) (ir_c rfl : ir 0) (ir_c rfl : ir 0) (ir_c rfl : ir 0)
    rw [← e1] at a1 a2 a3 a4
    have n0 : x ≠ cbT V x := K_ne hx hC (by decide)
    have n0' : x ≠ cbR V x := K_ne hx hR (by simp)
    have n1 : scT V x ≠ cbT V x := K_ne hT hC (by decide)
    have n1' : scT V x ≠ cbR V x := K_ne hT hR (by simp)
    have x1 : V1 x = V x := a3 x n0 n0'
    have x2 : V1 (scT V x) = V (scT V x) := a3 _ n1 n1'
    have t1 : scT V1 x = scT V x := by unfold scT vq; rw [x1]
    have t2 : scS V1 x = scS V x := by conv => lhs; unfold scS
                                       rw [t1]; unfold vq; rw [x2]; rfl
    have t3 : cbT V1 x = cbT V x := by conv => lhs; unfold cbT
                                       rw [t1]; unfold vq; rw [x2]; rfl
    have t4 : cbR V1 x = cbR V x := by conv => lhs; unfold cbR
                                       rw [t3]; unfold vq; rw [a2 2 (by decide)]; rfl
    have s : SFR V V1 x := ⟨t1, t2, t3, t4, by unfold vq; rw [x1], by unfold vi; rw [x1], fun o _ _ _ h4 h5 => a3 o h4 h5⟩
    have k1 : ∀ j, j ≠ 3 → vi V1 (cbT V x) j = vi V (cbT V x) j := fun j hj => by unfold vi; rw [a2 j hj]
    have cell : ∀ i, i ≠ 6 * l.length → cbC V1 x i = if 6 * l.length ≤ i ∧ i < 6 * l.length + 5 then 0 else cbC V x i := fun i hi => by
      unfold cbC
      rw [t4]
      have q : vi V1 (cbR V x) i = _ := a4 i
      rw [q, hn1]
      by_cases g : 6 * l.length ≤ i ∧ i < 6 * l.length + 5
      · rw [if_pos g, if_neg (by omega), if_neg (by omega)]
        split
        · rfl
        split
        · rfl
        split
        · rfl
        · rfl
      · rw [if_neg g, if_pos (by omega)]
        rfl
    have cell0 : cbC V1 x (6 * l.length) = c := by
      unfold cbC
      rw [t4]
      have q : vi V1 (cbR V x) (6 * l.length) = _ := a4 (6 * l.length)
      rw [q, hn1, if_neg (by omega), if_pos (by omega)]
    refine ⟨s, ⟨⟨by rw [t3, k1 0 (by decide)]; exact hRM.1, by rw [t3, a1]; omega, by rw [t3, a1]; omega, ?_⟩, by rw [t3, k1 1 (by decide)]; exact hm1, hm12, by unfold cbN; rw [t3, a1, hn1]; rfl, fun j r hr => ?_, fun i hi => ?_⟩, ?_, by omega⟩
    · obtain ⟨t, ht⟩ := hRM.2.2.2
      exact ⟨t, by rw [t3]; rw [show vq V1 (cbT V x) 2 = vq V (cbT V x) 2 by unfold vq; rw [a2 2 (by decide)]]; exact ht⟩
    · have hj : j < l.length := (List.getElem?_eq_some_iff.mp hr).1
      obtain ⟨s1, e1, ⟨q1, q2, q3, q4, q5, q6⟩, q7⟩ := hl j r hr
      exact ⟨s1, e1, ⟨by rw [cell _ (by omega), if_neg (by omega)]; exact q1, by rw [cell _ (by omega), if_neg (by omega)]; exact q2, by rw [cell _ (by omega), if_neg (by omega)]; exact q3, by rw [cell _ (by omega), if_neg (by omega)]; exact q4, by rw [cell _ (by omega), if_neg (by omega)]; exact q5, by rw [cell _ (by omega), if_neg (by omega)]; exact q6⟩, q7⟩
    · rw [cell _ (by omega), if_neg (by omega)]; exact hz i (by omega)
    · refine ⟨cell0, ?_, ?_, ?_, ?_, ?_⟩
      · rw [cell _ (by omega), if_pos (by omega)]
      · rw [cell _ (by omega), if_pos (by omega)]
      · rw [cell _ (by omega), if_pos (by omega)]
      · rw [cell _ (by omega), if_pos (by omega)]
      · rw [cell _ (by omega), if_neg (by omega)]; exact hz _ (by omega)
end T6
