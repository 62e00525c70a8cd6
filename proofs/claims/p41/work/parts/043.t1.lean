/-! ### the class's steps as the reference's codes -/
def trK (k : Int) : Int := if k = 0 then 0 else if k = 1 then 1 else if k = 2 then 10 else if k = 3 then 12 else if k = 4 then 11 else if k = 5 then 2 else if k = 6 then 3 else if k = 7 then 4 else if k = 8 then 5 else if k = 9 then 6 else if k = 10 then 7 else if k = 11 then 8 else 9
def cvt (a : Int) : Int := 1048576 * trK (wand a 31) + wshr a 5
theorem bv_int {x : Int32} {n : Nat} (h : x.toBitVec.toNat = n) (hn : n < 2147483648) : x.toInt = (n : Int) := by
  rw [← Int32.toInt_toBitVec, BitVec.toInt_eq_toNat_of_lt (by omega), h]
theorem of_nat_bv {n : Nat} (hn : n < 4294967296) : (Int32.ofInt (n : Int)).toBitVec.toNat = n := by
  rw [Int32.toBitVec_ofInt]
  have e : BitVec.ofInt 32 (n : Int) = BitVec.ofNat 32 n := by simp
  rw [e, BitVec.toNat_ofNat]
  exact Nat.mod_eq_of_lt hn
theorem wor_nat {a b : Nat} (ha : a < 2147483648) (hb : b < 2147483648) : wor (a : Int) (b : Int) = ((a ||| b : Nat) : Int) := by
  unfold wor
  refine bv_int ?_ ?_
  · rw [Int32.toBitVec_or, BitVec.toNat_or, of_nat_bv (by omega), of_nat_bv (by omega)]
  · exact Nat.or_lt_two_pow (n := 31) ha hb
theorem wand_nat {a b : Nat} (ha : a < 2147483648) (hb : b < 2147483648) : wand (a : Int) (b : Int) = ((a &&& b : Nat) : Int) := by
  unfold wand
  refine bv_int ?_ ?_
  · rw [Int32.toBitVec_and, BitVec.toNat_and, of_nat_bv (by omega), of_nat_bv (by omega)]
  · exact Nat.lt_of_le_of_lt Nat.and_le_left ha
theorem amt5 : ((Int32.ofInt 5 &&& 31).toBitVec.smod 32).toNat = 5 := by decide +kernel
theorem wshl5 {o : Nat} (h : o < 67108864) : wshl (o : Int) 5 = ((o * 32 : Nat) : Int) := by
  unfold wshl
  refine bv_int ?_ (by omega)
  rw [Int32.toBitVec_shiftLeft, BitVec.shiftLeft_eq', BitVec.toNat_shiftLeft, of_nat_bv (by omega), amt5, Nat.shiftLeft_eq]
  exact Nat.mod_eq_of_lt (by omega)
theorem wshr5 {a : Int} (h : ir a) : wshr a 5 = a / 32 := by
  unfold wshr
  rw [← Int32.toInt_toBitVec, Int32.toBitVec_shiftRight, BitVec.sshiftRight_eq', amt5, BitVec.toInt_sshiftRight, Int32.toInt_toBitVec, ti_int h, Int.shiftRight_eq_div_pow]
  rfl
/-- a step, as it is made, and its parts -/
theorem stp_parts {o k : Nat} (ho : o < 1048576) (hk : k < 32) : wand (wor (wshl (o : Int) 5) (k : Int)) 31 = (k : Int) ∧ wshr (wor (wshl (o : Int) 5) (k : Int)) 5 = (o : Int) ∧ wor (wshl (o : Int) 5) (k : Int) = ((o * 32 + k : Nat) : Int) := by
  have e1 : wor (wshl (o : Int) 5) (k : Int) = ((o * 32 + k : Nat) : Int) := by
    rw [wshl5 (by omega), wor_nat (by omega) (by omega)]
    congr 1
    have := Nat.shiftLeft_add_eq_or_of_lt (i := 5) (b := k) (by omega) o
    rw [Nat.shiftLeft_eq] at this
    rw [← this]
  refine ⟨?_, ?_, e1⟩
  · rw [e1, show (31 : Int) = ((31 : Nat) : Int) from rfl, wand_nat (by omega) (by omega)]
    congr 1
    have := Nat.and_two_pow_sub_one_eq_mod (o * 32 + k) 5
    rw [show (31 : Nat) = 2 ^ 5 - 1 by decide, this]
    omega
  · rw [e1, wshr5 ⟨by omega, by omega⟩]
    omega
theorem cvt_stp {o k : Int} (h0 : 0 ≤ o) (ho : o < 1048576) (k0 : 0 ≤ k) (hk : k < 32) : cvt (wor (wshl o 5) k) = 1048576 * trK k + o := by
  obtain ⟨o, rfl⟩ := Int.eq_ofNat_of_zero_le h0
  obtain ⟨k, rfl⟩ := Int.eq_ofNat_of_zero_le k0
  have h := stp_parts (o := o) (k := k) (by omega) (by omega)
  unfold cvt
  rw [h.1, h.2.1]
theorem wand31 {a : Int} : 0 ≤ wand a 31 ∧ wand a 31 < 32 := by
  have h : wand a 31 ≤ 31 ∧ 0 ≤ wand a 31 := by
    unfold wand
    have h2 : (Int32.ofInt a &&& Int32.ofInt 31).toBitVec.toNat ≤ 31 := by
      rw [Int32.toBitVec_and, BitVec.toNat_and]
      exact Nat.le_trans Nat.and_le_right (by decide)
    rw [bv_int (n := (Int32.ofInt a &&& Int32.ofInt 31).toBitVec.toNat) rfl (by omega)]
    omega
  omega
theorem trK_rng {k : Int} : 0 ≤ trK k ∧ trK k ≤ 12 := by
  unfold trK
  split
  · decide
  split
  · decide
  split
  · decide
  split
  · decide
  split
  · decide
  split
  · decide
  split
  · decide
  split
  · decide
  split
  · decide
  split
  · decide
  split
  · decide
  split
  · decide
  · decide
/-! ### the class's reader -/
def scT (V : Vmap) (x : Nat) : Nat := vq V x 2
def scN (V : Vmap) (x : Nat) : Int := vi V (scT V x) 4
def scS (V : Vmap) (x : Nat) : Nat := vq V (scT V x) 3
/-- place, steps said, and the steps as codes -/
def TmC (V : Vmap) (x : Nat) : PS := ((vi V x 3).toNat, (scN V x).toNat, fun j => cvt (vi V (scS V x) j))
/-- the sign that is next -/
def sgC (V : Vmap) (x : Nat) : Int := if 0 ≤ vi V x 3 ∧ vi V x 3 < vi V x 1 ∧ vi V x 3 < 400 then vi V (vq V x 0) (vi V x 3).toNat else -1
/-- it reads src up to e, and there is room for as many steps -/
def SCO (K : Kmap) (V : Vmap) (x : Nat) (src : Nat → Int) (e : Nat) : Prop := vi V x 1 = (e : Int) ∧ e ≤ 200 ∧ (∃ N : Nat, e ≤ N ∧ K (scS V x) = some (145, N)) ∧ ∀ j : Nat, j < e → vi V (vq V x 0) j = src j ∧ 0 ≤ src j ∧ src j ≤ 255
/-- the steps that are said are small -/
def SML (V : Vmap) (x : Nat) : Prop := ∀ j : Nat, j < (scN V x).toNat → 0 ≤ vi V (scS V x) j ∧ vi V (scS V x) j < 33554432
theorem SML.eq {V V1 : Vmap} {x : Nat} (h : SML V x) (h1 : scN V1 x = scN V x) (h2 : scS V1 x = scS V x) (h3 : ∀ j, vi V1 (scS V x) j = vi V (scS V x) j) : SML V1 x := fun j hj => by
  rw [h1] at hj
  rw [h2, h3]
  exact h j hj
/-- it reads on -/
def AT (K : Kmap) (V : Vmap) (x : Nat) (src : Nat → Int) (e : Nat) (s : PS) : Prop := SCO K V x src e ∧ vi V x 5 = 0 ∧ TmC V x = s ∧ 0 ≤ vi V x 3 ∧ 0 ≤ scN V x ∧ s.1 ≤ e ∧ SML V x
/-- it fell -/
def FELL (K : Kmap) (V : Vmap) (x : Nat) (src : Nat → Int) (e : Nat) (q : Int × Nat) : Prop := SCO K V x src e ∧ vi V x 5 = q.1 ∧ vi V x 6 = (q.2 : Int) ∧ q.1 ≠ 0
def RES (K : Kmap) (V : Vmap) (x : Nat) (src : Nat → Int) (e g l n0 p0 : Nat) (r : PE) : Prop := match r with
  | .ok s => AT K V x src e s ∧ (s.2.1 + p0 + g ≤ s.1 + n0 + l ∧ n0 ≤ s.2.1)
  | .error q => FELL K V x src e q
/-- the text's clauses -/
def cbT (V : Vmap) (x : Nat) : Nat := vq V (scT V x) 2
def cbR (V : Vmap) (x : Nat) : Nat := vq V (cbT V x) 2
/-- what isn't the reader's own stays -/
def SFR (V V1 : Vmap) (x : Nat) : Prop := scT V1 x = scT V x ∧ scS V1 x = scS V x ∧ cbT V1 x = cbT V x ∧ cbR V1 x = cbR V x ∧ vq V1 x 0 = vq V x 0 ∧ vi V1 x 1 = vi V x 1 ∧ ∀ o, o ≠ x → o ≠ scT V x → o ≠ scS V x → o ≠ cbT V x → o ≠ cbR V x → V1 o = V o
theorem SFR.rf {V : Vmap} {x : Nat} : SFR V V x := ⟨rfl, rfl, rfl, rfl, rfl, rfl, fun _ _ _ _ _ _ => rfl⟩
theorem SFR.tr {V V1 V2 : Vmap} {x : Nat} (h : SFR V V1 x) (g : SFR V1 V2 x) : SFR V V2 x := by
  obtain ⟨a1, a2, a3, a4, a5, a6, a7⟩ := h
  obtain ⟨b1, b2, b3, b4, b5, b6, b7⟩ := g
  exact ⟨b1.trans a1, b2.trans a2, b3.trans a3, b4.trans a4, b5.trans a5, b6.trans a6, fun o h1 h2 h3 h4 h5 => (b7 o h1 (by rw [a1]; exact h2) (by rw [a2]; exact h3) (by rw [a3]; exact h4) (by rw [a4]; exact h5)).trans (a7 o h1 h2 h3 h4 h5)⟩
/-- from V to V1 it does as f says; a: how much shorter the steps must be, g, l: how much shorter, longer they are then -/
def CR0 (K : Kmap) (V V1 : Vmap) (x a g l : Nat) (f : (Nat → Int) → Nat → PS → PE) : Prop := ∀ src e, (∀ s, AT K V x src e s → s.2.1 + a ≤ s.1 → RES K V1 x src e g l s.2.1 s.1 (f src e s)) ∧ ∀ q, FELL K V x src e q → FELL K V1 x src e q
def CRg (K : Kmap) (V V1 : Vmap) (x a g l : Nat) (f : (Nat → Int) → Nat → PS → PE) : Prop := CR0 K V V1 x a g l f ∧ SFR V V1 x
abbrev CR (K : Kmap) (V V1 : Vmap) (x : Nat) (f : (Nat → Int) → Nat → PS → PE) : Prop := CRg K V V1 x 0 0 0 f
section CRS
variable {K : Kmap} {V V1 V2 V3 : Vmap} {x : Nat} {f g : (Nat → Int) → Nat → PS → PE}
theorem RES.er {src : Nat → Int} {e a b n0 p0 : Nat} {q : Int × Nat} {r : PE} (h : r = .error q) (hF : FELL K V x src e q) : RES K V x src e a b n0 p0 r := by subst h; exact hF
theorem RES.ok {src : Nat → Int} {e a b n0 p0 : Nat} {s : PS} {r : PE} (h : r = .ok s) (hA : AT K V x src e s) (hn : s.2.1 + p0 + a ≤ s.1 + n0 + b ∧ n0 ≤ s.2.1) : RES K V x src e a b n0 p0 r := by subst h; exact ⟨hA, hn⟩
theorem CR0.bnd {a a1 a2 b b1 b2 l l1 l2 : Nat} (h1 : CR0 K V V1 x a1 b1 l1 f) (h2 : CR0 K V1 V2 x a2 b2 l2 g) (q1 : a1 ≤ a) (q2 : a2 + l1 ≤ b1 + a) (q3 : b + l1 + l2 ≤ l + b1 + b2) : CR0 K V V2 x a b l (fun src e s => bnd (f src e s) (g src e)) := fun src e => ⟨fun s hs hn => by
  have r1 := (h1 src e).1 s hs (by omega)
  show RES K V2 x src e b l s.2.1 s.1 (Jvm.Pilot.@@N@@.bnd (f src e s) (g src e))
  cases hf : f src e s with
  | ok s1 =>
    rw [hf] at r1
    obtain ⟨c1, c2⟩ := r1
    have r2 := (h2 src e).1 s1 c1 (by omega)
    show RES K V2 x src e b l s.2.1 s.1 (g src e s1)
    cases hg : g src e s1 with
    | ok s2 =>
      rw [hg] at r2
      exact ⟨r2.1, by have := r2.2; omega⟩
    | error q => rw [hg] at r2; exact r2
  | error q =>
    rw [hf] at r1
    exact (h2 src e).2 q r1, fun q hq => (h2 src e).2 q ((h1 src e).2 q hq)⟩
theorem CRg.bnd {a a1 a2 b b1 b2 l l1 l2 : Nat} (h1 : CRg K V V1 x a1 b1 l1 f) (h2 : CRg K V1 V2 x a2 b2 l2 g) (q1 : a1 ≤ a) (q2 : a2 + l1 ≤ b1 + a) (q3 : b + l1 + l2 ≤ l + b1 + b2) : CRg K V V2 x a b l (fun src e s => Jvm.Pilot.@@N@@.bnd (f src e s) (g src e)) := ⟨CR0.bnd h1.1 h2.1 q1 q2 q3, h1.2.tr h2.2⟩
theorem CR0.to {a b l : Nat} (h : CR0 K V V1 x a b l f) (e : ∀ src e s, AT K V x src e s → f src e s = g src e s) : CR0 K V V1 x a b l g := fun src e0 => ⟨fun s hs hn => by rw [← e src e0 s hs]; exact (h src e0).1 s hs hn, (h src e0).2⟩
theorem CRg.to {a b l : Nat} (h : CRg K V V1 x a b l f) (e : ∀ src e s, AT K V x src e s → f src e s = g src e s) : CRg K V V1 x a b l g := ⟨CR0.to h.1 e, h.2⟩
theorem CR0.wk {a b l a1 b1 l1 : Nat} (h : CR0 K V V1 x a1 b1 l1 f) (q1 : a1 ≤ a) (q3 : b + l1 ≤ l + b1) : CR0 K V V1 x a b l f := fun src e0 => ⟨fun s hs hn => by
  have r1 := (h src e0).1 s hs (by omega)
  cases hf : f src e0 s with
  | ok s1 => rw [hf] at r1; exact ⟨r1.1, by have := r1.2; omega⟩
  | error q => rw [hf] at r1; exact r1, (h src e0).2⟩
theorem CRg.wk {a b l a1 b1 l1 : Nat} (h : CRg K V V1 x a1 b1 l1 f) (q1 : a1 ≤ a) (q3 : b + l1 ≤ l + b1) : CRg K V V1 x a b l f := ⟨CR0.wk h.1 q1 q3, h.2⟩
theorem CR0.rf : CR0 K V V x 0 0 0 (fun _ _ s => .ok s) := fun src e => ⟨fun s hs hn => ⟨hs, by omega⟩, fun q hq => hq⟩
theorem CRg.rf : CRg K V V x 0 0 0 (fun _ _ s => .ok s) := ⟨CR0.rf, SFR.rf⟩
theorem AT.sg {src : Nat → Int} {e : Nat} {s : PS} (h : AT K V x src e s) : sgC V x = rdS src e s.1 := by
  obtain ⟨⟨h1, h2, h3, h4⟩, h5, rfl, h7, h8, h9, -⟩ := h
  show _ = rdS src e (vi V x 3).toNat
  unfold sgC rdS
  by_cases q : vi V x 3 < (e : Int)
  · rw [if_pos ⟨h7, by rw [h1]; exact q, by omega⟩, if_pos (by omega), (h4 (vi V x 3).toNat (by omega)).1]
  · rw [if_neg (by rw [h1]; omega), if_neg (by omega)]
theorem AT.rng {src : Nat → Int} {e : Nat} {s : PS} (h : AT K V x src e s) : sgC V x = -1 ∨ (0 ≤ sgC V x ∧ sgC V x ≤ 255) := by
  rw [h.sg]
  unfold rdS
  by_cases q : s.1 < e
  · rw [if_pos q]; exact Or.inr (h.1.2.2.2 s.1 q).2
  · rw [if_neg q]; exact Or.inl rfl
/-! places that the reader's own numbers hold are put -/
theorem SCO.put {src : Nat → Int} {e k : Nat} {v : Value} (h : SCO K V x src e) (hx : K x = some (0, 4)) (hW : WT K V) (e1 : V1 = upd2 V x k v) (hk : 3 ≤ k) : SCO K V1 x src e ∧ scT V1 x = scT V x ∧ scN V1 x = scN V x ∧ scS V1 x = scS V x ∧ ∀ j, vi V1 (scS V x) j = vi V (scS V x) j := by
  obtain ⟨h1, h2, ⟨N, h3, h3'⟩, h4⟩ := h
  have hT : K (scT V x) = some (0, 8) := (hW.ref hx (j := 2) (Nat.le_of_ble_eq_true rfl) rfl).2
  obtain ⟨n, hn⟩ := (hW.ref hx (j := 0) (Nat.le_of_ble_eq_true rfl) rfl).2
  have t1 : scT V1 x = scT V x := vq_up e1 (Or.inr (by omega))
  have hne : scT V x ≠ x := K_ne hT hx (by decide)
  have t2 : scN V1 x = scN V x := by unfold scN; rw [t1]; exact vi_up e1 (Or.inl hne)
  have t3 : scS V1 x = scS V x := by unfold scS; rw [t1]; exact vq_up e1 (Or.inl hne)
  have t4 : ∀ j, vi V1 (scS V x) j = vi V (scS V x) j := fun j => vi_up e1 (Or.inl (K_ne h3' hx (by simp)))
  refine ⟨⟨by rw [vi_up e1 (Or.inr (by omega))]; exact h1, h2, ⟨N, h3, by rw [t3]; exact h3'⟩, fun j hj => ?_⟩, t1, t2, t3, t4⟩
  rw [vq_up e1 (Or.inr (by omega)), vi_up e1 (Or.inl (K_ne hn hx (by simp)))]
  exact h4 j hj
theorem TmC_put {src : Nat → Int} {e k : Nat} {v : Value} (h : SCO K V x src e) (hx : K x = some (0, 4)) (hW : WT K V) (e1 : V1 = upd2 V x k v) (hk : 3 ≤ k) : TmC V1 x = ((vi V1 x 3).toNat, (TmC V x).2) := by
  obtain ⟨-, t1, t2, t3, t4⟩ := h.put hx hW e1 hk
  unfold TmC
  rw [t2, t3]
  congr 2
  funext j
  rw [t4]
/-- the reader's objects -/
theorem sc_own (hx : K x = some (0, 4)) (hW : WT K V) : K (scT V x) = some (0, 8) ∧ K (cbT V x) = some (0, 33) ∧ (∃ n, K (cbR V x) = some (156, n)) ∧ ∃ n, K (scS V x) = some (145, n) := by
  have hT : K (scT V x) = some (0, 8) := (hW.ref hx (j := 2) (Nat.le_of_ble_eq_true rfl) rfl).2
  have hC : K (cbT V x) = some (0, 33) := (hW.ref hT (j := 2) (Nat.le_of_ble_eq_true rfl) rfl).2
  exact ⟨hT, hC, (hW.ref hC (j := 2) (Nat.le_of_ble_eq_true rfl) rfl).2, (hW.ref hT (j := 3) (Nat.le_of_ble_eq_true rfl) rfl).2⟩
theorem SFR.put {k : Nat} {v : Value} (hx : K x = some (0, 4)) (hW : WT K V) (e1 : V1 = upd2 V x k v) (hk : 3 ≤ k) : SFR V V1 x := by
  obtain ⟨hT, hC, -, -⟩ := sc_own hx hW
  have t1 : scT V1 x = scT V x := vq_up e1 (Or.inr (by omega))
  have n1 : scT V x ≠ x := K_ne hT hx (by decide)
  have n2 : cbT V x ≠ x := K_ne hC hx (by decide)
  have t3 : cbT V1 x = cbT V x := by unfold cbT; rw [t1]; exact vq_up e1 (Or.inl n1)
  refine ⟨t1, by unfold scS; rw [t1]; exact vq_up e1 (Or.inl n1), t3, by unfold cbR; rw [t3]; exact vq_up e1 (Or.inl n2), vq_up e1 (Or.inr (by omega)), vi_up e1 (Or.inr (by omega)), fun o h _ _ _ _ => funext fun j => uq_ne e1 (Or.inl h)⟩
/-- the depth is put -/
theorem CR0.dep {v : Value} (hx : K x = some (0, 4)) (hW : WT K V) (e1 : V1 = upd2 V x 4 v) : CR0 K V V1 x 0 0 0 (fun _ _ s => .ok s) := fun src e => ⟨fun s hs hn => by
  obtain ⟨hS, h5, hT, h3, hN, hl, hsm⟩ := hs
  obtain ⟨p1, p2, p3, p4, p5⟩ := hS.put hx hW e1 (by omega)
  have g3 : vi V1 x 3 = vi V x 3 := vi_up e1 (Or.inr (by decide))
  refine ⟨⟨p1, by rw [vi_up e1 (Or.inr (by decide))]; exact h5, ?_, by omega, by omega, hl, hsm.eq p3 p4 p5⟩, by omega⟩
  rw [TmC_put hS hx hW e1 (by omega), g3, ← hT]
  rfl, fun q hq => by
  obtain ⟨hS, h5, h6, h7⟩ := hq
  exact ⟨(hS.put hx hW e1 (by omega)).1, by rw [vi_up e1 (Or.inr (by decide))]; exact h5, by rw [vi_up e1 (Or.inr (by decide))]; exact h6, h7⟩⟩
theorem CRg.dep {v : Value} (hx : K x = some (0, 4)) (hW : WT K V) (e1 : V1 = upd2 V x 4 v) : CRg K V V1 x 0 0 0 (fun _ _ s => .ok s) := ⟨CR0.dep hx hW e1, SFR.put hx hW e1 (by decide)⟩
/-- a sign that is known goes -/
theorem CR0.adv {c : Int} {Z : Int} (hx : K x = some (0, 4)) (hW : WT K V) (hc : sgC V x = c) (hc0 : c ≠ -1) (e1 : V1 = upd2 V x 3 (ti Z)) (hZ : ir (vi V x 3 + 1) → Z = vi V x 3 + 1) (rZ : ir Z) : CR0 K V V1 x 0 1 0 (fun src e => tak src e c) := fun src e => ⟨fun s hs hn => by
  have hsg := hs.sg
  rw [hc] at hsg
  obtain ⟨hS, h5, hT, h3, hN, hl, hsm⟩ := hs
  obtain ⟨p1, p2, p3, p4, p5⟩ := hS.put hx hW e1 (by omega)
  have hlt := rdS_lt (by rw [← hsg]; exact hc0)
  have e200 := hS.2.1
  have hs1 : s.1 = (vi V x 3).toNat := by rw [← hT]; rfl
  have hZ1 := hZ ⟨by omega, by omega⟩
  have g3 : vi V1 x 3 = vi V x 3 + 1 := by rw [upd2_int e1 rZ, hZ1]
  refine RES.ok (s := Jvm.Pilot.@@N@@.adv s) (by show tak src e c s = _; unfold tak; rw [if_pos hsg.symm]) ⟨p1, by rw [vi_up e1 (Or.inr (by decide))]; exact h5, ?_, by omega, by omega, by show s.1 + 1 ≤ e; omega, hsm.eq p3 p4 p5⟩ (by show s.2.1 + s.1 + 1 ≤ s.1 + 1 + s.2.1 + 0 ∧ s.2.1 ≤ s.2.1; omega)
  rw [TmC_put hS hx hW e1 (by omega), g3, ← hT]
  show _ = ((vi V x 3).toNat + 1, _)
  rw [show (vi V x 3 + 1).toNat = (vi V x 3).toNat + 1 by omega], fun q hq => by
  obtain ⟨hS, h5, h6, h7⟩ := hq
  exact ⟨(hS.put hx hW e1 (by omega)).1, by rw [vi_up e1 (Or.inr (by decide))]; exact h5, by rw [vi_up e1 (Or.inr (by decide))]; exact h6, h7⟩⟩
theorem CRg.adv {c : Int} {Z : Int} (hx : K x = some (0, 4)) (hW : WT K V) (hc : sgC V x = c) (hc0 : c ≠ -1) (e1 : V1 = upd2 V x 3 (ti Z)) (hZ : ir (vi V x 3 + 1) → Z = vi V x 3 + 1) (rZ : ir Z) : CRg K V V1 x 0 1 0 (fun src e => tak src e c) := ⟨CR0.adv hx hW hc hc0 e1 hZ rZ, SFR.put hx hW e1 (by decide)⟩
theorem WT.p5 {W : Vmap} {c : Int} (hW : WT K V) (hx : K x = some (0, 4)) (rc : ir c) (e1 : W = upd2 V x 5 (ti c)) : WT K W := hW.put (j := 5) (v := ti c) hx (show okv K (fT (0, 4) 5) (ti c) from (okv_int (t := 0) (c := 0) (lo := -2147483648) (hi := 2147483647) rc rc.1 rc.2)) e1
/-- refuse(): the first fault stays -/
def RFS (V V1 : Vmap) (x : Nat) (c w : Int) : Prop := (vi V x 5 ≠ 0 ∧ V1 = V) ∨ (vi V x 5 = 0 ∧ ∃ W, W = upd2 V x 5 (ti c) ∧ V1 = upd2 W x 6 (ti w))
theorem CR0.rfs {c w : Int} (h : RFS V V1 x c w) (hx : K x = some (0, 4)) (hW : WT K V) (rc : ir c) (hc : c ≠ 0) (rw_ : ir w) (hw : w = vi V x 3) : CR0 K V V1 x 0 0 0 (fun _ _ s => .error (c, s.1)) := fun src e => ⟨fun s hs hn => by
  obtain ⟨hS, h5, hT, h3, hN, hl, hsm⟩ := hs
  rcases h with ⟨q, -⟩ | ⟨-, W, e1, e2⟩
  · exact absurd h5 q
  · have hW1 : WT K W := hW.p5 hx rc e1
    obtain ⟨p1, -⟩ := hS.put hx hW e1 (by omega)
    obtain ⟨r1, -⟩ := p1.put hx hW1 e2 (by omega)
    have hs1 : s.1 = (vi V x 3).toNat := by rw [← hT]; rfl
    refine ⟨r1, ?_, ?_, hc⟩
    · rw [vi_up e2 (Or.inr (by decide)), upd2_int e1 rc]
    · rw [upd2_int e2 rw_, hw]
      show _ = ((s.1 : Nat) : Int)
      omega, fun q hq => by
  obtain ⟨hS, h5, h6, h7⟩ := hq
  rcases h with ⟨-, rfl⟩ | ⟨q0, -⟩
  · exact ⟨hS, h5, h6, h7⟩
  · exact absurd (h5.symm.trans q0) h7⟩
theorem RFS.sfr {c w : Int} (h : RFS V V1 x c w) (hx : K x = some (0, 4)) (hW : WT K V) (rc : ir c) : SFR V V1 x := by
  rcases h with ⟨-, rfl⟩ | ⟨-, W, e1, e2⟩
  · exact SFR.rf
  · exact (SFR.put hx hW e1 (by decide)).tr (SFR.put hx (hW.p5 hx rc e1) e2 (by decide))
theorem CRg.rfs {c w : Int} (h : RFS V V1 x c w) (hx : K x = some (0, 4)) (hW : WT K V) (rc : ir c) (hc : c ≠ 0) (rw_ : ir w) (hw : w = vi V x 3) : CRg K V V1 x 0 0 0 (fun _ _ s => .error (c, s.1)) := ⟨CR0.rfs h hx hW rc hc rw_ hw, h.sfr hx hW rc⟩
end CRS
