/-! the reader's memory, in steps -/
theorem wand_rng {X : Int} : 0 ≤ wand X 255 ∧ wand X 255 ≤ 255 := by
  unfold wand
  have h : (Int32.ofInt X &&& Int32.ofInt 255).toBitVec.toNat ≤ 255 := by
    rw [Int32.toBitVec_and, BitVec.toNat_and]
    exact Nat.le_trans Nat.and_le_right (by decide)
  have e : (Int32.ofInt X &&& Int32.ofInt 255).toInt = ((Int32.ofInt X &&& Int32.ofInt 255).toBitVec.toNat : Int) := by
    rw [← Int32.toInt_toBitVec, BitVec.toInt_eq_toNat_of_lt (by omega)]
  rw [e]; omega
def sgn (V : Vmap) (x : Nat) : Int := if vi V x 31 < vi V x 32 then wand (vi V (vq V x 29) (vi V x 31).toNat) 255 else -1
def topf (V : Vmap) (x : Nat) : Int := if vi V x 37 = 0 then -1 else wt V x (vi V x 37 - 1).toNat / UU
theorem sgn_no {V : Vmap} {x : Nat} (h : ¬ vi V x 31 < vi V x 32) : sgn V x = -1 := by unfold sgn; rw [if_neg h]
theorem sgn_yes {V : Vmap} {x q : Nat} (hq : vq V x 29 = q) (h : vi V x 31 < vi V x 32) : sgn V x = wand (vi V q (vi V x 31).toNat) 255 := by unfold sgn; rw [if_pos h, hq]
theorem top_no {V : Vmap} {x : Nat} (h : vi V x 37 = 0) : topf V x = -1 := by unfold topf; rw [if_pos h]
theorem top_yes {V : Vmap} {x q : Nat} (hq : vq V x 40 = q) (h : vi V x 37 ≠ 0) : topf V x = vi V q (vi V x 37 - 1).toNat / 1048576 := by unfold topf wt; rw [if_neg h, hq]
theorem topf_is {V : Vmap} {x : Nat} (h : topf V x ≠ -1) : vi V x 37 ≠ 0 ∧ topf V x = wt V x (vi V x 37 - 1).toNat / UU := by
  unfold topf at *
  split at h
  · exact absurd rfl h
  · rename_i g; exact ⟨g, by rw [if_neg g]⟩
def RJ (V : Vmap) (x fr : Nat) (S0 : Nat → Int) (s z : Int) : Prop :=
  (0 ≤ s ∧ s ≤ vi V x 31 ∧ 0 ≤ vi V x 36 ∧ 0 ≤ vi V x 37) ∧ RIf (sd V x) (wt V x) (vi V x 36).toNat (vi V x 37).toNat (vi V x 31 - s).toNat fr z ∧ ∀ j, j < fr → sd V x j = S0 j
/-- none of the sums waits -/
def NS (V : Vmap) (x : Nat) : Prop := ∀ j, j < (vi V x 37).toNat → pS (wt V x j) = false
theorem cnt_zero {P : Int → Bool} {Q : Nat → Int} {n : Nat} (h : ∀ j, j < n → P (Q j) = false) : cnt P Q n = 0 := by
  induction n with
  | zero => rfl
  | succ n ih => simp only [cnt]; rw [ih (fun j hj => h j (by omega)), h n (by omega)]; simp
section RJ
variable {V V1 : Vmap} {x fr : Nat} {S0 : Nat → Int} {s z op v : Int}
theorem RJ.le (h : RJ V x fr S0 s z) : 0 ≤ s ∧ vi V x 36 + s ≤ vi V x 31 ∧ vi V x 37 + s ≤ vi V x 31 ∧ (fr : Int) ≤ vi V x 36 ∧ vi V x 36 + cnt pC (wt V x) (vi V x 37).toNat + s ≤ vi V x 31 := by
  obtain ⟨⟨a1, a2, a3, a4⟩, ⟨⟨b1, b2, b3⟩, b4, -⟩, -⟩ := h
  have := @cnt_nn pC (wt V x) (vi V x 37).toNat
  omega
theorem RJ.num (h : RJ V x fr S0 s z) (hS : sd V1 x = updf (sd V x) (vi V x 36).toNat (1048576 * op + v)) (hQ : wt V1 x = wt V x) (hc : vi V1 x 36 = vi V x 36 + 1) (hw : vi V1 x 37 = vi V x 37) (hp : vi V x 31 + 1 ≤ vi V1 x 31) (hp2 : vi V1 x 31 ≤ 200) (ho : 0 ≤ op ∧ op ≤ 1) (hv : 0 ≤ v ∧ v < 1048576) : RJ V1 x fr S0 s (z + 1) := by
  have hl := h.le
  obtain ⟨⟨a1, a2, a3, a4⟩, hR, hf⟩ := h
  refine ⟨⟨a1, by omega, by omega, by omega⟩, ?_, fun j hj => ?_⟩
  · have g := hR.says (op := op) (v := v) (k := 0) (p' := (vi V1 x 31 - s).toNat) hv (by omega) (by omega) (Or.inl rfl) (by omega) (by omega) (by omega) (by omega) (by simp only [Nat.sub_zero]; omega)
    rw [hS, hQ, hc, hw]
    have hd : dl (UU * op + v) = 1 := by unfold dl UU; rw [if_pos (by omega)]
    rw [hd] at g
    simp only [Nat.sub_zero] at g
    rw [show (vi V x 36 + 1).toNat = (vi V x 36).toNat + 1 by omega, show z + 1 = cnt pS (wt V x) (vi V x 37).toNat - cnt pS (wt V x) (vi V x 37).toNat + z + 1 by omega]
    exact g
  · rw [hS, updf_ne (by omega)]; exact hf j hj
theorem RJ.cmp (h : RJ V x fr S0 s z) (hz : 2 ≤ z) (hs : 1 ≤ s) (hS : sd V1 x = updf (sd V x) (vi V x 36).toNat (1048576 * op + v)) (hQ : wt V1 x = wt V x) (hc : vi V1 x 36 = vi V x 36 + 1) (hw : vi V1 x 37 = vi V x 37) (hp : vi V1 x 31 = vi V x 31) (hp2 : vi V1 x 31 ≤ 200) (ho : 7 ≤ op ∧ op ≤ 9) (hv : v = 0) : RJ V1 x fr S0 (s - 1) (z - 1) := by
  subst hv
  have hl := h.le
  obtain ⟨⟨a1, a2, a3, a4⟩, hR, hf⟩ := h
  have hn := @cnt_nn pS (wt V x) (vi V x 37).toNat
  refine ⟨⟨by omega, by omega, by omega, by omega⟩, ?_, fun j hj => ?_⟩
  · have g := hR.says (op := op) (v := 0) (k := 0) (p' := (vi V1 x 31 - (s - 1)).toNat) (by decide) (by omega) (by omega) (Or.inl rfl) (by omega) (by omega) (by omega) (by omega) (by simp only [Nat.sub_zero]; omega)
    rw [hS, hQ, hc, hw]
    have hd : dl (UU * op + 0) = -1 := by unfold dl UU; rw [if_neg (by omega), if_neg (by omega)]
    rw [hd] at g
    simp only [Nat.sub_zero] at g
    rw [show (vi V x 36 + 1).toNat = (vi V x 36).toNat + 1 by omega, show z - 1 = cnt pS (wt V x) (vi V x 37).toNat - cnt pS (wt V x) (vi V x 37).toNat + z + -1 by omega]
    exact g
  · rw [hS, updf_ne (by omega)]; exact hf j hj
theorem cnt_pred {P : Int → Bool} {Q : Nat → Int} {n : Nat} (h : 1 ≤ n) : cnt P Q n = cnt P Q (n - 1) + if P (Q (n - 1)) then 1 else 0 := by
  have e : n = (n - 1) + 1 := by omega
  rw [e]; simp only [cnt, Nat.add_sub_cancel]
theorem pS_of {a op : Int} (h : a / UU = op) (ho : 2 ≤ op ∧ op ≤ 6) : pS a = true := by unfold pS; rw [h, decide_eq_true]; exact ho
theorem pS_no {a op : Int} (h : a / UU = op) (ho : op < 2 ∨ 6 < op) : pS a = false := by unfold pS; rw [h, decide_eq_false]; omega
theorem pC_of {a op : Int} (h : a / UU = op) (ho : (2 ≤ op ∧ op ≤ 6) ∨ op = 10) : pC a = true := by unfold pC; rw [h, decide_eq_true]; exact ho
/-- the last of those that wait is said -/
theorem RJ.clo (h : RJ V x fr S0 s z) (hz : 1 ≤ z) (ht : op = topf V x) (ho : (2 ≤ op ∧ op ≤ 6) ∨ op = 10) (hS : sd V1 x = updf (sd V x) (vi V x 36).toNat (1048576 * op + 0)) (hQ : wt V1 x = wt V x) (hc : vi V1 x 36 = vi V x 36 + 1) (hw : vi V1 x 37 = vi V x 37 - 1) (hp : vi V1 x 31 = vi V x 31) (hp2 : vi V1 x 31 ≤ 200) : RJ V1 x fr S0 s z := by
  have hl := h.le
  obtain ⟨t1, t2⟩ := topf_is (V := V) (x := x) (by omega)
  rw [← ht] at t2
  obtain ⟨⟨a1, a2, a3, a4⟩, hR, hf⟩ := h
  have hn := @cnt_nn pS (wt V x) (vi V x 37).toNat
  have hn1 := @cnt_nn pS (wt V x) ((vi V x 37).toNat - 1)
  have ew : (vi V x 37 - 1).toNat = (vi V x 37).toNat - 1 := by omega
  rw [ew] at t2
  have k1 := @cnt_pred pS (wt V x) (vi V x 37).toNat (by omega)
  have k2 := @cnt_pred pC (wt V x) (vi V x 37).toNat (by omega)
  rw [pC_of t2.symm ho] at k2
  simp only [if_true] at k2
  refine ⟨⟨a1, by omega, by omega, by omega⟩, ?_, fun j hj => ?_⟩
  · have h2 : (2 ≤ op ∧ op ≤ 9) → 2 ≤ cnt pS (wt V x) (vi V x 37).toNat + z := fun q => by
      rw [k1, pS_of t2.symm (by omega)]; simp only [if_true]; omega
    have g := hR.says (op := op) (v := 0) (k := 1) (p' := (vi V1 x 31 - s).toNat) (by decide) (by omega) (by omega) (Or.inr ⟨rfl, t2.symm⟩) (by omega) (by omega) h2 (by omega) (by omega)
    rw [hS, hQ, hc, hw]
    rw [ew, show (vi V x 36 + 1).toNat = (vi V x 36).toNat + 1 by omega]
    have hz' : cnt pS (wt V x) (vi V x 37).toNat - cnt pS (wt V x) ((vi V x 37).toNat - 1) + z + dl (UU * op + 0) = z := by
      rcases ho with ho | ho
      · rw [k1, pS_of t2.symm ho]
        have hd : dl (UU * op + 0) = -1 := by unfold dl UU; rw [if_neg (by omega), if_neg (by omega)]
        rw [hd]; simp only [if_true]; omega
      · rw [k1, pS_no t2.symm (by omega)]
        have hd : dl (UU * op + 0) = 0 := by subst ho; rfl
        rw [hd]; simp
    rw [hz'] at g
    exact g
  · rw [hS, updf_ne (by omega)]; exact hf j hj
/-- the last of those that wait goes -/
theorem RJ.pop (h : RJ V x fr S0 s z) (h0 : vi V x 37 ≠ 0) (ht : topf V x < 2 ∨ (6 < topf V x ∧ topf V x ≤ 10) ∨ 12 < topf V x) (hS : sd V1 x = sd V x) (hQ : wt V1 x = wt V x) (hc : vi V1 x 36 = vi V x 36) (hw : vi V1 x 37 = vi V x 37 - 1) (hp : vi V x 31 ≤ vi V1 x 31) : RJ V1 x fr S0 s z := by
  obtain ⟨⟨a1, a2, a3, a4⟩, hR, hf⟩ := h
  have ew : (vi V x 37 - 1).toNat = (vi V x 37).toNat - 1 := by omega
  have t2 : topf V x = wt V x ((vi V x 37).toNat - 1) / UU := by unfold topf; rw [if_neg h0, ew]
  have g := (hR.pop (by omega) (by rw [← t2]; omega)).more (p' := (vi V1 x 31 - s).toNat) (by omega)
  rw [pS_no t2.symm (by omega)] at g
  refine ⟨⟨a1, by omega, by omega, by omega⟩, ?_, fun j hj => by rw [hS]; exact hf j hj⟩
  rw [hS, hQ, hc, hw, ew]
  simpa using g
theorem RJ.pushO (h : RJ V x fr S0 s z) (ho : op = 10 ∨ op = 13 ∨ op = 14) (h0 : vi V x 37 = 0 → op = 13) (hS : sd V1 x = sd V x) (hQ : wt V1 x = updf (wt V x) (vi V x 37).toNat (1048576 * op)) (hc : vi V1 x 36 = vi V x 36) (hw : vi V1 x 37 = vi V x 37 + 1) (hp : vi V1 x 31 = vi V x 31 + 1) : RJ V1 x fr S0 s z := by
  have hl := h.le
  obtain ⟨⟨a1, a2, a3, a4⟩, hR, hf⟩ := h
  have hk : (1048576 * op) / UU = op := by unfold UU; omega
  have hC : (if pC (1048576 * op) then (1 : Int) else 0) ≤ 1 := by split <;> omega
  have g := hR.push (a := 1048576 * op) (p' := (vi V1 x 31 - s).toNat) (by omega) (by omega) (by rw [hk]; omega) (fun e => by rw [hk]; exact h0 (by omega)) (by omega)
  rw [pS_no hk (by omega)] at g
  refine ⟨⟨a1, by omega, by omega, by omega⟩, ?_, fun j hj => by rw [hS]; exact hf j hj⟩
  rw [hS, hQ, hc, hw, show (vi V x 37 + 1).toNat = (vi V x 37).toNat + 1 by omega]
  simpa using g
theorem RJ.pushS (h : RJ V x fr S0 s z) (ho : 2 ≤ op ∧ op ≤ 6) (h0 : vi V x 37 ≠ 0) (hS : sd V1 x = sd V x) (hQ : wt V1 x = updf (wt V x) (vi V x 37).toNat (1048576 * op)) (hc : vi V1 x 36 = vi V x 36) (hw : vi V1 x 37 = vi V x 37 + 1) (hp : vi V1 x 31 = vi V x 31 + 1) : RJ V1 x fr S0 s (z - 1) := by
  have hl := h.le
  obtain ⟨⟨a1, a2, a3, a4⟩, hR, hf⟩ := h
  have hk : (1048576 * op) / UU = op := by unfold UU; omega
  have hC : (if pC (1048576 * op) then (1 : Int) else 0) ≤ 1 := by split <;> omega
  have g := hR.push (a := 1048576 * op) (p' := (vi V1 x 31 - s).toNat) (by omega) (by omega) (by rw [hk]; omega) (fun e => absurd e (by omega)) (by omega)
  rw [pS_of hk ho] at g
  refine ⟨⟨a1, by omega, by omega, by omega⟩, ?_, fun j hj => by rw [hS]; exact hf j hj⟩
  rw [hS, hQ, hc, hw, show (vi V x 37 + 1).toNat = (vi V x 37).toNat + 1 by omega]
  simpa using g
/-- nothing but the place goes on; it may leave slack -/
theorem RJ.on {s1 : Int} (h : RJ V x fr S0 s z) (hS : sd V1 x = sd V x) (hQ : wt V1 x = wt V x) (hc : vi V1 x 36 = vi V x 36) (hw : vi V1 x 37 = vi V x 37) (hp : vi V x 31 - s ≤ vi V1 x 31 - s1) (hs : 0 ≤ s1) : RJ V1 x fr S0 s1 z := by
  obtain ⟨⟨a1, a2, a3, a4⟩, hR, hf⟩ := h
  refine ⟨⟨hs, by omega, by omega, by omega⟩, ?_, fun j hj => by rw [hS]; exact hf j hj⟩
  rw [hS, hQ, hc, hw]
  exact hR.more (by omega)
theorem RJ.land (h : RJ V x fr S0 s z) (hn : NS V x) (hz : z = 1) (h0 : vi V x 37 ≠ 0) (ht : 11 ≤ topf V x ∧ topf V x ≤ 12) {m : Int} (hm : m = wt V x (vi V x 37 - 1).toNat % 1048576) (hS : sd V1 x = updf (sd V x) m.toNat (1048576 * (sd V x m.toNat / 1048576) + vi V x 36)) (hQ : wt V1 x = wt V x) (hc : vi V1 x 36 = vi V x 36) (hw : vi V1 x 37 = vi V x 37 - 1) (hp : vi V1 x 31 = vi V x 31) : RJ V1 x fr S0 s z := by
  obtain ⟨⟨a1, a2, a3, a4⟩, hR, hf⟩ := h
  have ew : (vi V x 37 - 1).toNat = (vi V x 37).toNat - 1 := by omega
  have t2 : topf V x = wt V x ((vi V x 37).toNat - 1) / UU := by unfold topf; rw [if_neg h0, ew]
  rw [ew] at hm
  have g := hR.land (by omega) (by rw [← t2]; exact ht.1) (by rw [← t2]; exact ht.2) (by rw [cnt_zero hn]; omega)
  have q := hR.2.2.2.1 ((vi V x 37).toNat - 1) (by omega) (by rw [← t2]; exact ht.1) (by rw [← t2]; exact ht.2)
  have ec : (((vi V x 36).toNat : Nat) : Int) = vi V x 36 := by omega
  rw [← t2] at *
  refine ⟨⟨a1, by omega, by omega, by omega⟩, ?_, fun j hj => ?_⟩
  · rw [hS, hQ, hc, hw, hp, ew, hm]
    rw [ec] at g
    exact g
  · rw [hS, updf_ne, hf j hj]
    have := q.1
    unfold UU at this
    omega
theorem RJ.jump (h : RJ V x fr S0 s z) (hn : NS V x) (hz : z = 1) (h0 : vi V x 37 ≠ 0) (ho : 11 ≤ op ∧ op ≤ 12) (hS : sd V1 x = updf (sd V x) (vi V x 36).toNat (1048576 * op + 0)) (hQ : wt V1 x = updf (wt V x) (vi V x 37).toNat (1048576 * op + vi V x 36)) (hc : vi V1 x 36 = vi V x 36 + 1) (hw : vi V1 x 37 = vi V x 37 + 1) (hp : vi V1 x 31 = vi V x 31 + 1) (hp2 : vi V1 x 31 ≤ 200) : RJ V1 x fr S0 s (z - 1) := by
  have hl := h.le
  obtain ⟨⟨a1, a2, a3, a4⟩, hR, hf⟩ := h
  have g := hR.jump (op := op) ho (by omega) (by rw [cnt_zero hn]; omega) (by omega)
  have ec : (((vi V x 36).toNat : Nat) : Int) = vi V x 36 := by omega
  refine ⟨⟨a1, by omega, by omega, by omega⟩, ?_, fun j hj => by rw [hS, updf_ne (by omega)]; exact hf j hj⟩
  rw [hS, hQ, hc, hw, hp, show (vi V x 37 + 1).toNat = (vi V x 37).toNat + 1 by omega, show (vi V x 36 + 1).toNat = (vi V x 36).toNat + 1 by omega, show (vi V x 31 + 1 - s).toNat = (vi V x 31 - s).toNat + 1 by omega]
  rw [ec] at g
  rw [Int.add_zero]
  exact g
end RJ
