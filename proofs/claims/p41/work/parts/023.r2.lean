/-! the reader's memory: said, waits -/
def sd (V : Vmap) (x j : Nat) : Int := vi V (vq V x 39) j
def wt (V : Vmap) (x j : Nat) : Int := vi V (vq V x 40) j
def AQ (K : Kmap) (V : Vmap) (x : Nat) : Prop := K (vq V x 39) = some (32 + 1, 220) ∧ K (vq V x 40) = some (33 + 1, 220)
theorem WT.aq {K : Kmap} {V : Vmap} {x : Nat} (hW : WT K V) (hx : K x = some (0, 11)) : AQ K V x := by
  have h := hW.ref hx (j := 39) (Nat.le_of_ble_eq_true rfl) (t := 32 + 1) (c := 0) (lo := 0) (hi := 0) rfl
  obtain ⟨n, hn⟩ := h.2
  have h3 := (hW.len hn).2.2
  rw [show lentab.getD 32 0 = 220 from rfl] at h3
  have g := hW.ref hx (j := 40) (Nat.le_of_ble_eq_true rfl) (t := 33 + 1) (c := 0) (lo := 0) (hi := 0) rfl
  obtain ⟨m, hm⟩ := g.2
  have g3 := (hW.len hm).2.2
  rw [show lentab.getD 33 0 = 220 from rfl] at g3
  have e1 : n = 220 := by omega
  have e2 : m = 220 := by omega
  subst e1; subst e2
  exact ⟨hn, hm⟩
theorem WT.sd {K : Kmap} {V : Vmap} {x j : Nat} (hW : WT K V) (hx : K x = some (0, 11)) (hj : j < 220) : 0 ≤ Jvm.Pilot.@@N@@.sd V x j ∧ Jvm.Pilot.@@N@@.sd V x j ≤ 14680063 := (hW.int (kd := (32 + 1, 220)) (hW.aq hx).1 (j := j) hj rfl).2
theorem WT.wt {K : Kmap} {V : Vmap} {x j : Nat} (hW : WT K V) (hx : K x = some (0, 11)) (hj : j < 220) : 0 ≤ Jvm.Pilot.@@N@@.wt V x j ∧ Jvm.Pilot.@@N@@.wt V x j ≤ 15728639 := (hW.int (kd := (33 + 1, 220)) (hW.aq hx).2 (j := j) hj rfl).2
theorem WT.rd {K : Kmap} {V : Vmap} {x : Nat} (hW : WT K V) (hx : K x = some (0, 11)) : (0 ≤ vi V x 31 ∧ vi V x 31 ≤ 200) ∧ (0 ≤ vi V x 32 ∧ vi V x 32 ≤ 200) ∧ (0 ≤ vi V x 36 ∧ vi V x 36 ≤ 220) ∧ (0 ≤ vi V x 37 ∧ vi V x 37 ≤ 220) := ⟨(hW.int hx (j := 31) (Nat.le_of_ble_eq_true rfl) rfl).2, (hW.int hx (j := 32) (Nat.le_of_ble_eq_true rfl) rfl).2, (hW.int hx (j := 36) (Nat.le_of_ble_eq_true rfl) rfl).2, (hW.int hx (j := 37) (Nat.le_of_ble_eq_true rfl) rfl).2⟩
section ST
variable {K : Kmap} {V V1 : Vmap} {x : Nat}
theorem st_fld {k : Nat} {v : Value} (e : V1 = upd2 V x k v) (h : AQ K V x) (hx : K x = some (0, 11)) (h1 : k ≠ 39) (h2 : k ≠ 40) : AQ K V1 x ∧ sd V1 x = sd V x ∧ wt V1 x = wt V x := by
  have q1 : vq V1 x 39 = vq V x 39 := vq_up e (Or.inr (Ne.symm h1))
  have q2 : vq V1 x 40 = vq V x 40 := vq_up e (Or.inr (Ne.symm h2))
  refine ⟨⟨by rw [q1]; exact h.1, by rw [q2]; exact h.2⟩, funext fun j => ?_, funext fun j => ?_⟩
  · unfold sd; rw [q1, vi_up e (Or.inl (K_ne h.1 hx (by simp)))]
  · unfold wt; rw [q2, vi_up e (Or.inl (K_ne h.2 hx (by simp)))]
theorem st_oth {q i t n : Nat} {v : Value} (e : V1 = upd2 V q i v) (h : AQ K V x) (hx : K x = some (0, 11)) (hq : K q = some (t + 1, n)) (h1 : t ≠ 32) (h2 : t ≠ 33) : AQ K V1 x ∧ sd V1 x = sd V x ∧ wt V1 x = wt V x := by
  have hne : x ≠ q := K_ne hx hq (by simp)
  have q1 : vq V1 x 39 = vq V x 39 := vq_up e (Or.inl hne)
  have q2 : vq V1 x 40 = vq V x 40 := vq_up e (Or.inl hne)
  refine ⟨⟨by rw [q1]; exact h.1, by rw [q2]; exact h.2⟩, funext fun j => ?_, funext fun j => ?_⟩
  · unfold sd; rw [q1, vi_up e (Or.inl (K_ne h.1 hq (by intro z; cases z; exact h1 rfl)))]
  · unfold wt; rw [q2, vi_up e (Or.inl (K_ne h.2 hq (by intro z; cases z; exact h2 rfl)))]
theorem st_sd {q i : Nat} {n : Int} (e : V1 = upd2 V q i (ti n)) (h : AQ K V x) (hx : K x = some (0, 11)) (hq : vq V x 39 = q) (hn : ir n) : AQ K V1 x ∧ sd V1 x = updf (sd V x) i n ∧ wt V1 x = wt V x := by
  subst hq
  have hne : x ≠ vq V x 39 := K_ne hx h.1 (by simp)
  have q1 : vq V1 x 39 = vq V x 39 := vq_up e (Or.inl hne)
  have q2 : vq V1 x 40 = vq V x 40 := vq_up e (Or.inl hne)
  refine ⟨⟨by rw [q1]; exact h.1, by rw [q2]; exact h.2⟩, funext fun j => ?_, funext fun j => ?_⟩
  · unfold sd updf
    rw [q1]
    by_cases hj : j = i
    · rw [if_pos hj, hj, upd2_int e hn]
    · rw [if_neg hj, vi_up e (Or.inr hj)]
  · unfold wt; rw [q2, vi_up e (Or.inl (K_ne h.2 h.1 (by simp)))]
theorem st_wt {q i : Nat} {n : Int} (e : V1 = upd2 V q i (ti n)) (h : AQ K V x) (hx : K x = some (0, 11)) (hq : vq V x 40 = q) (hn : ir n) : AQ K V1 x ∧ sd V1 x = sd V x ∧ wt V1 x = updf (wt V x) i n := by
  subst hq
  have hne : x ≠ vq V x 40 := K_ne hx h.2 (by simp)
  have q1 : vq V1 x 39 = vq V x 39 := vq_up e (Or.inl hne)
  have q2 : vq V1 x 40 = vq V x 40 := vq_up e (Or.inl hne)
  refine ⟨⟨by rw [q1]; exact h.1, by rw [q2]; exact h.2⟩, funext fun j => ?_, funext fun j => ?_⟩
  · unfold sd; rw [q1, vi_up e (Or.inl (K_ne h.1 h.2 (by simp)))]
  · unfold wt updf
    rw [q2]
    by_cases hj : j = i
    · rw [if_pos hj, hj, upd2_int e hn]
    · rw [if_neg hj, vi_up e (Or.inr hj)]
theorem st_fr {ws : Nat} (h0 : FR ws K V K V1) (h : AQ K V x) (hx : K x = some (0, 11)) (h1 : ws.testBit (keyK (0, 11) 39) = false) (h2 : ws.testBit (keyK (0, 11) 40) = false) (h3 : ws.testBit (abase + (32 + 1)) = false) (h4 : ws.testBit (abase + (33 + 1)) = false) : AQ K V1 x ∧ sd V1 x = sd V x ∧ wt V1 x = wt V x := by
  have q1 : vq V1 x 39 = vq V x 39 := by unfold vq; rw [h0 x _ 39 hx hx h1]
  have q2 : vq V1 x 40 = vq V x 40 := by unfold vq; rw [h0 x _ 40 hx hx h2]
  refine ⟨⟨by rw [q1]; exact h.1, by rw [q2]; exact h.2⟩, funext fun j => ?_, funext fun j => ?_⟩
  · unfold sd; rw [q1, vi_frA h0 h.1 h.1 h3]
  · unfold wt; rw [q2, vi_frA h0 h.2 h.2 h4]
end ST
/-- the reader's invariant in a memory -/
def RI (V : Vmap) (x fr : Nat) (z : Int) : Prop := RIf (sd V x) (wt V x) (vi V x 36).toNat (vi V x 37).toNat (vi V x 31).toNat fr z
theorem RI.mk {V : Vmap} {x fr c w p : Nat} {z z1 : Int} {S Q : Nat → Int} (hS : sd V x = S) (hQ : wt V x = Q) (hc : (vi V x 36).toNat = c) (hw : (vi V x 37).toNat = w) (hp : (vi V x 31).toNat = p) (hz : z1 = z) (h : RIf S Q c w p fr z1) : RI V x fr z := by
  unfold RI; rw [hS, hQ, hc, hw, hp, ← hz]; exact h
