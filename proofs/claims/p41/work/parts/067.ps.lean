/-! ### places, and the ice that carries them: the spec -/
section PS
variable {w h c t z d : Int} {k j n : Nat} {G W F : Int → Int}
theorem wdiv_p {a b : Int} (ha : ir a) (hb : ir b) (h0 : 0 ≤ a) (h1 : 0 < b) : wdiv a b = a / b := th_div (ti_int ha) (ti_int hb) h0 h1
theorem wrem_p {a b : Int} (ha : ir a) (hb : ir b) (h0 : 0 ≤ a) (h1 : 0 < b) : wrem a b = a % b := th_rem (ti_int ha) (ti_int hb) h0 h1
def rsv (t : Int) : Int := (rowB.getD t.toNat 0).toInt
def csv (t : Int) : Int := (colB.getD t.toNat 0).toInt
theorem rsv_is (h0 : 0 ≤ t) (h7 : t ≤ 7) : rsv t = if t = 0 ∨ t = 1 ∨ t = 7 then -1 else if 3 ≤ t ∧ t ≤ 5 then 1 else 0 := by
  obtain ⟨q, rfl⟩ := Int.eq_ofNat_of_zero_le h0
  exact (by decide +kernel : ∀ q : Nat, q < 8 → rsv (q : Int) = if (q : Int) = 0 ∨ (q : Int) = 1 ∨ (q : Int) = 7 then -1 else if 3 ≤ (q : Int) ∧ (q : Int) ≤ 5 then 1 else 0) q (by omega)
theorem csv_is (h0 : 0 ≤ t) (h7 : t ≤ 7) : csv t = if 1 ≤ t ∧ t ≤ 3 then 1 else if 5 ≤ t then -1 else 0 := by
  obtain ⟨q, rfl⟩ := Int.eq_ofNat_of_zero_le h0
  exact (by decide +kernel : ∀ q : Nat, q < 8 → csv (q : Int) = if 1 ≤ (q : Int) ∧ (q : Int) ≤ 3 then 1 else if 5 ≤ (q : Int) then -1 else 0) q (by omega)
theorem stp_rg (h0 : 0 ≤ t) (h7 : t ≤ 7) : -1 ≤ rsv t ∧ rsv t ≤ 1 ∧ -1 ≤ csv t ∧ csv t ≤ 1 := by
  rw [rsv_is h0 h7, csv_is h0 h7]
  refine ⟨?_, ?_, ?_, ?_⟩ <;> (repeat' split) <;> omega
/-- the cell that is one step its way from another one -/
def bsd (w h c t : Int) : Int := if 0 ≤ c / w + rsv t ∧ c / w + rsv t < h ∧ 0 ≤ c % w + csv t ∧ c % w + csv t < w then w * (c / w + rsv t) + (c % w + csv t) else -1
theorem bsd_rg (hw : 0 < w) : bsd w h c t = -1 ∨ (0 ≤ (bsd w h c t) ∧ (bsd w h c t) < w * h) := by
  unfold bsd
  split
  · rename_i q
    obtain ⟨q1, q2, q3, q4⟩ := q
    have h1 : 0 ≤ w * (c / w + rsv t) := Int.mul_nonneg (by omega) q1
    have h2 : w * (c / w + rsv t + 1) ≤ w * h := Int.mul_le_mul_of_nonneg_left (by omega) (by omega)
    rw [Int.mul_add, Int.mul_one] at h2
    refine Or.inr ⟨by omega, by omega⟩
  · exact Or.inl rfl
/-- what becomes of a place (its cell, whether it is lost, since when it lies there) when the ice carries the station k from c its way t -/
def cry (G : Int → Int) (w h d c t : Int) (k j : Nat) (f : Int) (v : Int × Int × Int) : Int × Int × Int :=
  if bsd w h c t = -1 then (if j = k ∨ f = (k : Int) then (v.1, 1, v.2.2) else v)
  else if j = k then (bsd w h c t, if (G (bsd w h c t) = 0 ∨ G (bsd w h c t) = 1) then v.2.1 else 1, d)
  else if f = (k : Int) ∧ v.2.1 = 0 then
    (if bsd w h v.1 t = -1 then v.1 else bsd w h v.1 t, if ¬ (G (bsd w h c t) = 0 ∨ G (bsd w h c t) = 1) ∨ bsd w h v.1 t = -1 ∨ ¬ (G (bsd w h v.1 t) = 0 ∨ G (bsd w h v.1 t) = 1) then 1 else 0, v.2.2)
  else v
def pas (G W F : Int → Int) (w h d : Int) (kd fo : Nat → Int) (k : Nat) (P : Nat → Int × Int × Int) : Nat → Int × Int × Int :=
  if kd k = 1 ∧ (P k).2.1 = 0 ∧ (G (P k).1 = 0 ∧ W (P k).1 ≠ -1 ∧ F (P k).1 ≤ d - (P k).2.2) then fun j => cry G w h d (P k).1 (W (P k).1) k j (fo j) (P j) else P
def pan (G W F : Int → Int) (w h d : Int) (kd fo : Nat → Int) (P : Nat → Int × Int × Int) : Nat → (Nat → Int × Int × Int)
  | 0 => P
  | k + 1 => pas G W F w h d kd fo k (pan G W F w h d kd fo P k)
variable {kd kd' fo fo' : Nat → Int} {P P' : Nat → Int × Int × Int}
theorem pas_cong (hk : k < n) (h1 : ∀ j, j < n → kd j = kd' j) (h2 : ∀ j, j < n → fo j = fo' j) (h3 : ∀ j, j < n → P j = P' j) (j : Nat) (hj : j < n) : pas G W F w h d kd fo k P j = pas G W F w h d kd' fo' k P' j := by
  unfold pas
  rw [← h1 k hk, ← h3 k hk]
  split
  · show cry G w h d (P k).1 (W (P k).1) k j (fo j) (P j) = cry G w h d (P k).1 (W (P k).1) k j (fo' j) (P' j)
    rw [h2 j hj, h3 j hj]
  · exact h3 j hj
theorem pan_cong (h1 : ∀ j, j < n → kd j = kd' j) (h2 : ∀ j, j < n → fo j = fo' j) (h3 : ∀ j, j < n → P j = P' j) : ∀ m, m ≤ n → ∀ j, j < n → pan G W F w h d kd fo P m j = pan G W F w h d kd' fo' P' m j := by
  intro m
  induction m with
  | zero => exact fun _ j hj => h3 j hj
  | succ m ih => exact fun hm j hj => pas_cong (by omega) h1 h2 (ih (by omega)) j hj
/-- a cell of the ice, and whether it is lost -/
def plc (w h : Int) (v : Int × Int × Int) : Prop := (0 ≤ v.1 ∧ v.1 < w * h) ∧ 0 ≤ v.2.1 ∧ v.2.1 ≤ 1
theorem cry_rg (hw : 0 < w) {f : Int} {v : Int × Int × Int} (hv : plc w h v) : plc w h (cry G w h d c t k j f v) := by
  have e1 := bsd_rg (w := w) (h := h) (c := c) (t := t) hw
  have e2 := bsd_rg (w := w) (h := h) (c := v.1) (t := t) hw
  unfold cry
  by_cases q : bsd w h c t = -1
  · rw [if_pos q]
    split
    · exact ⟨hv.1, by show (0 : Int) ≤ 1; decide, by show (1 : Int) ≤ 1; decide⟩
    · exact hv
  · rw [if_neg q]
    have e1' := e1.resolve_left q
    split
    · refine ⟨e1', ?_⟩
      show 0 ≤ (if (G (bsd w h c t) = 0 ∨ G (bsd w h c t) = 1) then v.2.1 else 1) ∧ (if (G (bsd w h c t) = 0 ∨ G (bsd w h c t) = 1) then v.2.1 else 1) ≤ 1
      split
      · exact hv.2
      · exact ⟨by decide, by decide⟩
    · split
      · refine ⟨?_, ?_⟩
        · show (0 ≤ (if bsd w h v.1 t = -1 then v.1 else bsd w h v.1 t) ∧ (if bsd w h v.1 t = -1 then v.1 else bsd w h v.1 t) < w * h)
          split
          · exact hv.1
          · rename_i q2
            exact e2.resolve_left q2
        · show 0 ≤ (if ¬ (G (bsd w h c t) = 0 ∨ G (bsd w h c t) = 1) ∨ bsd w h v.1 t = -1 ∨ ¬ (G (bsd w h v.1 t) = 0 ∨ G (bsd w h v.1 t) = 1) then (1 : Int) else 0) ∧ (if ¬ (G (bsd w h c t) = 0 ∨ G (bsd w h c t) = 1) ∨ bsd w h v.1 t = -1 ∨ ¬ (G (bsd w h v.1 t) = 0 ∨ G (bsd w h v.1 t) = 1) then (1 : Int) else 0) ≤ 1
          split
          · exact ⟨by decide, by decide⟩
          · exact ⟨by decide, by decide⟩
      · exact hv
theorem pas_rg (hw : 0 < w) (h1 : ∀ j, j < n → plc w h (P j)) (j : Nat) (hj : j < n) : plc w h (pas G W F w h d kd fo k P j) := by
  unfold pas
  split
  · exact cry_rg hw (h1 j hj)
  · exact h1 j hj
theorem pan_rg (hw : 0 < w) (h1 : ∀ j, j < n → plc w h (P j)) : ∀ m j, j < n → plc w h (pan G W F w h d kd fo P m j) := by
  intro m
  induction m with
  | zero => exact h1
  | succ m ih => exact fun j hj => pas_rg hw ih j hj
/-- what isn't a place yet isn't lost -/
theorem pan_hi (hf : ∀ j, n ≤ j → fo j = -1) : ∀ m, m ≤ n → ∀ j, n ≤ j → pan G W F w h d kd fo P m j = P j := by
  intro m
  induction m with
  | zero => exact fun _ j _ => rfl
  | succ m ih =>
    intro hm j hj
    show pas G W F w h d kd fo m (pan G W F w h d kd fo P m) j = P j
    have e := ih (by omega) j hj
    unfold pas
    split
    · show cry G w h d _ _ m j (fo j) (pan G W F w h d kd fo P m j) = P j
      rw [e, hf j hj]
      unfold cry
      have n1 : ¬ (j = m ∨ (-1 : Int) = (m : Int)) := by omega
      have n2 : ¬ ((-1 : Int) = (m : Int) ∧ (P j).2.1 = 0) := by omega
      rw [if_neg n1, if_neg (show ¬ j = m by omega), if_neg n2]
      split <;> rfl
    · exact e
end PS
