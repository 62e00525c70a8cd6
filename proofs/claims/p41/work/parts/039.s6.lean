/-! ### the reference's reader keeps what the spec says: conditions -/
section S6
variable {src : Nat → Int} {e : Nat}
theorem andW_pat (h200 : e ≤ 200) {d : Nat} {j : Option Nat} {s : PS} : andW src e d j s = andW src e d none (pat s j) := by
  unfold andW
  rw [andL_step (pieD_pro d) h200 j s, andL_step (pieD_pro d) h200 none (pat s j), pat_1]
  by_cases h : rdS src e s.1 = 38
  · rw [if_pos h, if_pos h, pat_n, adv_pat]
    rfl
  · rw [if_neg h, if_neg h]
    rfl
theorem orW_pat (h200 : e ≤ 200) {d : Nat} {j : Option Nat} {s : PS} : orW src e d j s = orW src e d none (pat s j) := by
  unfold orW
  rw [orL_step (parG_pro (pieD_pro d)) h200 j s, orL_step (parG_pro (pieD_pro d)) h200 none (pat s j), pat_1]
  by_cases h : rdS src e s.1 = 124
  · rw [if_pos h, if_pos h, pat_n, adv_pat]
    rfl
  · rw [if_neg h, if_neg h]
    rfl
theorem conQ_pat1 (h200 : e ≤ 200) {d k : Nat} {ja jo : Option Nat} {S : List (Int × Nat)} {s : PS} : conQ src e d ja jo ((13, k) :: S) s = conQ src e d none jo ((13, k) :: S) (pat s ja) := by
  rw [conQ_13, conQ_13, andW_pat h200]
theorem conQ_pat2 (h200 : e ≤ 200) {d k : Nat} {jo : Option Nat} {S : List (Int × Nat)} {s : PS} (h : rdS src e s.1 ≠ 38) : conQ src e d none jo ((13, k) :: S) s = conQ src e d none none ((13, k) :: S) (pat s jo) := by
  rw [conQ_13, conQ_13, andW_no h200 h, bnd_ok, andW_no h200 (by rw [pat_1]; exact h), bnd_ok]
  show bnd (orW src e d jo s) _ = bnd (orW src e d none (pat s jo)) _
  rw [orW_pat h200]
/-- what waits, in good order -/
def WQ : List (Int × Nat) → Prop
  | [] => True
  | q :: S => (q.1 = 13 ∨ (q.1 = 10 ∧ S ≠ []) ∨ (q.1 = 11 ∧ ∃ r T, S = r :: T ∧ (r.1 = 13 ∨ r.1 = 12)) ∨ (q.1 = 12 ∧ ∃ r T, S = r :: T ∧ r.1 = 13)) ∧ WQ S
/-- an and lands -/
theorem land11 (h200 : e ≤ 200) {d k : Nat} {S : List (Int × Nat)} {s : PS} (hw : WQ ((11, k) :: S)) : conQ src e d none none ((11, k) :: S) s = conQ src e d none none S (pat s (some k)) := by
  rw [conQ_11]
  rcases hw.1 with h | h | h | h
  · exact absurd h (by simp)
  · exact absurd h.1 (by simp)
  · obtain ⟨-, ⟨o, i⟩, T, rfl, hr⟩ := h
    rcases hr with hr | hr
    · have hr2 : o = 13 := hr
      subst hr2
      exact conQ_pat1 h200
    · have hr2 : o = 12 := hr
      subst hr2
      rw [conQ_12, conQ_12]
      rcases hw.2.1 with g | g | g | g
      · exact absurd g (by simp)
      · exact absurd g.1 (by simp)
      · exact absurd g.1 (by simp)
      · obtain ⟨-, ⟨o2, i2⟩, T2, rfl, hr3⟩ := g
        have hr4 : o2 = 13 := hr3
        subst hr4
        exact conQ_pat1 h200
  · exact absurd h.1 (by simp)
/-- an or lands -/
theorem land12 (h200 : e ≤ 200) {d k : Nat} {S : List (Int × Nat)} {s : PS} (hw : WQ ((12, k) :: S)) (h38 : rdS src e s.1 ≠ 38) : conQ src e d none none ((12, k) :: S) s = conQ src e d none none S (pat s (some k)) := by
  rw [conQ_12]
  rcases hw.1 with h | h | h | h
  · exact absurd h (by simp)
  · exact absurd h.1 (by simp)
  · exact absurd h.1 (by simp)
  · obtain ⟨-, ⟨o, i⟩, T, rfl, hr⟩ := h
    have hr2 : o = 13 := hr
    subst hr2
    exact conQ_pat2 h200 h38
/-- nothing fits -/
theorem conQ_bad (h200 : e ≤ 200) {d : Nat} {S : List (Int × Nat)} {s : PS} (hw : WQ S) (hne : S ≠ []) (h10 : ∀ q T, S = q :: T → q.1 ≠ 10) (h1 : rdS src e s.1 ≠ 38) (h2 : rdS src e s.1 ≠ 124) (h3 : rdS src e s.1 ≠ 41) : conQ src e d none none S s = .error (1, s.1) := by
  have base : ∀ (ja jo : Option Nat) (k : Nat) (T : List (Int × Nat)), conQ src e d ja jo ((13, k) :: T) s = .error (1, s.1) := fun ja jo k T => conQ_err h200 h1 h2 h3
  cases S with
  | nil => exact absurd rfl hne
  | cons q S =>
    obtain ⟨o, k⟩ := q
    rcases hw.1 with h | h | h | h
    · have h' : o = 13 := h
      subst h'
      exact base _ _ _ _
    · exact absurd h.1 (h10 _ _ rfl)
    · obtain ⟨ho, ⟨o2, k2⟩, T, rfl, hr⟩ := h
      have ho' : o = 11 := ho
      subst ho'
      rw [conQ_11]
      rcases hr with hr | hr
      · have hr' : o2 = 13 := hr
        subst hr'
        exact base _ _ _ _
      · have hr' : o2 = 12 := hr
        subst hr'
        rw [conQ_12]
        rcases hw.2.1 with g | g | g | g
        · exact absurd g (by simp)
        · exact absurd g.1 (by simp)
        · exact absurd g.1 (by simp)
        · obtain ⟨-, ⟨o3, k3⟩, T2, rfl, hr3⟩ := g
          have hr4 : o3 = 13 := hr3
          subst hr4
          exact base _ _ _ _
    · obtain ⟨ho, ⟨o2, k2⟩, T, rfl, hr⟩ := h
      have ho' : o = 12 := ho
      subst ho'
      have hr' : o2 = 13 := hr
      subst hr'
      rw [conQ_12]
      exact base _ _ _ _
end S6
