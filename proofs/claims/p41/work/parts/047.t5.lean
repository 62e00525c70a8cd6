/-! ### what is read says something: steps come -/
def Inc (f : PS → PE) : Prop := ∀ s s2, f s = .ok s2 → s.2.1 < s2.2.1
section S8
variable {src : Nat → Int} {e : Nat}
theorem facG_inc {T : Nat → PS → PE} (hT : ∀ d, Inc (T d)) (d : Nat) : Inc (facG src e T d) := fun s s2 h => by
  unfold facG at h
  by_cases h0 : rdS src e s.1 = 91
  · rw [if_pos h0] at h
    obtain ⟨-, h⟩ := dep_ok h
    obtain ⟨s1, h1, h2⟩ := bnd_is h
    have h3 := hT _ _ _ h1
    obtain ⟨rfl, -⟩ := tak_ok h2 (by decide)
    have h5 : (adv s).2.1 = s.2.1 := rfl
    have h6 : (adv s1).2.1 = s1.2.1 := rfl
    omega
  · rw [if_neg h0] at h
    by_cases h1 : 0 ≤ letN (rdS src e s.1)
    · rw [if_pos h1] at h
      have h3 : s2 = emt (adv s) (1048576 + letN (rdS src e s.1)) := by injection h with h; exact h.symm
      subst h3
      exact Nat.lt_succ_self _
    · rw [if_neg h1] at h
      cases hn : numS src e 999999 s.1 with
      | error q => rw [hn] at h; cases h
      | ok r =>
        rw [hn] at h
        have h3 : s2 = emt (r.1, s.2) r.2 := by injection h with h; exact h.symm
        subst h3
        exact Nat.lt_succ_self _
theorem facL_inc {fac : PS → PE} (hf : Inc fac) : ∀ (k : Nat) (s s2 : PS), facL src e fac k s = .ok s2 → s.2.1 ≤ s2.2.1 := by
  intro k
  induction k with
  | zero => intro s s2 h; cases h; exact Nat.le_refl _
  | succ k ih =>
    intro s s2 h
    unfold facL at h
    by_cases h0 : 0 ≤ mulN (rdS src e s.1)
    · rw [if_pos h0] at h
      obtain ⟨s1, h1, h2⟩ := bnd_is h
      have h3 := hf _ _ h1
      have h4 := ih _ _ h2
      have h5 : (adv s).2.1 = s.2.1 := rfl
      have h6 : (emt s1 (1048576 * mulN (rdS src e s.1))).2.1 = s1.2.1 + 1 := rfl
      omega
    · rw [if_neg h0] at h; cases h; exact Nat.le_refl _
theorem facsG_inc {fac : PS → PE} (hf : Inc fac) : Inc (facsG src e fac) := fun s s2 h => by
  obtain ⟨s1, h1, h2⟩ := bnd_is h
  have h3 := hf _ _ h1
  have h4 := facL_inc hf _ _ _ h2
  omega
theorem terL_inc {fac : PS → PE} (hf : Inc fac) : ∀ (k : Nat) (s s2 : PS), terL src e fac k s = .ok s2 → s.2.1 ≤ s2.2.1 := by
  intro k
  induction k with
  | zero => intro s s2 h; cases h; exact Nat.le_refl _
  | succ k ih =>
    intro s s2 h
    unfold terL at h
    by_cases h0 : 0 ≤ addN (rdS src e s.1)
    · rw [if_pos h0] at h
      obtain ⟨s1, h1, h2⟩ := bnd_is h
      have h3 := hf _ _ h1
      have h4 := ih _ _ h2
      have h5 : (adv s).2.1 = s.2.1 := rfl
      have h6 : (emt s1 (1048576 * addN (rdS src e s.1))).2.1 = s1.2.1 + 1 := rfl
      omega
    · rw [if_neg h0] at h; cases h; exact Nat.le_refl _
theorem terG_inc {facs : PS → PE} (hf : Inc facs) : Inc (terG src e facs) := fun s s2 h => by
  obtain ⟨s1, h1, h2⟩ := bnd_is h
  have h3 := hf _ _ h1
  have h4 := terL_inc hf _ _ _ h2
  omega
theorem terF_inc : ∀ L d, Inc (terF src e L d) := by
  intro L
  induction L with
  | zero => intro d s s2 h; cases h
  | succ L ih => intro d; exact terG_inc (facsG_inc (facG_inc ih d))
theorem cmpF_inc (d : Nat) : Inc (cmpF src e d) := fun s s2 h => by
  obtain ⟨s1, h1, h2⟩ := bnd_is h
  have h3 := terF_inc _ _ _ _ h1
  by_cases h0 : 0 ≤ cmpN (rdS src e s1.1)
  · rw [if_pos h0] at h2
    obtain ⟨s3, h4, h5⟩ := bnd_is h2
    have h6 := terF_inc _ _ _ _ h4
    have h7 : (adv s1).2.1 = s1.2.1 := rfl
    have h8 : s2 = emt s3 (1048576 * cmpN (rdS src e s1.1)) := by injection h5 with h5; exact h5.symm
    subst h8
    have h9 : (emt s3 (1048576 * cmpN (rdS src e s1.1))).2.1 = s3.2.1 + 1 := rfl
    omega
  · rw [if_neg h0] at h2; cases h2
theorem andL_inc {pie : PS → PE} (hf : Inc pie) : ∀ (k : Nat) (j : Option Nat) (s s2 : PS), andL src e pie k j s = .ok s2 → s.2.1 ≤ s2.2.1 := by
  intro k
  induction k with
  | zero => intro j s s2 h; cases h; rw [pat_n]; exact Nat.le_refl _
  | succ k ih =>
    intro j s s2 h
    unfold andL at h
    by_cases h0 : rdS src e s.1 = 38
    · rw [if_pos h0] at h
      obtain ⟨s1, h1, h2⟩ := bnd_is h
      have h3 := hf _ _ h1
      have h4 := ih _ _ _ h2
      have h5 : (emt (pat (adv s) j) 11534336).2.1 = s.2.1 + 1 := congrArg (· + 1) (pat_n (s := adv s) (j := j))
      omega
    · rw [if_neg h0] at h; cases h; rw [pat_n]; exact Nat.le_refl _
theorem orL_inc {par : PS → PE} (hf : Inc par) : ∀ (k : Nat) (j : Option Nat) (s s2 : PS), orL src e par k j s = .ok s2 → s.2.1 ≤ s2.2.1 := by
  intro k
  induction k with
  | zero => intro j s s2 h; cases h; rw [pat_n]; exact Nat.le_refl _
  | succ k ih =>
    intro j s s2 h
    unfold orL at h
    by_cases h0 : rdS src e s.1 = 124
    · rw [if_pos h0] at h
      obtain ⟨s1, h1, h2⟩ := bnd_is h
      have h3 := hf _ _ h1
      have h4 := ih _ _ _ h2
      have h5 : (emt (pat (adv s) j) 12582912).2.1 = s.2.1 + 1 := congrArg (· + 1) (pat_n (s := adv s) (j := j))
      omega
    · rw [if_neg h0] at h; cases h; rw [pat_n]; exact Nat.le_refl _
theorem parG_inc {pie : PS → PE} (hf : Inc pie) : Inc (parG src e pie) := fun s s2 h => by
  obtain ⟨s1, h1, h2⟩ := bnd_is h
  have h3 := hf _ _ h1
  have h4 := andL_inc hf _ _ _ _ h2
  omega
theorem orG_inc {par : PS → PE} (hf : Inc par) : Inc (orG src e par) := fun s s2 h => by
  obtain ⟨s1, h1, h2⟩ := bnd_is h
  have h3 := hf _ _ h1
  have h4 := orL_inc hf _ _ _ _ h2
  omega
theorem pieG_inc {pieL parsL : Nat → PS → PE} (h1 : ∀ d, Inc (pieL d)) (h2 : ∀ d, Inc (parsL d)) (d : Nat) : Inc (pieG src e pieL parsL d) := fun s s2 h => by
  unfold pieG at h
  by_cases h0 : rdS src e s.1 = 33
  · rw [if_pos h0] at h
    obtain ⟨-, h⟩ := dep_ok h
    obtain ⟨s1, h3, h4⟩ := bnd_is h
    have h5 := h1 _ _ _ h3
    have h6 : (adv s).2.1 = s.2.1 := rfl
    have h7 : s2 = emt s1 10485760 := by injection h4 with h4; exact h4.symm
    subst h7
    have h8 : (emt s1 10485760).2.1 = s1.2.1 + 1 := rfl
    omega
  · rw [if_neg h0] at h
    by_cases h9 : rdS src e s.1 = 40
    · rw [if_pos h9] at h
      obtain ⟨-, h⟩ := dep_ok h
      obtain ⟨s1, h3, h4⟩ := bnd_is h
      have h5 := h2 _ _ _ h3
      obtain ⟨rfl, -⟩ := tak_ok h4 (by decide)
      have h7 : (adv s).2.1 = s.2.1 := rfl
      have h8 : (adv s1).2.1 = s1.2.1 := rfl
      omega
    · rw [if_neg h9] at h
      exact cmpF_inc d _ _ h
theorem pieF_inc : ∀ L d, Inc (pieF src e L d) := by
  intro L
  induction L with
  | zero => intro d s s2 h; cases h
  | succ L ih => exact pieG_inc ih (fun d => orG_inc (parG_inc (ih d)))
theorem conF_inc : Inc (conF src e) := fun s s2 h => by
  unfold conF at h
  by_cases h0 : rdS src e s.1 = 40
  · rw [if_pos h0] at h
    obtain ⟨s1, h3, h4⟩ := bnd_is h
    have h5 : (adv s).2.1 < s1.2.1 := orG_inc (parG_inc (pieF_inc 8 1)) _ _ h3
    obtain ⟨rfl, -⟩ := tak_ok h4 (by decide)
    have h7 : (adv s).2.1 = s.2.1 := rfl
    have h8 : (adv s1).2.1 = s1.2.1 := rfl
    omega
  · rw [if_neg h0] at h; cases h
end S8
theorem ushr8 {c : Int} (h : wushr c 8 ≠ 0) : ¬ (0 ≤ c ∧ c ≤ 255) := fun hc => by
  obtain ⟨n, rfl⟩ := Int.eq_ofNat_of_zero_le hc.1
  exact h ((by decide +kernel : ∀ k : Nat, k < 256 → wushr (k : Int) 8 = 0) n (by omega))
