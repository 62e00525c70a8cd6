/-! ### what a condition's text says, from the left, by its depth: place, number of codes, codes -/
abbrev PS : Type := Nat × Nat × (Nat → Int)
abbrev PE : Type := Except (Int × Nat) PS
/-- the sign at a place, -1 behind the end -/
def rdS (src : Nat → Int) (e p : Nat) : Int := if p < e then src p else -1
def emt (s : PS) (v : Int) : PS := (s.1, s.2.1 + 1, updf s.2.2 s.2.1 v)
def adv (s : PS) : PS := (s.1 + 1, s.2)
/-- an earlier code leads to the place behind what is there -/
def pat (s : PS) (j : Option Nat) : PS := match j with
  | none => s
  | some k => (s.1, s.2.1, updf s.2.2 k (1048576 * (s.2.2 k / 1048576) + (s.2.1 : Int)))
def bnd (r : PE) (f : PS → PE) : PE := match r with
  | .ok s => f s
  | .error q => .error q
theorem bnd_ok {s : PS} {f : PS → PE} : bnd (.ok s) f = f s := rfl
theorem bnd_er {q : Int × Nat} {f : PS → PE} : bnd (.error q) f = .error q := rfl
theorem bnd_as {r : PE} {f g : PS → PE} : bnd (bnd r f) g = bnd r (fun s => bnd (f s) g) := by cases r <;> rfl
theorem bnd_is {r : PE} {f : PS → PE} {s2 : PS} (h : bnd r f = .ok s2) : ∃ s, r = .ok s ∧ f s = .ok s2 := by
  cases r with
  | error q => cases h
  | ok s => exact ⟨s, rfl, h⟩
def dgB (c : Int) : Bool := decide (48 ≤ c ∧ c ≤ 57)
def letN (c : Int) : Int := if c = 97 then 0 else if c = 112 then 1 else if c = 98 then 2 else if c = 104 then 3 else if c = 105 then 4 else if c = 114 then 5 else if c = 115 then 6 else if c = 110 then 7 else if c = 111 then 8 else if c = 116 then 9 else if c = 101 then 10 else if c = 100 then 11 else if c = 121 then 12 else if c = 109 then 13 else -1
def mulN (c : Int) : Int := if c = 42 then 4 else if c = 47 then 5 else if c = 37 then 6 else -1
def addN (c : Int) : Int := if c = 43 then 2 else if c = 45 then 3 else -1
def cmpN (c : Int) : Int := if c = 60 then 7 else if c = 62 then 8 else if c = 61 then 9 else -1
section SPEC
variable (src : Nat → Int) (e : Nat)
def numL : Nat → Nat → Int → Nat × Int
  | 0, p, n => (p, n)
  | k + 1, p, n => if dgB (rdS src e p) then numL k (p + 1) (10 * n + rdS src e p - 48) else (p, n)
def numS (most : Int) (p : Nat) : Except (Int × Nat) (Nat × Int) :=
  if dgB (rdS src e p) then
    if dgB (rdS src e (numL src e 6 p 0).1) then .error (2, (numL src e 6 p 0).1)
    else if most < (numL src e 6 p 0).2 then .error (3, p) else .ok (numL src e 6 p 0)
  else .error (1, p)
/-- the sign c must stand here -/
def tak (c : Int) (s : PS) : PE := if rdS src e s.1 = c then .ok (adv s) else .error (1, s.1)
/-- the sign here, which is known, opens a depth -/
def dep (d : Nat) (s : PS) (f : PS → PE) : PE := if 8 ≤ d then .error (5, s.1) else f (adv s)
def facG (T : Nat → PS → PE) (d : Nat) (s : PS) : PE :=
  if rdS src e s.1 = 91 then dep d s (fun s1 => bnd (T (d + 1) s1) (tak src e 93))
  else if 0 ≤ letN (rdS src e s.1) then .ok (emt (adv s) (1048576 + letN (rdS src e s.1)))
  else match numS src e 999999 s.1 with
    | .ok r => .ok (emt (r.1, s.2) r.2)
    | .error q => .error q
/-- factors behind a factor -/
def facL (fac : PS → PE) : Nat → PS → PE
  | 0, s => .ok s
  | k + 1, s => if 0 ≤ mulN (rdS src e s.1) then bnd (fac (adv s)) (fun s2 => facL fac k (emt s2 (1048576 * mulN (rdS src e s.1)))) else .ok s
def facsG (fac : PS → PE) (s : PS) : PE := bnd (fac s) (facL src e fac 200)
def terL (facs : PS → PE) : Nat → PS → PE
  | 0, s => .ok s
  | k + 1, s => if 0 ≤ addN (rdS src e s.1) then bnd (facs (adv s)) (fun s2 => terL facs k (emt s2 (1048576 * addN (rdS src e s.1)))) else .ok s
def terG (facs : PS → PE) (s : PS) : PE := bnd (facs s) (terL src e facs 200)
/-- a sum; the first number: how many depths are left -/
def terF : Nat → Nat → PS → PE
  | 0, _, s => .error (5, s.1)
  | L + 1, d, s => terG src e (facsG src e (facG src e (terF L) d)) s
def cmpF (d : Nat) (s : PS) : PE := bnd (terF src e (9 - d) d s) (fun s2 => if 0 ≤ cmpN (rdS src e s2.1) then bnd (terF src e (9 - d) d (adv s2)) (fun s3 => .ok (emt s3 (1048576 * cmpN (rdS src e s2.1)))) else .error (1, s2.1))
def pieG (pieL parsL : Nat → PS → PE) (d : Nat) (s : PS) : PE :=
  if rdS src e s.1 = 33 then dep d s (fun s1 => bnd (pieL (d + 1) s1) (fun s2 => .ok (emt s2 10485760)))
  else if rdS src e s.1 = 40 then dep d s (fun s1 => bnd (parsL (d + 1) s1) (tak src e 41))
  else cmpF src e d s
/-- pieces behind a piece: what is told by &, with the last jump that waits -/
def andL (pie : PS → PE) : Nat → Option Nat → PS → PE
  | 0, j, s => .ok (pat s j)
  | k + 1, j, s => if rdS src e s.1 = 38 then bnd (pie (emt (pat (adv s) j) 11534336)) (fun s2 => andL pie k (some s.2.1) s2) else .ok (pat s j)
def parG (pie : PS → PE) (s : PS) : PE := bnd (pie s) (andL src e pie 200 none)
def orL (par : PS → PE) : Nat → Option Nat → PS → PE
  | 0, j, s => .ok (pat s j)
  | k + 1, j, s => if rdS src e s.1 = 124 then bnd (par (emt (pat (adv s) j) 12582912)) (fun s2 => orL par k (some s.2.1) s2) else .ok (pat s j)
def orG (par : PS → PE) (s : PS) : PE := bnd (par s) (orL src e par 200 none)
def pieF : Nat → Nat → PS → PE
  | 0, _, s => .error (5, s.1)
  | L + 1, d, s => pieG src e (pieF L) (fun d1 s1 => orG src e (parG src e (pieF L d1)) s1) d s
def parsF (L d : Nat) (s : PS) : PE := orG src e (parG src e (pieF src e L d)) s
/-- a condition in its brackets -/
def conF (s : PS) : PE := if rdS src e s.1 = 40 then bnd (parsF src e 8 1 (adv s)) (tak src e 41) else .error (1, s.1)
/-! it goes on, or falls -/
def Pro (f : PS → PE) : Prop := ∀ s s2, f s = .ok s2 → s.1 < s2.1 ∧ s2.1 ≤ e
def ProD (f : Nat → PS → PE) : Prop := ∀ d, Pro e (f d)
end SPEC
section SPECL
variable {src : Nat → Int} {e : Nat} (hs : ∀ j, 0 ≤ src j)
theorem rdS_lt {p : Nat} (h : rdS src e p ≠ -1) : p < e := by
  unfold rdS at h
  by_cases hp : p < e
  · exact hp
  · rw [if_neg hp] at h; exact absurd rfl h
theorem dgB_ne {c : Int} (h : dgB c = true) : c ≠ -1 := by
  unfold dgB at h
  have := of_decide_eq_true h
  omega
theorem mulN_ne {c : Int} (h : 0 ≤ mulN c) : c ≠ -1 := by rintro rfl; exact absurd h (by decide)
theorem addN_ne {c : Int} (h : 0 ≤ addN c) : c ≠ -1 := by rintro rfl; exact absurd h (by decide)
theorem cmpN_ne {c : Int} (h : 0 ≤ cmpN c) : c ≠ -1 := by rintro rfl; exact absurd h (by decide)
theorem letN_ne {c : Int} (h : 0 ≤ letN c) : c ≠ -1 := by rintro rfl; exact absurd h (by decide)
theorem numL_le : ∀ (k p : Nat) (n : Int), p ≤ (numL src e k p n).1 ∧ (p ≤ e → (numL src e k p n).1 ≤ e) := by
  intro k
  induction k with
  | zero => intro p n; exact ⟨Nat.le_refl _, id⟩
  | succ k ih =>
    intro p n
    have e1 : numL src e (k + 1) p n = if dgB (rdS src e p) then numL src e k (p + 1) (10 * n + rdS src e p - 48) else (p, n) := rfl
    rw [e1]
    by_cases h : dgB (rdS src e p) = true
    · rw [if_pos h]
      have h1 := ih (p + 1) (10 * n + rdS src e p - 48)
      have h2 := rdS_lt (dgB_ne h)
      exact ⟨by omega, fun _ => h1.2 (by omega)⟩
    · rw [if_neg h]
      exact ⟨Nat.le_refl _, id⟩
theorem num_ok {most : Int} {p : Nat} {r : Nat × Int} (h : numS src e most p = .ok r) : p < r.1 ∧ r.1 ≤ e ∧ r = numL src e 6 p 0 := by
  unfold numS at h
  by_cases h0 : dgB (rdS src e p) = true
  · rw [if_pos h0] at h
    by_cases h1 : dgB (rdS src e (numL src e 6 p 0).1) = true
    · rw [if_pos h1] at h; cases h
    · rw [if_neg h1] at h
      by_cases h2 : most < (numL src e 6 p 0).2
      · rw [if_pos h2] at h; cases h
      · rw [if_neg h2] at h
        have e1 : numL src e 6 p 0 = r := by injection h
        have hp := rdS_lt (dgB_ne h0)
        have e2 : numL src e 6 p 0 = numL src e 5 (p + 1) (10 * 0 + rdS src e p - 48) := by
          show (if _ then _ else _) = _
          rw [if_pos h0]
        have h3 := numL_le (src := src) (e := e) 5 (p + 1) (10 * 0 + rdS src e p - 48)
        rw [← e1]
        refine ⟨?_, ?_, rfl⟩
        · rw [e2]; omega
        · rw [e2]; exact h3.2 (by omega)
  · rw [if_neg h0] at h; cases h
theorem tak_ok {c : Int} {s s2 : PS} (h : tak src e c s = .ok s2) (hc : c ≠ -1) : s2 = adv s ∧ s.1 < e := by
  unfold tak at h
  by_cases h0 : rdS src e s.1 = c
  · rw [if_pos h0] at h
    exact ⟨by injection h with h; exact h.symm, rdS_lt (by rw [h0]; exact hc)⟩
  · rw [if_neg h0] at h; cases h
theorem dep_ok {d : Nat} {s s2 : PS} {f : PS → PE} (h : dep d s f = .ok s2) : d < 8 ∧ f (adv s) = .ok s2 := by
  unfold dep at h
  by_cases h0 : 8 ≤ d
  · rw [if_pos h0] at h; cases h
  · rw [if_neg h0] at h; exact ⟨by omega, h⟩
theorem facG_pro {T : Nat → PS → PE} (hT : ProD e T) (d : Nat) : Pro e (facG src e T d) := fun s s2 h => by
  unfold facG at h
  by_cases h0 : rdS src e s.1 = 91
  · rw [if_pos h0] at h
    obtain ⟨-, h⟩ := dep_ok h
    obtain ⟨s1, h1, h2⟩ := bnd_is h
    have h3 := hT _ _ _ h1
    obtain ⟨rfl, h4⟩ := tak_ok h2 (by decide)
    have h5 : (adv s).1 = s.1 + 1 := rfl
    have h6 : (adv s1).1 = s1.1 + 1 := rfl
    omega
  · rw [if_neg h0] at h
    by_cases h1 : 0 ≤ letN (rdS src e s.1)
    · rw [if_pos h1] at h
      have h2 := rdS_lt (letN_ne h1)
      have h3 : s2 = emt (adv s) (1048576 + letN (rdS src e s.1)) := by injection h with h; exact h.symm
      subst h3
      exact ⟨Nat.lt_succ_self _, h2⟩
    · rw [if_neg h1] at h
      cases hn : numS src e 999999 s.1 with
      | error q => rw [hn] at h; cases h
      | ok r =>
        rw [hn] at h
        have h3 : s2 = emt (r.1, s.2) r.2 := by injection h with h; exact h.symm
        subst h3
        have h4 := num_ok hn
        exact ⟨h4.1, h4.2.1⟩
theorem facL_pro {fac : PS → PE} (hf : Pro e fac) : ∀ (k : Nat) (s s2 : PS), facL src e fac k s = .ok s2 → s.1 ≤ s2.1 ∧ (s.1 ≤ e → s2.1 ≤ e) := by
  intro k
  induction k with
  | zero => intro s s2 h; cases h; exact ⟨Nat.le_refl _, id⟩
  | succ k ih =>
    intro s s2 h
    unfold facL at h
    by_cases h0 : 0 ≤ mulN (rdS src e s.1)
    · rw [if_pos h0] at h
      obtain ⟨s1, h1, h2⟩ := bnd_is h
      have h3 := hf _ _ h1
      have h4 := ih _ _ h2
      have h5 : (adv s).1 = s.1 + 1 := rfl
      have h6 : (emt s1 (1048576 * mulN (rdS src e s.1))).1 = s1.1 := rfl
      exact ⟨by omega, fun _ => h4.2 (by omega)⟩
    · rw [if_neg h0] at h; cases h; exact ⟨Nat.le_refl _, id⟩
theorem facsG_pro {fac : PS → PE} (hf : Pro e fac) : Pro e (facsG src e fac) := fun s s2 h => by
  obtain ⟨s1, h1, h2⟩ := bnd_is h
  have h3 := hf _ _ h1
  have h4 := facL_pro hf _ _ _ h2
  exact ⟨by omega, h4.2 h3.2⟩
theorem terL_pro {fac : PS → PE} (hf : Pro e fac) : ∀ (k : Nat) (s s2 : PS), terL src e fac k s = .ok s2 → s.1 ≤ s2.1 ∧ (s.1 ≤ e → s2.1 ≤ e) := by
  intro k
  induction k with
  | zero => intro s s2 h; cases h; exact ⟨Nat.le_refl _, id⟩
  | succ k ih =>
    intro s s2 h
    unfold terL at h
    by_cases h0 : 0 ≤ addN (rdS src e s.1)
    · rw [if_pos h0] at h
      obtain ⟨s1, h1, h2⟩ := bnd_is h
      have h3 := hf _ _ h1
      have h4 := ih _ _ h2
      have h5 : (adv s).1 = s.1 + 1 := rfl
      have h6 : (emt s1 (1048576 * addN (rdS src e s.1))).1 = s1.1 := rfl
      exact ⟨by omega, fun _ => h4.2 (by omega)⟩
    · rw [if_neg h0] at h; cases h; exact ⟨Nat.le_refl _, id⟩
theorem terG_pro {facs : PS → PE} (hf : Pro e facs) : Pro e (terG src e facs) := fun s s2 h => by
  obtain ⟨s1, h1, h2⟩ := bnd_is h
  have h3 := hf _ _ h1
  have h4 := terL_pro hf _ _ _ h2
  exact ⟨by omega, h4.2 h3.2⟩
theorem terF_pro : ∀ L, ProD e (terF src e L) := by
  intro L
  induction L with
  | zero => intro d s s2 h; cases h
  | succ L ih => intro d; exact terG_pro (facsG_pro (facG_pro ih d))
theorem rdS_end {p : Nat} (h : e ≤ p) : rdS src e p = -1 := by unfold rdS; rw [if_neg (by omega)]
theorem facL_fuel {fac : PS → PE} (hf : Pro e fac) : ∀ (k : Nat) (s : PS), e - s.1 ≤ k → facL src e fac k s = facL src e fac (k + 1) s := by
  intro k
  induction k with
  | zero =>
    intro s h
    have e1 : rdS src e s.1 = -1 := rdS_end (by omega)
    show (Except.ok s : PE) = _
    unfold facL
    rw [e1, if_neg (by decide)]
  | succ k ih =>
    intro s h
    unfold facL
    by_cases h0 : 0 ≤ mulN (rdS src e s.1)
    · rw [if_pos h0, if_pos h0]
      cases hf1 : fac (adv s) with
      | error q => rfl
      | ok s2 =>
        have h3 := hf _ _ hf1
        have h5 : (adv s).1 = s.1 + 1 := rfl
        exact ih (emt s2 (1048576 * mulN (rdS src e s.1))) (show e - s2.1 ≤ k by omega)
    · rw [if_neg h0, if_neg h0]
theorem terL_fuel {fac : PS → PE} (hf : Pro e fac) : ∀ (k : Nat) (s : PS), e - s.1 ≤ k → terL src e fac k s = terL src e fac (k + 1) s := by
  intro k
  induction k with
  | zero =>
    intro s h
    have e1 : rdS src e s.1 = -1 := rdS_end (by omega)
    show (Except.ok s : PE) = _
    unfold terL
    rw [e1, if_neg (by decide)]
  | succ k ih =>
    intro s h
    unfold terL
    by_cases h0 : 0 ≤ addN (rdS src e s.1)
    · rw [if_pos h0, if_pos h0]
      cases hf1 : fac (adv s) with
      | error q => rfl
      | ok s2 =>
        have h3 := hf _ _ hf1
        have h5 : (adv s).1 = s.1 + 1 := rfl
        exact ih (emt s2 (1048576 * addN (rdS src e s.1))) (show e - s2.1 ≤ k by omega)
    · rw [if_neg h0, if_neg h0]
theorem pat_1 {s : PS} {j : Option Nat} : (pat s j).1 = s.1 := by cases j <;> rfl
theorem pat_n {s : PS} {j : Option Nat} : (pat s j).2.1 = s.2.1 := by cases j <;> rfl
theorem andL_fuel {pie : PS → PE} (hf : Pro e pie) : ∀ (k : Nat) (j : Option Nat) (s : PS), e - s.1 ≤ k → andL src e pie k j s = andL src e pie (k + 1) j s := by
  intro k
  induction k with
  | zero =>
    intro j s h
    have e1 : rdS src e s.1 = -1 := rdS_end (by omega)
    show (Except.ok (pat s j) : PE) = _
    unfold andL
    rw [e1, if_neg (by decide)]
  | succ k ih =>
    intro j s h
    unfold andL
    by_cases h0 : rdS src e s.1 = 38
    · rw [if_pos h0, if_pos h0]
      cases hf1 : pie (emt (pat (adv s) j) 11534336) with
      | error q => rfl
      | ok s2 =>
        have h3 := hf _ _ hf1
        have h5 : (emt (pat (adv s) j) 11534336).1 = s.1 + 1 := pat_1
        exact ih (some s.2.1) s2 (by omega)
    · rw [if_neg h0, if_neg h0]
theorem orL_fuel {par : PS → PE} (hf : Pro e par) : ∀ (k : Nat) (j : Option Nat) (s : PS), e - s.1 ≤ k → orL src e par k j s = orL src e par (k + 1) j s := by
  intro k
  induction k with
  | zero =>
    intro j s h
    have e1 : rdS src e s.1 = -1 := rdS_end (by omega)
    show (Except.ok (pat s j) : PE) = _
    unfold orL
    rw [e1, if_neg (by decide)]
  | succ k ih =>
    intro j s h
    unfold orL
    by_cases h0 : rdS src e s.1 = 124
    · rw [if_pos h0, if_pos h0]
      cases hf1 : par (emt (pat (adv s) j) 12582912) with
      | error q => rfl
      | ok s2 =>
        have h3 := hf _ _ hf1
        have h5 : (emt (pat (adv s) j) 12582912).1 = s.1 + 1 := pat_1
        exact ih (some s.2.1) s2 (by omega)
    · rw [if_neg h0, if_neg h0]
theorem facL_s {fac : PS → PE} {k : Nat} {s : PS} : facL src e fac (k + 1) s = if 0 ≤ mulN (rdS src e s.1) then bnd (fac (adv s)) (fun s2 => facL src e fac k (emt s2 (1048576 * mulN (rdS src e s.1)))) else .ok s := rfl
theorem terL_s {fac : PS → PE} {k : Nat} {s : PS} : terL src e fac (k + 1) s = if 0 ≤ addN (rdS src e s.1) then bnd (fac (adv s)) (fun s2 => terL src e fac k (emt s2 (1048576 * addN (rdS src e s.1)))) else .ok s := rfl
theorem andL_s {pie : PS → PE} {k : Nat} {j : Option Nat} {s : PS} : andL src e pie (k + 1) j s = if rdS src e s.1 = 38 then bnd (pie (emt (pat (adv s) j) 11534336)) (fun s2 => andL src e pie k (some s.2.1) s2) else .ok (pat s j) := rfl
theorem orL_s {par : PS → PE} {k : Nat} {j : Option Nat} {s : PS} : orL src e par (k + 1) j s = if rdS src e s.1 = 124 then bnd (par (emt (pat (adv s) j) 12582912)) (fun s2 => orL src e par k (some s.2.1) s2) else .ok (pat s j) := rfl
/-! a loop, once round -/
theorem facL_step {fac : PS → PE} (hf : Pro e fac) (h200 : e ≤ 200) (s : PS) : facL src e fac 200 s = if 0 ≤ mulN (rdS src e s.1) then bnd (fac (adv s)) (fun s2 => facL src e fac 200 (emt s2 (1048576 * mulN (rdS src e s.1)))) else .ok s := by
  refine (facL_s (k := 199)).trans ?_
  by_cases h0 : 0 ≤ mulN (rdS src e s.1)
  · rw [if_pos h0, if_pos h0]
    cases hf1 : fac (adv s) with
    | error q => rw [bnd_er, bnd_er]
    | ok s2 =>
      have h3 := hf _ _ hf1
      have h5 : (adv s).1 = s.1 + 1 := rfl
      exact facL_fuel hf 199 _ (show e - s2.1 ≤ 199 by omega)
  · rw [if_neg h0, if_neg h0]
theorem terL_step {fac : PS → PE} (hf : Pro e fac) (h200 : e ≤ 200) (s : PS) : terL src e fac 200 s = if 0 ≤ addN (rdS src e s.1) then bnd (fac (adv s)) (fun s2 => terL src e fac 200 (emt s2 (1048576 * addN (rdS src e s.1)))) else .ok s := by
  refine (terL_s (k := 199)).trans ?_
  by_cases h0 : 0 ≤ addN (rdS src e s.1)
  · rw [if_pos h0, if_pos h0]
    cases hf1 : fac (adv s) with
    | error q => rw [bnd_er, bnd_er]
    | ok s2 =>
      have h3 := hf _ _ hf1
      have h5 : (adv s).1 = s.1 + 1 := rfl
      exact terL_fuel hf 199 _ (show e - s2.1 ≤ 199 by omega)
  · rw [if_neg h0, if_neg h0]
theorem andL_step {pie : PS → PE} (hf : Pro e pie) (h200 : e ≤ 200) (j : Option Nat) (s : PS) : andL src e pie 200 j s = if rdS src e s.1 = 38 then bnd (pie (emt (pat (adv s) j) 11534336)) (fun s2 => andL src e pie 200 (some s.2.1) s2) else .ok (pat s j) := by
  refine (andL_s (k := 199)).trans ?_
  by_cases h0 : rdS src e s.1 = 38
  · rw [if_pos h0, if_pos h0]
    cases hf1 : pie (emt (pat (adv s) j) 11534336) with
    | error q => rw [bnd_er, bnd_er]
    | ok s2 =>
      have h3 := hf _ _ hf1
      have h5 : (emt (pat (adv s) j) 11534336).1 = s.1 + 1 := pat_1
      exact andL_fuel hf 199 _ _ (by omega)
  · rw [if_neg h0, if_neg h0]
theorem orL_step {par : PS → PE} (hf : Pro e par) (h200 : e ≤ 200) (j : Option Nat) (s : PS) : orL src e par 200 j s = if rdS src e s.1 = 124 then bnd (par (emt (pat (adv s) j) 12582912)) (fun s2 => orL src e par 200 (some s.2.1) s2) else .ok (pat s j) := by
  refine (orL_s (k := 199)).trans ?_
  by_cases h0 : rdS src e s.1 = 124
  · rw [if_pos h0, if_pos h0]
    cases hf1 : par (emt (pat (adv s) j) 12582912) with
    | error q => rw [bnd_er, bnd_er]
    | ok s2 =>
      have h3 := hf _ _ hf1
      have h5 : (emt (pat (adv s) j) 12582912).1 = s.1 + 1 := pat_1
      exact orL_fuel hf 199 _ _ (by omega)
  · rw [if_neg h0, if_neg h0]
theorem andL_pro {pie : PS → PE} (hf : Pro e pie) : ∀ (k : Nat) (j : Option Nat) (s s2 : PS), andL src e pie k j s = .ok s2 → s.1 ≤ s2.1 ∧ (s.1 ≤ e → s2.1 ≤ e) := by
  intro k
  induction k with
  | zero => intro j s s2 h; cases h; rw [pat_1]; exact ⟨Nat.le_refl _, id⟩
  | succ k ih =>
    intro j s s2 h
    unfold andL at h
    by_cases h0 : rdS src e s.1 = 38
    · rw [if_pos h0] at h
      obtain ⟨s1, h1, h2⟩ := bnd_is h
      have h3 := hf _ _ h1
      have h4 := ih _ _ _ h2
      have h5 : (emt (pat (adv s) j) 11534336).1 = s.1 + 1 := pat_1
      exact ⟨by omega, fun _ => h4.2 (by omega)⟩
    · rw [if_neg h0] at h; cases h; rw [pat_1]; exact ⟨Nat.le_refl _, id⟩
theorem orL_pro {par : PS → PE} (hf : Pro e par) : ∀ (k : Nat) (j : Option Nat) (s s2 : PS), orL src e par k j s = .ok s2 → s.1 ≤ s2.1 ∧ (s.1 ≤ e → s2.1 ≤ e) := by
  intro k
  induction k with
  | zero => intro j s s2 h; cases h; rw [pat_1]; exact ⟨Nat.le_refl _, id⟩
  | succ k ih =>
    intro j s s2 h
    unfold orL at h
    by_cases h0 : rdS src e s.1 = 124
    · rw [if_pos h0] at h
      obtain ⟨s1, h1, h2⟩ := bnd_is h
      have h3 := hf _ _ h1
      have h4 := ih _ _ _ h2
      have h5 : (emt (pat (adv s) j) 12582912).1 = s.1 + 1 := pat_1
      exact ⟨by omega, fun _ => h4.2 (by omega)⟩
    · rw [if_neg h0] at h; cases h; rw [pat_1]; exact ⟨Nat.le_refl _, id⟩
theorem parG_pro {pie : PS → PE} (hf : Pro e pie) : Pro e (parG src e pie) := fun s s2 h => by
  obtain ⟨s1, h1, h2⟩ := bnd_is h
  have h3 := hf _ _ h1
  have h4 := andL_pro hf _ _ _ _ h2
  exact ⟨by omega, h4.2 h3.2⟩
theorem orG_pro {par : PS → PE} (hf : Pro e par) : Pro e (orG src e par) := fun s s2 h => by
  obtain ⟨s1, h1, h2⟩ := bnd_is h
  have h3 := hf _ _ h1
  have h4 := orL_pro hf _ _ _ _ h2
  exact ⟨by omega, h4.2 h3.2⟩
theorem cmpF_pro (d : Nat) : Pro e (cmpF src e d) := fun s s2 h => by
  obtain ⟨s1, h1, h2⟩ := bnd_is h
  have h3 := terF_pro _ _ _ _ h1
  by_cases h0 : 0 ≤ cmpN (rdS src e s1.1)
  · rw [if_pos h0] at h2
    obtain ⟨s3, h4, h5⟩ := bnd_is h2
    have h6 := terF_pro _ _ _ _ h4
    have h7 : (adv s1).1 = s1.1 + 1 := rfl
    have h8 : s2 = emt s3 (1048576 * cmpN (rdS src e s1.1)) := by injection h5 with h5; exact h5.symm
    subst h8
    have h9 : (emt s3 (1048576 * cmpN (rdS src e s1.1))).1 = s3.1 := rfl
    omega
  · rw [if_neg h0] at h2; cases h2
theorem pieG_pro {pieL parsL : Nat → PS → PE} (h1 : ProD e pieL) (h2 : ProD e parsL) : ProD e (pieG src e pieL parsL) := fun d s s2 h => by
  unfold pieG at h
  by_cases h0 : rdS src e s.1 = 33
  · rw [if_pos h0] at h
    obtain ⟨-, h⟩ := dep_ok h
    obtain ⟨s1, h3, h4⟩ := bnd_is h
    have h5 := h1 _ _ _ h3
    have h6 : (adv s).1 = s.1 + 1 := rfl
    have h7 : s2 = emt s1 10485760 := by injection h4 with h4; exact h4.symm
    subst h7
    have h8 : (emt s1 10485760).1 = s1.1 := rfl
    omega
  · rw [if_neg h0] at h
    by_cases h9 : rdS src e s.1 = 40
    · rw [if_pos h9] at h
      obtain ⟨-, h⟩ := dep_ok h
      obtain ⟨s1, h3, h4⟩ := bnd_is h
      have h5 := h2 _ _ _ h3
      obtain ⟨rfl, h6⟩ := tak_ok h4 (by decide)
      have h7 : (adv s).1 = s.1 + 1 := rfl
      have h8 : (adv s1).1 = s1.1 + 1 := rfl
      omega
    · rw [if_neg h9] at h
      exact cmpF_pro d _ _ h
theorem pieF_pro : ∀ L, ProD e (pieF src e L) := by
  intro L
  induction L with
  | zero => intro d s s2 h; cases h
  | succ L ih => exact pieG_pro ih (fun d => orG_pro (parG_pro (ih d)))
theorem parsF_pro (L : Nat) : ProD e (parsF src e L) := fun d => orG_pro (parG_pro (pieF_pro L d))
end SPECL
