/-! ### how a sum and a condition go on, by what waits (the last first) -/
section S2
variable (src : Nat → Int) (e : Nat)
/-- a factor at a depth -/
def facD (d : Nat) (s : PS) : PE := facG src e (terF src e (8 - d)) d s
def facW (d : Nat) (s : PS) : PE := facL src e (facD src e d) 200 s
def terW (d : Nat) (s : PS) : PE := terL src e (facsG src e (facD src e d)) 200 s
/-- behind a factor, at a depth, by the signs that wait: 4 to 6, 2 and 3, 14 for a bracket -/
def conS : Nat → List Int → PS → PE
  | d, [], s => bnd (facW src e d s) (terW src e d)
  | d, o :: S, s =>
    if 4 ≤ o ∧ o ≤ 6 then conS d S (emt s (1048576 * o))
    else if o = 2 ∨ o = 3 then bnd (facW src e d s) (fun s1 => match S with
      | [] => terW src e d (emt s1 (1048576 * o))
      | _ :: S1 => bnd (terW src e d (emt s1 (1048576 * o))) (fun s2 => bnd (tak src e 93 s2) (conS (d - 1) S1)))
    else bnd (facW src e d s) (fun s1 => bnd (terW src e d s1) (fun s2 => bnd (tak src e 93 s2) (conS (d - 1) S)))
def pieD (d : Nat) (s : PS) : PE := pieF src e (9 - d) d s
def andW (d : Nat) (j : Option Nat) (s : PS) : PE := andL src e (pieD src e d) 200 j s
def orW (d : Nat) (j : Option Nat) (s : PS) : PE := orL src e (parG src e (pieD src e d)) 200 j s
/-- behind a piece, by what waits: 10 (not), 11 and 12 with the code's number (jumps), 13 (a bracket) -/
def conQ : Nat → Option Nat → Option Nat → List (Int × Nat) → PS → PE
  | _, _, _, [], s => .ok s
  | d, ja, jo, q :: S, s =>
    if q.1 = 10 then conQ (d - 1) none none S (emt s 10485760)
    else if q.1 = 11 then conQ d (some q.2) jo S s
    else if q.1 = 12 then conQ d ja (some q.2) S s
    else bnd (andW src e d ja s) (fun s1 => bnd (orW src e d jo s1) (fun s2 => bnd (tak src e 41 s2) (conQ (d - 1) none none S)))
end S2
section S2L
variable {src : Nat → Int} {e : Nat}
theorem facD_pro (d : Nat) : Pro e (facD src e d) := facG_pro (terF_pro _) d
theorem pieD_pro (d : Nat) : Pro e (pieD src e d) := pieF_pro _ d
/-- no sign of a product waits -/
def noM : List Int → Prop
  | [] => True
  | o :: _ => ¬ (4 ≤ o ∧ o ≤ 6)
/-- only a bracket waits, or nothing -/
def noA : List Int → Prop
  | [] => True
  | o :: _ => o = 14
theorem conS_mul {d : Nat} {o : Int} {S : List Int} {s : PS} (h : 4 ≤ o ∧ o ≤ 6) : conS src e d (o :: S) s = conS src e d S (emt s (1048576 * o)) := by
  conv => lhs; unfold conS
  rw [if_pos h]
/-- a sign of a product is next -/
theorem conS_m (h200 : e ≤ 200) {d : Nat} {S : List Int} {s : PS} (hS : noM S) (h : 0 ≤ mulN (rdS src e s.1)) (hm : 4 ≤ mulN (rdS src e s.1) ∧ mulN (rdS src e s.1) ≤ 6) : conS src e d S s = bnd (facD src e d (adv s)) (conS src e d (mulN (rdS src e s.1) :: S)) := by
  have hf : facW src e d s = bnd (facD src e d (adv s)) (fun s2 => facW src e d (emt s2 (1048576 * mulN (rdS src e s.1)))) := by
    unfold facW
    rw [facL_step (facD_pro d) h200 s, if_pos h]
  have hr : (conS src e d (mulN (rdS src e s.1) :: S)) = fun s2 => conS src e d S (emt s2 (1048576 * mulN (rdS src e s.1))) := funext fun s2 => conS_mul hm
  rw [hr]
  cases S with
  | nil =>
    conv => lhs; unfold conS
    rw [hf, bnd_as]
    conv => rhs; unfold conS
  | cons o S =>
    have ho : ¬ (4 ≤ o ∧ o ≤ 6) := hS
    conv => lhs; unfold conS
    conv => rhs; unfold conS
    rw [if_neg ho]
    simp only [if_neg ho]
    by_cases h2 : o = 2 ∨ o = 3
    · rw [if_pos h2, hf, bnd_as]
      simp only [if_pos h2]
    · rw [if_neg h2, hf, bnd_as]
      simp only [if_neg h2]
theorem facW_no {d : Nat} {s : PS} (h200 : e ≤ 200) (h : ¬ 0 ≤ mulN (rdS src e s.1)) : facW src e d s = .ok s := by
  unfold facW
  rw [facL_step (facD_pro d) h200 s, if_neg h]
theorem terW_no {d : Nat} {s : PS} (h200 : e ≤ 200) (h : ¬ 0 ≤ addN (rdS src e s.1)) : terW src e d s = .ok s := by
  unfold terW
  rw [terL_step (facsG_pro (facD_pro d)) h200 s, if_neg h]
/-- no sign of a product is next: a sum's sign that waits is told -/
theorem conS_add (h200 : e ≤ 200) {d : Nat} {o : Int} {S : List Int} {s : PS} (ho : o = 2 ∨ o = 3) (hS : noA S) (h : ¬ 0 ≤ mulN (rdS src e s.1)) : conS src e d (o :: S) s = conS src e d S (emt s (1048576 * o)) := by
  have hn : ¬ (4 ≤ o ∧ o ≤ 6) := by omega
  have h1 : rdS src e (emt s (1048576 * o)).1 = rdS src e s.1 := rfl
  conv => lhs; unfold conS
  rw [if_neg hn, if_pos ho, facW_no h200 h, bnd_ok]
  cases S with
  | nil =>
    conv => rhs; unfold conS
    rw [facW_no h200 (by rw [h1]; exact h), bnd_ok]
  | cons q S =>
    have hq : q = 14 := hS
    subst hq
    conv => rhs; unfold conS
    rw [if_neg (by decide), if_neg (by decide), facW_no h200 (by rw [h1]; exact h), bnd_ok]
theorem mul_add {c : Int} (h : 0 ≤ addN c) : ¬ 0 ≤ mulN c := by
  unfold addN at h
  unfold mulN
  by_cases h1 : c = 43
  · subst h1; decide
  · rw [if_neg h1] at h
    by_cases h2 : c = 45
    · subst h2; decide
    · rw [if_neg h2] at h; exact absurd h (by decide)
theorem conS_u {d : Nat} {o : Int} {S : List Int} {s : PS} (hn : ¬ (4 ≤ o ∧ o ≤ 6)) (ho : o = 2 ∨ o = 3) : conS src e d (o :: S) s = bnd (facW src e d s) (fun s1 => match S with
      | [] => terW src e d (emt s1 (1048576 * o))
      | _ :: S1 => bnd (terW src e d (emt s1 (1048576 * o))) (fun s2 => bnd (tak src e 93 s2) (conS src e (d - 1) S1))) := by
  conv => lhs; unfold conS
  rw [if_neg hn, if_pos ho]
/-- a sign of a sum is next -/
theorem conS_a (h200 : e ≤ 200) {d : Nat} {S : List Int} {s : PS} (hS : noA S) (h : 0 ≤ addN (rdS src e s.1)) (hm : addN (rdS src e s.1) = 2 ∨ addN (rdS src e s.1) = 3) : conS src e d S s = bnd (facD src e d (adv s)) (conS src e d (addN (rdS src e s.1) :: S)) := by
  have hmul := mul_add h
  have ht : terW src e d s = bnd (facD src e d (adv s)) (fun s1 => bnd (facW src e d s1) (fun s2 => terW src e d (emt s2 (1048576 * addN (rdS src e s.1))))) := by
    unfold terW
    rw [terL_step (facsG_pro (facD_pro d)) h200 s, if_pos h]
    unfold facsG
    rw [bnd_as]
    rfl
  have hn : ¬ (4 ≤ addN (rdS src e s.1) ∧ addN (rdS src e s.1) ≤ 6) := by omega
  have hr : (conS src e d (addN (rdS src e s.1) :: S)) = _ := funext fun s2 => conS_u hn hm
  rw [hr]
  cases S with
  | nil =>
    conv => lhs; unfold conS
    rw [facW_no h200 hmul, bnd_ok, ht]
  | cons o S =>
    have ho : o = 14 := hS
    subst ho
    conv => lhs; unfold conS
    rw [if_neg (by decide), if_neg (by decide), facW_no h200 hmul, bnd_ok, ht, bnd_as]
    congr 1
    funext s1
    rw [bnd_as]
theorem mul_93 {c : Int} (h : c = 93) : ¬ 0 ≤ mulN c ∧ ¬ 0 ≤ addN c := by subst h; exact ⟨by decide, by decide⟩
/-- a bracket closes -/
theorem conS_c (h200 : e ≤ 200) {d : Nat} {S : List Int} {s : PS} (h : rdS src e s.1 = 93) : conS src e d (14 :: S) s = conS src e (d - 1) S (adv s) := by
  conv => lhs; unfold conS
  rw [if_neg (by decide), if_neg (by decide), facW_no h200 (mul_93 h).1, bnd_ok, terW_no h200 (mul_93 h).2, bnd_ok]
  unfold tak
  rw [if_pos h, bnd_ok]
/-- a bracket doesn't close -/
theorem conS_f (h200 : e ≤ 200) {d : Nat} {S : List Int} {s : PS} (h : rdS src e s.1 ≠ 93) (hm : ¬ 0 ≤ mulN (rdS src e s.1)) (ha : ¬ 0 ≤ addN (rdS src e s.1)) : conS src e d (14 :: S) s = .error (1, s.1) := by
  conv => lhs; unfold conS
  rw [if_neg (by decide), if_neg (by decide), facW_no h200 hm, bnd_ok, terW_no h200 ha, bnd_ok]
  unfold tak
  rw [if_neg h, bnd_er]
theorem conS_e (h200 : e ≤ 200) {d : Nat} {s : PS} (hm : ¬ 0 ≤ mulN (rdS src e s.1)) (ha : ¬ 0 ≤ addN (rdS src e s.1)) : conS src e d [] s = .ok s := by
  conv => lhs; unfold conS
  rw [facW_no h200 hm, bnd_ok, terW_no h200 ha]
/-- a sum begins -/
theorem terF_beg {d : Nat} {s : PS} (hd : d ≤ 8) : terF src e (9 - d) d s = bnd (facD src e d s) (conS src e d []) := by
  have e1 : 9 - d = (8 - d) + 1 := by omega
  rw [e1]
  show terG src e (facsG src e (facG src e (terF src e (8 - d)) d)) s = _
  unfold terG facsG
  rw [bnd_as]
  have hr : conS src e d [] = fun s1 => bnd (facW src e d s1) (terW src e d) := funext fun s1 => by conv => lhs; unfold conS
  rw [hr]
  rfl
/-- a bracket opens -/
theorem facD_o {d : Nat} {S : List Int} {s : PS} (hd : d < 8) (h : rdS src e s.1 = 91) : bnd (facD src e d s) (conS src e d S) = bnd (facD src e (d + 1) (adv s)) (conS src e (d + 1) (14 :: S)) := by
  have e1 : facD src e d s = bnd (terF src e (8 - d) (d + 1) (adv s)) (tak src e 93) := by
    unfold facD facG dep
    rw [if_pos h, if_neg (by omega)]
  have e2 : 8 - d = 9 - (d + 1) := by omega
  rw [e1, e2, terF_beg (by omega), bnd_as, bnd_as]
  congr 1
  funext s1
  conv => lhs; arg 1; unfold conS
  conv => rhs; unfold conS
  rw [if_neg (by decide), if_neg (by decide), bnd_as]
  rfl
theorem facD_x {d : Nat} {s : PS} (hd : 8 ≤ d) (h : rdS src e s.1 = 91) : facD src e d s = .error (5, s.1) := by
  unfold facD facG dep
  rw [if_pos h, if_pos hd]
theorem facD_l {d : Nat} {s : PS} (h : 0 ≤ letN (rdS src e s.1)) : facD src e d s = .ok (emt (adv s) (1048576 + letN (rdS src e s.1))) := by
  have h91 : rdS src e s.1 ≠ 91 := fun q => by rw [q] at h; exact absurd h (by decide)
  unfold facD facG
  rw [if_neg h91, if_pos h]
theorem facD_n {d : Nat} {s : PS} (h : ¬ 0 ≤ letN (rdS src e s.1)) (h91 : rdS src e s.1 ≠ 91) : facD src e d s = match numS src e 999999 s.1 with
    | .ok r => .ok (emt (r.1, s.2) r.2)
    | .error q => .error q := by
  unfold facD facG
  rw [if_neg h91, if_neg h]
  rfl
end S2L
