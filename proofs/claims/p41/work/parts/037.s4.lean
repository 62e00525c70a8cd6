/-! ### what waits, as a row of the memory tells it -/
/-- k entries above b, the last first -/
def stL (w : Nat → Int) (b : Nat) : Nat → List Int
  | 0 => []
  | k + 1 => w (b + k) / 1048576 :: stL w b k
def stQ (w : Nat → Int) : Nat → List (Int × Nat)
  | 0 => []
  | k + 1 => (w k / 1048576, (w k % 1048576).toNat) :: stQ w k
theorem stL_cong {w w' : Nat → Int} {b : Nat} : ∀ (k : Nat), (∀ j, b ≤ j → j < b + k → w' j = w j) → stL w' b k = stL w b k := by
  intro k
  induction k with
  | zero => intro _; rfl
  | succ k ih =>
    intro h
    show w' (b + k) / 1048576 :: stL w' b k = w (b + k) / 1048576 :: stL w b k
    rw [h (b + k) (by omega) (by omega), ih (fun j h1 h2 => h j h1 (by omega))]
theorem stQ_cong {w w' : Nat → Int} : ∀ (k : Nat), (∀ j, j < k → w' j = w j) → stQ w' k = stQ w k := by
  intro k
  induction k with
  | zero => intro _; rfl
  | succ k ih =>
    intro h
    show (w' k / 1048576, (w' k % 1048576).toNat) :: stQ w' k = (w k / 1048576, (w k % 1048576).toNat) :: stQ w k
    rw [h k (Nat.lt_succ_self _), ih (fun j h1 => h j (by omega))]
theorem updf_at {f : Nat → Int} {i : Nat} {a : Int} : updf f i a i = a := by unfold updf; rw [if_pos rfl]
theorem updf_of {f : Nat → Int} {i j : Nat} {a : Int} (h : j ≠ i) : updf f i a j = f j := by unfold updf; rw [if_neg h]
/-- one more waits -/
theorem stL_push {w : Nat → Int} {b k : Nat} {a o : Int} (h : a / 1048576 = o) : stL (updf w (b + k) a) b (k + 1) = o :: stL w b k := by
  show updf w (b + k) a (b + k) / 1048576 :: stL (updf w (b + k) a) b k = _
  rw [updf_at, h, stL_cong k (fun j h1 h2 => updf_of (by omega))]
theorem stQ_push {w : Nat → Int} {k i : Nat} {a o : Int} (h : a / 1048576 = o) (h2 : (a % 1048576).toNat = i) : stQ (updf w k a) (k + 1) = (o, i) :: stQ w k := by
  show (updf w k a k / 1048576, (updf w k a k % 1048576).toNat) :: stQ (updf w k a) k = _
  rw [updf_at, h, h2, stQ_cong k (fun j h1 => updf_of (by omega))]
/-- signs and brackets wait in good order -/
def WS : List Int → Prop
  | [] => True
  | o :: S => ((4 ≤ o ∧ o ≤ 6 ∧ noM S) ∨ ((o = 2 ∨ o = 3) ∧ noA S) ∨ o = 14) ∧ WS S
/-- how many brackets wait -/
def nB : List Int → Nat
  | [] => 0
  | o :: S => (if o = 14 then 1 else 0) + nB S
theorem WS.tl {o : Int} {S : List Int} (h : WS (o :: S)) : WS S := h.2
theorem noA_M {S : List Int} (h : noA S) : noM S := by
  cases S with
  | nil => trivial
  | cons o S => exact fun q => by have h1 : o = 14 := h; omega
/-- the top is no sign that a product closes: then none waits there -/
theorem WS.tM {S : List Int} (h : WS S) (ht : ∀ o S', S = o :: S' → ¬ (4 ≤ o ∧ o ≤ 6)) : noM S := by
  cases S with
  | nil => trivial
  | cons o S => exact ht o S rfl
theorem WS.tA {S : List Int} (h : WS S) (ht : ∀ o S', S = o :: S' → ¬ (4 ≤ o ∧ o ≤ 6) ∧ ¬ (o = 2 ∨ o = 3)) : noA S := by
  cases S with
  | nil => trivial
  | cons o S =>
    have h1 := ht o S rfl
    rcases h.1 with h2 | h2 | h2
    · exact absurd ⟨h2.1, h2.2.1⟩ h1.1
    · exact absurd h2.1 h1.2
    · exact h2
theorem WS.add {S : List Int} {o : Int} (h : WS (o :: S)) (ho : o = 2 ∨ o = 3) : noA S := by
  rcases h.1 with h2 | h2 | h2
  · omega
  · exact h2.2
  · omega
theorem WS.pushM {S : List Int} {o : Int} (h : WS S) (ho : 4 ≤ o ∧ o ≤ 6) (hS : noM S) : WS (o :: S) := ⟨Or.inl ⟨ho.1, ho.2, hS⟩, h⟩
theorem WS.pushA {S : List Int} {o : Int} (h : WS S) (ho : o = 2 ∨ o = 3) (hS : noA S) : WS (o :: S) := ⟨Or.inr (Or.inl ⟨ho, hS⟩), h⟩
theorem WS.pushB {S : List Int} (h : WS S) : WS (14 :: S) := ⟨Or.inr (Or.inr rfl), h⟩
