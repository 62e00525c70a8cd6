/-! ### ships on their ways: what a day does to one ship and to the station that it goes to, on both sides -/
section Q3
variable {K K0 K1 K2 : Kmap} {V V0 V1 V2 V3 W W1 W2 : Vmap} {x m o t q f N : Nat} {i j n k e d p a b w z y l v X Y Z Q P D room cov : Int} {r t t' u u' g g' b' : Nat → Int} {n0 s : Nat} {vs : Int → Prop}
theorem wr_add : wr (X + wr Y) = wr (X + Y) := by
  unfold wr
  rw [Int32.ofInt_add, Int32.ofInt_toInt, ← Int32.ofInt_add]
/-- the waste of one rank goes aboard, as far as there is room -/
def tkr (k : Nat) (room : Int) (p : Int × (Nat → Int)) : Int × (Nat → Int) := (wr (p.1 + mnv (wr (room - p.1)) (p.2 (10 + k))), updf p.2 (10 + k) (wr (p.2 (10 + k) - mnv (wr (room - p.1)) (p.2 (10 + k)))))
def uni (room : Int) (p : Int × (Nat → Int)) : Nat → Int × (Nat → Int)
  | 0 => p
  | i + 1 => tkr (3 - i) room (uni room p i)
def unl (room : Int) (p : Int × (Nat → Int)) : Int × (Nat → Int) := uni room p 4
/-- on the way back -/
def tb3 (D : Int) (t : Nat → Int) : Nat → Int := updf (updf t 3 3) 8 (wr (D + t 10))
def arp (t g : Nat → Int) : Int × (Nat → Int) := unl (t 1) (t 7, updf g 7 (wr (g 7 + t 6)))
def arr (D : Int) (t g : Nat → Int) : Nat → Int := tb3 D (updf (updf t 6 0) 7 (arp t g).1)
def wtg (D : Int) (t : Nat → Int) : Nat → Int := if 60 ≤ wr (t 9 + 1) then tb3 D (updf (updf t 3 2) 9 (wr (t 9 + 1))) else updf (updf t 3 2) 9 (wr (t 9 + 1))
def hme (t : Nat → Int) : Nat → Int := updf (updf (updf t 6 0) 7 0) 3 0
/-- where it is said to wait -/
def pre (t : Nat → Int) : Nat → Int := if t 3 = 2 then t else updf (updf t 3 2) 8 (-1)
def wtr (D : Int) (t : Nat → Int) : Nat → Int := if wr (t 9 + 1) = 60 then tb3 D (updf (pre t) 9 (wr (t 9 + 1))) else updf (pre t) 9 (wr (t 9 + 1))
theorem pre_eq (h : t 3 = 2 → t 8 = -1) : pre t = updf (updf t 3 2) 8 (-1) := by
  unfold pre
  by_cases q : t 3 = 2
  · rw [if_pos q, updf_self (g := updf t 3 2), updf_self]
    · exact q.symm
    · rw [updf_of (by decide)]
      exact (h q).symm
  · rw [if_neg q]
def hmr (t : Nat → Int) : Nat → Int := updf (hme t) 8 (-1)
/-- whether it meets the ice today -/
def mtc (D : Int) (t : Nat → Int) : Prop := t 3 = 2 ∨ (t 3 = 1 ∧ t 8 = D)
def mtr' (D : Int) (t : Nat → Int) : Prop := t 3 = 2 ∨ (t 3 = 1 ∧ t 8 ≤ D)
/-- a ship and its station behind a day: the class's -/
def SHC (D cov : Int) (ok : Prop) (t g t' g' : Nat → Int) : Prop :=
  (mtc D t ∧ cov ≤ t 2 ∧ ok ∧ t' = arr D t g ∧ g' = (arp t g).2) ∨ (mtc D t ∧ cov ≤ t 2 ∧ ¬ ok ∧ t' = tb3 D t ∧ g' = g) ∨ (mtc D t ∧ t 2 < cov ∧ t' = wtg D t ∧ g' = g) ∨ (¬ mtc D t ∧ t 3 = 3 ∧ t 8 = D ∧ t' = hme t ∧ g' = g) ∨ (¬ mtc D t ∧ ¬ (t 3 = 3 ∧ t 8 = D) ∧ t' = t ∧ g' = g)
/-- the reference's -/
def SPR (D cov : Int) (ok : Prop) (t g t' g' : Nat → Int) : Prop :=
  (mtr' D t ∧ cov ≤ t 2 ∧ ok ∧ t' = arr D t g ∧ g' = (arp t g).2) ∨ (mtr' D t ∧ cov ≤ t 2 ∧ ¬ ok ∧ t' = tb3 D t ∧ g' = g) ∨ (mtr' D t ∧ t 2 < cov ∧ t' = wtr D t ∧ g' = g) ∨ (¬ mtr' D t ∧ t 3 = 3 ∧ t 8 ≤ D ∧ t' = hmr t ∧ g' = g) ∨ (¬ mtr' D t ∧ ¬ (t 3 = 3 ∧ t 8 ≤ D) ∧ t' = t ∧ g' = g)
/-- one ship, alike on both sides: D is the day up to which it was seen, vs: what is a station -/
def SHR (vs : Int → Prop) (D : Int) (t u : Nat → Int) : Prop := (t 0 = u 0 ∧ t 1 = u 1 ∧ t 2 = u 2 ∧ t 3 = u 3 ∧ t 6 = u 6 ∧ t 7 = u 7 ∧ t 9 = u 9) ∧ (0 ≤ t 3 ∧ t 3 ≤ 3) ∧ (t 3 ≠ 0 → t 4 = u 4 ∧ t 5 = u 5 ∧ t 10 = u 10 ∧ 1 ≤ t 10 ∧ t 10 ≤ 90 ∧ 0 ≤ t 4 ∧ t 4 ≤ 3 ∧ vs (t 5)) ∧ ((t 3 = 1 ∨ t 3 = 3) → t 8 = u 8 ∧ D < t 8) ∧ ((t 3 = 0 ∨ t 3 = 2) → u 8 = -1) ∧ (0 ≤ t 9 ∧ t 9 ≤ 60 ∧ ((t 3 = 1 ∨ t 3 = 2) → t 9 ≤ 59)) ∧ (t 3 = 0 → t 7 = 0)
theorem tb3_is : tb3 D t 3 = 3 ∧ tb3 D t 8 = wr (D + t 10) ∧ ∀ f, f ≠ 3 → f ≠ 8 → tb3 D t f = t f := by
  unfold tb3
  refine ⟨?_, updf_at, fun f h3 h8 => ?_⟩
  · rw [updf_of (by decide), updf_at]
  · rw [updf_of h8, updf_of h3]
theorem SHR.back (h : SHR vs (D - 1) t u) (h0 : t 3 ≠ 0) (hD0 : 0 ≤ D) (hD : D ≤ 3599) (ht : ∀ f, f ≠ 3 → f ≠ 6 → f ≠ 7 → f ≠ 8 → f ≠ 9 → t' f = t f) (hu : ∀ f, f ≠ 3 → f ≠ 6 → f ≠ 7 → f ≠ 8 → f ≠ 9 → u' f = u f) (h6 : t' 6 = u' 6) (h7 : t' 7 = u' 7) (h9 : t' 9 = u' 9) (b9 : 0 ≤ t' 9 ∧ t' 9 ≤ 60) : SHR vs D (tb3 D t') (tb3 D u') := by
  obtain ⟨⟨a0, a1, a2, a3, a6, a7, a9⟩, hb, hw, -, -, -, -⟩ := h
  obtain ⟨w4, w5, w10, w1, w90, w40, w43, wv⟩ := hw h0
  obtain ⟨c3, c8, cf⟩ := tb3_is (D := D) (t := t')
  obtain ⟨d3, d8, df⟩ := tb3_is (D := D) (t := u')
  have e10 : t' 10 = t 10 := ht 10 (by decide) (by decide) (by decide) (by decide) (by decide)
  have f10 : u' 10 = u 10 := hu 10 (by decide) (by decide) (by decide) (by decide) (by decide)
  have q : ∀ f, f ≠ 3 → f ≠ 6 → f ≠ 7 → f ≠ 8 → f ≠ 9 → tb3 D t' f = t f ∧ tb3 D u' f = u f := fun f g3 g6 g7 g8 g9 => ⟨(cf f g3 g8).trans (ht f g3 g6 g7 g8 g9), (df f g3 g8).trans (hu f g3 g6 g7 g8 g9)⟩
  have q0 := q 0 (by decide) (by decide) (by decide) (by decide) (by decide)
  have q1 := q 1 (by decide) (by decide) (by decide) (by decide) (by decide)
  have q2 := q 2 (by decide) (by decide) (by decide) (by decide) (by decide)
  have q4 := q 4 (by decide) (by decide) (by decide) (by decide) (by decide)
  have q5 := q 5 (by decide) (by decide) (by decide) (by decide) (by decide)
  have q10 := q 10 (by decide) (by decide) (by decide) (by decide) (by decide)
  have s6 := cf 6 (by decide) (by decide)
  have s7 := cf 7 (by decide) (by decide)
  have s9 := cf 9 (by decide) (by decide)
  have r6 := df 6 (by decide) (by decide)
  have r7 := df 7 (by decide) (by decide)
  have r9 := df 9 (by decide) (by decide)
  have g1 : wr (D + t' 10) = D + t' 10 := wr_id ⟨by omega, by omega⟩
  have g2 : wr (D + u' 10) = D + u' 10 := wr_id ⟨by omega, by omega⟩
  rw [g1] at c8
  rw [g2] at d8
  refine ⟨⟨by omega, by omega, by omega, by omega, by omega, by omega, by omega⟩, ⟨by omega, by omega⟩, fun _ => ⟨by omega, by omega, by omega, by omega, by omega, by omega, by omega, by rw [q5.1]; exact wv⟩, fun _ => ⟨by omega, by omega⟩, fun e => by omega, ⟨by omega, by omega, fun e => by omega⟩, fun e => by omega⟩
theorem arp_eq (h1 : t 1 = u 1) (h6 : t 6 = u 6) (h7 : t 7 = u 7) : arp t g = arp u g := by
  unfold arp
  rw [h1, h6, h7]
theorem SHR.step {ok ok' : Prop} (h : SHR vs (D - 1) t u) (hD0 : 0 ≤ D) (hD : D ≤ 3599) (hok : t 3 ≠ 0 → (ok ↔ ok')) (c : SHC D cov ok t g t' g') (c' : SPR D cov ok' u g u' b') : SHR vs D t' u' ∧ g' = b' := by
  have h' := h
  obtain ⟨⟨a0, a1, a2, a3, a6, a7, a9⟩, hb, hw, hd, hn, h9, hz⟩ := h
  have em : mtc D t ↔ mtr' D u := by
    unfold mtc mtr'
    constructor
    · rintro (e | ⟨e1, e2⟩)
      · exact Or.inl (by omega)
      · have := (hd (Or.inl e1)).1
        exact Or.inr ⟨by omega, by omega⟩
    · rintro (e | ⟨e1, e2⟩)
      · exact Or.inl (by omega)
      · have := hd (Or.inl (by omega))
        exact Or.inr ⟨by omega, by omega⟩
  have e3 : (t 3 = 3 ∧ t 8 = D) ↔ (u 3 = 3 ∧ u 8 ≤ D) := by
    constructor
    · rintro ⟨e1, e2⟩
      have := (hd (Or.inr e1)).1
      exact ⟨by omega, by omega⟩
    · rintro ⟨e1, e2⟩
      have := hd (Or.inr (by omega))
      exact ⟨by omega, by omega⟩
  have ne : mtc D t → t 3 ≠ 0 := fun e => by
    unfold mtc at e
    omega
  rcases c with ⟨c1, c2, c3, c4, c5⟩ | ⟨c1, c2, c3, c4, c5⟩ | ⟨c1, c2, c4, c5⟩ | ⟨c1, c2, c3, c4, c5⟩ | ⟨c1, c2, c4, c5⟩
  · have ne' := ne c1
    rcases c' with ⟨f1, f2, f3, f4, f5⟩ | ⟨f1, f2, f3, f4, f5⟩ | ⟨f1, f2, f4, f5⟩ | ⟨f1, f2, f3, f4, f5⟩ | ⟨f1, f2, f4, f5⟩
    · have ea : arp t g = arp u g := arp_eq a1 a6 a7
      refine ⟨?_, by rw [c5, f5, ea]⟩
      rw [c4, f4]
      unfold arr
      refine SHR.back h' ne' hD0 hD (fun f _ g6 g7 _ _ => by rw [updf_of g7, updf_of g6]) (fun f _ g6 g7 _ _ => by rw [updf_of g7, updf_of g6]) ?_ ?_ ?_ ?_
      · rw [updf_of (by decide), updf_at, updf_of (by decide), updf_at]
      · rw [updf_at, updf_at, ea]
      · rw [updf_of (by decide), updf_of (by decide), updf_of (by decide), updf_of (by decide)]
        exact a9
      · rw [updf_of (by decide), updf_of (by decide)]
        exact ⟨h9.1, h9.2.1⟩
    · exact absurd ((hok ne').mp c3) f3
    · omega
    · exact absurd (em.mp c1) f1
    · exact absurd (em.mp c1) f1
  · have ne' := ne c1
    rcases c' with ⟨f1, f2, f3, f4, f5⟩ | ⟨f1, f2, f3, f4, f5⟩ | ⟨f1, f2, f4, f5⟩ | ⟨f1, f2, f3, f4, f5⟩ | ⟨f1, f2, f4, f5⟩
    · exact absurd ((hok ne').mpr f3) c3
    · refine ⟨?_, by rw [c5, f5]⟩
      rw [c4, f4]
      exact SHR.back h' ne' hD0 hD (fun f _ _ _ _ _ => rfl) (fun f _ _ _ _ _ => rfl) a6 a7 a9 ⟨h9.1, h9.2.1⟩
    · omega
    · exact absurd (em.mp c1) f1
    · exact absurd (em.mp c1) f1
  · have ne' := ne c1
    rcases c' with ⟨f1, f2, f3, f4, f5⟩ | ⟨f1, f2, f3, f4, f5⟩ | ⟨f1, f2, f4, f5⟩ | ⟨f1, f2, f3, f4, f5⟩ | ⟨f1, f2, f4, f5⟩
    · omega
    · omega
    · refine ⟨?_, by rw [c5, f5]⟩
      have b9 : t 9 ≤ 59 := h9.2.2 (by unfold mtc at c1; omega)
      have w9 : wr (t 9 + 1) = t 9 + 1 := wr_id ⟨by omega, by omega⟩
      have w9' : wr (u 9 + 1) = u 9 + 1 := wr_id ⟨by omega, by omega⟩
      have ep : pre u = updf (updf u 3 2) 8 (-1) := pre_eq fun e => hn (Or.inr (by omega))
      rw [c4, f4]
      unfold wtg wtr
      rw [w9, w9', ep]
      by_cases q : t 9 + 1 = 60
      · rw [if_pos (by omega), if_pos (by omega)]
        refine SHR.back h' ne' hD0 hD (fun f g3 _ _ _ g9 => by rw [updf_of g9, updf_of g3]) (fun f g3 _ _ g8 g9 => by rw [updf_of g9, updf_of g8, updf_of g3]) ?_ ?_ ?_ ?_
        · rw [updf_of (by decide), updf_of (by decide), updf_of (by decide), updf_of (by decide), updf_of (by decide)]
          exact a6
        · rw [updf_of (by decide), updf_of (by decide), updf_of (by decide), updf_of (by decide), updf_of (by decide)]
          exact a7
        · rw [updf_at, updf_at, a9]
        · rw [updf_at]
          omega
      · rw [if_neg (by omega), if_neg (by omega)]
        obtain ⟨w4, w5, w10, w1, w90, w40, w43, wv⟩ := hw ne'
        have T : ∀ f, f ≠ 3 → f ≠ 9 → updf (updf t 3 2) 9 (t 9 + 1) f = t f := fun f g3 g9 => by rw [updf_of g9, updf_of g3]
        have U : ∀ f, f ≠ 3 → f ≠ 8 → f ≠ 9 → updf (updf (updf u 3 2) 8 (-1)) 9 (u 9 + 1) f = u f := fun f g3 g8 g9 => by rw [updf_of g9, updf_of g8, updf_of g3]
        have T3 : updf (updf t 3 2) 9 (t 9 + 1) 3 = 2 := by rw [updf_of (by decide), updf_at]
        have U3 : updf (updf (updf u 3 2) 8 (-1)) 9 (u 9 + 1) 3 = 2 := by rw [updf_of (by decide), updf_of (by decide), updf_at]
        have U8 : updf (updf (updf u 3 2) 8 (-1)) 9 (u 9 + 1) 8 = -1 := by rw [updf_of (by decide), updf_at]
        have T9 : updf (updf t 3 2) 9 (t 9 + 1) 9 = t 9 + 1 := updf_at
        have U9 : updf (updf (updf u 3 2) 8 (-1)) 9 (u 9 + 1) 9 = u 9 + 1 := updf_at
        unfold SHR
        rw [T3, U3, U8, T9, U9, T 0 (by decide) (by decide), T 1 (by decide) (by decide), T 2 (by decide) (by decide), T 4 (by decide) (by decide), T 5 (by decide) (by decide), T 6 (by decide) (by decide), T 7 (by decide) (by decide), T 10 (by decide) (by decide), U 0 (by decide) (by decide) (by decide), U 1 (by decide) (by decide) (by decide), U 2 (by decide) (by decide) (by decide), U 4 (by decide) (by decide) (by decide), U 5 (by decide) (by decide) (by decide), U 6 (by decide) (by decide) (by decide), U 7 (by decide) (by decide) (by decide), U 10 (by decide) (by decide) (by decide)]
        exact ⟨⟨a0, a1, a2, rfl, a6, a7, by omega⟩, ⟨by omega, by omega⟩, fun _ => ⟨w4, w5, w10, w1, w90, w40, w43, wv⟩, fun e => by omega, fun _ => rfl, ⟨by omega, by omega, fun _ => by omega⟩, fun e => by omega⟩
    · exact absurd (em.mp c1) f1
    · exact absurd (em.mp c1) f1
  · rcases c' with ⟨f1, f2, f3, f4, f5⟩ | ⟨f1, f2, f3, f4, f5⟩ | ⟨f1, f2, f4, f5⟩ | ⟨f1, f2, f3, f4, f5⟩ | ⟨f1, f2, f4, f5⟩
    · exact absurd (em.mpr f1) c1
    · exact absurd (em.mpr f1) c1
    · exact absurd (em.mpr f1) c1
    · refine ⟨?_, by rw [c5, f5]⟩
      rw [c4, f4]
      have T : ∀ f, f ≠ 3 → f ≠ 6 → f ≠ 7 → hme t f = t f := fun f g3 g6 g7 => by
        unfold hme
        rw [updf_of g3, updf_of g7, updf_of g6]
      have U : ∀ f, f ≠ 3 → f ≠ 6 → f ≠ 7 → f ≠ 8 → hmr u f = u f := fun f g3 g6 g7 g8 => by
        unfold hmr hme
        rw [updf_of g8, updf_of g3, updf_of g7, updf_of g6]
      have T3 : hme t 3 = 0 := by unfold hme; rw [updf_at]
      have T6 : hme t 6 = 0 := by unfold hme; rw [updf_of (by decide), updf_of (by decide), updf_at]
      have T7 : hme t 7 = 0 := by unfold hme; rw [updf_of (by decide), updf_at]
      have U3 : hmr u 3 = 0 := by unfold hmr hme; rw [updf_of (by decide), updf_at]
      have U6 : hmr u 6 = 0 := by unfold hmr hme; rw [updf_of (by decide), updf_of (by decide), updf_of (by decide), updf_at]
      have U7 : hmr u 7 = 0 := by unfold hmr hme; rw [updf_of (by decide), updf_of (by decide), updf_at]
      have U8 : hmr u 8 = -1 := by unfold hmr; rw [updf_at]
      unfold SHR
      rw [T3, T6, T7, U3, U6, U7, U8, T 0 (by decide) (by decide) (by decide), T 1 (by decide) (by decide) (by decide), T 2 (by decide) (by decide) (by decide), T 9 (by decide) (by decide) (by decide), U 0 (by decide) (by decide) (by decide) (by decide), U 1 (by decide) (by decide) (by decide) (by decide), U 2 (by decide) (by decide) (by decide) (by decide), U 9 (by decide) (by decide) (by decide) (by decide)]
      exact ⟨⟨a0, a1, a2, rfl, rfl, rfl, a9⟩, ⟨by omega, by omega⟩, fun e => absurd rfl e, fun e => by omega, fun _ => rfl, ⟨by omega, by omega, fun e => by omega⟩, fun _ => rfl⟩
    · exact absurd (e3.mp ⟨c2, c3⟩) f2
  · rcases c' with ⟨f1, f2, f3, f4, f5⟩ | ⟨f1, f2, f3, f4, f5⟩ | ⟨f1, f2, f4, f5⟩ | ⟨f1, f2, f3, f4, f5⟩ | ⟨f1, f2, f4, f5⟩
    · exact absurd (em.mpr f1) c1
    · exact absurd (em.mpr f1) c1
    · exact absurd (em.mpr f1) c1
    · exact absurd (e3.mpr ⟨f2, f3⟩) c2
    · refine ⟨?_, by rw [c5, f5]⟩
      rw [c4, f4]
      refine ⟨⟨a0, a1, a2, a3, a6, a7, a9⟩, hb, hw, fun q => ?_, hn, h9, hz⟩
      have := hd q
      refine ⟨this.1, ?_⟩
      rcases q with q | q
      · have : ¬ (t 8 = D) := fun e => c1 (Or.inr ⟨q, e⟩)
        omega
      · have : ¬ (t 8 = D) := fun e => c2 ⟨q, e⟩
        omega
/-! all ships of a day, one after another -/
abbrev SHS := (Nat → Nat → Int) × (Nat → Nat → Int)
/-- the ship s: what it and its station become -/
def SGC (D : Int) (cov : Int → Int) (ok : Int → Prop) (s : Nat) (a b : SHS) : Prop := ∃ t' g', SHC D (cov (a.1 s 4)) (ok (a.1 s 5)) (a.1 s) (a.2 (a.1 s 5).toNat) t' g' ∧ b.1 = upg a.1 s t' ∧ b.2 = upg a.2 (a.1 s 5).toNat g'
def SGR (D : Int) (cov : Int → Int) (ok : Int → Prop) (s : Nat) (a b : SHS) : Prop := ∃ t' g', SPR D (cov (a.1 s 4)) (ok (a.1 s 5)) (a.1 s) (a.2 (a.1 s 5).toNat) t' g' ∧ b.1 = upg a.1 s t' ∧ b.2 = upg a.2 (a.1 s 5).toNat g'
def RNC (D : Int) (cov : Int → Int) (ok : Int → Prop) (a : SHS) : Nat → SHS → Prop
  | 0, b => b = a
  | s + 1, b => ∃ c, RNC D cov ok a s c ∧ SGC D cov ok s c b
def RNR (D : Int) (cov : Int → Int) (ok : Int → Prop) (a : SHS) : Nat → SHS → Prop
  | 0, b => b = a
  | s + 1, b => ∃ c, RNR D cov ok a s c ∧ SGR D cov ok s c b
/-- where the day D has come, and the ships below s were seen on it; what is no station stays, and so what is no ship -/
def SHM (vs : Int → Prop) (D : Int) (n0 s : Nat) (b0 a b : SHS) : Prop := (∀ z, vs z → a.2 z.toNat = b.2 z.toNat) ∧ (∀ u, u < n0 → SHR vs (if u < s then D else D - 1) (a.1 u) (b.1 u)) ∧ (∀ j : Nat, ¬ vs (j : Int) → b.2 j = b0.2 j) ∧ ∀ u, n0 ≤ u → b.1 u = b0.1 u
theorem SPR.same {ok : Prop} (h : SPR D cov ok t g t' g') (h0 : t 3 = 0) : t' = t ∧ g' = g := by
  unfold SPR mtr' at h
  rcases h with ⟨h1, -⟩ | ⟨h1, -⟩ | ⟨h1, -⟩ | ⟨-, h1, -⟩ | ⟨-, -, h1⟩
  · omega
  · omega
  · omega
  · omega
  · exact h1
theorem SHC.same {ok : Prop} (h : SHC D cov ok t g t' g') (h0 : t 3 = 0) : t' = t ∧ g' = g := by
  unfold SHC mtc at h
  rcases h with ⟨h1, -⟩ | ⟨h1, -⟩ | ⟨h1, -⟩ | ⟨-, h1, -⟩ | ⟨-, -, h1⟩
  · omega
  · omega
  · omega
  · omega
  · exact h1
theorem SHM.step {b0 a a' b b' : SHS} {cov cov' : Int → Int} {ok ok' : Int → Prop} (h : SHM vs D n0 s b0 a b) (hv : ∀ z, vs z → 0 ≤ z) (hs : s < n0) (hD0 : 0 ≤ D) (hD : D ≤ 3599) (hc : ∀ z, 0 ≤ z → z ≤ 3 → cov z = cov' z) (hk : ∀ z, vs z → (ok z ↔ ok' z)) (f : SGC D cov ok s a a') (g : SGR D cov' ok' s b b') : SHM vs D n0 (s + 1) b0 a' b' := by
  obtain ⟨h1, h2, h5, h6⟩ := h
  have hr := h2 s hs
  rw [if_neg (by omega)] at hr
  obtain ⟨t', g', f1, f2, f3⟩ := f
  obtain ⟨u', k', g1, g2, g3⟩ := g
  have fin : SHR vs D t' u' → (∀ z, vs z → a'.2 z.toNat = b'.2 z.toNat) → (∀ j : Nat, ¬ vs (j : Int) → b'.2 j = b.2 j) → SHM vs D n0 (s + 1) b0 a' b' := fun e1 e2 e3 => by
    refine ⟨e2, fun v hv => ?_, fun j hj => (e3 j hj).trans (h5 j hj), fun v hv => ?_⟩
    · rw [f2, g2]
      by_cases q : v = s
      · subst q
        rw [upg_at, upg_at, if_pos (by omega)]
        exact e1
      · rw [upg_of q, upg_of q]
        have := h2 v hv
        by_cases q2 : v < s
        · rw [if_pos q2] at this
          rw [if_pos (by omega)]
          exact this
        · rw [if_neg q2] at this
          rw [if_neg (by omega)]
          exact this
    · rw [g2, upg_of (by omega)]
      exact h6 v hv
  by_cases h3 : a.1 s 3 = 0
  · have h3' : b.1 s 3 = 0 := by
      rw [← hr.1.2.2.2.1]
      exact h3
    obtain ⟨p1, p2⟩ := f1.same h3
    obtain ⟨p3, p4⟩ := g1.same h3'
    subst p1 p2 p3 p4
    refine fin ?_ (fun z hz => ?_) (fun j _ => ?_)
    · obtain ⟨r1, r2, r3, r4, r5, r6, r7⟩ := hr
      exact ⟨r1, r2, r3, fun q => by omega, r5, r6, r7⟩
    · rw [f3, g3, upg_id rfl, upg_id rfl]
      exact h1 z hz
    · rw [g3, upg_id rfl]
  · obtain ⟨w4, w5, -, -, -, w40, w43, wv⟩ := hr.2.2.1 h3
    rw [← w5, ← w4, ← hc _ w40 w43, ← h1 _ wv] at g1
    obtain ⟨e1, e2⟩ := hr.step hD0 hD (fun _ => hk _ wv) f1 g1
    refine fin e1 (fun z hz => ?_) (fun j hj => ?_)
    · rw [f3, g3, ← w5]
      by_cases q : z.toNat = (a.1 s 5).toNat
      · rw [q, upg_at, upg_at, e2]
      · rw [upg_of q, upg_of q]
        exact h1 z hz
    · have hne : j ≠ (a.1 s 5).toNat := fun q => hj (by
        have h0 := hv _ wv
        have e : (j : Int) = a.1 s 5 := by omega
        rw [e]
        exact wv)
      rw [g3, ← w5, upg_of hne]
theorem SHM.run {b0 a b : SHS} {cov cov' : Int → Int} {ok ok' : Int → Prop} (h : SHM vs D n0 0 b0 a b) (hv : ∀ z, vs z → 0 ≤ z) (hD0 : 0 ≤ D) (hD : D ≤ 3599) (hc : ∀ z, 0 ≤ z → z ≤ 3 → cov z = cov' z) (hk : ∀ z, vs z → (ok z ↔ ok' z)) : ∀ s, s ≤ n0 → ∀ a' b', RNC D cov ok a s a' → RNR D cov' ok' b s b' → SHM vs D n0 s b0 a' b' := by
  intro s
  induction s with
  | zero =>
    intro _ a' b' e1 e2
    have e1' : a' = a := e1
    have e2' : b' = b := e2
    rw [e1', e2']
    exact h
  | succ s ih =>
    intro hs a' b' e1 e2
    obtain ⟨c, c1, c2⟩ := e1
    obtain ⟨d, d1, d2⟩ := e2
    exact (ih (by omega) c d c1 d1).step hv (by omega) hD0 hD hc hk c2 d2
end Q3
