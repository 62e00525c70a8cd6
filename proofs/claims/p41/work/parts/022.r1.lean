/-! the reader's rows, as functions -/
abbrev UU : Int := 1048576
def updf (f : Nat → Int) (i : Nat) (a : Int) : Nat → Int := fun j => if j = i then a else f j
theorem updf_same {f : Nat → Int} {i : Nat} {a : Int} : updf f i a i = a := by simp [updf]
theorem updf_ne {f : Nat → Int} {i j : Nat} {a : Int} (h : j ≠ i) : updf f i a j = f j := by simp [updf, h]
/-- what a code does to the height -/
def dl (a : Int) : Int := if a / UU ≤ 1 then 1 else if a / UU = 10 then 0 else -1
def SHt (S : Nat → Int) : Nat → Int
  | 0 => 0
  | k + 1 => SHt S k + dl (S k)
theorem SHt_congr {S T : Nat → Int} {n : Nat} (h : ∀ j, j < n → dl (S j) = dl (T j)) : SHt S n = SHt T n := by
  induction n with
  | zero => rfl
  | succ n ih => simp only [SHt]; rw [ih (fun j hj => h j (by omega)), h n (by omega)]
/-- sums that wait -/
def pS (a : Int) : Bool := decide (2 ≤ a / UU ∧ a / UU ≤ 6)
/-- what will be said yet -/
def pC (a : Int) : Bool := decide ((2 ≤ a / UU ∧ a / UU ≤ 6) ∨ a / UU = 10)
def cnt (P : Int → Bool) (Q : Nat → Int) : Nat → Int
  | 0 => 0
  | k + 1 => cnt P Q k + if P (Q k) then 1 else 0
theorem cnt_nn {P : Int → Bool} {Q : Nat → Int} {n : Nat} : 0 ≤ cnt P Q n := by
  induction n with
  | zero => exact Int.le_refl _
  | succ n ih => simp only [cnt]; split <;> omega
theorem cnt_congr {P : Int → Bool} {Q R : Nat → Int} {n : Nat} (h : ∀ j, j < n → Q j = R j) : cnt P Q n = cnt P R n := by
  induction n with
  | zero => rfl
  | succ n ih => simp only [cnt]; rw [ih (fun j hj => h j (by omega)), h n (by omega)]
/-- a code of a condition at k, by the heights from fr on: what it needs, where it leads -/
def okc (S Q : Nat → Int) (c w fr k : Nat) : Prop :=
  0 ≤ S k ∧ S k / UU ≤ 12 ∧ (2 ≤ S k / UU ∧ S k / UU ≤ 9 → 2 ≤ SHt S k - SHt S fr) ∧ (S k / UU = 10 → 1 ≤ SHt S k - SHt S fr) ∧
  (11 ≤ S k / UU → 1 ≤ SHt S k - SHt S fr ∧ (((k : Int) < S k % UU ∧ S k % UU ≤ c ∧ SHt S (S k % UU).toNat = SHt S k) ∨ ∃ j, j < w ∧ 11 ≤ Q j / UU ∧ Q j / UU ≤ 12 ∧ Q j % UU = k))
def RIf (S Q : Nat → Int) (c w p fr : Nat) (z : Int) : Prop :=
  (fr ≤ c ∧ w ≤ p ∧ c < 1000000) ∧ (c : Int) + cnt pC Q w ≤ p ∧ SHt S c - SHt S fr = cnt pS Q w + z ∧
  (∀ j, j < w → 11 ≤ Q j / UU → Q j / UU ≤ 12 → (fr : Int) ≤ Q j % UU ∧ Q j % UU < c ∧ 11 ≤ S (Q j % UU).toNat / UU ∧ SHt S (Q j % UU).toNat - SHt S fr = 1) ∧
  (∀ k, fr ≤ k → k < c → okc S Q c w fr k) ∧ (0 < w → Q 0 / UU = 13)

section RIL
variable {S Q : Nat → Int} {c w p fr : Nat} {z : Int}
theorem RIf.more {p' : Nat} (h : RIf S Q c w p fr z) (hp : p ≤ p') : RIf S Q c w p' fr z := by
  obtain ⟨⟨h1, h2, h2'⟩, h3, h4, h5, h6, h7⟩ := h
  exact ⟨⟨h1, by omega, h2'⟩, by omega, h4, h5, h6, h7⟩
theorem SHt_upd {a : Int} {i n : Nat} (h : n ≤ i) : SHt (updf S i a) n = SHt S n := SHt_congr fun j hj => by rw [updf_ne (by omega)]
theorem SHt_same {a : Int} {i n : Nat} (h : dl a = dl (S i)) : SHt (updf S i a) n = SHt S n := SHt_congr fun j hj => by
  by_cases e : j = i
  · rw [e, updf_same, h]
  · rw [updf_ne e]
theorem cnt_upd {P : Int → Bool} {a : Int} {i n : Nat} (h : n ≤ i) : cnt P (updf Q i a) n = cnt P Q n := cnt_congr fun j hj => by rw [updf_ne (by omega)]
/-- a code more; the waiting ones stay, or the last of them goes (k: 1) -/
theorem RIf.says {op v : Int} {k p' : Nat} (h : RIf S Q c w p fr z) (hv : 0 ≤ v ∧ v < UU) (ho : 0 ≤ op ∧ op ≤ 10) (hk : k ≤ w) (hk1 : k = 0 ∨ (k = 1 ∧ Q (w - 1) / UU = op)) (hp : p ≤ p') (hc : c + 1 < 1000000)
    (h2 : (2 ≤ op ∧ op ≤ 9) → 2 ≤ cnt pS Q w + z) (h10 : op = 10 → 1 ≤ cnt pS Q w + z) (hR : (c : Int) + 1 + cnt pC Q (w - k) ≤ p') :
    RIf (updf S c (UU * op + v)) Q (c + 1) (w - k) p' fr (cnt pS Q w - cnt pS Q (w - k) + z + dl (UU * op + v)) := by
  obtain ⟨⟨g1, g2, g2'⟩, g3, g4, g5, g6, g7⟩ := h
  have hd : (UU * op + v) / UU = op := by unfold UU at *; omega
  have e1 : ∀ n, n ≤ c → SHt (updf S c (UU * op + v)) n = SHt S n := fun n hn => SHt_upd hn
  have e2 : SHt (updf S c (UU * op + v)) (c + 1) = SHt S c + dl (UU * op + v) := by
    simp only [SHt]; rw [e1 c (Nat.le_refl _), updf_same]
  refine ⟨⟨by omega, by omega, by omega⟩, by push_cast; omega, ?_, fun j hj a b => ?_, fun i hi hic => ?_, fun h => g7 (by omega)⟩
  · rw [e2, e1 fr g1]; omega
  · obtain ⟨q1, q2, q3, q4⟩ := g5 j (by omega) a b
    refine ⟨q1, by push_cast; omega, ?_, ?_⟩
    · rw [updf_ne (by omega)]; exact q3
    · rw [e1 _ (by omega), e1 fr g1]; exact q4
  · by_cases hie : i = c
    · subst hie
      refine ⟨by rw [updf_same]; unfold UU at *; omega, by rw [updf_same, hd]; omega, ?_, ?_, ?_⟩
      · rw [updf_same, hd, e1 _ (Nat.le_refl _), e1 fr g1, g4]; exact h2
      · rw [updf_same, hd, e1 _ (Nat.le_refl _), e1 fr g1, g4]; exact h10
      · rw [updf_same, hd]; intro; omega
    · obtain ⟨q1, q2, q3, q4, q5⟩ := g6 i hi (by omega)
      have hSi : updf S c (UU * op + v) i = S i := updf_ne hie
      refine ⟨by rw [hSi]; exact q1, by rw [hSi]; exact q2, ?_, ?_, ?_⟩
      · rw [hSi, e1 i (by omega), e1 fr g1]; exact q3
      · rw [hSi, e1 i (by omega), e1 fr g1]; exact q4
      · rw [hSi, e1 i (by omega), e1 fr g1]
        intro ha
        obtain ⟨r1, r2⟩ := q5 ha
        refine ⟨r1, ?_⟩
        rcases r2 with ⟨s1, s2, s3⟩ | ⟨j, s1, s2, s3, s4⟩
        · exact Or.inl ⟨s1, by push_cast; omega, by rw [e1 _ (by omega)]; exact s3⟩
        · refine Or.inr ⟨j, ?_, s2, s3, s4⟩
          rcases hk1 with rfl | ⟨rfl, hq⟩
          · exact s1
          · have : j ≠ w - 1 := fun e => by subst e; omega
            omega
/-- the last waiting one goes: it isn't one that leads -/
theorem RIf.pop (h : RIf S Q c w p fr z) (hw : 1 ≤ w) (ht : ¬ (11 ≤ Q (w - 1) / UU ∧ Q (w - 1) / UU ≤ 12)) : RIf S Q c (w - 1) p fr (z + if pS (Q (w - 1)) then 1 else 0) := by
  obtain ⟨⟨g1, g2, g2'⟩, g3, g4, g5, g6, g7⟩ := h
  have e : w = (w - 1) + 1 := by omega
  have c1 : cnt pC Q w = cnt pC Q (w - 1) + if pC (Q (w - 1)) then 1 else 0 := by rw [e]; simp only [cnt, Nat.add_sub_cancel]
  have c2 : cnt pS Q w = cnt pS Q (w - 1) + if pS (Q (w - 1)) then 1 else 0 := by rw [e]; simp only [cnt, Nat.add_sub_cancel]
  refine ⟨⟨g1, by omega, g2'⟩, ?_, by omega, fun j hj a b => g5 j (by omega) a b, fun i hi hic => ?_, fun h => g7 (by omega)⟩
  · split at c1 <;> omega
  · obtain ⟨q1, q2, q3, q4, q5⟩ := g6 i hi hic
    refine ⟨q1, q2, q3, q4, fun ha => ?_⟩
    obtain ⟨r1, r2⟩ := q5 ha
    refine ⟨r1, ?_⟩
    rcases r2 with r2 | ⟨j, s1, s2, s3, s4⟩
    · exact Or.inl r2
    · refine Or.inr ⟨j, ?_, s2, s3, s4⟩
      have : j ≠ w - 1 := fun e => by subst e; exact ht ⟨s2, s3⟩
      omega
/-- one more waits: it isn't one that leads -/
theorem RIf.push {a : Int} {p' : Nat} (h : RIf S Q c w p fr z) (hp : p ≤ p') (hw : w + 1 ≤ p') (ha : ¬ (11 ≤ a / UU ∧ a / UU ≤ 12)) (h0 : w = 0 → a / UU = 13) (hR : (c : Int) + cnt pC Q w + (if pC a then 1 else 0) ≤ p') : RIf S (updf Q w a) c (w + 1) p' fr (z - if pS a then 1 else 0) := by
  obtain ⟨⟨g1, g2, g2'⟩, g3, g4, g5, g6, g7⟩ := h
  have c1 : cnt pC (updf Q w a) (w + 1) = cnt pC Q w + if pC a then 1 else 0 := by simp only [cnt]; rw [cnt_upd (Nat.le_refl _), updf_same]
  have c2 : cnt pS (updf Q w a) (w + 1) = cnt pS Q w + if pS a then 1 else 0 := by simp only [cnt]; rw [cnt_upd (Nat.le_refl _), updf_same]
  refine ⟨⟨g1, by omega, g2'⟩, by omega, by omega, fun j hj b d => ?_, fun i hi hic => ?_, fun _ => ?_⟩
  · by_cases e : j = w
    · subst e
      rw [updf_same] at b d
      exact absurd ⟨b, d⟩ ha
    · rw [updf_ne e] at b d ⊢
      exact g5 j (by omega) b d
  · obtain ⟨q1, q2, q3, q4, q5⟩ := g6 i hi hic
    refine ⟨q1, q2, q3, q4, fun hb => ?_⟩
    obtain ⟨r1, r2⟩ := q5 hb
    refine ⟨r1, ?_⟩
    rcases r2 with r2 | ⟨j, s1, s2, s3, s4⟩
    · exact Or.inl r2
    · have e : j ≠ w := by omega
      exact Or.inr ⟨j, by omega, by rw [updf_ne e]; exact s2, by rw [updf_ne e]; exact s3, by rw [updf_ne e]; exact s4⟩
  · by_cases e : w = 0
    · subst e; rw [updf_same]; exact h0 rfl
    · rw [updf_ne (by omega)]; exact g7 (by omega)
/-- a waiting one that leads, led here -/
theorem RIf.land (h : RIf S Q c w p fr z) (hw : 1 ≤ w) (h1 : 11 ≤ Q (w - 1) / UU) (h2 : Q (w - 1) / UU ≤ 12) (hz : cnt pS Q w + z = 1) : RIf (updf S (Q (w - 1) % UU).toNat (UU * (S (Q (w - 1) % UU).toNat / UU) + c)) Q c (w - 1) p fr z := by
  obtain ⟨⟨g1, g2, g2'⟩, g3, g4, g5, g6, g7⟩ := h
  obtain ⟨q1, q2, q3, q4⟩ := g5 (w - 1) (by omega) h1 h2
  have hU : UU = 1048576 := rfl
  generalize hm : Q (w - 1) % UU = m at *
  have hm0 : 0 ≤ m := by omega
  have hmn : (m.toNat : Int) = m := by omega
  obtain ⟨o0, o1, -, -, o5⟩ := g6 m.toNat (by omega) (by omega)
  have hk : (UU * (S m.toNat / UU) + (c : Int)) / UU = S m.toNat / UU := by rw [hU]; omega
  have hr : (UU * (S m.toNat / UU) + (c : Int)) % UU = c := by rw [hU]; omega
  have hd : dl (UU * (S m.toNat / UU) + c) = dl (S m.toNat) := by unfold dl; rw [hk]
  have eS : ∀ n, SHt (updf S m.toNat (UU * (S m.toNat / UU) + c)) n = SHt S n := fun n => SHt_same hd
  have e : w = (w - 1) + 1 := by omega
  have nS : pS (Q (w - 1)) = false := by unfold pS; rw [decide_eq_false]; omega
  have nC : pC (Q (w - 1)) = false := by unfold pC; rw [decide_eq_false]; omega
  have c1 : cnt pC Q w = cnt pC Q (w - 1) := by rw [e]; simp only [cnt, Nat.add_sub_cancel, nC]; simp
  have c2 : cnt pS Q w = cnt pS Q (w - 1) := by rw [e]; simp only [cnt, Nat.add_sub_cancel, nS]; simp
  refine ⟨⟨g1, by omega, g2'⟩, by omega, by rw [eS, eS]; omega, fun j hj a b => ?_, fun i hi hic => ?_, fun h => g7 (by omega)⟩
  · obtain ⟨r1, r2, r3, r4⟩ := g5 j (by omega) a b
    refine ⟨r1, r2, ?_, by rw [eS, eS]; exact r4⟩
    by_cases ej : (Q j % UU).toNat = m.toNat
    · rw [ej, updf_same, hk]; rw [ej] at r3; exact r3
    · rw [updf_ne ej]; exact r3
  · by_cases ei : i = m.toNat
    · subst ei
      refine ⟨by rw [updf_same, hU]; omega, by rw [updf_same, hk]; exact o1, ?_, ?_, ?_⟩
      · rw [updf_same, hk]; intro; omega
      · rw [updf_same, hk]; intro; omega
      · rw [updf_same, hk, hr, eS, eS, eS]
        intro _
        refine ⟨by omega, Or.inl ⟨by omega, by omega, ?_⟩⟩
        rw [Int.toNat_natCast]
        omega
    · obtain ⟨r1, r2, r3, r4, r5⟩ := g6 i hi hic
      have hSi : updf S m.toNat (UU * (S m.toNat / UU) + c) i = S i := updf_ne ei
      refine ⟨by rw [hSi]; exact r1, by rw [hSi]; exact r2, by rw [hSi, eS, eS]; exact r3, by rw [hSi, eS, eS]; exact r4, ?_⟩
      rw [hSi, eS, eS, eS]
      intro ha
      obtain ⟨s1, s2⟩ := r5 ha
      refine ⟨s1, ?_⟩
      rcases s2 with s2 | ⟨j, t1, t2, t3, t4⟩
      · exact Or.inl s2
      · refine Or.inr ⟨j, ?_, t2, t3, t4⟩
        have : j ≠ w - 1 := fun ej => by subst ej; omega
        omega
/-- a code that leads, and waits to be led -/
theorem RIf.jump {op : Int} (h : RIf S Q c w p fr z) (ho : 11 ≤ op ∧ op ≤ 12) (hw : 1 ≤ w) (hz : cnt pS Q w + z = 1) (hc : c + 1 < 1000000) : RIf (updf S c (UU * op)) (updf Q w (UU * op + c)) (c + 1) (w + 1) (p + 1) fr (z - 1) := by
  obtain ⟨⟨g1, g2, g2'⟩, g3, g4, g5, g6, g7⟩ := h
  have hU : UU = 1048576 := rfl
  have hk : (UU * op) / UU = op := by rw [hU]; omega
  have hq : (UU * op + (c : Int)) / UU = op := by rw [hU]; omega
  have hqr : (UU * op + (c : Int)) % UU = c := by rw [hU]; omega
  have e1 : ∀ n, n ≤ c → SHt (updf S c (UU * op)) n = SHt S n := fun n hn => SHt_upd hn
  have hdl : dl (UU * op) = -1 := by unfold dl; rw [hk, if_neg (by omega), if_neg (by omega)]
  have e2 : SHt (updf S c (UU * op)) (c + 1) = SHt S c - 1 := by
    simp only [SHt]; rw [e1 c (Nat.le_refl _), updf_same, hdl]; omega
  have nS : pS (UU * op + c) = false := by unfold pS; rw [hq, decide_eq_false]; omega
  have nC : pC (UU * op + c) = false := by unfold pC; rw [hq, decide_eq_false]; omega
  have c1 : cnt pC (updf Q w (UU * op + c)) (w + 1) = cnt pC Q w := by simp only [cnt]; rw [cnt_upd (Nat.le_refl _), updf_same, nC]; simp
  have c2 : cnt pS (updf Q w (UU * op + c)) (w + 1) = cnt pS Q w := by simp only [cnt]; rw [cnt_upd (Nat.le_refl _), updf_same, nS]; simp
  refine ⟨⟨by omega, by omega, by omega⟩, by rw [c1]; push_cast; omega, by rw [e2, e1 fr g1, c2]; omega, fun j hj a b => ?_, fun i hi hic => ?_, fun _ => by rw [updf_ne (by omega)]; exact g7 (by omega)⟩
  · by_cases e : j = w
    · subst e
      rw [updf_same, hqr]
      refine ⟨by omega, by push_cast; omega, ?_, ?_⟩
      · rw [Int.toNat_natCast, updf_same, hk]; exact ho.1
      · rw [Int.toNat_natCast, e1 _ (Nat.le_refl _), e1 fr g1]; omega
    · rw [updf_ne e] at a b ⊢
      obtain ⟨r1, r2, r3, r4⟩ := g5 j (by omega) a b
      refine ⟨r1, by push_cast; omega, ?_, ?_⟩
      · rw [updf_ne (by omega)]; exact r3
      · rw [e1 _ (by omega), e1 fr g1]; exact r4
  · by_cases e : i = c
    · subst e
      refine ⟨by rw [updf_same, hU]; omega, by rw [updf_same, hk]; exact ho.2, ?_, ?_, ?_⟩
      · rw [updf_same, hk]; intro; omega
      · rw [updf_same, hk]; intro; omega
      · rw [updf_same, hk, e1 _ (Nat.le_refl _), e1 fr g1]
        intro _
        exact ⟨by omega, Or.inr ⟨w, by omega, by rw [updf_same, hq]; exact ho.1, by rw [updf_same, hq]; exact ho.2, by rw [updf_same, hqr]⟩⟩
    · obtain ⟨r1, r2, r3, r4, r5⟩ := g6 i hi (by omega)
      have hSi : updf S c (UU * op) i = S i := updf_ne e
      refine ⟨by rw [hSi]; exact r1, by rw [hSi]; exact r2, by rw [hSi, e1 i (by omega), e1 fr g1]; exact r3, by rw [hSi, e1 i (by omega), e1 fr g1]; exact r4, ?_⟩
      rw [hSi, e1 i (by omega), e1 fr g1]
      intro ha
      obtain ⟨s1, s2⟩ := r5 ha
      refine ⟨s1, ?_⟩
      rcases s2 with ⟨t1, t2, t3⟩ | ⟨j, t1, t2, t3, t4⟩
      · exact Or.inl ⟨t1, by push_cast; omega, by rw [e1 _ (by omega)]; exact t3⟩
      · have ej : j ≠ w := by omega
        exact Or.inr ⟨j, by omega, by rw [updf_ne ej]; exact t2, by rw [updf_ne ej]; exact t3, by rw [updf_ne ej]; exact t4⟩
end RIL
