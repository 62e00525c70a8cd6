/-! ### ways for sledges: the least days, on both sides -/
section Q11
variable {K K0 K1 K2 : Kmap} {V V0 V1 V2 V3 W W0 W1 W2 : Vmap} {x m o q f N l : Nat} {i j n e d p a b c w h y z u v t s X Y Z : Int} {G H R R' C C' D : Int → Int}
def cel (w h u : Int) : Prop := 0 ≤ u ∧ u < w * h
def dif (a b : Int) : Int := if a ≤ b then b - a else a - b
/-- a step from u to v that takes c days -/
def edg (G H : Int → Int) (w h u v c : Int) : Prop := ∃ t : Int, 0 ≤ t ∧ t ≤ 7 ∧ v = bsd w h u t ∧ v ≠ -1 ∧ (G v = 0 ∨ G v = 1) ∧ c = 1 + dif (H u) (H v)
/-- days that fit one another -/
def RFP (G H : Int → Int) (w h a : Int) (D : Int → Int) : Prop := D a = 0 ∧ (∀ u, cel w h u → 0 ≤ D u ∧ D u ≤ 1000000) ∧ (∀ u v c, cel w h u → edg G H w h u v c → D u < 1000000 → D v ≤ D u + c) ∧ ∀ v, cel w h v → v ≠ a → D v < 1000000 → ∃ u c, cel w h u ∧ edg G H w h u v c ∧ D u + c ≤ D v
theorem dif_rg (h1 : 0 ≤ a ∧ a ≤ 40) (h2 : 0 ≤ b ∧ b ≤ 40) : 0 ≤ dif a b ∧ dif a b ≤ 40 := by
  unfold dif
  split <;> omega
theorem edg_cel (hw : 0 < w) (h1 : edg G H w h u v c) : cel w h v := by
  obtain ⟨t, -, -, e, n, -⟩ := h1
  rcases bsd_rg (w := w) (h := h) (c := u) (t := t) hw with g | g
  · exact absurd (e.trans g) n
  · rw [← e] at g
    exact g
theorem edg_rg (hH : ∀ u, 0 ≤ H u ∧ H u ≤ 40) (h1 : edg G H w h u v c) : 1 ≤ c ∧ c ≤ 41 := by
  obtain ⟨t, -, -, -, -, -, e⟩ := h1
  have := dif_rg (hH u) (hH v)
  omega
/-- closed cells below n -/
def clc (C : Int → Int) : Nat → Nat
  | 0 => 0
  | k + 1 => clc C k + (if C (k : Int) ≠ 0 then 1 else 0)
theorem cnt_le : ∀ n, clc C n ≤ n := by
  intro n
  induction n with
  | zero => exact Nat.le_refl 0
  | succ n ih =>
    unfold clc
    split <;> omega
theorem cnt_all : ∀ n, clc C n = n → ∀ j : Nat, j < n → C (j : Int) ≠ 0 := by
  intro n
  induction n with
  | zero => exact fun _ j hj => by omega
  | succ n ih =>
    intro hc j hj
    have h1 := cnt_le (C := C) n
    unfold clc at hc
    by_cases q : C (n : Int) ≠ 0
    · rw [if_pos q] at hc
      by_cases g : j = n
      · rw [g]
        exact q
      · exact ih (by omega) j (by omega)
    · rw [if_neg q] at hc
      omega
theorem cnt_same : ∀ n : Nat, (∀ j : Nat, j < n → C' (j : Int) = C (j : Int)) → clc C' n = clc C n := by
  intro n
  induction n with
  | zero => exact fun _ => rfl
  | succ n ih =>
    intro hc
    unfold clc
    rw [hc n (by omega), ih (fun j hj => hc j (by omega))]
theorem cnt_put {k : Nat} (h0 : C (k : Int) = 0) (h1 : C' (k : Int) ≠ 0) (h2 : ∀ u, u ≠ (k : Int) → C' u = C u) : ∀ n : Nat, k < n → clc C' n = clc C n + 1 := by
  intro n
  induction n with
  | zero => exact fun hk => by omega
  | succ n ih =>
    intro hk
    unfold clc
    by_cases q : k = n
    · subst q
      have e1 := cnt_same (C := C) (C' := C') k (fun j hj => h2 _ (by omega))
      rw [if_pos h1, if_neg (fun g => g h0)]
      omega
    · rw [ih (by omega), h2 (n : Int) (by omega)]
      omega
/-! the class's search: what is reached (R), what is closed (C), i cells closed -/
def DJI (G H : Int → Int) (w h a : Int) (D R C : Int → Int) (i : Int) : Prop := R a = 0 ∧ (∀ u, cel w h u → R u ≠ -1 → D u ≤ R u ∧ R u ≤ 41 * i) ∧ (∀ u, cel w h u → C u ≠ 0 → R u ≠ -1 ∧ R u = D u ∧ ∀ v c, edg G H w h u v c → R v ≠ -1 ∧ R v ≤ R u + c) ∧ (clc C (w * h).toNat : Int) = i
/-- what is nearest and open -/
def NEO (w h : Int) (R C : Int → Int) (Y : Int) : Prop := (Y = -1 ∧ ∀ u, cel w h u → ¬ (R u ≠ -1 ∧ C u = 0)) ∨ (cel w h Y ∧ R Y ≠ -1 ∧ C Y = 0 ∧ ∀ u, cel w h u → R u ≠ -1 → C u = 0 → R Y ≤ R u)
/-- what can be reached is reached by no more, or what is open lies nearer -/
theorem dji_le (hw : 0 < w) (hH : ∀ u, 0 ≤ H u ∧ H u ≤ 40) (hD : RFP G H w h a D) (hJ : DJI G H w h a D R C i) (hN : NEO w h R C Y) : ∀ k : Nat, ∀ v, cel w h v → D v < 1000000 → (D v).toNat ≤ k → (R v ≠ -1 ∧ R v ≤ D v) ∨ (cel w h Y ∧ R Y ≤ D v) := by
  obtain ⟨j1, j2, j3, -⟩ := hJ
  obtain ⟨d1, d2, -, d4⟩ := hD
  intro k
  induction k with
  | zero =>
    intro v hv hF hk
    by_cases q : v = a
    · rw [q, d1, j1]
      exact Or.inl ⟨by decide, by omega⟩
    · obtain ⟨u, c, hu, he, hle⟩ := d4 v hv q hF
      have := (edg_rg hH he).1
      have := (d2 u hu).1
      omega
  | succ k ih =>
    intro v hv hF hk
    by_cases q : v = a
    · rw [q, d1, j1]
      exact Or.inl ⟨by decide, by omega⟩
    · obtain ⟨u, c, hu, he, hle⟩ := d4 v hv q hF
      have hc := (edg_rg hH he).1
      have hu0 := (d2 u hu).1
      rcases ih u hu (by omega) (by omega) with ⟨g1, g2⟩ | ⟨g1, g2⟩
      · by_cases cc : C u = 0
        · rcases hN with ⟨-, n2⟩ | ⟨n1, -, -, n4⟩
          · exact absurd ⟨g1, cc⟩ (n2 u hu)
          · have := n4 u hu g1 cc
            exact Or.inr ⟨n1, by omega⟩
        · obtain ⟨-, -, r3⟩ := j3 u hu cc
          obtain ⟨r4, r5⟩ := r3 v c he
          exact Or.inl ⟨r4, by omega⟩
      · exact Or.inr ⟨g1, by omega⟩
/-- what the search says at its end -/
def LDO (D : Int → Int) (b X : Int) : Prop := (X = -1 ∧ D b = 1000000) ∨ (X = D b ∧ D b < 1000000 ∧ X ≠ -1)
theorem dji_end (hw : 0 < w) (hH : ∀ u, 0 ≤ H u ∧ H u ≤ 40) (hD : RFP G H w h a D) (hJ : DJI G H w h a D R C i) (hN : NEO w h R C Y) (hY : Y = -1 ∨ Y = b) (hb : cel w h b) (hi : i ≤ 144) (hX : X = R b) : LDO D b X := by
  obtain ⟨b0, b1⟩ := hD.2.1 b hb
  by_cases q : D b < 1000000
  · have key : R b ≠ -1 ∧ R b ≤ D b := by
      rcases dji_le hw hH hD hJ hN _ b hb q (Nat.le_refl _) with g | ⟨g1, g2⟩
      · exact g
      · rcases hY with y | y
        · unfold cel at g1
          omega
        · rw [y] at g2
          rcases hN with ⟨n1, -⟩ | ⟨-, n2, -⟩
          · unfold cel at g1
            omega
          · rw [y] at n2
            exact ⟨n2, g2⟩
    have := (hJ.2.1 b hb key.1).1
    exact Or.inr ⟨by omega, q, by omega⟩
  · have : R b = -1 := by
      by_cases g : R b = -1
      · exact g
      · have := hJ.2.1 b hb g
        omega
    exact Or.inl ⟨by omega, by omega⟩
/-- where all is closed, nothing is open -/
theorem dji_full (hw : 0 ≤ w * h) (h144 : w * h ≤ 144) (hJ : DJI G H w h a D R C i) (hi : 144 ≤ i) : NEO w h R C (-1) := by
  obtain ⟨-, -, -, j4⟩ := hJ
  have h1 := cnt_le (C := C) (w * h).toNat
  have e : clc C (w * h).toNat = (w * h).toNat := by omega
  refine Or.inl ⟨rfl, fun u hu g => ?_⟩
  have := cnt_all _ e u.toNat (by unfold cel at hu; omega)
  rw [show ((u.toNat : Nat) : Int) = u by unfold cel at hu; omega] at this
  exact this g.2
/-- while the steps from the cell c are taken: those below t are -/
def DJS (G H : Int → Int) (w h a : Int) (D R C : Int → Int) (i c t : Int) : Prop := (cel w h c ∧ C c ≠ 0 ∧ R c ≠ -1 ∧ R c = D c ∧ R c ≤ 41 * i) ∧ R a = 0 ∧ (∀ u, cel w h u → R u ≠ -1 → D u ≤ R u ∧ R u ≤ 41 * (i + 1)) ∧ (∀ u, cel w h u → C u ≠ 0 → R u ≠ -1 ∧ R u = D u ∧ (u ≠ c → ∀ v c, edg G H w h u v c → R v ≠ -1 ∧ R v ≤ R u + c)) ∧ (∀ s : Int, 0 ≤ s → s < t → bsd w h c s ≠ -1 → (G (bsd w h c s) = 0 ∨ G (bsd w h c s) = 1) → R (bsd w h c s) ≠ -1 ∧ R (bsd w h c s) ≤ R c + (1 + dif (H c) (H (bsd w h c s)))) ∧ (clc C (w * h).toNat : Int) = i + 1
theorem DJS.beg (hw : 0 < w) (hH : ∀ u, 0 ≤ H u ∧ H u ≤ 40) (hD : RFP G H w h a D) (hJ : DJI G H w h a D R C i) (hN : NEO w h R C Y) (hY : Y ≠ -1) (hi : i < 144) (h1 : C' Y ≠ 0) (h2 : ∀ u, u ≠ Y → C' u = C u) : DJS G H w h a D R C' i Y 0 := by
  have hJ' := hJ
  obtain ⟨j1, j2, j3, j4⟩ := hJ
  rcases hN with ⟨n1, -⟩ | ⟨n1, n2, n3, n4⟩
  · exact absurd n1 hY
  · have hN' : NEO w h R C Y := Or.inr ⟨n1, n2, n3, n4⟩
    obtain ⟨y1, y2⟩ := j2 Y n1 n2
    have eY : R Y = D Y := by
      have : D Y < 1000000 := by omega
      rcases dji_le hw hH hD hJ' hN' _ Y n1 this (Nat.le_refl _) with g | g <;> omega
    refine ⟨⟨n1, h1, n2, eY, y2⟩, j1, fun u hu g => ?_, fun u hu g => ?_, fun s s0 s1 => by omega, ?_⟩
    · have := j2 u hu g
      exact ⟨this.1, by omega⟩
    · by_cases q : u = Y
      · subst q
        exact ⟨n2, eY, fun g => absurd rfl g⟩
      · rw [h2 u q] at g
        obtain ⟨a1, a2, a3⟩ := j3 u hu g
        exact ⟨a1, a2, fun _ => a3⟩
    · have ek : ((Y.toNat : Nat) : Int) = Y := by unfold cel at n1; omega
      have := cnt_put (C := C) (C' := C') (k := Y.toNat) (by rw [ek]; exact n3) (by rw [ek]; exact h1) (fun u hu => h2 u (by rw [ek] at hu; exact hu)) (w * h).toNat (by unfold cel at n1; omega)
      omega
/-- one step: what it reaches -/
def STQ (G H : Int → Int) (w h : Int) (R R' : Int → Int) (u v : Int) : Prop := (¬ (cel w h v ∧ (G v = 0 ∨ G v = 1)) ∧ R' = R) ∨ ((cel w h v ∧ (G v = 0 ∨ G v = 1)) ∧ (R v = -1 ∨ R u + (1 + dif (H u) (H v)) < R v) ∧ R' = pt1 R v (R u + (1 + dif (H u) (H v)))) ∨ ((cel w h v ∧ (G v = 0 ∨ G v = 1)) ∧ ¬ (R v = -1 ∨ R u + (1 + dif (H u) (H v)) < R v) ∧ R' = R)
theorem DJS.step (hw : 0 < w) (hH : ∀ u, 0 ≤ H u ∧ H u ≤ 40) (hD : RFP G H w h a D) (ha : cel w h a) (hS : DJS G H w h a D R C i c t) (t0 : 0 ≤ t) (t8 : t < 8) (hi : i < 144) (hv : v = bsd w h c t) (hq : STQ G H w h R R' c v) (hn : n = t + 1) : DJS G H w h a D R' C i c n := by
  obtain ⟨⟨c1, c2, c3, c4, c5⟩, s1, s2, s3, s4, s5⟩ := hS
  have c0 := (hD.2.1 c c1).1
  have bv := bsd_rg (w := w) (h := h) (c := c) (t := t) hw
  rcases hq with ⟨q1, q2⟩ | ⟨⟨q1, q2⟩, q3, q4⟩ | ⟨⟨q1, q2⟩, q3, q4⟩
  · subst q2
    refine ⟨⟨c1, c2, c3, c4, c5⟩, s1, s2, s3, fun s a1 a2 a3 a4 => ?_, s5⟩
    by_cases g : s = t
    · subst g
      rw [← hv] at a3 a4
      rw [← hv] at bv
      exact absurd ⟨bv.resolve_left a3, a4⟩ q1
    · exact s4 s a1 (by omega) a3 a4
  · -- the cell v is reached by way of c
    have he : edg G H w h c v (1 + dif (H c) (H v)) := ⟨t, t0, by omega, hv, by unfold cel at q1; omega, q2, rfl⟩
    have hc := edg_rg hH he
    have hDv : D v ≤ D c + (1 + dif (H c) (H v)) := hD.2.2.1 c v _ c1 he (by omega)
    have eV : R' v = R c + (1 + dif (H c) (H v)) := by rw [q4]; unfold pt1; rw [if_pos rfl]
    have eO : ∀ u, u ≠ v → R' u = R u := fun u hu => by rw [q4]; unfold pt1; rw [if_neg hu]
    have nc : ∀ u, cel w h u → C u ≠ 0 → u ≠ v := fun u hu g e => by
      obtain ⟨a1, a2, -⟩ := s3 u hu g
      subst e
      rcases q3 with q3 | q3
      · exact a1 q3
      · omega
    have ncv : c ≠ v := nc c c1 c2
    have nav : a ≠ v := fun e => by
      subst e
      rcases q3 with q3 | q3 <;> omega
    have mono : ∀ u, R u ≠ -1 → cel w h u → R' u ≠ -1 ∧ R' u ≤ R u := fun u g hu => by
      by_cases e : u = v
      · subst e
        rw [eV]
        rcases q3 with q3 | q3
        · exact absurd q3 g
        · exact ⟨by omega, by omega⟩
      · rw [eO u e]
        exact ⟨g, by omega⟩
    refine ⟨⟨c1, c2, by rw [eO c ncv]; exact c3, by rw [eO c ncv]; exact c4, by rw [eO c ncv]; exact c5⟩, by rw [eO a nav]; exact s1, fun u hu g => ?_, fun u hu g => ?_, fun s a1 a2 a3 a4 => ?_, s5⟩
    · by_cases e : u = v
      · rw [e, eV]
        exact ⟨by omega, by omega⟩
      · rw [eO u e] at g ⊢
        exact s2 u hu g
    · obtain ⟨a1, a2, a3⟩ := s3 u hu g
      have e := nc u hu g
      rw [eO u e]
      refine ⟨a1, a2, fun n v' c' h' => ?_⟩
      obtain ⟨b1, b2⟩ := a3 n v' c' h'
      obtain ⟨m1, m2⟩ := mono v' b1 (edg_cel hw h')
      exact ⟨m1, by omega⟩
    · rw [eO c ncv]
      by_cases g : s = t
      · subst g
        rw [← hv, eV]
        exact ⟨by omega, by omega⟩
      · obtain ⟨b1, b2⟩ := s4 s a1 (by omega) a3 a4
        have hb : cel w h (bsd w h c s) := (bsd_rg (w := w) (h := h) (c := c) (t := s) hw).resolve_left a3
        obtain ⟨m1, m2⟩ := mono _ b1 hb
        exact ⟨m1, by omega⟩
  · subst q4
    refine ⟨⟨c1, c2, c3, c4, c5⟩, s1, s2, s3, fun s a1 a2 a3 a4 => ?_, s5⟩
    by_cases g : s = t
    · subst g
      rw [← hv]
      exact ⟨fun e => q3 (Or.inl e), by
        have : ¬ R' c + (1 + dif (H c) (H v)) < R' v := fun e => q3 (Or.inr e)
        omega⟩
    · exact s4 s a1 (by omega) a3 a4
theorem DJS.end (hS : DJS G H w h a D R C i c t) (ht : 8 ≤ t) (hn : n = i + 1) : DJI G H w h a D R C n := by
  obtain ⟨⟨c1, c2, c3, c4, c5⟩, s1, s2, s3, s4, s5⟩ := hS
  refine ⟨s1, fun u hu g => ?_, fun u hu g => ?_, by omega⟩
  · rw [hn]
    exact s2 u hu g
  · obtain ⟨a1, a2, a3⟩ := s3 u hu g
    refine ⟨a1, a2, fun v c' he => ?_⟩
    by_cases q : u = c
    · subst q
      obtain ⟨t', t0, t7, e1, e2, e3, e4⟩ := he
      rw [e1] at e2 e3 e4 ⊢
      rw [e4]
      exact s4 t' t0 (by omega) e2 e3
    · exact a3 q v c' he
theorem DJI.beg (ha : cel w h a) (hD : RFP G H w h a D) (h1 : ∀ u, cel w h u → R u = if u = a then 0 else -1) (h2 : ∀ u, cel w h u → C u = 0) : DJI G H w h a D R C 0 := by
  refine ⟨by rw [h1 a ha, if_pos rfl], fun u hu g => ?_, fun u hu g => absurd (h2 u hu) g, ?_⟩
  · rw [h1 u hu] at g ⊢
    by_cases q : u = a
    · rw [if_pos q, q, hD.1]
      omega
    · rw [if_neg q] at g
      exact absurd rfl g
  · have : ∀ n : Nat, (n : Int) ≤ w * h → clc C n = 0 := by
      intro n
      induction n with
      | zero => exact fun _ => rfl
      | succ n ih =>
        intro hn
        unfold clc
        have e1 := ih (by omega)
        have e2 := h2 (n : Int) ⟨by omega, by omega⟩
        rw [if_neg (fun g => g e2)]
        omega
    have := this (w * h).toNat (by unfold cel at ha; omega)
    omega
end Q11
