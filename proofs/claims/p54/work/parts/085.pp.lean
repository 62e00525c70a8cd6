/-! ### a season's voyage: orders of stops, and the best of them -/
section PP
variable {n k i j l q u v : Nat} {a b w z X Y S e e1 : Int} {f g h c d : Nat → Int} {D D1 : (Nat → Int) → Prop}
/-- how many stops, the first day, legs, the ices' openings and closings -/
abbrev PEn : Type := Nat × Int × (Int → Int → Int) × (Nat → Int → Int) × (Nat → Int → Int)
variable {E E1 : PEn}
def mxv (a b : Int) : Int := if a ≤ b then b else a
theorem mxv_l : a ≤ mxv a b := by
  unfold mxv
  split <;> omega
theorem mxv_r : b ≤ mxv a b := by
  unfold mxv
  split <;> omega
theorem mxv_le (h1 : a ≤ z) (h2 : b ≤ z) : mxv a b ≤ z := by
  unfold mxv
  split <;> omega
theorem mxv_lt (h1 : a < z) (h2 : b < z) : mxv a b < z := by
  unfold mxv
  split <;> omega
theorem mxv_of (h : (z = a ∧ b ≤ a) ∨ (z = b ∧ a ≤ b)) : z = mxv a b := by
  unfold mxv
  split <;> omega
/-- the day on which the ship is through at the stop k of an order, in one ice -/
def dyv (E : PEn) (f : Nat → Int) (i : Nat) : Nat → Int
  | 0 => mxv E.2.1 (E.2.2.2.1 i (f 0))
  | k + 1 => mxv (dyv E f i k + E.2.2.1 (f k) (f (k + 1))) (E.2.2.2.1 i (f (k + 1)))
/-- the day on which it comes there -/
def avv (E : PEn) (f : Nat → Int) (i : Nat) : Nat → Int
  | 0 => E.2.1
  | k + 1 => dyv E f i k + E.2.2.1 (f k) (f (k + 1))
theorem dyv_avv : dyv E f i k = mxv (avv E f i k) (E.2.2.2.1 i (f k)) := by cases k <;> rfl
theorem dyv_cg : ∀ k, (∀ j, j ≤ k → f j = g j) → dyv E f i k = dyv E g i k := by
  intro k
  induction k with
  | zero =>
    intro h
    unfold dyv
    rw [h 0 (by omega)]
  | succ k ih =>
    intro h
    unfold dyv
    rw [ih (fun j hj => h j (by omega)), h k (by omega), h (k + 1) (by omega)]
theorem avv_cg (h : ∀ j, j ≤ k → f j = g j) : avv E f i k = avv E g i k := by
  cases k with
  | zero => rfl
  | succ k =>
    show dyv E f i k + E.2.2.1 (f k) (f (k + 1)) = dyv E g i k + E.2.2.1 (g k) (g (k + 1))
    rw [dyv_cg k (fun j hj => h j (by omega)), h k (by omega), h (k + 1) (by omega)]
/-! orders -/
def PRM (n : Nat) (f : Nat → Int) : Prop := (∀ k : Nat, k < n → 0 ≤ f k ∧ f k < (n : Int)) ∧ ∀ i j : Nat, i < n → j < n → f i = f j → i = j
def LXv (n : Nat) (f g : Nat → Int) : Prop := ∃ k : Nat, k < n ∧ (∀ j : Nat, j < k → f j = g j) ∧ f k < g k
def LQv (n : Nat) (f g : Nat → Int) : Prop := (∀ j : Nat, j < n → f j = g j) ∨ LXv n f g
theorem php : ∀ (n : Nat) (f : Nat → Int), PRM n f → ∀ v : Int, 0 ≤ v → v < (n : Int) → ∃ k : Nat, k < n ∧ f k = v := by
  intro n
  induction n with
  | zero => intro f _ v h0 hv; omega
  | succ n ih =>
    intro f hp v h0 hv
    obtain ⟨h1, h2⟩ := hp
    by_cases q : ∃ k0 : Nat, k0 < n + 1 ∧ f k0 = (n : Int)
    · obtain ⟨k0, a0, a1⟩ := q
      by_cases qv : v = (n : Int)
      · exact ⟨k0, a0, a1.trans qv.symm⟩
      · have hn : k0 ≠ n → f n ≠ (n : Int) := fun e g => e (h2 k0 n a0 (by omega) (a1.trans g.symm))
        have hp : PRM n (fun k => if k = k0 then f n else f k) := by
          refine ⟨fun k hk => ?_, fun i j hi hj e => ?_⟩
          · show 0 ≤ (if k = k0 then f n else f k) ∧ (if k = k0 then f n else f k) < (n : Int)
            have b1 := h1 n (by omega)
            have b2 := h1 k (by omega)
            by_cases c : k = k0
            · rw [if_pos c]
              have := hn (by omega)
              omega
            · rw [if_neg c]
              have : f k ≠ (n : Int) := fun e => c (h2 k k0 (by omega) a0 (e.trans a1.symm))
              omega
          · have e' : (if i = k0 then f n else f i) = if j = k0 then f n else f j := e
            by_cases ci : i = k0
            · by_cases cj : j = k0
              · omega
              · rw [if_pos ci, if_neg cj] at e'
                have := h2 n j (by omega) (by omega) e'
                omega
            · by_cases cj : j = k0
              · rw [if_neg ci, if_pos cj] at e'
                have := h2 i n (by omega) (by omega) e'
                omega
              · rw [if_neg ci, if_neg cj] at e'
                exact h2 i j (by omega) (by omega) e'
        obtain ⟨k, b1, b2⟩ := ih _ hp v h0 (by omega)
        have b3 : (if k = k0 then f n else f k) = v := b2
        by_cases c : k = k0
        · rw [if_pos c] at b3
          exact ⟨n, by omega, b3⟩
        · rw [if_neg c] at b3
          exact ⟨k, by omega, b3⟩
    · exfalso
      have hlt : ∀ k : Nat, k < n + 1 → 0 ≤ f k ∧ f k < (n : Int) := fun k hk => by
        have b := h1 k hk
        have : f k ≠ (n : Int) := fun e => q ⟨k, hk, e⟩
        omega
      have hp : PRM n f := ⟨fun k hk => hlt k (by omega), fun i j hi hj e => h2 i j (by omega) (by omega) e⟩
      have bn := hlt n (by omega)
      obtain ⟨k, b1, b2⟩ := ih f hp (f n) bn.1 bn.2
      have := h2 k n (by omega) (by omega) b2
      omega
theorem php_r (hf : PRM n f) (hg : PRM n g) (hj : j < n) (he : ∀ i : Nat, i < j → f i = g i) : ∃ i : Nat, j ≤ i ∧ i < n ∧ g i = f j := by
  have hb := hf.1 j hj
  obtain ⟨i, h1, h2⟩ := php n g hg (f j) hb.1 hb.2
  refine ⟨i, Nat.not_lt.mp fun q => ?_, h1, h2⟩
  have := hf.2 i j (by omega) hj ((he i q).trans h2)
  omega
theorem PRM.cg (hf : PRM n f) (he : ∀ j : Nat, j < n → f j = g j) : PRM n g := ⟨fun k hk => by rw [← he k hk]; exact hf.1 k hk, fun i j hi hj e => hf.2 i j hi hj (by rw [he i hi, he j hj]; exact e)⟩
theorem LXv.ne (he : ∀ j : Nat, j < n → f j = g j) : ¬ LXv n f g := fun ⟨k, a, _, c⟩ => by
  have := he k a
  omega
theorem LXv.as (h1 : LXv n f g) (h2 : LXv n g f) : False := by
  obtain ⟨k, a, b, c⟩ := h1
  obtain ⟨l, a', b', c'⟩ := h2
  rcases Nat.lt_trichotomy k l with q | q | q
  · have := b' k q
    omega
  · subst q
    omega
  · have := b l q
    omega
theorem LXv.tr (h1 : LXv n f g) (h2 : LXv n g h) : LXv n f h := by
  obtain ⟨k, a, b, c⟩ := h1
  obtain ⟨l, a', b', c'⟩ := h2
  rcases Nat.lt_trichotomy k l with q | q | q
  · exact ⟨k, a, fun j hj => (b j hj).trans (b' j (by omega)), by rw [← b' k q]; exact c⟩
  · subst q
    exact ⟨k, a, fun j hj => (b j hj).trans (b' j hj), by omega⟩
  · exact ⟨l, a', fun j hj => (b j (by omega)).trans (b' j hj), by rw [b l q]; exact c'⟩
theorem LXv.cl (h1 : LXv n f h) (he : ∀ j : Nat, j < n → f j = g j) : LXv n g h := by
  obtain ⟨k, a, b, c⟩ := h1
  exact ⟨k, a, fun j hj => by rw [← he j (by omega)]; exact b j hj, by rw [← he k a]; exact c⟩
theorem LXv.cr (h1 : LXv n h f) (he : ∀ j : Nat, j < n → f j = g j) : LXv n h g := by
  obtain ⟨k, a, b, c⟩ := h1
  exact ⟨k, a, fun j hj => by rw [← he j (by omega)]; exact b j hj, by rw [← he k a]; exact c⟩
theorem LXv.tot : ∀ (n : Nat) (f g : Nat → Int), (∀ j : Nat, j < n → f j = g j) ∨ LXv n f g ∨ LXv n g f := by
  intro n f g
  induction n with
  | zero => exact Or.inl (fun j hj => by omega)
  | succ n ih =>
    rcases ih with q | ⟨k, a, b, c⟩ | ⟨k, a, b, c⟩
    · rcases Int.lt_trichotomy (f n) (g n) with p | p | p
      · exact Or.inr (Or.inl ⟨n, by omega, q, p⟩)
      · refine Or.inl fun j hj => ?_
        by_cases e : j = n
        · rw [e]
          exact p
        · exact q j (by omega)
      · exact Or.inr (Or.inr ⟨n, by omega, fun j hj => (q j hj).symm, p⟩)
    · exact Or.inr (Or.inl ⟨k, by omega, b, c⟩)
    · exact Or.inr (Or.inr ⟨k, by omega, b, c⟩)
/-! the best of those that were looked at -/
def FSv (E : PEn) (f : Nat → Int) : Prop := ∀ k : Nat, k < E.1 → ∀ i : Nat, i < 3 → avv E f i k ≤ E.2.2.2.2 i (f k)
def EDv (E : PEn) (f : Nat → Int) : Int := mxv (mxv (dyv E f 0 (E.1 - 1)) (dyv E f 1 (E.1 - 1))) (dyv E f 2 (E.1 - 1))
def BSv (E : PEn) (D : (Nat → Int) → Prop) (e : Int) (b : Nat → Int) : Prop := (e = -1 ∧ ∀ f, PRM E.1 f → D f → ¬ FSv E f) ∨ (e ≠ -1 ∧ PRM E.1 b ∧ D b ∧ FSv E b ∧ e = EDv E b ∧ ∀ f, PRM E.1 f → D f → FSv E f → e < EDv E f ∨ (e = EDv E f ∧ LQv E.1 b f))
theorem FSv.cg (hf : FSv E f) (he : ∀ j : Nat, j < E.1 → f j = g j) : FSv E g := fun k hk i hi => by
  rw [← avv_cg (fun j hj => he j (by omega)), ← he k hk]
  exact hf k hk i hi
theorem EDv.cg (hn : 0 < E.1) (he : ∀ j : Nat, j < E.1 → f j = g j) : EDv E f = EDv E g := by
  unfold EDv
  rw [dyv_cg (i := 0) _ (fun j hj => he j (by omega)), dyv_cg (i := 1) _ (fun j hj => he j (by omega)), dyv_cg (i := 2) _ (fun j hj => he j (by omega))]
theorem BSv.uq {b c : Nat → Int} (hb : BSv E (fun _ => True) e b) (hc : BSv E (fun _ => True) e1 c) : e = e1 ∧ (e ≠ -1 → ∀ j : Nat, j < E.1 → b j = c j) := by
  rcases hb with ⟨h1, h2⟩ | ⟨h1, h2, -, h4, h5, h6⟩
  · rcases hc with ⟨g1, g2⟩ | ⟨g1, g2, -, g4, g5, g6⟩
    · exact ⟨by omega, fun q => absurd h1 q⟩
    · exact absurd g4 (h2 _ g2 trivial)
  · rcases hc with ⟨g1, g2⟩ | ⟨g1, g2, -, g4, g5, g6⟩
    · exact absurd h4 (g2 _ h2 trivial)
    · have p := h6 _ g2 trivial g4
      have p' := g6 _ h2 trivial h4
      have ee : e = e1 := by
        rcases p with p | ⟨p, -⟩
        · rcases p' with p' | ⟨p', -⟩ <;> omega
        · omega
      refine ⟨ee, fun _ => ?_⟩
      have l1 : LQv E.1 b c := by
        rcases p with p | ⟨-, p⟩
        · omega
        · exact p
      have l2 : LQv E.1 c b := by
        rcases p' with p' | ⟨-, p'⟩
        · omega
        · exact p'
      rcases l1 with q | q
      · exact q
      · rcases l2 with r | r
        · exact fun j hj => (r j hj).symm
        · exact (q.as r).elim
theorem BSv.mo {b : Nat → Int} (hb : BSv E D e b) (hd : ∀ f, PRM E.1 f → (D f ↔ D1 f)) : BSv E D1 e b := by
  rcases hb with ⟨h1, h2⟩ | ⟨h1, h2, h3, h4, h5, h6⟩
  · exact Or.inl ⟨h1, fun f pf df => h2 f pf ((hd f pf).mpr df)⟩
  · exact Or.inr ⟨h1, h2, (hd _ h2).mp h3, h4, h5, fun f pf df => h6 f pf ((hd f pf).mpr df)⟩
theorem BSv.nil {b : Nat → Int} (hd : ∀ f, PRM E.1 f → ¬ D f) : BSv E D (-1) b := Or.inl ⟨rfl, fun f pf df => absurd df (hd f pf)⟩
/-- a better one is taken: D, all ahead of c -/
theorem BSv.tk {b b1 : Nat → Int} (hn : 0 < E.1) (hb : BSv E (fun f => LXv E.1 f c) e b) (hc : PRM E.1 c) (hf : FSv E c) (hw : w = EDv E c) (hw1 : w ≠ -1) (hl : e = -1 ∨ w < e) (h1 : ∀ j : Nat, j < E.1 → b1 j = c j) : BSv E (fun f => LQv E.1 f c) w b1 := by
  have h1' : ∀ j : Nat, j < E.1 → c j = b1 j := fun j hj => (h1 j hj).symm
  refine Or.inr ⟨hw1, hc.cg h1', Or.inl h1, hf.cg h1', by rw [hw, EDv.cg hn h1'], fun f pf df ff => ?_⟩
  rcases df with q | q
  · refine Or.inr ⟨?_, Or.inl fun j hj => (h1 j hj).trans (q j hj).symm⟩
    rw [hw, EDv.cg hn q]
  · rcases hb with ⟨g1, g2⟩ | ⟨g1, g2, g3, g4, g5, g6⟩
    · exact absurd ff (g2 f pf q)
    · have p := g6 f pf q ff
      refine Or.inl ?_
      rcases hl with hl | hl
      · exact absurd hl g1
      · rcases p with p | ⟨p, -⟩ <;> omega
/-- it is no better -/
theorem BSv.sk {b : Nat → Int} (hn : 0 < E.1) (hb : BSv E (fun f => LXv E.1 f c) e b) (hw : (w = -1 ∧ ¬ FSv E c) ∨ (w ≠ -1 ∧ w = EDv E c ∧ e ≠ -1 ∧ e ≤ w)) : BSv E (fun f => LQv E.1 f c) e b := by
  rcases hb with ⟨g1, g2⟩ | ⟨g1, g2, g3, g4, g5, g6⟩
  · refine Or.inl ⟨g1, fun f pf df ff => ?_⟩
    rcases df with q | q
    · rcases hw with ⟨-, p⟩ | ⟨-, -, p, -⟩
      · exact p (ff.cg q)
      · exact p g1
    · exact g2 f pf q ff
  · refine Or.inr ⟨g1, g2, Or.inr g3, g4, g5, fun f pf df ff => ?_⟩
    rcases df with q | q
    · rcases hw with ⟨-, p⟩ | ⟨-, p, -, p2⟩
      · exact absurd (ff.cg q) p
      · rw [EDv.cg hn q, ← p]
        by_cases r : e = w
        · exact Or.inr ⟨r, Or.inr (g3.cr fun j hj => (q j hj).symm)⟩
        · exact Or.inl (by omega)
    · exact g6 f pf q ff
/-! the next order -/
def NXP (n : Nat) (c d : Nat → Int) (X : Int) : Prop := PRM n c → (X = 0 ∧ (∀ j : Nat, j < n → d j = c j) ∧ ∀ f, PRM n f → LQv n f c) ∨ (X ≠ 0 ∧ PRM n d ∧ ∀ f, PRM n f → (LXv n f d ↔ LQv n f c))
/-- it falls from a on -/
def DCR (c : Nat → Int) (n a : Nat) : Prop := ∀ j : Nat, a ≤ j → j + 1 < n → c (j + 1) < c j
theorem DCR.lt (hd : DCR c n u) : ∀ l i : Nat, u ≤ i → i < l → l < n → c l < c i := by
  intro l
  induction l with
  | zero => intro i _ h _; omega
  | succ l ih =>
    intro i h1 h2 h3
    have e := hd l (by omega) h3
    by_cases q : i = l
    · rw [q]
      exact e
    · have := ih i h1 (by omega) (by omega)
      omega
theorem nxp_0 (hd : DCR c n 0) (he : ∀ j : Nat, j < n → d j = c j) (hX : X = 0) : NXP n c d X := fun hc => Or.inl ⟨hX, he, fun f pf => by
  rcases LXv.tot n f c with q | q | ⟨k, p1, p2, p3⟩
  · exact Or.inl q
  · exact Or.inr q
  · exfalso
    obtain ⟨i, r1, r2, r3⟩ := php_r pf hc p1 (fun i hi => (p2 i hi).symm)
    by_cases s : k = i
    · rw [s] at p3 r3
      omega
    · have := hd.lt i k (by omega) (by omega) r2
      omega⟩
/-- k and q change places, and what is behind k is turned round -/
theorem nxp_1 (hk : k < q) (hq : q < n) (hd : DCR c n (k + 1)) (hkq : c k < c q) (hlo : ∀ j : Nat, q < j → j < n → c j < c k) (dk : d k = c q) (dl : ∀ j : Nat, j < k → d j = c j) (dr : ∀ j : Nat, k < j → j < n → d j = if n + k - j = q then c k else c (n + k - j)) (hX : X ≠ 0) : NXP n c d X := fun hc => by
  have hdc : ∀ i l : Nat, k < i → i < l → l < n → (if l = q then c k else c l) < if i = q then c k else c i := fun i l h1 h2 h3 => by
    by_cases p : l = q
    · rw [if_pos p, if_neg (by omega)]
      have := hd.lt q i (by omega) (by omega) hq
      omega
    · rw [if_neg p]
      by_cases r : i = q
      · rw [if_pos r]
        exact hlo l (by omega) h3
      · rw [if_neg r]
        exact hd.lt l i (by omega) h2 h3
  have hin : ∀ i l : Nat, k < i → i < l → l < n → d i < d l := fun i l h1 h2 h3 => by
    rw [dr i h1 (by omega), dr l (by omega) h3]
    exact hdc (n + k - l) (n + k - i) (by omega) (by omega) (by omega)
  have hpd : PRM n d := by
    have im : ∀ j : Nat, j < n → ∃ i : Nat, i < n ∧ d j = c i ∧ ((j < k ∧ i = j) ∨ (j = k ∧ i = q) ∨ (k < j ∧ n + k - j = q ∧ i = k) ∨ (k < j ∧ n + k - j ≠ q ∧ i = n + k - j)) := fun j hj => by
      rcases Nat.lt_trichotomy j k with p | p | p
      · exact ⟨j, hj, dl j p, Or.inl ⟨p, rfl⟩⟩
      · exact ⟨q, hq, by rw [p]; exact dk, Or.inr (Or.inl ⟨p, rfl⟩)⟩
      · by_cases r : n + k - j = q
        · exact ⟨k, by omega, by rw [dr j p hj, if_pos r], Or.inr (Or.inr (Or.inl ⟨p, r, rfl⟩))⟩
        · exact ⟨n + k - j, by omega, by rw [dr j p hj, if_neg r], Or.inr (Or.inr (Or.inr ⟨p, r, rfl⟩))⟩
    refine ⟨fun j hj => ?_, fun i j hi hj e => ?_⟩
    · obtain ⟨i, i1, i2, -⟩ := im j hj
      rw [i2]
      exact hc.1 i i1
    · obtain ⟨i', a1, a2, a3⟩ := im i hi
      obtain ⟨j', b1, b2, b3⟩ := im j hj
      have e2 := hc.2 i' j' a1 b1 (by rw [← a2, ← b2]; exact e)
      omega
  have hcd : LXv n c d := ⟨k, by omega, fun j hj => (dl j hj).symm, by rw [dk]; exact hkq⟩
  refine Or.inr ⟨hX, hpd, fun f pf => ⟨fun hl => ?_, fun hl => ?_⟩⟩
  · rcases LXv.tot n f c with p | p | ⟨l, p1, p2, p3⟩
    · exact Or.inl p
    · exact Or.inr p
    · exfalso
      obtain ⟨i, r1, r2, r3⟩ := php_r pf hc p1 (fun i hi => (p2 i hi).symm)
      rcases Nat.lt_trichotomy l k with s | s | s
      · exact LXv.as hl ⟨l, p1, fun j hj => (dl j (by omega)).trans (p2 j hj), by rw [dl l s]; exact p3⟩
      · subst s
        have hik : i ≠ l := fun e => by
          rw [e] at r3
          omega
        have hiq : i ≤ q := Nat.not_lt.mp fun t => by
          have := hlo i t r2
          omega
        by_cases t : i = q
        · have ed : d l = f l := by rw [dk, ← t]; exact r3
          obtain ⟨m, m1, m2, m3⟩ := hl
          have hm : l < m := by
            rcases Nat.lt_trichotomy m l with y | y | y
            · have := p2 m y
              have := dl m y
              omega
            · rw [y] at m3
              omega
            · exact y
          obtain ⟨i2, s1, s2, s3⟩ := php_r pf hpd m1 m2
          by_cases y : m = i2
          · rw [y] at m3 s3
            omega
          · have := hin m i2 hm (by omega) s2
            omega
        · have := hd.lt q i (by omega) (by omega) hq
          exact LXv.as hl ⟨l, p1, fun j hj => (dl j hj).trans (p2 j hj), by rw [dk]; omega⟩
      · by_cases y : l = i
        · rw [y] at p3 r3
          omega
        · have := hd.lt i l (by omega) (by omega) r2
          omega
  · rcases hl with p | p
    · exact hcd.cl fun j hj => (p j hj).symm
    · exact p.tr hcd
/-- no order is ahead of the one that counts up -/
theorem lxv_id (hf : PRM n f) (hc : ∀ j : Nat, j < n → c j = (j : Int)) : ¬ LXv n f c := fun ⟨k, p1, p2, p3⟩ => by
  have b := hf.1 k p1
  rw [hc k p1] at p3
  have e := (p2 (f k).toNat (by omega)).trans (hc (f k).toNat (by omega))
  have := hf.2 (f k).toNat k (by omega) p1 (by omega)
  omega
theorem prm_id (hc : ∀ j : Nat, j < n → c j = (j : Int)) : PRM n c := ⟨fun k hk => by rw [hc k hk]; omega, fun i j hi hj e => by
  rw [hc i hi, hc j hj] at e
  omega⟩
/-! the same of like numbers -/
def ENq (E E1 : PEn) : Prop := E.1 = E1.1 ∧ E.2.1 = E1.2.1 ∧ (∀ x y : Int, 0 ≤ x → x < (E.1 : Int) → 0 ≤ y → y < (E.1 : Int) → E.2.2.1 x y = E1.2.2.1 x y) ∧ ∀ (i : Nat) (x : Int), i < 3 → 0 ≤ x → x < (E.1 : Int) → E.2.2.2.1 i x = E1.2.2.2.1 i x ∧ E.2.2.2.2 i x = E1.2.2.2.2 i x
theorem ENq.sy (hE : ENq E E1) : ENq E1 E := by
  obtain ⟨h1, h2, h3, h4⟩ := hE
  exact ⟨h1.symm, h2.symm, fun x y a b c d => (h3 x y a (by omega) c (by omega)).symm, fun i x a b c => ⟨(h4 i x a b (by omega)).1.symm, (h4 i x a b (by omega)).2.symm⟩⟩
theorem ENq.dy (hE : ENq E E1) (hf : ∀ k : Nat, k < E.1 → 0 ≤ f k ∧ f k < (E.1 : Int)) (hi : i < 3) : ∀ k : Nat, k < E.1 → dyv E f i k = dyv E1 f i k := by
  obtain ⟨h1, h2, h3, h4⟩ := hE
  intro k
  induction k with
  | zero =>
    intro hk
    have b := hf 0 hk
    unfold dyv
    rw [h2, (h4 i (f 0) hi b.1 b.2).1]
  | succ k ih =>
    intro hk
    have b := hf k (by omega)
    have b2 := hf (k + 1) hk
    unfold dyv
    rw [ih (by omega), h3 _ _ b.1 b.2 b2.1 b2.2, (h4 i (f (k + 1)) hi b2.1 b2.2).1]
theorem ENq.av (hE : ENq E E1) (hf : ∀ k : Nat, k < E.1 → 0 ≤ f k ∧ f k < (E.1 : Int)) (hi : i < 3) (hk : k < E.1) : avv E f i k = avv E1 f i k := by
  cases k with
  | zero => exact hE.2.1
  | succ k =>
    have b := hf k (by omega)
    have b2 := hf (k + 1) hk
    show dyv E f i k + E.2.2.1 (f k) (f (k + 1)) = dyv E1 f i k + E1.2.2.1 (f k) (f (k + 1))
    rw [hE.dy hf hi k (by omega), hE.2.2.1 _ _ b.1 b.2 b2.1 b2.2]
theorem ENq.fs (hE : ENq E E1) (hf : PRM E.1 f) (h1 : FSv E f) : FSv E1 f := fun k hk i hi => by
  have hk' : k < E.1 := by rw [hE.1]; exact hk
  have b := hf.1 k hk'
  rw [← hE.av hf.1 hi hk', ← (hE.2.2.2 i (f k) hi b.1 b.2).2]
  exact h1 k hk' i hi
theorem ENq.ed (hE : ENq E E1) (hn : 0 < E.1) (hf : PRM E.1 f) : EDv E f = EDv E1 f := by
  unfold EDv
  rw [← hE.1, hE.dy hf.1 (by decide) _ (by omega), hE.dy hf.1 (by decide) _ (by omega), hE.dy hf.1 (by decide) _ (by omega)]
theorem BSv.en {b : Nat → Int} (hb : BSv E D e b) (hE : ENq E E1) (hn : 0 < E.1) : BSv E1 D e b := by
  have hS := hE.sy
  have e1 := hE.1
  rcases hb with ⟨h1, h2⟩ | ⟨h1, h2, h3, h4, h5, h6⟩
  · exact Or.inl ⟨h1, fun f pf df ff => h2 f (by rw [e1]; exact pf) df (hS.fs pf ff)⟩
  · refine Or.inr ⟨h1, by rw [← e1]; exact h2, h3, hE.fs h2 h4, by rw [← hE.ed hn h2]; exact h5, fun f pf df ff => ?_⟩
    have pf' : PRM E.1 f := by rw [e1]; exact pf
    rw [← hE.ed hn pf', ← e1]
    exact h6 f pf' df (hS.fs pf ff)
end PP
