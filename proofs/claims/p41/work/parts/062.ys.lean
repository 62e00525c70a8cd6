/-! ### what counts for a party on a day: the spec -/
section YS
variable {L : List TXL} {B B' : Nat → Prop} {C C' : Nat → Nat → Prop} {S : Nat → Nat → Prop} {y y' : Nat → Int} {d c a b X Y : Int} {n m i j k u v : Nat}
def clA (L : List TXL) (i : Nat) : List CLT := match L[i]? with
  | some t => t.2.2
  | none => []
theorem clA_at {t : TXL} (h : L[i]? = some t) : clA L i = t.2.2 := by unfold clA; rw [h]
theorem clA_lt {r : CLT} (h : (clA L i)[j]? = some r) : i < L.length := by
  refine Classical.byContradiction fun hn => ?_
  unfold clA at h
  rw [List.getElem?_eq_none (Nat.not_lt.mp hn)] at h
  simp at h
def okC (r : CLT) : Prop := 0 ≤ r.2.1 ∧ 0 ≤ r.2.2.1 ∧ r.2.2.1 ≤ 19 ∧ 0 ≤ r.2.2.2 ∧ r.2.2.2 ≤ 11 ∧ (r.1 ≠ 107 → r.1 ≠ 120 → r.2.2.1 = 0 ∧ r.2.2.2 = 0)
def OKL (L : List TXL) : Prop := ∀ (i j : Nat) (r : CLT), (clA L i)[j]? = some r → okC r
def SKS (L : List TXL) (B : Nat → Prop) (S : Nat → Nat → Prop) (i u v : Nat) : Prop := B i ∧ ∃ (j : Nat) (r : CLT), (clA L i)[j]? = some r ∧ r.1 = 120 ∧ ¬ S i j ∧ r.2.2.1 < (i : Int) ∧ r.2.2.1 = (u : Int) ∧ r.2.2.2 = (v : Int)
/-- what is struck, behind so many texts from the highest down -/
def STK (L : List TXL) (B : Nat → Prop) (n : Nat) : Nat → (Nat → Nat → Prop)
  | 0 => fun _ _ => False
  | k + 1 => fun u v => STK L B n k u v ∨ SKS L B (STK L B n k) (n - 1 - k) u v
theorem stk_up (h : STK L B n k u v) : STK L B n (k + 1) u v := Or.inl h
theorem stk_le (h : k ≤ m) (hs : STK L B n k u v) : STK L B n m u v := by
  induction m with
  | zero =>
    have e : k = 0 := by omega
    subst e
    exact hs
  | succ m ih =>
    by_cases q : k = m + 1
    · subst q; exact hs
    · exact stk_up (ih (by omega))
theorem stk_back (h : k ≤ m) (hm : m ≤ n) (hu : n - 1 - k ≤ u) (hs : STK L B n m u v) : STK L B n k u v := by
  induction m with
  | zero =>
    have e : k = 0 := by omega
    subst e
    exact hs
  | succ m ih =>
    by_cases q : k = m + 1
    · subst q; exact hs
    · rcases hs with hs | ⟨-, j, r, -, -, -, h1, h2, -⟩
      · exact ih (by omega) (by omega) hs
      · exfalso
        omega
theorem stk_iff (h : k ≤ n) (hu : n - 1 - k ≤ u) : STK L B n n u v ↔ STK L B n k u v := ⟨stk_back h (Nat.le_refl _) hu, stk_le h⟩
theorem stk_cong (h : ∀ i, i < n → (B i ↔ B' i)) (hk : k ≤ n) : ∀ u v, STK L B n k u v ↔ STK L B' n k u v := by
  induction k with
  | zero => exact fun u v => Iff.rfl
  | succ k ih =>
    intro u v
    have ih' := ih (by omega)
    have hb := h (n - 1 - k) (by omega)
    constructor
    · rintro (q | ⟨q1, j, r, q2, q3, q4, q5⟩)
      · exact Or.inl ((ih' u v).mp q)
      · exact Or.inr ⟨hb.mp q1, j, r, q2, q3, fun q => q4 ((ih' _ _).mpr q), q5⟩
    · rintro (q | ⟨q1, j, r, q2, q3, q4, q5⟩)
      · exact Or.inl ((ih' u v).mpr q)
      · exact Or.inr ⟨hb.mpr q1, j, r, q2, q3, fun q => q4 ((ih' _ _).mp q), q5⟩
/-- what counts of the texts below n -/
def CNQ (L : List TXL) (B : Nat → Prop) (n i j : Nat) : Prop := i < n ∧ B i ∧ (∃ r, (clA L i)[j]? = some r) ∧ ¬ STK L B n n i j
theorem cnq_cong (h : ∀ i, i < n → (B i ↔ B' i)) : CNQ L B n i j ↔ CNQ L B' n i j := by
  have hs := stk_cong (L := L) h (Nat.le_refl n) i j
  constructor
  · rintro ⟨h1, h2, h3, h4⟩
    exact ⟨h1, (h i h1).mp h2, h3, fun q => h4 (hs.mpr q)⟩
  · rintro ⟨h1, h2, h3, h4⟩
    exact ⟨h1, (h i h1).mpr h2, h3, fun q => h4 (hs.mp q)⟩
/-! a number -/
def MTQ (c a b : Int) (r : CLT) : Prop := r.1 = c ∧ (c = 107 → r.2.2.1 = a ∧ r.2.2.2 = b)
def NUMO (L : List TXL) (C : Nat → Nat → Prop) (c a b : Int) (n : Nat) (i : Int) : Prop := ∀ (u v : Nat) (r : CLT), u < n → i < (u : Int) → (clA L u)[v]? = some r → MTQ c a b r → ¬ C u v
def NUMI (L : List TXL) (C : Nat → Nat → Prop) (c a b : Int) (i : Nat) (j : Int) : Prop := ∀ (v : Nat) (r : CLT), j < (v : Int) → (clA L i)[v]? = some r → MTQ c a b r → ¬ C i v
def NUMS (L : List TXL) (C : Nat → Nat → Prop) (c a b : Int) (n : Nat) (X : Int) : Prop := (∃ (i j : Nat) (r : CLT), i < n ∧ (clA L i)[j]? = some r ∧ MTQ c a b r ∧ C i j ∧ X = r.2.1 ∧ NUMO L C c a b n (i : Int) ∧ NUMI L C c a b i (j : Int)) ∨ (X = -1 ∧ NUMO L C c a b n (-1))
theorem NUMO.beg {z : Int} (h : (n : Int) - 1 ≤ z) : NUMO L C c a b n z := fun u v r hu hi => by
  exfalso
  omega
theorem NUMI.beg {z : Int} (h : ((clA L i).length : Int) - 1 ≤ z) : NUMI L C c a b i z := fun v r hv hr => by
  have := (List.getElem?_eq_some_iff.mp hr).1
  exfalso
  omega
theorem NUMO.step {z w t : Int} (h : NUMO L C c a b n z) (g : NUMI L C c a b z.toNat w) (h0 : 0 ≤ z) (hw : w < 0) (ht : t = z - 1) : NUMO L C c a b n t := fun u v r hu hi hr hm => by
  by_cases q : z < (u : Int)
  · exact h u v r hu q hr hm
  · have e : u = z.toNat := by omega
    subst e
    exact g v r (by omega) hr hm
theorem NUMO.skip {z t : Int} (h : NUMO L C c a b n z) (g : ∀ v, ¬ C z.toNat v) (h0 : 0 ≤ z) (ht : t = z - 1) : NUMO L C c a b n t := fun u v r hu hi hr hm => by
  by_cases q : z < (u : Int)
  · exact h u v r hu q hr hm
  · have e : u = z.toNat := by omega
    subst e
    exact g v
theorem NUMI.step {w t : Int} (h : NUMI L C c a b i w) (h0 : 0 ≤ w) (g : ∀ r, (clA L i)[w.toNat]? = some r → MTQ c a b r → ¬ C i w.toNat) (ht : t = w - 1) : NUMI L C c a b i t := fun v r hv hr hm => by
  by_cases q : w < (v : Int)
  · exact h v r q hr hm
  · have e : v = w.toNat := by omega
    subst e
    exact g r hr hm
theorem NUMS.hit {z w : Int} {r : CLT} (h : NUMO L C c a b n z) (g : NUMI L C c a b z.toNat w) (h0 : 0 ≤ z) (w0 : 0 ≤ w) (hn : z < (n : Int)) (hr : (clA L z.toNat)[w.toNat]? = some r) (hm : MTQ c a b r) (hC : C z.toNat w.toNat) (hX : X = r.2.1) : NUMS L C c a b n X := Or.inl ⟨z.toNat, w.toNat, r, by omega, hr, hm, hC, hX, by rw [Int.toNat_of_nonneg h0]; exact h, by rw [Int.toNat_of_nonneg w0]; exact g⟩
theorem NUMS.none {z : Int} (h : NUMO L C c a b n z) (hz : z < 0) (hX : X = -1) : NUMS L C c a b n X := Or.inr ⟨hX, fun u v r hu hi => h u v r hu (by omega)⟩
theorem NUMS.uniq (h : NUMS L C c a b n X) (g : NUMS L C c a b n Y) : X = Y := by
  rcases h with ⟨i, j, r, h1, h2, h3, h4, h5, h6, h7⟩ | ⟨h1, h2⟩
  · rcases g with ⟨i', j', r', g1, g2, g3, g4, g5, g6, g7⟩ | ⟨g1, g2⟩
    · by_cases q1 : i < i'
      · exact absurd g4 (h6 i' j' r' g1 (by omega) g2 g3)
      · by_cases q2 : i' < i
        · exact absurd h4 (g6 i j r h1 (by omega) h2 h3)
        · have e : i = i' := by omega
          subst e
          by_cases q3 : j < j'
          · exact absurd g4 (h7 j' r' (by omega) g2 g3)
          · by_cases q4 : j' < j
            · exact absurd h4 (g7 j r (by omega) h2 h3)
            · have e2 : j = j' := by omega
              subst e2
              rw [h2] at g2
              cases g2
              rw [h5, g5]
    · exact absurd h4 (g2 i j r h1 (by omega) h2 h3)
  · rcases g with ⟨i', j', r', g1, g2', g3, g4, g5, g6, g7⟩ | ⟨g1, g2⟩
    · exact absurd g4 (h2 i' j' r' g1 (by omega) g2' g3)
    · rw [h1, g1]
theorem NUMS.cong (hC : ∀ i j, C i j ↔ C' i j) (h : NUMS L C c a b n X) : NUMS L C' c a b n X := by
  have e : C = C' := funext fun i => funext fun j => propext (hC i j)
  rw [← e]
  exact h
theorem NUMS.cong2 (hC : ∀ i j, i < n → (C i j ↔ C' i j)) (h : NUMS L C c a b n X) : NUMS L C' c a b n X := by
  have ho : ∀ z, NUMO L C c a b n z → NUMO L C' c a b n z := fun z g u v r hu hz hr hm hc => g u v r hu hz hr hm ((hC u v hu).mpr hc)
  rcases h with ⟨i, j, r, h1, h2, h3, h4, h5, h6, h7⟩ | ⟨h1, h2⟩
  · exact Or.inl ⟨i, j, r, h1, h2, h3, (hC i j h1).mp h4, h5, ho _ h6, fun v r' hv hr hm hc => h7 v r' hv hr hm ((hC i v h1).mpr hc)⟩
  · exact Or.inr ⟨h1, ho _ h2⟩
theorem NUMS.cut (hC : ∀ u v, C u v → u < m) (hm : m ≤ n) (h : NUMS L C c a b n X) : NUMS L C c a b m X := by
  have ho : ∀ z, NUMO L C c a b n z → NUMO L C c a b m z := fun z g u v r hu hz hr hq => g u v r (by omega) hz hr hq
  rcases h with ⟨i, j, r, h1, h2, h3, h4, h5, h6, h7⟩ | ⟨h1, h2⟩
  · exact Or.inl ⟨i, j, r, hC i j h4, h2, h3, h4, h5, ho _ h6, h7⟩
  · exact Or.inr ⟨h1, ho _ h2⟩
theorem NUMS.ge (hO : OKL L) (h : NUMS L C c a b n X) : -1 ≤ X := by
  rcases h with ⟨i, j, r, -, h2, -, -, h5, -, -⟩ | ⟨h1, -⟩
  · have := (hO i j r h2).1
    omega
  · omega
/-! which texts bind -/
def BND (L : List TXL) (y : Nat → Int) (d : Int) (B : Nat → Prop) (n : Nat) : Prop := ∀ i, i < n → (B i ↔ ∃ t, L[i]? = some t ∧ t.1 ≤ d ∧ d ≤ t.2.1 ∧ (i = 0 ∨ (y i ≠ -1 ∧ y i ≤ d ∧ ∀ X, NUMS L (CNQ L B i) 103 0 0 i X → X ≤ d - y i)))
theorem BND.nil : BND L y d B 0 := fun i h => absurd h (Nat.not_lt_zero i)
theorem BND.cong (h : BND L y d B n) (hB : ∀ i, i < n → (B i ↔ B' i)) : BND L y d B' n := fun i hi => by
  have e : (CNQ L B i) = (CNQ L B' i) := funext fun u => funext fun w => propext (cnq_cong (fun q hq => hB q (by omega)))
  rw [← hB i hi, ← e]
  exact h i hi
theorem BND.more (h : BND L y d B n) (g : B n ↔ ∃ t, L[n]? = some t ∧ t.1 ≤ d ∧ d ≤ t.2.1 ∧ (n = 0 ∨ (y n ≠ -1 ∧ y n ≤ d ∧ ∀ X, NUMS L (CNQ L B n) 103 0 0 n X → X ≤ d - y n))) : BND L y d B (n + 1) := fun i hi => by
  by_cases q : i < n
  · exact h i q
  · have e : i = n := by omega
    subst e
    exact g
theorem BND.uniq (h : BND L y d B n) (g : BND L y' d B' n) (hy : ∀ i, i < n → y i = y' i) : ∀ i, i < n → (B i ↔ B' i) := by
  intro i
  induction i using Nat.strongRecOn with
  | ind i ih =>
    intro hi
    have e : (CNQ L B i) = (CNQ L B' i) := funext fun u => funext fun w => propext (cnq_cong (fun q hq => ih q hq (by omega)))
    rw [h i hi, g i hi, e, hy i hi]
/-- what counts, of all texts -/
def CNF (L : List TXL) (y : Nat → Int) (d : Int) (i j : Nat) : Prop := ∃ B, BND L y d B L.length ∧ CNQ L B L.length i j
theorem CNF.iff (h : BND L y d B L.length) : CNF L y d i j ↔ CNQ L B L.length i j := by
  constructor
  · rintro ⟨B', h1, h2⟩
    exact (cnq_cong (BND.uniq h1 h (fun _ _ => rfl))).mp h2
  · exact fun q => ⟨B, h, q⟩
theorem CNF.lt (h : CNF L y d i j) : i < L.length := by
  obtain ⟨B, -, h2⟩ := h
  exact h2.1
/-- as long as the days of yes are alike -/
theorem CNF.yes (hy : ∀ i, i < L.length → y i = y' i) (h : CNF L y d i j) : CNF L y' d i j := by
  obtain ⟨B, h1, h2⟩ := h
  refine ⟨B, fun q hq => ?_, h2⟩
  rw [← hy q hq]
  exact h1 q hq
end YS
/-! ### what a text's clauses are like -/
section YK
variable {src : Nat → Int} {e : Nat}
theorem numL_nn : ∀ (k p : Nat) (n : Int), 0 ≤ n → 0 ≤ (numL src e k p n).2 := by
  intro k
  induction k with
  | zero => intro p n h; exact h
  | succ k ih =>
    intro p n h
    show 0 ≤ (if dgB (rdS src e p) then numL src e k (p + 1) (10 * n + rdS src e p - 48) else (p, n)).2
    by_cases q : dgB (rdS src e p) = true
    · rw [if_pos q]
      have h1 := of_decide_eq_true q
      exact ih _ _ (by omega)
    · rw [if_neg q]
      exact h
theorem numS_rg {most : Int} {p : Nat} {r : Nat × Int} (h : numS src e most p = .ok r) : 0 ≤ r.2 ∧ r.2 ≤ most := by
  have h1 := (num_ok h).2.2
  unfold numS at h
  by_cases h0 : dgB (rdS src e p) = true
  · rw [if_pos h0] at h
    by_cases h2 : dgB (rdS src e (numL src e 6 p 0).1) = true
    · rw [if_pos h2] at h; cases h
    · rw [if_neg h2] at h
      by_cases h3 : most < (numL src e 6 p 0).2
      · rw [if_pos h3] at h; cases h
      · rw [h1]
        exact ⟨numL_nn 6 p 0 (by omega), by omega⟩
  · rw [if_neg h0] at h; cases h
theorem bnn_is {r : Except (Int × Nat) (PS × Int)} {f : PS → Int → PCl} {z : PS × CLT} (h : bnn r f = .ok z) : ∃ q, r = .ok q ∧ f q.1 q.2 = .ok z := by
  cases r with
  | error q => cases h
  | ok q => exact ⟨q, rfl, h⟩
theorem bnc_is {r : PE} {f : PS → PCl} {z : PS × CLT} (h : bnc r f = .ok z) : ∃ q, r = .ok q ∧ f q = .ok z := by
  cases r with
  | error q => cases h
  | ok q => exact ⟨q, rfl, h⟩
theorem numQ_rg {most : Int} {s : PS} {q : PS × Int} (h : numQ src e most s = .ok q) : 0 ≤ q.2 ∧ q.2 ≤ most := by
  unfold numQ at h
  cases h1 : numS src e most s.1 with
  | error z => rw [h1] at h; cases h
  | ok z =>
    rw [h1] at h
    cases h
    exact numS_rg h1
theorem kE_ok {c a b : Int} {s : PS} {z : PS × CLT} (h : kE src e c a b s = .ok z) (h0 : 0 ≤ a ∧ a ≤ 19 ∧ 0 ≤ b ∧ b ≤ 11) (hc : c ≠ 107 → c ≠ 120 → a = 0 ∧ b = 0) : okC z.2 := by
  obtain ⟨q, h1, h2⟩ := bnn_is h
  cases h2
  exact ⟨(numQ_rg h1).1, h0.1, h0.2.1, h0.2.2.1, h0.2.2.2, hc⟩
theorem claG_ok {c : Int} {s : PS} {z : PS × CLT} (h : claG src e c s = .ok z) : okC z.2 := by
  have hz : 0 ≤ (0 : Int) ∧ (0 : Int) ≤ 19 ∧ 0 ≤ (0 : Int) ∧ (0 : Int) ≤ 11 := by decide
  have he : ∀ {s : PS} {z : PS × CLT}, cEnd c 0 0 0 s = .ok z → okC z.2 := fun h => by
    cases h
    exact ⟨Int.le_refl 0, Int.le_refl 0, by show (0 : Int) ≤ 19; decide, Int.le_refl 0, by show (0 : Int) ≤ 11; decide, fun _ _ => ⟨rfl, rfl⟩⟩
  unfold claG at h
  by_cases c1 : c = 107
  · rw [if_pos c1] at h
    obtain ⟨q1, h1, h2⟩ := bnn_is h
    obtain ⟨q2, -, h3⟩ := bnc_is h2
    obtain ⟨q3, h4, h5⟩ := bnn_is h3
    obtain ⟨q4, -, h6⟩ := bnc_is h5
    have r1 := numQ_rg h1
    have r2 := numQ_rg h4
    exact kE_ok h6 ⟨r1.1, by omega, r2.1, by omega⟩ (fun q => absurd c1 q)
  · rw [if_neg c1] at h
    by_cases c2 : c = 120
    · rw [if_pos c2] at h
      obtain ⟨q1, h1, h2⟩ := bnn_is h
      obtain ⟨q2, -, h3⟩ := bnc_is h2
      obtain ⟨q3, h4, h5⟩ := bnn_is h3
      have r1 := numQ_rg h1
      have r2 := numQ_rg h4
      cases h5
      exact ⟨Int.le_refl 0, r1.1, r1.2, r2.1, r2.2, fun _ q => absurd c2 q⟩
    · rw [if_neg c2] at h
      by_cases c3 : c = 102 ∨ c = 108 ∨ c = 99 ∨ c = 110 ∨ c = 115
      · rw [if_pos c3] at h
        obtain ⟨q1, -, h2⟩ := bnc_is h
        unfold gL at h2
        by_cases c4 : c = 110 ∨ c = 115
        · rw [if_pos c4] at h2
          exact kE_ok h2 hz (fun _ _ => ⟨rfl, rfl⟩)
        · rw [if_neg c4] at h2
          exact he h2
      · rw [if_neg c3] at h
        by_cases c5 : c = 97 ∨ c = 113 ∨ c = 103
        · rw [if_pos c5] at h
          exact kE_ok h hz (fun _ _ => ⟨rfl, rfl⟩)
        · rw [if_neg c5] at h
          exact he h
theorem claS_ok {j : Nat} {s : PS} {z : PS × CLT} (h : claS src e j s = .ok z) : okC z.2 := by
  unfold claS at h
  by_cases c1 : isCL (rdS src e s.1) = true
  · rw [if_pos c1] at h
    by_cases c2 : 12 ≤ j
    · rw [if_pos c2] at h; cases h
    · rw [if_neg c2] at h
      exact claG_ok h
  · rw [if_neg c1] at h; cases h
theorem texL_ok : ∀ (k : Nat) (s : PS) (l : List CLT) (z : PS × List CLT), (∀ r, r ∈ l → okC r) → texL src e k s l = .ok z → ∀ r, r ∈ z.2 → okC r := by
  intro k
  induction k with
  | zero => intro s l z hl h; cases h
  | succ k ih =>
    intro s l z hl h
    rw [texL_s] at h
    cases h1 : claS src e l.length s with
    | error q => rw [h1] at h; cases h
    | ok r =>
      rw [h1] at h
      have hl2 : ∀ q, q ∈ l ++ [r.2] → okC q := fun q hq => by
        rcases List.mem_append.mp hq with g | g
        · exact hl q g
        · rw [List.mem_singleton.mp g]
          exact claS_ok h1
      have h' : (if e ≤ r.1.1 then (.ok (r.1, l ++ [r.2]) : PLs) else (match tak src e 59 r.1 with
        | .ok s2 => texL src e k s2 (l ++ [r.2])
        | .error q => .error q)) = .ok z := h
      by_cases c1 : e ≤ r.1.1
      · rw [if_pos c1] at h'
        cases h'
        exact hl2
      · rw [if_neg c1] at h'
        cases h2 : tak src e 59 r.1 with
        | error q => rw [h2] at h'; cases h'
        | ok s2 =>
          rw [h2] at h'
          exact ih s2 _ z hl2 h'
theorem texF_ok {s : PS} {z : PS × List CLT} (h : texF src e s = .ok z) : ∀ r, r ∈ z.2 → okC r := texL_ok 13 s [] z (fun r hr => by simp at hr) h
theorem OKL.nil : OKL [] := fun i j r h => by
  unfold clA at h
  simp at h
theorem OKL.add {L : List TXL} {a b : Int} {l : List CLT} (h : OKL L) (hl : ∀ r, r ∈ l → okC r) : OKL (L ++ [(a, b, l)]) := fun i j r hr => by
  by_cases c : i < L.length
  · refine h i j r ?_
    unfold clA at hr ⊢
    rw [List.getElem?_append_left c] at hr
    exact hr
  · have hi := clA_lt hr
    rw [List.length_append] at hi
    have e1 : i = L.length := by
      have h9 : i < L.length + 1 := hi
      omega
    subst e1
    rw [clA_at (t := (a, b, l)) (by simp)] at hr
    exact hl r (List.mem_of_getElem? hr)
end YK
