/-! ### check(): the tape's numbers against what stations have -/
section Q22
variable {K K0 K1 K2 : Kmap} {V V0 V1 V2 W : Vmap} {x m o q u y : Nat} {k i j n p a b c d z s t N A X Y Z : Int} {P P' : Nat → Prop} {M M' : Int → Int} {D D' f f' : Nat → Int}
/-- four bytes -/
def n4 (f : Nat → Int) (p : Nat) : Nat → Int
  | 0 => 0
  | i + 1 => wor (wshl (n4 f p i) 8) (f (4 * p + i))
theorem n4_eq {p : Nat} (h : ∀ i : Nat, i < 4 → f (4 * p + i) = f' (4 * p + i)) : ∀ i : Nat, i ≤ 4 → n4 f p i = n4 f' p i
  | 0, _ => rfl
  | i + 1, hi => by
    show wor (wshl (n4 f p i) 8) (f (4 * p + i)) = wor (wshl (n4 f' p i) 8) (f' (4 * p + i))
    rw [n4_eq h i (by omega), h i (by omega)]
def numb (f : Nat → Int) (p : Int) : Int := n4 f p.toNat 4
theorem N4.beg (h : i = 0) : (0 : Int) = n4 f p.toNat i.toNat := by
  subst h
  rfl
theorem N4.step (h : n = n4 f p.toNat i.toNat) (hX : X = f (4 * p.toNat + i.toNat)) (i0 : 0 ≤ i) (hj : j = i + 1) (hz : z = wor (wshl n 8) X) : z = n4 f p.toNat j.toNat := by
  have e : j.toNat = i.toNat + 1 := by omega
  have r : n4 f p.toNat (i.toNat + 1) = wor (wshl (n4 f p.toNat i.toNat) 8) (f (4 * p.toNat + i.toNat)) := rfl
  rw [e, r, hz, hX, h]
theorem N4.end (h : n = n4 f p.toNat i.toNat) (hi : i = 4) : n = numb f p := by
  subst hi
  exact h
/-- the class's tape, noughts behind it -/
def ctb (V : Vmap) (x : Nat) : Nat → Int := fun j => if (j : Int) < tpN V x then tpC V x j else 0
theorem ctb_get (hx : K x = some (0, 10)) (hW : WT K V) (g : TG K V (vq V x 17) a 0 X) (ha : a = 4 * p + i) (p0 : 0 ≤ p) (i0 : 0 ≤ i) : X = ctb V x (4 * p.toNat + i.toNat) := by
  obtain ⟨-, -, hT, -⟩ := tp_own hx hW
  have e := g 1 400 (by decide) (by decide) hT
  have w1 : vi V (vq V x 17) 0 = 1 := hT.1
  have n0 : ((4 * p.toNat + i.toNat : Nat) : Int) = a := by omega
  unfold tgv at e
  show X = if ((4 * p.toNat + i.toNat : Nat) : Int) < vi V (vq V x 17) 3 then vi V (vq V (vq V x 17) 2) (4 * p.toNat + i.toNat) else 0
  rw [n0]
  by_cases h : a < vi V (vq V x 17) 3
  · have hc : TIN V (vq V x 17) a 0 := ⟨by omega, h, Int.le_refl 0, by omega⟩
    rw [if_pos hc, w1] at e
    rw [if_pos h, e]
    exact congrArg (vi V (vq V (vq V x 17) 2)) (by omega)
  · have hc : ¬ TIN V (vq V x 17) a 0 := fun r => h r.2.1
    rw [if_neg hc] at e
    rw [if_neg h, e]
theorem N4.mst (h : n = n4 (mtC V m) p.toNat i.toNat) (hz : z = wor (wshl n 8) (wand (vi V (vq V m 29) y) 255)) (hy : y = 4 * p.toNat + i.toNat) (i0 : 0 ≤ i) (hj : j = i + 1) : z = n4 (mtC V m) p.toNat j.toNat := by
  subst hy
  exact N4.step (X := mtC V m (4 * p.toNat + i.toNat)) h rfl i0 hj hz
/-! how far they go -/
def CKP (P : Nat → Prop) (M : Int → Int) (D : Nat → Int) (N : Int) : Nat → Int → Prop
  | 0, c => c = 0
  | k + 1, c => (¬ P k ∧ CKP P M D N k c) ∨ (P k ∧ ∃ d, CKP P M D N k d ∧ c = d + 2 ∧ d < N ∧ M d = (k : Int) ∧ M (d + 1) = D k)
theorem CKP.nil : CKP P M D N 0 0 := by
  show (0 : Int) = 0
  rfl
theorem CKP.s0 (h : ¬ P u) (g : CKP P M D N u c) : CKP P M D N (u + 1) c := Or.inl ⟨h, g⟩
theorem CKP.s1 (h : P u) (g : CKP P M D N u d) (hc : c = d + 2) (h1 : d < N) (h2 : M d = (u : Int)) (h3 : M (d + 1) = D u) : CKP P M D N (u + 1) c := Or.inr ⟨h, d, g, hc, h1, h2, h3⟩
theorem CKP.det : ∀ (u : Nat) (c d : Int), CKP P M D N u c → CKP P M D N u d → c = d
  | 0, c, d, h, g => by
    have h' : c = 0 := h
    have g' : d = 0 := g
    omega
  | u + 1, c, d, h, g => by
    rcases h with ⟨h1, h2⟩ | ⟨h1, a, h2, h3, -⟩
    · rcases g with ⟨-, g2⟩ | ⟨g1, -⟩
      · exact CKP.det u c d h2 g2
      · exact absurd g1 h1
    · rcases g with ⟨g1, -⟩ | ⟨-, b, g2, g3, -⟩
      · exact absurd h1 g1
      · have e := CKP.det u a b h2 g2
        omega
theorem CKP.nn : ∀ (u : Nat) (c : Int), CKP P M D N u c → 0 ≤ c ∧ c % 2 = 0
  | 0, c, h => by
    have h' : c = 0 := h
    omega
  | u + 1, c, h => by
    rcases h with ⟨-, h2⟩ | ⟨-, a, h2, h3, -⟩
    · exact CKP.nn u c h2
    · have e := CKP.nn u a h2
      omega
theorem CKP.pt : ∀ (n : Nat) (c : Int), CKP P M D N n c → u < n → P u → ∃ d, CKP P M D N u d ∧ d < N ∧ M d = (u : Int) ∧ M (d + 1) = D u
  | 0, _, _, hu, _ => absurd hu (Nat.not_lt_zero u)
  | n + 1, c, h, hu, hp => by
    rcases h with ⟨h1, h2⟩ | ⟨h1, a, h2, h3, h4, h5, h6⟩
    · have hne : u ≠ n := fun e => h1 (e ▸ hp)
      exact CKP.pt n c h2 (by omega) hp
    · by_cases e : u = n
      · subst e
        exact ⟨a, h2, h4, h5, h6⟩
      · exact CKP.pt n a h2 (by omega) hp
/-- a number that is not so -/
def CKF (M : Int → Int) (D : Nat → Int) (N : Int) (u : Nat) (c X : Int) : Prop := ((N ≤ c ∨ M c ≠ (u : Int)) ∧ X = c) ∨ (c < N ∧ M c = (u : Int) ∧ M (c + 1) ≠ D u ∧ X = c + 1)
theorem CKF.uniq (h : CKF M D N u c X) (g : CKF M D N u c Y) : X = Y := by
  rcases h with ⟨h1, h2⟩ | ⟨h1, h2, h3, h4⟩
  · rcases g with ⟨-, g2⟩ | ⟨g1, g2, -⟩
    · omega
    · rcases h1 with h1 | h1
      · omega
      · exact absurd g2 h1
  · rcases g with ⟨g1, -⟩ | ⟨-, -, -, g4⟩
    · rcases g1 with g1 | g1
      · omega
      · exact absurd h2 g1
    · omega
def CKA (P : Nat → Prop) (M : Int → Int) (D : Nat → Int) (N : Int) (n : Nat) (X : Int) : Prop := (∃ c, CKP P M D N n c ∧ ((c < N ∧ X = c) ∨ (N ≤ c ∧ X = -1))) ∨ ∃ u c, u < n ∧ P u ∧ CKP P M D N u c ∧ CKF M D N u c X
theorem CKP.nf {n : Nat} (h : CKP P M D N n d) (hu : u < n) (hp : P u) (hc : CKP P M D N u c) (hf : CKF M D N u c X) : False := by
  obtain ⟨e, e1, e2, e3, e4⟩ := CKP.pt n d h hu hp
  have ed := CKP.det u e c e1 hc
  subst ed
  rcases hf with ⟨h1, -⟩ | ⟨-, -, h1, -⟩
  · rcases h1 with h1 | h1
    · omega
    · exact h1 e3
  · exact h1 e4
theorem CKA.uniq {n : Nat} (h : CKA P M D N n X) (g : CKA P M D N n Y) : X = Y := by
  rcases h with ⟨c, h1, h2⟩ | ⟨u, c, h1, h2, h3, h4⟩
  · rcases g with ⟨d, g1, g2⟩ | ⟨w, d, g1, g2, g3, g4⟩
    · have e := CKP.det n c d h1 g1
      omega
    · exact absurd g4 (fun _ => h1.nf g1 g2 g3 g4)
  · rcases g with ⟨d, g1, g2⟩ | ⟨w, d, g1, g2, g3, g4⟩
    · exact absurd h4 (fun _ => g1.nf h1 h2 h3 h4)
    · rcases Nat.lt_trichotomy u w with l | l | l
      · exact absurd h4 (fun _ => g3.nf l h2 h3 h4)
      · subst l
        have e := CKP.det u c d h3 g3
        subst e
        exact h4.uniq g4
      · exact absurd g4 (fun _ => h3.nf l g2 g3 g4)
theorem CKP.to {n : Nat} (hN : N % 2 = 0) (hp : ∀ j : Nat, j < n → (P j ↔ P' j)) (hM : ∀ c : Int, 0 ≤ c → c < N → M c = M' c) (hD : ∀ j : Nat, j < n → P j → D j = D' j) : ∀ (u : Nat) (c : Int), u ≤ n → CKP P M D N u c → CKP P' M' D' N u c
  | 0, c, _, h => by
    have h' : c = 0 := h
    exact h'
  | u + 1, c, hu, h => by
    rcases h with ⟨h1, h2⟩ | ⟨h1, d, h2, h3, h4, h5, h6⟩
    · exact CKP.s0 (fun g => h1 ((hp u (by omega)).mpr g)) (CKP.to hN hp hM hD u c (by omega) h2)
    · have e := CKP.nn u d h2
      refine CKP.s1 ((hp u (by omega)).mp h1) (CKP.to hN hp hM hD u d (by omega) h2) h3 h4 ?_ ?_
      · rw [← hM d e.1 h4]
        exact h5
      · rw [← hM (d + 1) (by omega) (by omega), ← hD u (by omega) h1]
        exact h6
theorem CKA.to {n : Nat} (h : CKA P M D N n X) (hN : N % 2 = 0) (hp : ∀ j : Nat, j < n → (P j ↔ P' j)) (hM : ∀ c : Int, 0 ≤ c → c < N → M c = M' c) (hD : ∀ j : Nat, j < n → P j → D j = D' j) : CKA P' M' D' N n X := by
  rcases h with ⟨c, h1, h2⟩ | ⟨u, c, h1, h2, h3, h4⟩
  · exact Or.inl ⟨c, CKP.to hN hp hM hD n c (Nat.le_refl n) h1, h2⟩
  · have e := CKP.nn u c h3
    refine Or.inr ⟨u, c, h1, (hp u h1).mp h2, CKP.to hN hp hM hD u c (by omega) h3, ?_⟩
    rcases h4 with ⟨h5, h6⟩ | ⟨h5, h6, h7, h8⟩
    · refine Or.inl ⟨?_, h6⟩
      by_cases hc : c < N
      · refine Or.inr ?_
        rw [← hM c e.1 hc]
        rcases h5 with h5 | h5
        · omega
        · exact h5
      · exact Or.inl (by omega)
    · refine Or.inr ⟨h5, ?_, ?_, h8⟩
      · rw [← hM c e.1 h5]
        exact h6
      · rw [← hM (c + 1) (by omega) (by omega), ← hD u h1 h2]
        exact h7
/-! the class's -/
def SNn (V : Vmap) (x u : Nat) : Prop := STN V x (u : Int)
theorem SNn.of (h : STN V x k) (k0 : 0 ≤ k) : SNn V x k.toNat := by
  have e : ((k.toNat : Nat) : Int) = k := by omega
  unfold SNn
  rw [e]
  exact h
theorem SNn.to (h : SNn V x k.toNat) (k0 : 0 ≤ k) : STN V x k := by
  have e : ((k.toNat : Nat) : Int) = k := by omega
  unfold SNn at h
  rw [e] at h
  exact h
def cdr (V : Vmap) (x k : Nat) : Int := wr (vi V (plO V x k) 7 + vi V (plO V x k) 8)
def FWI (V : Vmap) (x : Nat) (N k c : Int) : Prop := NN 6 5 V x → CKP (SNn V x) (numb (ctb V x)) (cdr V x) N k.toNat c
def FWC (V : Vmap) (x : Nat) (N X : Int) : Prop := NN 6 5 V x → CKA (SNn V x) (numb (ctb V x)) (cdr V x) N (vi V x 6).toNat X
theorem FWI.beg : FWI V x N 0 0 := fun _ => CKP.nil
theorem FWI.skip (h : FWI V x N k c) (g : NN 6 5 V x → ¬ STN V x k) (k0 : 0 ≤ k) (hj : j = k + 1) : FWI V x N j c := fun hN => by
  have e : j.toNat = k.toNat + 1 := by omega
  rw [e]
  exact CKP.s0 (fun q => g hN (SNn.to q k0)) (h hN)
theorem FWI.step (h : FWI V x N k c) (g : o = plO V x k.toNat ∧ STN V x k) (k0 : 0 ≤ k) (hc : c < N) (e1 : X = numb (ctb V x) c) (hX : X = k) (e2 : Y = numb (ctb V x) a) (ha : a = c + 1) (hz : Z = wr (vi V o 7 + vi V o 8)) (hY : Y = Z) (hj : j = k + 1) (hb : b = c + 2) : FWI V x N j b := fun hN => by
  have e : j.toNat = k.toNat + 1 := by omega
  rw [e]
  subst ha
  refine CKP.s1 (SNn.of g.2 k0) (h hN) hb hc ?_ ?_
  · rw [← e1]
    omega
  · have r : cdr V x k.toNat = wr (vi V (plO V x k.toNat) 7 + vi V (plO V x k.toNat) 8) := rfl
    rw [r, ← e2, hY, hz, g.1]
theorem FWC.f1 (h : FWI V x N k c) (g : o = plO V x k.toNat ∧ STN V x k) (k0 : 0 ≤ k) (k1 : k < vi V x 6) (hc : N ≤ c) (hX : X = c) : FWC V x N X := fun hN => Or.inr ⟨k.toNat, c, by omega, SNn.of g.2 k0, h hN, Or.inl ⟨Or.inl hc, hX⟩⟩
theorem FWC.f2 (h : FWI V x N k c) (g : o = plO V x k.toNat ∧ STN V x k) (k0 : 0 ≤ k) (k1 : k < vi V x 6) (e1 : Y = numb (ctb V x) c) (hY : Y ≠ k) (hX : X = c) : FWC V x N X := fun hN => Or.inr ⟨k.toNat, c, by omega, SNn.of g.2 k0, h hN, Or.inl ⟨Or.inr (by rw [← e1]; omega), hX⟩⟩
theorem FWC.f3 (h : FWI V x N k c) (g : o = plO V x k.toNat ∧ STN V x k) (k0 : 0 ≤ k) (k1 : k < vi V x 6) (hc : c < N) (e1 : Y = numb (ctb V x) c) (hY : Y = k) (e2 : A = numb (ctb V x) a) (ha : a = c + 1) (hz : Z = wr (vi V o 7 + vi V o 8)) (hA : A ≠ Z) (hX : X = c + 1) : FWC V x N X := fun hN => by
  subst ha
  refine Or.inr ⟨k.toNat, c, by omega, SNn.of g.2 k0, h hN, Or.inr ⟨hc, ?_, ?_, hX⟩⟩
  · rw [← e1]
    omega
  · rw [← e2]
    rw [hz, g.1] at hA
    exact hA
theorem FWC.end (h : FWI V x N k c) (hk : k.toNat = (vi V x 6).toNat) (hX : (c < N ∧ X = c) ∨ (N ≤ c ∧ X = -1)) : FWC V x N X := fun hN => by
  show CKA (SNn V x) (numb (ctb V x)) (cdr V x) N (vi V x 6).toNat X
  rw [← hk]
  exact Or.inl ⟨c, h hN, hX⟩
def CKX (V : Vmap) (x : Nat) (n X : Int) : Prop := (X = -2 ∧ (n < 0 ∨ tpN V x < 8 * n)) ∨ (0 ≤ n ∧ 8 * n ≤ tpN V x ∧ FWC V x (2 * n) X)
theorem CKX.no (h : n < 0 ∨ tpN V x < 8 * n) (hX : X = -2) : CKX V x n X := Or.inl ⟨hX, h⟩
theorem CKX.ok (h0 : 0 ≤ n) (h8 : 8 * n ≤ tpN V x) (f : FWC V x N X) (hN : N = 2 * n) (hY : Y = X) : CKX V x n Y := by
  subst hN hY
  exact Or.inr ⟨h0, h8, f⟩
/-! the reference's -/
def MNn (V : Vmap) (m u : Nat) : Prop := MSN V m (u : Int)
theorem MNn.of (h : MSN V m k) (k0 : 0 ≤ k) : MNn V m k.toNat := by
  have e : ((k.toNat : Nat) : Int) = k := by omega
  unfold MNn
  rw [e]
  exact h
theorem MNn.to (h : MNn V m k.toNat) (k0 : 0 ≤ k) : MSN V m k := by
  have e : ((k.toNat : Nat) : Int) = k := by omega
  unfold MNn at h
  rw [e] at h
  exact h
def mdr (V : Vmap) (m k : Nat) : Int := wr (ar 20 V m k + ar 21 V m k)
def MWI (V : Vmap) (m : Nat) (N k c : Int) : Prop := CKP (MNn V m) (numb (mtC V m)) (mdr V m) N k.toNat c
theorem MWI.beg : MWI V m N 0 0 := CKP.nil
theorem MWI.skip (h : MWI V m N k c) (g : Y ≠ 0 ↔ MSN V m k) (hY : Y = 0) (k0 : 0 ≤ k) (hj : j = k + 1) : MWI V m N j c := by
  have e : j.toNat = k.toNat + 1 := by omega
  unfold MWI
  rw [e]
  exact CKP.s0 (fun q => g.mpr (MNn.to q k0) hY) h
theorem MWI.step (h : MWI V m N k c) (g : Y ≠ 0 ↔ MSN V m k) (hY : Y ≠ 0) (k0 : 0 ≤ k) (hc : c < N) (e1 : X = numb (mtC V m) c) (hX : X = k) (e2 : A = numb (mtC V m) a) (ha : a = c + 1) (hz : Z = wr (vi V (vq V m 20) k.toNat + vi V (vq V m 21) k.toNat)) (hA : A = Z) (hj : j = k + 1) (hb : b = c + 2) : MWI V m N j b := by
  have e : j.toNat = k.toNat + 1 := by omega
  unfold MWI
  rw [e]
  subst ha
  refine CKP.s1 (MNn.of (g.mp hY) k0) h hb hc ?_ ?_
  · rw [← e1]
    omega
  · have r : mdr V m k.toNat = wr (vi V (vq V m 20) k.toNat + vi V (vq V m 21) k.toNat) := rfl
    rw [r, ← e2, hA, hz]
def MCX (V0 V : Vmap) (m : Nat) (n X : Int) : Prop := (X = -2 ∧ (n < 0 ∨ vi V0 m 30 < 8 * n)) ∨ (0 ≤ n ∧ 8 * n ≤ vi V0 m 30 ∧ CKA (MNn V m) (numb (mtC V m)) (mdr V m) (2 * n) (vi V m 10).toNat X)
theorem MCX.no (h : n < 0 ∨ vi V0 m 30 < 8 * n) (hX : X = -2) : MCX V0 V m n X := Or.inl ⟨hX, h⟩
theorem MCX.f1 (h : MWI V m (2 * n) k c) (n0 : 0 ≤ n) (n8 : 8 * n ≤ vi V0 m 30) (g : Y ≠ 0 ↔ MSN V m k) (hY : Y ≠ 0) (k0 : 0 ≤ k) (k1 : k < vi V m 10) (hc : 2 * n ≤ c) (hX : X = c) : MCX V0 V m n X := Or.inr ⟨n0, n8, Or.inr ⟨k.toNat, c, by omega, MNn.of (g.mp hY) k0, h, Or.inl ⟨Or.inl hc, hX⟩⟩⟩
theorem MCX.f2 (h : MWI V m (2 * n) k c) (n0 : 0 ≤ n) (n8 : 8 * n ≤ vi V0 m 30) (g : Y ≠ 0 ↔ MSN V m k) (hY : Y ≠ 0) (k0 : 0 ≤ k) (k1 : k < vi V m 10) (e1 : Z = numb (mtC V m) c) (hZ : Z ≠ k) (hX : X = c) : MCX V0 V m n X := Or.inr ⟨n0, n8, Or.inr ⟨k.toNat, c, by omega, MNn.of (g.mp hY) k0, h, Or.inl ⟨Or.inr (by rw [← e1]; omega), hX⟩⟩⟩
theorem MCX.f3 (h : MWI V m (2 * n) k c) (n0 : 0 ≤ n) (n8 : 8 * n ≤ vi V0 m 30) (g : Y ≠ 0 ↔ MSN V m k) (hY : Y ≠ 0) (k0 : 0 ≤ k) (k1 : k < vi V m 10) (hc : c < 2 * n) (e1 : b = numb (mtC V m) c) (hb : b = k) (e2 : A = numb (mtC V m) a) (ha : a = c + 1) (hz : Z = wr (vi V (vq V m 20) k.toNat + vi V (vq V m 21) k.toNat)) (hA : A ≠ Z) (hX : X = c + 1) : MCX V0 V m n X := by
  subst ha
  refine Or.inr ⟨n0, n8, Or.inr ⟨k.toNat, c, by omega, MNn.of (g.mp hY) k0, h, Or.inr ⟨hc, ?_, ?_, hX⟩⟩⟩
  · rw [← e1]
    omega
  · rw [← e2]
    rw [hz] at hA
    exact hA
theorem MCX.end (h : MWI V m (2 * n) k c) (n0 : 0 ≤ n) (n8 : 8 * n ≤ vi V0 m 30) (hk : k = vi V m 10) (hX : (c < 2 * n ∧ X = c) ∨ (2 * n ≤ c ∧ X = -1)) : MCX V0 V m n X := by
  subst hk
  exact Or.inr ⟨n0, n8, Or.inl ⟨c, h, hX⟩⟩
/-! both sides' -/
def tcbits (ws : Nat) : Bool := [keyK (0, 11) 29, abase + 32].all fun b => !ws.testBit b
theorem mt_fr {ws : Nat} (hF : FR ws K V K1 V1) (hE : ext K K1) (hW : WT K V) (hm : K m = some (0, 11)) (hb : tcbits ws = true) : mtC V1 m = mtC V m := by
  simp only [tcbits, List.all_cons, List.all_nil, Bool.and_true, Bool.and_eq_true, Bool.not_eq_true'] at hb
  obtain ⟨b29, a32⟩ := hb
  obtain ⟨N, hN⟩ := (hW.ref hm (j := 29) (Nat.le_of_ble_eq_true rfl) rfl).2
  have r : vq V1 m 29 = vq V m 29 := vq_eq (hF _ _ 29 hm (hE.obj (Or.inl (by decide)) hm) b29)
  funext y
  unfold mtC
  rw [r, vi_frA hF hN (hE.arr hN) a32]
theorem MSN.iff (g : MPS V V1 m) (e : ar 28 V1 m = ar 28 V m) : MSN V m k ↔ MSN V1 m k := by
  unfold MSN MPK
  rw [g.1, g.2.2.1, e]
theorem STO.check {w1 w2 : Nat} (h : STO K V x m) (hP : PLE V x m) (hT : TPR V x m) (hm : K m = some (0, 11)) (hW : WT K V) (hW1 : WT K1 V1) (hE1 : ext K K1) (hF1 : FR w1 K V K1 V1) (hE2 : ext K1 K2) (hF2 : FR w2 K1 V1 K2 V2) (f : CKX V x n X) (g : MCX V1 V2 m n Y) (b1 : mpbits w1 = true) (b2 : mvbits w1 = true) (b3 : smbits w1 = true) (b4 : nebits w1 = true) (b5 : mttbits w1 = true) (c1 : mpbits w2 = true) (c3 : smbits w2 = true) (c4 : nebits w2 = true) (c5 : tcbits w2 = true) : X = Y := by
  have hm1 := hE1.obj (Or.inl (by decide)) hm
  have ms := MTSame.fr hF1 hE1 hW hm b5
  have et := hT.1
  have e30 := ms.1
  rcases f with ⟨f1, f2⟩ | ⟨f1, f2, f3⟩
  · rcases g with ⟨g1, g2⟩ | ⟨g1, g2, -⟩
    · rw [f1, g1]
    · exfalso
      omega
  · rcases g with ⟨g1, g2⟩ | ⟨g1, g2, g3⟩
    · exfalso
      omega
    · have gm1 := MPS.fr hF1 hE1 hW hm b1
      have gm2 := MPS.fr hF2 hE2 hW1 hm1 c1
      have n10 : vi V2 m 10 = vi V x 6 := gm2.1.trans (gm1.1.trans hP.2.2.2.2.2.1.symm)
      have er : rst V2 m = rst V m := (rs_same hF2 hE2 hW1 hm1 c3 c4).1.trans (rs_same hF1 hE1 hW hm b3 b4).1
      have e28 := (ne_fr hF2 hE2 hW1 hm1 c4).1
      have hst : ∀ u : Nat, SNn V x u ↔ MNn V2 m u := fun u => (hP.stn hF1 hE1 hW hm b1 b2).trans (MSN.iff gm2 e28)
      have em : mtC V2 m = mtC V1 m := mt_fr hF2 hE2 hW1 hm1 c5
      rw [n10] at g3
      refine CKA.uniq (CKA.to (f3 hP.1.1) (by omega) (fun u _ => hst u) (fun c h0 h1 => ?_) (fun u hu hs => ?_)) g3
      · refine n4_eq (fun i hi => ?_) 4 (Nat.le_refl 4)
        have hl : ((4 * c.toNat + i : Nat) : Int) < tpN V x := by omega
        rw [em, ms.2, ← hT.2 _ hl]
        exact if_pos hl
      · obtain ⟨⟨z0, z1, z2⟩, -⟩ := hs
        have r : stv V (plO V x u) = rst V2 m u := (h.2.1 u z1 z2).trans (congrFun er u).symm
        have r7 := congrFun r 7
        have r8 := congrFun r 8
        have s7 : stv V (plO V x u) 7 = vi V (plO V x u) 7 := stv_f (by decide) (by decide)
        have s8 : stv V (plO V x u) 8 = vi V (plO V x u) 8 := stv_f (by decide) (by decide)
        have r7' : vi V (plO V x u) 7 = ar 20 V2 m u := s7.symm.trans (r7.trans rst_at.2.2.1)
        have r8' : vi V (plO V x u) 8 = ar 21 V2 m u := s8.symm.trans (r8.trans rst_at.2.2.2.1)
        unfold cdr mdr
        rw [r7', r8']
end Q22
