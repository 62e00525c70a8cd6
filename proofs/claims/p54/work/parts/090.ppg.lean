/-! ### a season's voyage: the reference's -/
section PPG
variable {K K1 K2 : Kmap} {V V0 V1 V2 V3 W W1 W2 W3 U : Vmap} {x m : Nat} {a b c d e g i k l n p t u w y z v X Y Z T S A C O F : Int} {D : (Nat → Int) → Prop} {E : PEn} {f : Nat → Int}
/-- numbers that are not too large -/
def EOK (E : PEn) : Prop := 0 ≤ E.2.1 ∧ E.2.1 ≤ 449 ∧ (∀ a b : Int, 0 ≤ a → a < (E.1 : Int) → 0 ≤ b → b < (E.1 : Int) → 0 ≤ E.2.2.1 a b ∧ E.2.2.1 a b ≤ 72) ∧ ∀ (i : Nat) (a : Int), i < 3 → 0 ≤ a → a < (E.1 : Int) → 0 ≤ E.2.2.2.1 i a ∧ E.2.2.2.1 i a ≤ 359
theorem EOK.rg {j : Nat} (q : EOK E) (hj : j < 3) : ∀ k : Nat, (∀ u : Nat, u ≤ k → 0 ≤ f u ∧ f u < (E.1 : Int)) → 0 ≤ dyv E f j k ∧ dyv E f j k ≤ 449 + 72 * (k : Int) := by
  obtain ⟨h3, h4, h1, h5⟩ := q
  intro k
  induction k with
  | zero =>
    intro hf
    have b := h5 j (f 0) hj (hf 0 (by omega)).1 (hf 0 (by omega)).2
    have c1 : 0 ≤ mxv E.2.1 (E.2.2.2.1 j (f 0)) := Int.le_trans h3 mxv_l
    have c2 : mxv E.2.1 (E.2.2.2.1 j (f 0)) ≤ 449 := mxv_le h4 (by omega)
    show 0 ≤ mxv E.2.1 (E.2.2.2.1 j (f 0)) ∧ mxv E.2.1 (E.2.2.2.1 j (f 0)) ≤ 449 + 72 * ((0 : Nat) : Int)
    omega
  | succ k ih =>
    intro hf
    have h := ih (fun u hu => hf u (by omega))
    have b := h5 j (f (k + 1)) hj (hf (k + 1) (by omega)).1 (hf (k + 1) (by omega)).2
    have b2 := h1 (f k) (f (k + 1)) (hf k (by omega)).1 (hf k (by omega)).2 (hf (k + 1) (by omega)).1 (hf (k + 1) (by omega)).2
    have c1 : 0 ≤ mxv (dyv E f j k + E.2.2.1 (f k) (f (k + 1))) (E.2.2.2.1 j (f (k + 1))) := Int.le_trans (by omega) mxv_l
    have c2 : mxv (dyv E f j k + E.2.2.1 (f k) (f (k + 1))) (E.2.2.2.1 j (f (k + 1))) ≤ 449 + 72 * ((k + 1 : Nat) : Int) := mxv_le (by omega) (by omega)
    exact ⟨c1, c2⟩
def mcl (V : Vmap) (m : Nat) (a : Int) : Int := ar 15 V m (ar 139 V m a.toNat).toNat
def LGM (V : Vmap) (m : Nat) (a b : Int) : Int := 2 * FDv (vi V m 0) (mcl V m a) (mcl V m b)
def msn (V : Vmap) (m : Nat) : Nat := (vi V m 137).toNat
def PEM (V : Vmap) (m : Nat) (S : Int) : PEn := (msn V m, S, LGM V m, fun i a => ar 141 V m (8 * i + a.toNat), fun i a => ar 142 V m (8 * i + a.toNat))
theorem mr_at {T N : Nat} (hW : WT K V) (hm : K m = some (0, 11)) (j : Nat) (h1 : Nat.ble (j + 1) (szK (0, 11)) = true) (h2 : fT (0, 11) j = (1, T + 1, 0, 0, 0)) (hl : lentab.getD T 0 = N) (hL : N ≠ 0) : K (vq V m j) = some (T + 1, N) := row_n hW hm h1 h2 hl hL
theorem msn_8 (hW : WT K V) (hm : K m = some (0, 11)) : msn V m ≤ 8 ∧ ((msn V m : Nat) : Int) = vi V m 137 := by
  have := (hW.int hm (j := 137) (Nat.le_of_ble_eq_true rfl) rfl).2
  unfold msn
  omega
def OBM (V : Vmap) (m : Nat) (S : Int) : Prop := 0 ≤ S ∧ S ≤ 449 ∧ ∀ (i : Nat) (a : Int), i < 3 → 0 ≤ a → a < (msn V m : Int) → 0 ≤ ar 141 V m (8 * i + a.toNat) ∧ ar 141 V m (8 * i + a.toNat) ≤ 359
theorem mcl_rg (hW : WT K V) (hm : K m = some (0, 11)) (a0 : 0 ≤ a) (a8 : a < 8) : 0 ≤ mcl V m a ∧ mcl V m a ≤ 143 := by
  have h1 := mr_at hW hm 139 rfl rfl rfl (by decide) (T := 111) (N := 8)
  have h2 := mr_at hW hm 15 rfl rfl rfl (by decide) (T := 17) (N := 60)
  have b1 := (hW.int h1 (j := a.toNat) (show a.toNat < 8 by omega) rfl).2
  have b2 := (hW.int h2 (j := (ar 139 V m a.toNat).toNat) (show (ar 139 V m a.toNat).toNat < 60 by unfold ar; omega) rfl).2
  exact b2
theorem OBM.ok (q : OBM V m S) (hW : WT K V) (hm : K m = some (0, 11)) : EOK (PEM V m S) := by
  obtain ⟨n8, en⟩ := msn_8 hW hm
  have w0 := (hW.int hm (j := 0) (Nat.le_of_ble_eq_true rfl) rfl).2
  refine ⟨q.1, q.2.1, fun a b a0 a1 b0 b1 => ?_, q.2.2⟩
  have a1' : a < (msn V m : Int) := a1
  have b1' : b < (msn V m : Int) := b1
  have r1 := mcl_rg hW hm a0 (by omega)
  have r2 := mcl_rg hW hm b0 (by omega)
  have := FDv_rng r1.1 r1.2 r2.1 r2.2 w0.1 w0.2
  show 0 ≤ 2 * FDv (vi V m 0) (mcl V m a) (mcl V m b) ∧ 2 * FDv (vi V m 0) (mcl V m a) (mcl V m b) ≤ 72
  omega
/-! the end in one ice -/
def EOS (V : Vmap) (m : Nat) (i S X : Int) : Prop := PRM (msn V m) (ar 143 V m) → OBM V m S → 1 ≤ msn V m → (X = -1 ∧ ∃ k : Nat, k < msn V m ∧ (PEM V m S).2.2.2.2 i.toNat (ar 143 V m k) < avv (PEM V m S) (ar 143 V m) i.toNat k) ∨ (X = dyv (PEM V m S) (ar 143 V m) i.toNat (msn V m - 1) ∧ ∀ k : Nat, k < msn V m → avv (PEM V m S) (ar 143 V m) i.toNat k ≤ (PEM V m S).2.2.2.2 i.toNat (ar 143 V m k))
def EOI (V : Vmap) (m : Nat) (i S d k : Int) : Prop := 0 ≤ k ∧ k ≤ vi V m 137 ∧ (PRM (msn V m) (ar 143 V m) → OBM V m S → (k = 0 → d = S) ∧ (0 < k → d = dyv (PEM V m S) (ar 143 V m) i.toNat (k.toNat - 1)) ∧ ∀ j : Nat, (j : Int) < k → avv (PEM V m S) (ar 143 V m) i.toNat j ≤ (PEM V m S).2.2.2.2 i.toNat (ar 143 V m j))
theorem EOI.beg (hW : WT K V) (hm : K m = some (0, 11)) : EOI V m i S S 0 := ⟨by omega, ((hW.int hm (j := 137) (Nat.le_of_ble_eq_true rfl) rfl).2).1, fun _ _ => ⟨fun _ => rfl, fun q => by omega, fun j hj => by omega⟩⟩
/-- A: the arrival at k -/
def EOA (V : Vmap) (m : Nat) (i S k A : Int) : Prop := PRM (msn V m) (ar 143 V m) → OBM V m S → A = avv (PEM V m S) (ar 143 V m) i.toNat k.toNat
theorem EOI.a0 (q : EOI V m i S d k) (hk : k ≤ 0) : EOA V m i S k d := fun h1 h2 => by
  obtain ⟨q0, -, q1⟩ := q
  have ek : k = 0 := by omega
  rw [(q1 h1 h2).1 ek, ek]
  rfl
theorem EOI.a1 {o1 o2 : Int} (q : EOI V m i S d k) (hW : WT K V) (hm : K m = some (0, 11)) (hk : 0 < k) (hk2 : k < vi V m 137) (i0 : 0 ≤ i) (i2 : i ≤ 2) (h1 : o1 = ar 143 V m (k - 1).toNat) (h2 : o2 = ar 143 V m k.toNat) (hF : FDC (vi V m 0) (ar 15 V m (ar 139 V m o1.toNat).toNat) (ar 15 V m (ar 139 V m o2.toNat).toNat) F) (hz : ir (2 * F) → z = 2 * F) (hA : ir (d + z) → A = d + z) : EOA V m i S k A := fun g1 g2 => by
  obtain ⟨q0, -, q1⟩ := q
  obtain ⟨-, q2, q3⟩ := q1 g1 g2
  obtain ⟨n8, en⟩ := msn_8 hW hm
  have w0 := (hW.int hm (j := 0) (Nat.le_of_ble_eq_true rfl) rfl).2
  have b1 := g1.1 (k - 1).toNat (by omega)
  have b2 := g1.1 k.toNat (by omega)
  rw [← h1] at b1
  rw [← h2] at b2
  have r1 := mcl_rg hW hm b1.1 (by omega)
  have r2 := mcl_rg hW hm b2.1 (by omega)
  have eF := hF r1.1 r1.2 r2.1 r2.2 w0.1 w0.2
  have rF := FDv_rng r1.1 r1.2 r2.1 r2.2 w0.1 w0.2
  have eF' : F = FDv (vi V m 0) (mcl V m o1) (mcl V m o2) := eF
  rw [← eF'] at rF
  have ez := hz ⟨by omega, by omega⟩
  have ed := q2 hk
  have rd := EOK.rg (g2.ok hW hm) (show i.toNat < 3 by omega) (f := ar 143 V m) (k.toNat - 1) (fun u hu => g1.1 u (by omega))
  rw [← ed] at rd
  have eA := hA ⟨by omega, by omega⟩
  obtain ⟨k', hk'⟩ : ∃ k' : Nat, k.toNat = k' + 1 := ⟨k.toNat - 1, by omega⟩
  rw [hk'] at h2 ed ⊢
  rw [show (k - 1).toNat = k' by omega] at h1
  rw [show k' + 1 - 1 = k' by omega] at ed
  show A = dyv (PEM V m S) (ar 143 V m) i.toNat k' + LGM V m (ar 143 V m k') (ar 143 V m (k' + 1))
  unfold LGM
  rw [← h1, ← h2, ← eF', ← ed, eA, ez]
theorem EOS.bad {o1 : Int} {j : Nat} (ha : EOA V m i S k A) (k0 : 0 ≤ k) (hk : k < vi V m 137) (hW : WT K V) (hm : K m = some (0, 11)) (i0 : 0 ≤ i) (h1 : o1 = ar 143 V m k.toNat) (hj : (j : Int) = 8 * i + o1) (hl : vi V (vq V m 142) j < A) (hX : X = -1) : EOS V m i S X := fun g1 g2 _ => by
  obtain ⟨n8, en⟩ := msn_8 hW hm
  have b1 := g1.1 k.toNat (by omega)
  rw [← h1] at b1
  refine Or.inl ⟨hX, k.toNat, by omega, ?_⟩
  rw [← ha g1 g2, ← h1]
  show ar 142 V m (8 * i.toNat + o1.toNat) < A
  rw [show 8 * i.toNat + o1.toNat = j by omega]
  exact hl
theorem EOI.step {o1 : Int} {j : Nat} (q : EOI V m i S d k) (ha : EOA V m i S k A) (hk : k < vi V m 137) (hW : WT K V) (hm : K m = some (0, 11)) (i0 : 0 ≤ i) (h1 : o1 = ar 143 V m k.toNat) (hj : (j : Int) = 8 * i + o1) (hl : A ≤ vi V (vq V m 142) j) (hd : (e = A ∧ vi V (vq V m 141) j ≤ A) ∨ (e = vi V (vq V m 141) j ∧ A ≤ vi V (vq V m 141) j)) (hn : n = k + 1) : EOI V m i S e n := by
  obtain ⟨q0, q9, q1⟩ := q
  refine ⟨by omega, by omega, fun g1 g2 => ?_⟩
  obtain ⟨-, q2, q3⟩ := q1 g1 g2
  obtain ⟨n8, en⟩ := msn_8 hW hm
  have b1 := g1.1 k.toNat (by omega)
  rw [← h1] at b1
  have eA := ha g1 g2
  have ej : 8 * i.toNat + o1.toNat = j := by omega
  refine ⟨fun q => by omega, fun _ => ?_, fun u hu => ?_⟩
  · rw [show n.toNat - 1 = k.toNat by omega, dyv_avv, ← eA, ← h1]
    show e = mxv A (ar 141 V m (8 * i.toNat + o1.toNat))
    rw [ej]
    exact mxv_of hd
  · by_cases c : (u : Int) = k
    · rw [show u = k.toNat by omega, ← eA, ← h1]
      show A ≤ ar 142 V m (8 * i.toNat + o1.toNat)
      rw [ej]
      exact hl
    · exact q3 u (by omega)
theorem EOS.end (q : EOI V m i S d k) (hk : vi V m 137 ≤ k) (hX : X = d) : EOS V m i S X := fun g1 g2 g3 => by
  obtain ⟨q0, q9, q1⟩ := q
  obtain ⟨-, q2, q3⟩ := q1 g1 g2
  have ek : k.toNat = msn V m := by unfold msn; omega
  refine Or.inr ⟨?_, fun j hj => q3 j (by unfold msn at hj; omega)⟩
  rw [hX, q2 (by unfold msn at g3; omega), ek]
/-! the worst of three -/
def WOS (V : Vmap) (m : Nat) (S X : Int) : Prop := PRM (msn V m) (ar 143 V m) → OBM V m S → 1 ≤ msn V m → (X = -1 ∧ ¬ FSv (PEM V m S) (ar 143 V m)) ∨ (X ≠ -1 ∧ FSv (PEM V m S) (ar 143 V m) ∧ X = EDv (PEM V m S) (ar 143 V m))
def WOI (V : Vmap) (m : Nat) (S w i : Int) : Prop := 0 ≤ i ∧ i ≤ 3 ∧ (PRM (msn V m) (ar 143 V m) → OBM V m S → 1 ≤ msn V m → w = kmx (fun j => dyv (PEM V m S) (ar 143 V m) j (msn V m - 1)) i.toNat ∧ ∀ j : Nat, (j : Int) < i → ∀ k : Nat, k < msn V m → avv (PEM V m S) (ar 143 V m) j k ≤ (PEM V m S).2.2.2.2 j (ar 143 V m k))
theorem WOI.beg : WOI V m S (-1) 0 := ⟨by omega, by omega, fun _ _ _ => ⟨rfl, fun j hj => by omega⟩⟩
theorem WOI.step (q : WOI V m S w i) (hi : i < 3) (hW : WT K V) (hm : K m = some (0, 11)) (h : EOS V m i S Y) (hY : Y ≠ -1) (hz : (z = Y ∧ w ≤ Y) ∨ (z = w ∧ Y ≤ w)) (hn : n = i + 1) : WOI V m S z n := by
  obtain ⟨q0, q3, q1⟩ := q
  refine ⟨by omega, by omega, fun g1 g2 g3 => ?_⟩
  obtain ⟨r1, r2⟩ := q1 g1 g2 g3
  rcases h g1 g2 g3 with ⟨h1, -⟩ | ⟨h1, h2⟩
  · exact absurd h1 hY
  · refine ⟨?_, fun j hj k hk => ?_⟩
    · rw [show n.toNat = i.toNat + 1 by omega]
      show z = mxv (kmx _ i.toNat) (dyv (PEM V m S) (ar 143 V m) i.toNat (msn V m - 1))
      rw [← r1, ← h1]
      exact mxv_of (by omega)
    · by_cases c : (j : Int) = i
      · rw [show j = i.toNat by omega]
        exact h2 k hk
      · exact r2 j (by omega) k hk
theorem WOS.bad (q : WOI V m S w i) (hi : i < 3) (hW : WT K V) (hm : K m = some (0, 11)) (h : EOS V m i S Y) (hY : Y = -1) (hX : X = -1) : WOS V m S X := fun g1 g2 g3 => by
  obtain ⟨q0, q3, -⟩ := q
  rcases h g1 g2 g3 with ⟨-, k, k1, k2⟩ | ⟨h1, -⟩
  · exact Or.inl ⟨hX, fun hf => by
      have := hf k k1 i.toNat (by omega)
      omega⟩
  · exfalso
    have r := EOK.rg (g2.ok hW hm) (show i.toNat < 3 by omega) (f := ar 143 V m) (msn V m - 1) (fun u hu => g1.1 u (by omega))
    omega
theorem WOS.end (q : WOI V m S w i) (hi : 3 ≤ i) (hW : WT K V) (hm : K m = some (0, 11)) (hX : X = w) : WOS V m S X := fun g1 g2 g3 => by
  obtain ⟨q0, q3, q1⟩ := q
  obtain ⟨r1, r2⟩ := q1 g1 g2 g3
  have hr : ∀ j : Nat, j < 3 → 0 ≤ dyv (PEM V m S) (ar 143 V m) j (msn V m - 1) := fun j hj => (EOK.rg (g2.ok hW hm) hj (f := ar 143 V m) (msn V m - 1) (fun u hu => g1.1 u (by omega))).1
  have e0 : mxv (-1) (dyv (PEM V m S) (ar 143 V m) 0 (msn V m - 1)) = dyv (PEM V m S) (ar 143 V m) 0 (msn V m - 1) := by
    have := hr 0 (by decide)
    unfold mxv
    rw [if_pos (by omega)]
  have ee : X = EDv (PEM V m S) (ar 143 V m) := by
    rw [hX, r1, show i.toNat = 3 by omega]
    show mxv (mxv (mxv (-1) (dyv (PEM V m S) (ar 143 V m) 0 (msn V m - 1))) _) _ = _
    rw [e0]
    rfl
  have ge0 : 0 ≤ EDv (PEM V m S) (ar 143 V m) := Int.le_trans (hr 2 (by decide)) mxv_r
  exact Or.inr ⟨by omega, fun k hk j hj => r2 j (by omega) k hk, ee⟩
/-! the next order, in a memory -/
def DCV (V : Vmap) (m : Nat) (k : Int) : Prop := -1 ≤ k ∧ DCR (ar 143 V m) (msn V m) (k + 1).toNat
theorem DCV.beg (hW : WT K V) (hm : K m = some (0, 11)) (hk : k = vi V m 137 - 2) (h0 : 1 ≤ vi V m 137) : DCV V m k := ⟨by omega, fun j h1 h2 => by unfold msn at h2; omega⟩
theorem DCV.step (q : DCV V m k) (k0 : 0 ≤ k) (hl : vi V (vq V m 143) (k + 1).toNat < vi V (vq V m 143) k.toNat) (hn : n = k - 1) : DCV V m n := ⟨by omega, fun j h1 h2 => by
  by_cases c : j = k.toNat
  · rw [c, show k.toNat + 1 = (k + 1).toNat by omega]
    exact hl
  · exact q.2 j (by omega) h2⟩
def LOW (V : Vmap) (m : Nat) (k q : Int) : Prop := ∀ j : Nat, q < (j : Int) → j < msn V m → ar 143 V m j < ar 143 V m k.toNat
theorem LOW.beg {q : Int} (hq : q = vi V m 137 - 1) : LOW V m k q := fun j h1 h2 => by unfold msn at h2; omega
theorem LOW.step {q : Int} (h : LOW V m k q) (q0 : 0 ≤ q) (hl : vi V (vq V m 143) q.toNat < vi V (vq V m 143) k.toNat) (hn : n = q - 1) : LOW V m k n := fun j h1 h2 => by
  by_cases c : (j : Int) = q
  · rw [show j = q.toNat by omega]
    exact hl
  · exact h j (by omega) h2
/-- turned round behind k, from both ends up to a and b; k and q have changed places -/
def RVS (V W : Vmap) (m : Nat) (k q a b : Int) : Prop := a + b = (msn V m : Int) + k ∧ k < a ∧ (∀ j : Nat, (j : Int) < k → ar 143 W m j = ar 143 V m j) ∧ ar 143 W m k.toNat = ar 143 V m q.toNat ∧ (∀ j : Nat, k < (j : Int) → (j : Int) < (msn V m : Int) → ((j : Int) < a ∨ b < (j : Int)) → ar 143 W m j = if (msn V m : Int) + k - j = q then ar 143 V m k.toNat else ar 143 V m ((msn V m : Int) + k - j).toNat) ∧ ∀ j : Nat, a ≤ (j : Int) → (j : Int) ≤ b → ar 143 W m j = if (j : Int) = q then ar 143 V m k.toNat else ar 143 V m j
theorem RVS.beg {q : Int} (hs : SWP V W m k q) (hW : WT K V) (hm : K m = some (0, 11)) (k0 : 0 ≤ k) (hkq : k < q) (ha : a = k + 1) (hb : b = vi V m 137 - 1) (hq : q < vi V m 137) : RVS V W m k q a b := by
  obtain ⟨s1, s2, s3, s4⟩ := hs
  obtain ⟨n8, en⟩ := msn_8 hW hm
  refine ⟨by omega, by omega, fun j hj => s4 j (by omega) (by omega), s2, fun j h1 h2 h3 => by omega, fun j h1 h2 => ?_⟩
  by_cases c : (j : Int) = q
  · rw [if_pos c, show j = q.toNat by omega]
    exact s3
  · rw [if_neg c]
    exact s4 j (by omega) (by omega)
theorem RVS.step {q a' b' : Int} (h : RVS V W m k q a b) (hs : SWP W W1 m a b) (k0 : 0 ≤ k) (hab : a < b) (ha : a' = a + 1) (hb : b' = b - 1) (hbn : b < (msn V m : Int)) : RVS V W1 m k q a' b' := by
  obtain ⟨h0, h1, h2, h3, h4, h5⟩ := h
  obtain ⟨s1, s2, s3, s4⟩ := hs
  have f4 : ∀ j : Nat, j ≠ a.toNat → j ≠ b.toNat → ar 143 W1 m j = ar 143 W m j := s4
  have f2 : ar 143 W1 m a.toNat = ar 143 W m b.toNat := s2
  have f3 : ar 143 W1 m b.toNat = ar 143 W m a.toNat := s3
  refine ⟨by omega, by omega, fun j hj => by rw [f4 j (by omega) (by omega)]; exact h2 j hj, by rw [f4 _ (by omega) (by omega)]; exact h3, fun j c1 c2 c3 => ?_, fun j c1 c2 => by rw [f4 j (by omega) (by omega)]; exact h5 j (by omega) (by omega)⟩
  by_cases ca : (j : Int) = a
  · rw [show j = a.toNat by omega, f2, h5 b.toNat (by omega) (by omega), show ((b.toNat : Nat) : Int) = (msn V m : Int) + k - ((a.toNat : Nat) : Int) by omega, show b.toNat = ((msn V m : Int) + k - ((a.toNat : Nat) : Int)).toNat by omega]
  · by_cases cb : (j : Int) = b
    · rw [show j = b.toNat by omega, f3, h5 a.toNat (by omega) (by omega), show ((a.toNat : Nat) : Int) = (msn V m : Int) + k - ((b.toNat : Nat) : Int) by omega, show a.toNat = ((msn V m : Int) + k - ((b.toNat : Nat) : Int)).toNat by omega]
    · rw [f4 j (by omega) (by omega)]
      exact h4 j c1 c2 (by omega)
def NXR (V V1 : Vmap) (m : Nat) (X : Int) : Prop := NXP (msn V m) (ar 143 V m) (ar 143 V1 m) X
theorem NXR.no (q : DCV V m k) (hk : k < 0) (hX : X = 0) : NXR V V m X := nxp_0 (by
  have := q.2
  rw [show (k + 1).toNat = 0 by have := q.1; omega] at this
  exact this) (fun j _ => rfl) hX
theorem NXR.yes {q a b : Int} (hd : DCV V m k) (hlo : LOW V m k q) (hW : WT K V) (hm : K m = some (0, 11)) (k0 : 0 ≤ k) (hkq : k < q) (hq : q < vi V m 137) (hk1 : vi V (vq V m 143) k.toNat ≤ vi V (vq V m 143) q.toNat) (h : RVS V W m k q a b) (hab : b ≤ a) (hX : X ≠ 0) : NXR V W m X := fun hc => by
  obtain ⟨h0, h1, h2, h3, h4, h5⟩ := h
  obtain ⟨n8, en⟩ := msn_8 hW hm
  have hd2 := hd.2
  rw [show (k + 1).toNat = k.toNat + 1 by omega] at hd2
  have hk1' : ar 143 V m k.toNat ≤ ar 143 V m q.toNat := hk1
  have hlt : ar 143 V m k.toNat < ar 143 V m q.toNat := by
    have : ar 143 V m k.toNat ≠ ar 143 V m q.toNat := fun e => by
      have := hc.2 k.toNat q.toNat (by omega) (by omega) e
      omega
    omega
  refine nxp_1 (k := k.toNat) (q := q.toNat) (by omega) (by omega) hd2 hlt (fun j h1 h2 => hlo j (by omega) h2) h3 (fun j hj => h2 j (by omega)) (fun j hj hjn => ?_) hX hc
  have key : ar 143 W m j = if (msn V m : Int) + k - j = q then ar 143 V m k.toNat else ar 143 V m ((msn V m : Int) + k - j).toNat := by
    by_cases c : (j : Int) < a ∨ b < (j : Int)
    · exact h4 j (by omega) (by omega) c
    · rw [h5 j (by omega) (by omega), show (msn V m : Int) + k - j = (j : Int) by omega]
      rfl
  rw [key, show ((msn V m : Int) + k - j).toNat = msn V m + k.toNat - j by omega]
  by_cases c : msn V m + k.toNat - j = q.toNat
  · rw [if_pos c, if_pos (by omega)]
  · rw [if_neg c, if_neg (by omega)]
/-! plans() -/
def NDM (V : Vmap) (m : Nat) : Prop := ∀ j : Nat, j < msn V m → 0 ≤ ar 140 V m j ∧ ar 140 V m j ≤ 10000
def MPD5 (V : Vmap) (m : Nat) (p : Int) : Prop := 1 ≤ msn V m ∧ nsm (ar 140 V m) (msn V m) ≤ ar 95 V m p.toNat
def MCO (V : Vmap) (m : Nat) (y d : Int) : Prop := NDM V m ∧ OBM V m (d + ar 106 V m y.toNat)
/-- what stands at the end -/
def MFN (V W : Vmap) (m : Nat) (p y d : Int) : Prop := (¬ MPD5 V m p ∧ vi W m 138 = -1) ∨ (MPD5 V m p ∧ BSv (PEM V m (d + ar 106 V m y.toNat)) (fun _ => True) (vi W m 138) (ar 144 W m))
def MPN (V V1 : Vmap) (m : Nat) (p y d : Int) : Prop := MCO V m y d → MFN V V1 m p y d
/-- what no search writes -/
def MPF (V W : Vmap) (m : Nat) : Prop := (∀ S, PEM W m S = PEM V m S) ∧ ar 106 W m = ar 106 V m ∧ ar 140 W m = ar 140 V m ∧ ar 95 W m = ar 95 V m
def mpfbits (ws : Nat) : Bool := [keyK (0, 11) 0, keyK (0, 11) 137, keyK (0, 11) 15, keyK (0, 11) 139, keyK (0, 11) 141, keyK (0, 11) 142, keyK (0, 11) 106, keyK (0, 11) 140, keyK (0, 11) 95].all (fun b => !ws.testBit b) && [17 + 1, 111 + 1, 113 + 1, 114 + 1, 84 + 1, 112 + 1, 73 + 1].all (fun b => !ws.testBit (abase + b))
theorem MPF.fr {ws : Nat} (hF : FR ws K V K1 V1) (hE : ext K K1) (hW : WT K V) (hm : K m = some (0, 11)) (hb : mpfbits ws = true) : MPF V V1 m := by
  simp only [mpfbits, List.all_cons, List.all_nil, Bool.and_true, Bool.and_eq_true, Bool.not_eq_true'] at hb
  obtain ⟨⟨c0, c137, c15, c139, c141, c142, c106, c140, c95⟩, b15, b139, b141, b142, b106, b140, b95⟩ := hb
  have hm1 := hE.obj (Or.inl (by decide)) hm
  have e0 := vi_fr hF hm hm1 c0
  have e137 := vi_fr hF hm hm1 c137
  have e15 := arq hF hE hm (hW.ref hm (j := 15) (Nat.le_of_ble_eq_true rfl) rfl).2 c15 b15
  have e139 := arq hF hE hm (hW.ref hm (j := 139) (Nat.le_of_ble_eq_true rfl) rfl).2 c139 b139
  have e141 := arq hF hE hm (hW.ref hm (j := 141) (Nat.le_of_ble_eq_true rfl) rfl).2 c141 b141
  have e142 := arq hF hE hm (hW.ref hm (j := 142) (Nat.le_of_ble_eq_true rfl) rfl).2 c142 b142
  refine ⟨fun S => ?_, arq hF hE hm (hW.ref hm (j := 106) (Nat.le_of_ble_eq_true rfl) rfl).2 c106 b106, arq hF hE hm (hW.ref hm (j := 140) (Nat.le_of_ble_eq_true rfl) rfl).2 c140 b140, arq hF hE hm (hW.ref hm (j := 95) (Nat.le_of_ble_eq_true rfl) rfl).2 c95 b95⟩
  have ec : mcl V1 m = mcl V m := by
    funext a
    unfold mcl
    rw [e15, e139]
  have el : LGM V1 m = LGM V m := by
    funext a b
    unfold LGM
    rw [ec, e0]
  unfold PEM msn
  rw [el, e137, e141, e142]
def MSU5 (V : Vmap) (m : Nat) (a i : Int) : Prop := 0 ≤ i ∧ i ≤ vi V m 137 ∧ (NDM V m → a = nsm (ar 140 V m) i.toNat)
theorem MSU5.beg (hW : WT K V) (hm : K m = some (0, 11)) : MSU5 V m 0 0 := ⟨by omega, ((hW.int hm (j := 137) (Nat.le_of_ble_eq_true rfl) rfl).2).1, fun _ => rfl⟩
theorem MSU5.step (q : MSU5 V m a i) (hW : WT K V) (hm : K m = some (0, 11)) (h1 : i < vi V m 137) (e137 : vi W m 137 = vi V m 137) (e140 : ar 140 W m = ar 140 V m) (hz : ir (a + X) → z = a + X) (hX : X = ar 140 V m i.toNat) (hn : n = i + 1) : MSU5 V m z n := by
  obtain ⟨q0, q1, q2⟩ := q
  refine ⟨by omega, by omega, fun hb => ?_⟩
  obtain ⟨n8, en⟩ := msn_8 hW hm
  have b1 := nsm_b (f := ar 140 V m) i.toNat (fun j hj => hb j (by omega))
  have b2 := hb i.toNat (by omega)
  have ea := q2 hb
  rw [hz ⟨by omega, by omega⟩, show n.toNat = i.toNat + 1 by omega]
  show a + X = nsm (ar 140 V m) i.toNat + ar 140 V m i.toNat
  omega
/-- ahead of an order: b says whether there is one -/
def PLC (V W : Vmap) (m : Nat) (p y d b : Int) : Prop := MCO V m y d → (b = 0 ∧ MFN V W m p y d) ∨ (b ≠ 0 ∧ MPD5 V m p ∧ PRM (msn V m) (ar 143 W m) ∧ BSv (PEM V m (d + ar 106 V m y.toNat)) (fun f => LXv (msn V m) f (ar 143 W m)) (vi W m 138) (ar 144 W m))
theorem PLC.n0 (h138 : vi W m 138 = -1) (h0 : vi V m 137 ≤ 0) (hb : b = 0) : PLC V W m p y d b := fun _ => Or.inl ⟨hb, Or.inl ⟨fun q => by
  have := q.1
  unfold msn at this
  omega, h138⟩⟩
theorem PLC.n1 (h138 : vi W m 138 = -1) (hs : MSU5 V m a i) (hi : vi V m 137 ≤ i) (hr : ar 95 V m p.toNat < a) (hb : b = 0) : PLC V W m p y d b := fun hc => Or.inl ⟨hb, Or.inl ⟨fun q => by
  have e := hs.2.2 hc.1
  rw [show i.toNat = msn V m by unfold msn; have := hs.2.1; omega] at e
  have := q.2
  omega, h138⟩⟩
theorem PLC.go (h138 : vi W m 138 = -1) (hs : MSU5 V m a i) (hi : vi V m 137 ≤ i) (hr : a ≤ ar 95 V m p.toNat) (h0 : 0 < vi V m 137) (ho : OIN W m l) (hl : vi V m 137 ≤ l) (hb : b ≠ 0) : PLC V W m p y d b := fun hc => by
  have e := hs.2.2 hc.1
  rw [show i.toNat = msn V m by unfold msn; have := hs.2.1; omega] at e
  have hid : ∀ j : Nat, j < msn V m → ar 143 W m j = (j : Int) := fun j hj => ho j (by unfold msn at hj; omega)
  refine Or.inr ⟨hb, ⟨by unfold msn; omega, by omega⟩, prm_id hid, ?_⟩
  rw [h138]
  exact BSv.nil fun f pf => lxv_id pf hid
/-- behind an order -/
def PLB (V U W : Vmap) (m : Nat) (p y d : Int) : Prop := MCO V m y d → MPD5 V m p ∧ PRM (msn V m) (ar 143 U m) ∧ ar 143 W m = ar 143 U m ∧ BSv (PEM V m (d + ar 106 V m y.toNat)) (fun f => LQv (msn V m) f (ar 143 U m)) (vi W m 138) (ar 144 W m)
theorem wos_of {t : Int} (hf : MPF V U m) (ht : ir (d + X) → t = d + X) (hX : X = ar 106 U m y.toNat) (hc : MCO V m y d) : t = d + ar 106 V m y.toNat := by
  have e : X = ar 106 V m y.toNat := by rw [hX, hf.2.1]
  have b := hc.2.1
  have b2 := hc.2.2.1
  rw [← e] at b b2 ⊢
  exact ht ⟨by omega, by omega⟩
theorem wos_at {t : Int} (hf : MPF V U m) (hw : WOS U m t Y) (et : t = d + ar 106 V m y.toNat) (hP : PRM (msn V m) (ar 143 U m)) (hc : MCO V m y d) (h1 : 1 ≤ msn V m) : (Y = -1 ∧ ¬ FSv (PEM V m (d + ar 106 V m y.toNat)) (ar 143 U m)) ∨ (Y ≠ -1 ∧ FSv (PEM V m (d + ar 106 V m y.toNat)) (ar 143 U m) ∧ Y = EDv (PEM V m (d + ar 106 V m y.toNat)) (ar 143 U m)) := by
  have en : msn U m = msn V m := congrArg (fun E : PEn => E.1) (hf.1 0)
  have e1 : (fun (i : Nat) (a : Int) => ar 141 U m (8 * i + a.toNat)) = fun i a => ar 141 V m (8 * i + a.toNat) := congrArg (fun E : PEn => E.2.2.2.1) (hf.1 0)
  have hO : OBM U m t := by
    refine ⟨by rw [et]; exact hc.2.1, by rw [et]; exact hc.2.2.1, fun i a hi a0 a1 => ?_⟩
    have := congrFun (congrFun e1 i) a
    rw [show ar 141 U m (8 * i + a.toNat) = ar 141 V m (8 * i + a.toNat) from this]
    exact hc.2.2.2 i a hi a0 (by omega)
  have := hw (by rw [en]; exact hP) hO (by omega)
  rw [hf.1, et] at this
  exact this
theorem PLB.no {t : Int} (h : PLC V U m p y d b) (hb : b ≠ 0) (hf : MPF V U m) (ht : ir (d + X) → t = d + X) (hX : X = ar 106 U m y.toNat) (hw : WOS U m t Y) (hn : Y = -1 ∨ (vi U m 138 ≠ -1 ∧ vi U m 138 ≤ Y)) : PLB V U U m p y d := fun hc => by
  rcases h hc with ⟨h1, -⟩ | ⟨-, h2, h3, h4⟩
  · exact absurd h1 hb
  · refine ⟨h2, h3, rfl, ?_⟩
    have et := wos_of hf ht hX hc
    have w := wos_at hf hw et h3 hc h2.1
    refine BSv.sk (w := Y) (show 0 < msn V m from h2.1) h4 ?_
    rcases w with w | ⟨w1, w2, w3⟩
    · exact Or.inl w
    · rcases hn with hn | ⟨n1, n2⟩
      · exact absurd hn w1
      · exact Or.inr ⟨w1, w3, n1, n2⟩
/-- the copy of an order -/
def PCP (U W : Vmap) (m : Nat) (Y i : Int) : Prop := 0 ≤ i ∧ vi W m 138 = Y ∧ vi W m 137 = vi U m 137 ∧ ar 143 W m = ar 143 U m ∧ ∀ j : Nat, (j : Int) < i → ar 144 W m j = ar 143 U m j
theorem PCP.beg (e : vi W m 138 = Y) (e137 : vi W m 137 = vi U m 137) (h : ar 143 W m = ar 143 U m) : PCP U W m Y 0 := ⟨by omega, e, e137, h, fun j hj => by omega⟩
theorem PCP.step {k1 : Nat} (q : PCP U W m Y i) (a138 : vi W1 m 138 = vi W m 138) (a137 : vi W1 m 137 = vi W m 137) (a143 : ar 143 W1 m = ar 143 W m) (a144 : ar 144 W1 m = updf (ar 144 W m) k1 Z) (q1 : k1 = i.toNat) (hZ : Z = ar 143 W m i.toNat) (hn : n = i + 1) : PCP U W1 m Y n := by
  obtain ⟨q0, q2, q5, q3, q4⟩ := q
  subst q1
  refine ⟨by omega, a138.trans q2, a137.trans q5, a143.trans q3, fun j hj => ?_⟩
  rw [a144]
  by_cases c : j = i.toNat
  · rw [c, updf_at, hZ, q3]
  · rw [updf_of c]
    exact q4 j (by omega)
theorem PLB.yes {t : Int} (h : PLC V U m p y d b) (hb : b ≠ 0) (hf : MPF V U m) (ht : ir (d + X) → t = d + X) (hX : X = ar 106 U m y.toNat) (hw : WOS U m t Y) (hY : Y ≠ -1) (hl : vi U m 138 = -1 ∨ Y < vi U m 138) (hp : PCP U W m Y i) (hi : vi W m 137 ≤ i) : PLB V U W m p y d := fun hc => by
  rcases h hc with ⟨h1, -⟩ | ⟨-, h2, h3, h4⟩
  · exact absurd h1 hb
  · obtain ⟨p0, p1, p5, p2, p3⟩ := hp
    refine ⟨h2, h3, p2, ?_⟩
    have et := wos_of hf ht hX hc
    have en : msn U m = msn V m := congrArg (fun E : PEn => E.1) (hf.1 0)
    rcases wos_at hf hw et h3 hc h2.1 with ⟨w1, -⟩ | ⟨w1, w2, w3⟩
    · exact absurd w1 hY
    · rw [p1]
      exact BSv.tk (show 0 < msn V m from h2.1) h4 h3 w2 w3 w1 hl (fun j hj => p3 j (by
        have hj' : j < msn V m := hj
        unfold msn at en hj'
        omega))
theorem PLC.next (h : PLB V U W m p y d) (hf : MPF V W m) (hn : NXR W W1 m X) (a138 : vi W1 m 138 = vi W m 138) (a144 : ar 144 W1 m = ar 144 W m) : PLC V W1 m p y d X := fun hc => by
  obtain ⟨h1, h2, h3, h4⟩ := h hc
  have en : msn W m = msn V m := congrArg (fun E : PEn => E.1) (hf.1 0)
  unfold NXR at hn
  rw [en, h3] at hn
  rcases hn h2 with ⟨n1, n2, n3⟩ | ⟨n1, n2, n3⟩
  · refine Or.inl ⟨n1, Or.inr ⟨h1, ?_⟩⟩
    rw [a138, a144]
    exact h4.mo fun f pf => ⟨fun _ => trivial, fun _ => n3 f pf⟩
  · refine Or.inr ⟨n1, h1, n2, ?_⟩
    rw [a138, a144]
    exact h4.mo fun f pf => (n3 f pf).symm
theorem MPN.end (h : PLC V W m p y d b) (hb : b = 0) : MPN V W m p y d := fun hc => by
  rcases h hc with ⟨-, h1⟩ | ⟨h1, -⟩
  · exact h1
  · exact absurd hb h1
/-! plan(), planned() -/
def MAC (V V1 : Vmap) (m : Nat) (p y d X : Int) : Prop := ((0 ≤ p ∧ p < vi V m 91) ∧ (0 ≤ y ∧ y ≤ 3) ∧ (0 ≤ d ∧ d ≤ 359) ∧ MPN V V1 m p y d ∧ X = vi V1 m 138) ∨ (¬ ((0 ≤ p ∧ p < vi V m 91) ∧ (0 ≤ y ∧ y ≤ 3) ∧ (0 ≤ d ∧ d ≤ 359)) ∧ X = -1 ∧ V1 = V)
def MBC (V V1 : Vmap) (m : Nat) (p y d i X : Int) : Prop := ∃ e, MAC V V1 m p y d e ∧ ((X = -1 ∧ (e = -1 ∨ i < 0 ∨ vi V1 m 137 ≤ i)) ∨ (e ≠ -1 ∧ 0 ≤ i ∧ i < vi V1 m 137 ∧ X = ar 144 V1 m i.toNat))
end PPG
