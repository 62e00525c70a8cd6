/-! ### a season's voyage: one stop more, and what is kept -/
section PPD
variable {K K1 : Kmap} {V V0 V1 V2 V3 W W1 W2 : Vmap} {x s o : Nat} {a b c d e g i k l n p t u w y z v X Y Z T : Int} {f h : Nat → Int} {E : PEn}
/-! comes() -/
/-- the day on which the ship comes to the stop a from the one before -/
def CAv (V : Vmap) (s : Nat) (l a : Int) (i : Nat) : Int := if l = 0 then vi V s 8 else dav V s ((l - 1) * 3 + (i : Int)) + LEGv V s (orv V s (l - 1).toNat) a
def CDv (V : Vmap) (s : Nat) (l a : Int) (i : Nat) : Int := mxv (CAv V s l a i) (OPNv V s i a)
def CRv (V : Vmap) (s : Nat) (a g : Int) : Int := ahv V s (wand (wshl 1 (ssn V s : Int) - 1) (wxor g (-1)) * 8 + a)
/-- so that nothing is too large -/
def CBD (V : Vmap) (s : Nat) (l a g : Int) : Prop := 0 ≤ l ∧ l < 8 ∧ 0 ≤ a ∧ a < 8 ∧ 0 ≤ g ∧ g < 256 ∧ (∀ i : Nat, i < 3 → 0 ≤ CAv V s l a i ∧ CAv V s l a i ≤ 1000 ∧ 0 ≤ OPNv V s i a ∧ OPNv V s i a ≤ 359) ∧ 0 ≤ CRv V s a g ∧ CRv V s a g ≤ 18400 ∧ (0 < l → 0 ≤ orv V s (l - 1).toNat ∧ orv V s (l - 1).toNat < 8)
def CMO (V V1 : Vmap) (s : Nat) (l : Int) : Prop := ∀ z : Int, z < l * 3 ∨ l * 3 + 3 ≤ z → dav V1 s z = dav V s z
def CMS (V V1 : Vmap) (s : Nat) (l a g X : Int) : Prop := CBD V s l a g → CMO V V1 s l ∧ ((X ≠ 0 ∧ ∀ i : Nat, i < 3 → CAv V s l a i ≤ CLSv V s i a ∧ (vi V s 9 = -1 ∨ CDv V s l a i + CRv V s a g < vi V s 9) ∧ dav V1 s (l * 3 + (i : Int)) = CDv V s l a i) ∨ (X = 0 ∧ ∃ i : Nat, i < 3 ∧ (CLSv V s i a < CAv V s l a i ∨ (vi V s 9 ≠ -1 ∧ vi V s 9 ≤ CDv V s l a i + CRv V s a g))))
/-- the leg and the rest, as they were read ahead of the loop -/
def CLE (V : Vmap) (s : Nat) (l a g L R : Int) : Prop := CBD V s l a g → (0 < l → L = LEGv V s (orv V s (l - 1).toNat) a) ∧ R = CRv V s a g
theorem CLE.mk {z1 z2 z3 z4 z5 z6 : Int} (hW : WT K V) (hs : K s = some (0, 5)) (h0 : ir (l - 1) → z1 = l - 1) (gX : X = rgv V (vq V s 5) 8 z1) (h2 : ir (X * 8) → z2 = X * 8) (h3 : ir (z2 + a) → z3 = z2 + a) (gL : Y = rgv V (vq V s 3) 64 z3) (hn : Z = vi V (vq V s 0) 3) (h4 : ir (wshl 1 Z - 1) → z4 = wshl 1 Z - 1) (hT : T = wand z4 (wxor g (-1))) (h5 : ir (T * 8) → z5 = T * 8) (h6 : ir (z5 + a) → z6 = z5 + a) (gR : v = rgv V (vq V s 6) 2048 z6) : CLE V s l a g Y v := fun hb => by
  obtain ⟨l0, l8, a0, a8, g0, g2, -, -, -, ho⟩ := hb
  obtain ⟨n8, en⟩ := ssn_8 hW hs
  obtain ⟨m, rfl⟩ := Int.eq_ofNat_of_zero_le g0
  have hp := pow_8 n8
  have hr := bit_rest (ssn V s) n8 m (by omega)
  have hw := (bit_all (ssn V s) n8).2
  subst hn
  rw [← en] at h4
  have k4 := h4 ⟨by omega, by omega⟩
  rw [k4] at hT
  rw [← hT] at hr
  have k5 := h5 ⟨by omega, by omega⟩
  have k6 := h6 ⟨by omega, by omega⟩
  have k0 := h0 ⟨by omega, by omega⟩
  refine ⟨fun hl => ?_, ?_⟩
  · have b := ho hl
    have eX : X = orv V s (l - 1).toNat := by
      rw [gX, k0]
      unfold orv
      rw [show (((l - 1).toNat : Nat) : Int) = l - 1 by omega]
    rw [← eX] at b ⊢
    have k2 := h2 ⟨by omega, by omega⟩
    have k3 := h3 ⟨by omega, by omega⟩
    rw [gL, k3, k2]
    rfl
  · rw [gR, k6, k5, hT]
    rfl
def CMI (V W : Vmap) (s : Nat) (l a g i : Int) : Prop := 0 ≤ i ∧ i ≤ 3 ∧ (CBD V s l a g → CMO V W s l ∧ ∀ j : Nat, (j : Int) < i → CAv V s l a j ≤ CLSv V s j a ∧ (vi V s 9 = -1 ∨ CDv V s l a j + CRv V s a g < vi V s 9) ∧ dav W s (l * 3 + (j : Int)) = CDv V s l a j)
theorem CMI.beg : CMI V V s l a g 0 := ⟨by omega, by omega, fun _ => ⟨fun z _ => rfl, fun j hj => by omega⟩⟩
theorem CMS.end (q : CMI V W s l a g i) (hi : 3 ≤ i) (hX : X ≠ 0) : CMS V W s l a g X := fun hb => ⟨(q.2.2 hb).1, Or.inl ⟨hX, fun j hj => (q.2.2 hb).2 j (by omega)⟩⟩
/-- what the loop reckons at i: A the arrival, M the day -/
def CST (V W : Vmap) (s : Nat) (l a g i A M R : Int) : Prop := CBD V s l a g → A = CAv V s l a i.toNat ∧ M = CDv V s l a i.toNat ∧ R = CRv V s a g ∧ (M + R ≤ 30000 ∧ 0 ≤ M + R)
theorem CST.mk {z0 z1 z2 z3 z4 L A M R : Int} (q : CMI V W s l a g i) (hc : CLE V s l a g L R) (h8 : vi W s 8 = vi V s 8) (hpe : PEC W s = PEC V s) (hi : i < 3) (hA : (l = 0 ∧ A = vi W s 8) ∨ (l ≠ 0 ∧ (ir (X + L) → A = X + L) ∧ X = rgv W (vq W s 4) 24 z2 ∧ (ir (z1 + i) → z2 = z1 + i) ∧ (ir (z0 * 3) → z1 = z0 * 3) ∧ (ir (l - 1) → z0 = l - 1))) (gO : Y = rgv W (vq W s 1) 24 z4) (h4 : ir (z3 + a) → z4 = z3 + a) (h3 : ir (i * 8) → z3 = i * 8) (hM : (M = A ∧ Y ≤ A) ∨ (M = Y ∧ A ≤ Y)) : CST V W s l a g i A M R := fun hb => by
  obtain ⟨q0, q3, q1⟩ := q
  obtain ⟨c1, c2⟩ := hc hb
  obtain ⟨r1, -⟩ := q1 hb
  obtain ⟨l0, l8, a0, a8, g0, g2, hC, hR0, hR1, ho⟩ := hb
  have ei : ((i.toNat : Nat) : Int) = i := by omega
  have eO : OPNv W s = OPNv V s := congrArg (fun E : PEn => E.2.2.2.1) hpe
  have k3 := h3 ⟨by omega, by omega⟩
  have k4 := h4 ⟨by omega, by omega⟩
  obtain ⟨b1, b2, b3, b4⟩ := hC i.toNat (by omega)
  have eY : Y = OPNv V s i.toNat a := by
    rw [← eO, gO, k4, k3]
    unfold OPNv
    rw [ei]
  have eA : A = CAv V s l a i.toNat := by
    rcases hA with ⟨p1, p2⟩ | ⟨p1, p2, p3, p4, p5, p0⟩
    · unfold CAv
      rw [if_pos p1, p2, h8]
    · have k0 := p0 ⟨by omega, by omega⟩
      have k5 := p5 ⟨by omega, by omega⟩
      rw [k0] at k5
      have k6 := p4 ⟨by omega, by omega⟩
      have eX : X = dav V s ((l - 1) * 3 + i) := by
        rw [← r1 ((l - 1) * 3 + i) (by omega), p3, k6, k5]
        rfl
      have eL := c1 (by omega)
      have e : CAv V s l a i.toNat = X + L := by
        unfold CAv
        rw [if_neg p1, ei, eX, eL]
      rw [e] at b1 b2 ⊢
      exact p2 ⟨by omega, by omega⟩
  have eM : M = CDv V s l a i.toNat := by
    unfold CDv
    rw [← eA, ← eY]
    exact mxv_of hM
  refine ⟨eA, eM, c2, ?_⟩
  rw [← eA] at b1 b2
  rw [← eY] at b3 b4
  rw [← c2] at hR0 hR1
  omega
theorem CMS.late {A M R : Int} (q : CMI V W s l a g i) (ht : CST V W s l a g i A M R) (hpe : PEC W s = PEC V s) (hi : i < 3) (gC : Y = rgv W (vq W s 2) 24 z) (h4 : ir (w + a) → z = w + a) (h3 : ir (i * 8) → w = i * 8) (hl : Y < A) (hX : X = 0) : CMS V W s l a g X := fun hb => by
  obtain ⟨q0, q3, q1⟩ := q
  obtain ⟨t1, -⟩ := ht hb
  have hb2 := hb
  obtain ⟨l0, l8, a0, a8, -⟩ := hb2
  have k3 := h3 ⟨by omega, by omega⟩
  have k4 := h4 ⟨by omega, by omega⟩
  have eC : CLSv W s = CLSv V s := congrArg (fun E : PEn => E.2.2.2.2) hpe
  have eY : Y = CLSv V s i.toNat a := by
    rw [← eC, gC, k4, k3]
    unfold CLSv
    rw [show ((i.toNat : Nat) : Int) = i by omega]
  exact ⟨(q1 hb).1, Or.inr ⟨hX, i.toNat, by omega, Or.inl (by rw [← eY, ← t1]; exact hl)⟩⟩
theorem CMS.poor {A M R : Int} (q : CMI V W s l a g i) (ht : CST V W s l a g i A M R) (h9 : vi W s 9 = vi V s 9) (hi : i < 3) (hZ : ir (M + R) → Z = M + R) (h1 : vi W s 9 ≠ -1) (hl : vi W s 9 ≤ Z) (hX : X = 0) : CMS V W s l a g X := fun hb => by
  obtain ⟨q0, q3, q1⟩ := q
  obtain ⟨-, t2, t3, t4, t5⟩ := ht hb
  have kZ := hZ ⟨by omega, by omega⟩
  exact ⟨(q1 hb).1, Or.inr ⟨hX, i.toNat, by omega, Or.inr ⟨by omega, by rw [← t2, ← t3, ← kZ, ← h9]; exact hl⟩⟩⟩
theorem CMI.step {A M R z1 z2 : Int} (q : CMI V W s l a g i) (ht : CST V W s l a g i A M R) (hpe : PEC W s = PEC V s) (h9 : vi W s 9 = vi V s 9) (hW : WT K W) (hs : K s = some (0, 5)) (hi : i < 3) (gC : Y = rgv W (vq W s 2) 24 z) (h4 : ir (w + a) → z = w + a) (h3 : ir (i * 8) → w = i * 8) (hl : A ≤ Y) (he : vi W s 9 = -1 ∨ ((ir (M + R) → Z = M + R) ∧ Z < vi W s 9)) (rM : ir M) (e : W1 = rpv W (vq W s 4) 24 z2 M) (h2 : ir (z1 + i) → z2 = z1 + i) (h1 : ir (l * 3) → z1 = l * 3) (hn : n = i + 1) : CMI V W1 s l a g n := by
  obtain ⟨q0, q3, q1⟩ := q
  refine ⟨by omega, by omega, fun hb => ?_⟩
  obtain ⟨t1, t2, t3, t4, t5⟩ := ht hb
  obtain ⟨r1, r2⟩ := q1 hb
  obtain ⟨l0, l8, a0, a8, -⟩ := hb
  have k3 := h3 ⟨by omega, by omega⟩
  have k4 := h4 ⟨by omega, by omega⟩
  have k1 := h1 ⟨by omega, by omega⟩
  have k2 := h2 ⟨by omega, by omega⟩
  have ei : ((i.toNat : Nat) : Int) = i := by omega
  have eC : CLSv W s = CLSv V s := congrArg (fun E : PEn => E.2.2.2.2) hpe
  have eY : Y = CLSv V s i.toNat a := by
    rw [← eC, gC, k4, k3]
    unfold CLSv
    rw [ei]
  rw [k2, k1] at e
  have hA := row_n (j := 4) hW hs rfl rfl rfl (by decide) (L := 24) (t := 140)
  have e4 : vq W1 s 4 = vq W s 4 := by
    have n1 : s ≠ vq W s 4 := K_ne hs hA (by decide)
    refine vq_eq ?_
    rw [rpv_put e (by omega) (by omega)]
    exact upd2_ne (Or.inl n1)
  have er := rpv_m e (by omega) (by omega) rM
  have ea : ∀ z, dav W1 s z = if z = l * 3 + i then M else dav W s z := fun z => by
    unfold dav
    rw [e4]
    exact er z
  refine ⟨fun z hz => by rw [ea, if_neg (by omega)]; exact r1 z hz, fun j hj => ?_⟩
  by_cases p : (j : Int) = i
  · have ej : j = i.toNat := by omega
    rw [ea, if_pos (by omega), ej, ← t1, ← eY, ← t2, ← t3, ← h9]
    refine ⟨hl, ?_, rfl⟩
    rcases he with he | ⟨he1, he2⟩
    · exact Or.inl he
    · have := he1 ⟨by omega, by omega⟩
      exact Or.inr (by omega)
  · rw [ea, if_neg (by omega)]
    exact r2 j (by omega)
/-! keep() -/
def kmx (f : Nat → Int) : Nat → Int
  | 0 => -1
  | k + 1 => mxv (kmx f k) (f k)
def KEP (V V1 : Vmap) (s : Nat) : Prop := 1 ≤ ssn V s → vi V1 s 9 = kmx (fun j => dav V s (((ssn V s : Nat) : Int) * 3 - 3 + (j : Int))) 3 ∧ ∀ j : Nat, j < ssn V s → bev V1 s j = orv V s j
def KE1 (V W : Vmap) (s : Nat) (i : Int) : Prop := 0 ≤ i ∧ i ≤ 3 ∧ (1 ≤ ssn V s → vi W s 9 = kmx (fun j => dav V s (((ssn V s : Nat) : Int) * 3 - 3 + (j : Int))) i.toNat)
theorem KE1.beg (h9 : vi W s 9 = -1) : KE1 V W s 0 := ⟨by omega, by omega, fun _ => h9⟩
theorem KE1.step {z1 z2 z3 : Int} (q : KE1 V W s i) (hW : WT K V) (hs : K s = some (0, 5)) (hd : dav W s = dav V s) (hi : i < 3) (gX : X = rgv W (vq W s 4) 24 z3) (h3 : ir (z2 + i) → z3 = z2 + i) (h2 : ir (z1 * 3) → z2 = z1 * 3) (h1 : z1 = vi V (vq V s 0) 3 - 1) (hZ : (Z = vi W s 9 ∧ X ≤ vi W s 9) ∨ (Z = X ∧ vi W s 9 ≤ X)) (h9 : vi W1 s 9 = Z) (hn : n = i + 1) : KE1 V W1 s n := by
  obtain ⟨q0, q3, q1⟩ := q
  refine ⟨by omega, by omega, fun h1n => ?_⟩
  obtain ⟨n8, en⟩ := ssn_8 hW hs
  have k2 := h2 ⟨by omega, by omega⟩
  have k3 := h3 ⟨by omega, by omega⟩
  have eX : X = dav V s (((ssn V s : Nat) : Int) * 3 - 3 + ((i.toNat : Nat) : Int)) := by
    rw [← hd, gX, k3, k2, h1, ← en]
    unfold dav
    rw [show (((ssn V s : Nat) : Int) - 1) * 3 + i = ((ssn V s : Nat) : Int) * 3 - 3 + ((i.toNat : Nat) : Int) by omega]
  rw [show n.toNat = i.toNat + 1 by omega]
  show vi W1 s 9 = mxv (kmx _ i.toNat) (dav V s (((ssn V s : Nat) : Int) * 3 - 3 + ((i.toNat : Nat) : Int)))
  rw [← q1 h1n, ← eX, h9]
  exact mxv_of (by omega)
def KE2 (V W : Vmap) (s : Nat) (i : Int) : Prop := 0 ≤ i ∧ (1 ≤ ssn V s → vi W s 9 = kmx (fun j => dav V s (((ssn V s : Nat) : Int) * 3 - 3 + (j : Int))) 3) ∧ ∀ j : Nat, (j : Int) < i → j < ssn V s → bev W s j = orv V s j
theorem KE2.beg (q : KE1 V W s i) (hi : 3 ≤ i) : KE2 V W s 0 := ⟨by omega, fun h1 => by
  rw [q.2.2 h1]
  rw [show i.toNat = 3 by have := q.2.1; omega], fun j hj => by omega⟩
theorem KE2.step (q : KE2 V W s i) (hWv : WT K V) (hW : WT K W) (hs : K s = some (0, 5)) (ho : orv W s = orv V s) (hi : i < vi V (vq V s 0) 3) (gX : X = rgv W (vq W s 5) 8 i) (rX : ir X) (e : W1 = rpv W (vq W s 7) 8 i X) (hn : n = i + 1) : KE2 V W1 s n := by
  obtain ⟨q0, q1, q2⟩ := q
  obtain ⟨n8, en⟩ := ssn_8 hWv hs
  have hA := row_n (j := 7) hW hs rfl rfl rfl (by decide) (L := 8) (t := 143)
  have n1 : s ≠ vq W s 7 := K_ne hs hA (by decide)
  have e' := rpv_put e (by omega) (by omega)
  have e7 : vq W1 s 7 = vq W s 7 := by
    refine vq_eq ?_
    rw [e']
    exact upd2_ne (Or.inl n1)
  have er := rpv_m e (by omega) (by omega) rX
  have eb : ∀ j : Nat, bev W1 s j = if (j : Int) = i then X else bev W s j := fun j => by
    unfold bev
    rw [e7]
    exact er j
  refine ⟨by omega, fun h1 => ?_, fun j hj hjn => ?_⟩
  · rw [vi_up e' (Or.inl n1)]
    exact q1 h1
  · rw [eb]
    by_cases p : (j : Int) = i
    · rw [if_pos p, gX, ← ho, ← p]
      rfl
    · rw [if_neg p]
      exact q2 j (by omega) hjn
theorem KEP.mk (q : KE2 V W s i) (hi : vi V (vq V s 0) 3 ≤ i) : KEP V W s := fun h1 => ⟨q.2.1 h1, fun j hj => q.2.2 j (by unfold ssn at hj; omega) hj⟩
/-! the orders that were tried: those ahead of g's first l, and those that begin so -/
def DLv (g : Nat → Int) (l : Nat) (f : Nat → Int) : Prop := ∃ k : Nat, k < l ∧ (∀ j : Nat, j < k → f j = g j) ∧ f k < g k
def EXv (g : Nat → Int) (l : Nat) (f : Nat → Int) : Prop := ∀ j : Nat, j < l → f j = g j
theorem DLv.cg {f g h : Nat → Int} {l : Nat} (q : DLv g l f) (he : ∀ j : Nat, j < l → g j = h j) : DLv h l f := by
  obtain ⟨k, q1, q2, q3⟩ := q
  exact ⟨k, q1, fun j hj => by rw [← he j (by omega)]; exact q2 j hj, by rw [← he k q1]; exact q3⟩
theorem EXv.cg {f g h : Nat → Int} {l : Nat} (q : EXv g l f) (he : ∀ j : Nat, j < l → g j = h j) : EXv h l f := fun j hj => (q j hj).trans (he j hj)
theorem DLv.suc {f g : Nat → Int} {l : Nat} : DLv g (l + 1) f ↔ DLv g l f ∨ (EXv g l f ∧ f l < g l) := by
  constructor
  · rintro ⟨k, q1, q2, q3⟩
    by_cases p : k = l
    · subst p
      exact Or.inr ⟨q2, q3⟩
    · exact Or.inl ⟨k, by omega, q2, q3⟩
  · rintro (⟨k, q1, q2, q3⟩ | ⟨q2, q3⟩)
    · exact ⟨k, by omega, q2, q3⟩
    · exact ⟨l, by omega, q2, q3⟩
theorem EXv.suc {f g : Nat → Int} {l : Nat} : EXv g (l + 1) f ↔ EXv g l f ∧ f l = g l := by
  constructor
  · exact fun q => ⟨fun j hj => q j (by omega), q l (by omega)⟩
  · rintro ⟨q1, q2⟩ j hj
    by_cases p : j = l
    · rw [p]
      exact q2
    · exact q1 j (by omega)
/-- what is left out can't be better -/
theorem BSv.pr {D D1 : (Nat → Int) → Prop} {b : Nat → Int} {e : Int} (q : BSv E D e b) (hs : ∀ f, PRM E.1 f → D f → D1 f) (ho : ∀ f, PRM E.1 f → D1 f → ¬ D f → FSv E f → e ≠ -1 ∧ e ≤ EDv E f) (hl : ∀ f, PRM E.1 f → D1 f → ¬ D f → D b → LXv E.1 b f) : BSv E D1 e b := by
  rcases q with ⟨g1, g2⟩ | ⟨g1, g2, g3, g4, g5, g6⟩
  · refine Or.inl ⟨g1, fun f pf df ff => ?_⟩
    by_cases p : D f
    · exact g2 f pf p ff
    · exact (ho f pf df p ff).1 g1
  · refine Or.inr ⟨g1, g2, hs _ g2 g3, g4, g5, fun f pf df ff => ?_⟩
    by_cases p : D f
    · exact g6 f pf p ff
    · have r2 := (ho f pf df p ff).2
      by_cases r : e = EDv E f
      · exact Or.inr ⟨r, Or.inr (hl f pf df p g3)⟩
      · exact Or.inl (by omega)
end PPD
