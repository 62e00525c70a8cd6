/-! ### a season's voyage: all orders that begin so -/
section PPE
variable {K K1 : Kmap} {V V0 V1 V2 V3 W W1 W2 W3 : Vmap} {x s o : Nat} {a b c d e g i k l n p t u w y z v X Y Z T : Int}
theorem dyv_ge {E : PEn} {f : Nat → Int} {i k : Nat} : avv E f i k ≤ dyv E f i k := by
  rw [dyv_avv]
  exact mxv_l
/-- all that is good: legs, what is ahead, the first day, the openings -/
def SGD (V : Vmap) (s : Nat) : Prop := LGB V s ∧ AHB V V s ((2 ^ ssn V s : Nat) : Int) ∧ 0 ≤ vi V s 8 ∧ vi V s 8 ≤ 449 ∧ ∀ (i : Nat) (a : Int), i < 3 → 0 ≤ a → a < (ssn V s : Int) → 0 ≤ OPNv V s i a ∧ OPNv V s i a ≤ 359
theorem SGD.fr (q : SGD V s) (e1 : PEC V1 s = PEC V s) (e2 : ahv V1 s = ahv V s) : SGD V1 s := by
  have a1 : ssn V1 s = ssn V s := congrArg (fun E : PEn => E.1) e1
  have a2 : vi V1 s 8 = vi V s 8 := congrArg (fun E : PEn => E.2.1) e1
  have a3 : LEGv V1 s = LEGv V s := congrArg (fun E : PEn => E.2.2.1) e1
  have a4 : OPNv V1 s = OPNv V s := congrArg (fun E : PEn => E.2.2.2.1) e1
  unfold SGD LGB AHB AHC at q ⊢
  rw [a1, a2, a3, a4, e2]
  exact q
theorem dyv_rng {f : Nat → Int} {j : Nat} (q : SGD V s) (hj : j < 3) : ∀ k : Nat, (∀ u : Nat, u ≤ k → 0 ≤ f u ∧ f u < (ssn V s : Int)) → 0 ≤ dyv (PEC V s) f j k ∧ dyv (PEC V s) f j k ≤ 449 + 72 * (k : Int) := by
  obtain ⟨h1, -, h3, h4, h5⟩ := q
  intro k
  induction k with
  | zero =>
    intro hf
    have b := h5 j (f 0) hj (hf 0 (by omega)).1 (hf 0 (by omega)).2
    have c1 : 0 ≤ mxv (vi V s 8) (OPNv V s j (f 0)) := Int.le_trans h3 mxv_l
    have c2 : mxv (vi V s 8) (OPNv V s j (f 0)) ≤ 449 := mxv_le h4 (by omega)
    show 0 ≤ mxv (vi V s 8) (OPNv V s j (f 0)) ∧ mxv (vi V s 8) (OPNv V s j (f 0)) ≤ 449 + 72 * ((0 : Nat) : Int)
    omega
  | succ k ih =>
    intro hf
    have h := ih (fun u hu => hf u (by omega))
    have b := h5 j (f (k + 1)) hj (hf (k + 1) (by omega)).1 (hf (k + 1) (by omega)).2
    have b2 := h1 (f k) (f (k + 1)) (hf k (by omega)).1 (hf k (by omega)).2 (hf (k + 1) (by omega)).1 (hf (k + 1) (by omega)).2
    have c1 : 0 ≤ mxv (dyv (PEC V s) f j k + LEGv V s (f k) (f (k + 1))) (OPNv V s j (f (k + 1))) := Int.le_trans (by omega) mxv_l
    have c2 : mxv (dyv (PEC V s) f j k + LEGv V s (f k) (f (k + 1))) (OPNv V s j (f (k + 1))) ≤ 449 + 72 * ((k + 1 : Nat) : Int) := mxv_le (by omega) (by omega)
    exact ⟨c1, c2⟩
/-- what is ahead is no more than what comes -/
theorem rest_le {f : Nat → Int} {j : Nat} (hA : AHB V V s ((2 ^ ssn V s : Nat) : Int)) (n8 : ssn V s ≤ 8) (hf : PRM (ssn V s) f) : ∀ (m k : Nat) (T : Int), k + m + 1 = ssn V s → 0 ≤ T → T < ((2 ^ ssn V s : Nat) : Int) → (∀ y : Nat, y < ssn V s → (tb T y = true ↔ ∃ u : Nat, k < u ∧ u < ssn V s ∧ f u = (y : Int))) → dyv (PEC V s) f j k + ahv V s (T * 8 + f k) ≤ dyv (PEC V s) f j (ssn V s - 1) := by
  have hp := pow_8 n8
  intro m
  induction m with
  | zero =>
    intro k T hk h0 h1 hb
    obtain ⟨m, rfl⟩ := Int.eq_ofNat_of_zero_le h0
    have em : m = 0 := bit_nil m (by omega) (fun y hy => by
      by_cases q : y < ssn V s
      · cases c : tb (m : Int) y
        · rfl
        · obtain ⟨u, u1, u2, -⟩ := (hb y q).mp c
          omega
      · exact tb_small h0 h1 (by omega) (by omega))
    subst em
    have b := hf.1 k (by omega)
    obtain ⟨c1, c2, -⟩ := hA 0 (f k) (by omega) (by omega) b.1 b.2
    rw [show ssn V s - 1 = k by omega, show ((0 : Nat) : Int) = 0 from rfl]
    omega
  | succ m ih =>
    intro k T hk h0 h1 hb
    have b := hf.1 k (by omega)
    have b1 := hf.1 (k + 1) (by omega)
    have ey : (((f (k + 1)).toNat : Nat) : Int) = f (k + 1) := by omega
    have hy : tb T (f (k + 1)).toNat = true := (hb _ (by omega)).mpr ⟨k + 1, by omega, by omega, ey.symm⟩
    obtain ⟨c1, c2, c3⟩ := hA T (f k) h0 h1 b.1 b.2
    have c4 := c3 _ (by omega) hy
    obtain ⟨-, o2, o3, o4⟩ := bit_less (y := (f (k + 1)).toNat) h0 (by omega) (by omega) hy
    have g := ih (k + 1) (T - ((2 ^ (f (k + 1)).toNat : Nat) : Int)) (by omega) (by omega) (by omega) (fun y hy2 => by
      rw [o4 y (by omega), Bool.and_eq_true, hb y hy2, Bool.not_eq_true', decide_eq_false_iff_not]
      constructor
      · rintro ⟨⟨u, u1, u2, u3⟩, u4⟩
        refine ⟨u, ?_, u2, u3⟩
        by_cases q : u = k + 1
        · rw [q] at u3
          omega
        · omega
      · rintro ⟨u, u1, u2, u3⟩
        refine ⟨⟨u, by omega, u2, u3⟩, fun q => ?_⟩
        have := hf.2 u (k + 1) u2 (by omega) (by omega)
        omega)
    rw [ey] at c4
    have d1 : dyv (PEC V s) f j k + LEGv V s (f k) (f (k + 1)) ≤ dyv (PEC V s) f j (k + 1) := mxv_l
    omega
/-- an order's first l stops, as they stand -/
def PFX (V : Vmap) (s : Nat) (l g : Int) : Prop := 0 ≤ l ∧ l ≤ (ssn V s : Int) ∧ 0 ≤ g ∧ g < 256 ∧ (∀ k : Nat, (k : Int) < l → 0 ≤ orv V s k ∧ orv V s k < (ssn V s : Int)) ∧ (∀ i j : Nat, (i : Int) < l → (j : Int) < l → orv V s i = orv V s j → i = j) ∧ (∀ y : Nat, y < ssn V s → (tb g y = true ↔ ∃ k : Nat, (k : Int) < l ∧ orv V s k = (y : Int))) ∧ ∀ k : Nat, (k : Int) < l → ∀ i : Nat, i < 3 → dav V s ((k : Int) * 3 + (i : Int)) = dyv (PEC V s) (orv V s) i k ∧ avv (PEC V s) (orv V s) i k ≤ CLSv V s i (orv V s k)
def KPX (V V1 : Vmap) (s : Nat) (l : Int) : Prop := (∀ k : Nat, (k : Int) < l → orv V1 s k = orv V s k) ∧ ∀ z : Int, 0 ≤ z → z < l * 3 → dav V1 s z = dav V s z
theorem KPX.rf : KPX V V s l := ⟨fun _ _ => rfl, fun _ _ _ => rfl⟩
theorem KPX.tr (h1 : KPX V W s l) (h2 : KPX W W1 s u) (hu : l ≤ u) : KPX V W1 s l := ⟨fun k hk => (h2.1 k (by omega)).trans (h1.1 k hk), fun z h0 hz => (h2.2 z h0 (by omega)).trans (h1.2 z h0 hz)⟩
theorem PFX.fr (q : PFX V s l g) (hk : KPX V W s l) (he : PEC W s = PEC V s) : PFX W s l g := by
  obtain ⟨q1, q2, q3, q4, q5, q6, q7, q8⟩ := q
  obtain ⟨k1, k2⟩ := hk
  have ez : ssn W s = ssn V s := congrArg (fun E : PEn => E.1) he
  have eC : CLSv W s = CLSv V s := congrArg (fun E : PEn => E.2.2.2.2) he
  refine ⟨q1, by rw [ez]; exact q2, q3, q4, fun k hk => by rw [k1 k hk, ez]; exact q5 k hk, fun i j hi hj e => q6 i j hi hj (by rw [← k1 i hi, ← k1 j hj]; exact e), fun y hy => ?_, fun k hk i hi => ?_⟩
  · rw [q7 y (by omega)]
    constructor
    · rintro ⟨k, h1, h2⟩
      exact ⟨k, h1, (k1 k h1).trans h2⟩
    · rintro ⟨k, h1, h2⟩
      exact ⟨k, h1, (k1 k h1).symm.trans h2⟩
  · obtain ⟨r1, r2⟩ := q8 k hk i hi
    have hc : ∀ j : Nat, j ≤ k → orv W s j = orv V s j := fun j hj => k1 j (by omega)
    rw [he, eC, dyv_cg k hc, avv_cg hc, k1 k hk, k2 _ (by omega) (by omega)]
    exact ⟨r1, r2⟩
def XTP (V V1 : Vmap) (s : Nat) (l g : Int) : Prop := 1 ≤ ssn V s → SGD V s → PFX V s l g → l < (ssn V s : Int) → BSv (PEC V s) (DLv (orv V s) l.toNat) (vi V s 9) (bev V s) → KPX V V1 s l ∧ BSv (PEC V s) (fun f => DLv (orv V s) l.toNat f ∨ EXv (orv V s) l.toNat f) (vi V1 s 9) (bev V1 s)
def GOP (V V1 : Vmap) (s : Nat) (l g : Int) : Prop := 1 ≤ ssn V s → SGD V s → PFX V s l g → BSv (PEC V s) (DLv (orv V s) l.toNat) (vi V s 9) (bev V s) → (l = (ssn V s : Int) → vi V s 9 ≠ -1 → ∀ i : Nat, i < 3 → dyv (PEC V s) (orv V s) i (ssn V s - 1) < vi V s 9) → KPX V V1 s l ∧ BSv (PEC V s) (fun f => DLv (orv V s) l.toNat f ∨ EXv (orv V s) l.toNat f) (vi V1 s 9) (bev V1 s)
theorem GOP.ext (q : XTP V V1 s l g) (hW : WT K V) (hs : K s = some (0, 5)) (hl : l < vi V (vq V s 0) 3) : GOP V V1 s l g := fun h1 h2 h3 h4 _ => q h1 h2 h3 (by have := (ssn_8 hW hs).2; omega) h4
theorem GOP.keep (q : KEP V V1 s) (hW : WT K V) (hs : K s = some (0, 5)) (ho : orv V1 s = orv V s) (hd : dav V1 s = dav V s) (hl : vi V (vq V s 0) 3 ≤ l) : GOP V V1 s l g := fun h1 h2 h3 h4 h5 => by
  obtain ⟨n8, en⟩ := ssn_8 hW hs
  obtain ⟨q1, q2⟩ := q h1
  obtain ⟨p1, p2, p3, p4, p5, p6, p7, p8⟩ := h3
  have el : l = (ssn V s : Int) := by omega
  have eln : l.toNat = ssn V s := by omega
  have hP : PRM (ssn V s) (orv V s) := ⟨fun k hk => p5 k (by omega), fun i j hi hj e => p6 i j (by omega) (by omega) e⟩
  have hF : FSv (PEC V s) (orv V s) := fun k hk i hi => (p8 k (by show (k : Int) < l; have : k < ssn V s := hk; omega) i hi).2
  have hdy : ∀ i : Nat, i < 3 → dav V s (((ssn V s : Nat) : Int) * 3 - 3 + (i : Int)) = dyv (PEC V s) (orv V s) i (ssn V s - 1) := fun i hi => by
    rw [← (p8 (ssn V s - 1) (by omega) i hi).1]
    congr 1
    omega
  have hr : ∀ i : Nat, i < 3 → 0 ≤ dyv (PEC V s) (orv V s) i (ssn V s - 1) := fun i hi => (dyv_rng h2 hi (ssn V s - 1) (fun u hu => p5 u (by omega))).1
  have ee : vi V1 s 9 = EDv (PEC V s) (orv V s) := by
    rw [q1]
    show mxv (mxv (mxv (-1) (dav V s (((ssn V s : Nat) : Int) * 3 - 3 + ((0 : Nat) : Int)))) (dav V s (((ssn V s : Nat) : Int) * 3 - 3 + ((1 : Nat) : Int)))) (dav V s (((ssn V s : Nat) : Int) * 3 - 3 + ((2 : Nat) : Int))) = _
    rw [hdy 0 (by decide), hdy 1 (by decide), hdy 2 (by decide)]
    have e0 : mxv (-1) (dyv (PEC V s) (orv V s) 0 (ssn V s - 1)) = dyv (PEC V s) (orv V s) 0 (ssn V s - 1) := by
      have := hr 0 (by decide)
      unfold mxv
      rw [if_pos (by omega)]
    rw [e0]
    rfl
  have ge0 : 0 ≤ EDv (PEC V s) (orv V s) := Int.le_trans (hr 2 (by decide)) mxv_r
  refine ⟨⟨fun k _ => by rw [ho], fun z _ _ => by rw [hd]⟩, ?_⟩
  rw [eln] at h4 ⊢
  have hl : vi V s 9 = -1 ∨ vi V1 s 9 < vi V s 9 := by
    by_cases c : vi V s 9 = -1
    · exact Or.inl c
    · refine Or.inr ?_
      have h6 := h5 el c
      rw [ee]
      exact mxv_lt (mxv_lt (h6 0 (by decide)) (h6 1 (by decide))) (h6 2 (by decide))
  have r := BSv.tk (E := PEC V s) (c := orv V s) (w := vi V1 s 9) (b1 := bev V1 s) (show 0 < (PEC V s).1 from h1) h4 hP hF ee (by omega) hl q2
  exact r.mo fun f _ => Or.comm
/-! the loop over the stops -/
def XTI (V W : Vmap) (s : Nat) (l g i : Int) : Prop := 0 ≤ i ∧ (1 ≤ ssn V s → SGD V s → PFX V s l g → l < (ssn V s : Int) → BSv (PEC V s) (DLv (orv V s) l.toNat) (vi V s 9) (bev V s) → KPX V W s l ∧ BSv (PEC V s) (fun f => DLv (orv V s) l.toNat f ∨ (EXv (orv V s) l.toNat f ∧ f l.toNat < i)) (vi W s 9) (bev W s))
theorem XTI.beg : XTI V V s l g 0 := ⟨by omega, fun h1 h2 h3 h4 h5 => ⟨KPX.rf, h5.mo fun f pf => ⟨fun q => Or.inl q, fun q => by
  rcases q with q | ⟨-, q⟩
  · exact q
  · have hl : l.toNat < (PEC V s).1 := by
      show l.toNat < ssn V s
      have := h3.1
      omega
    have := (pf.1 l.toNat hl).1
    omega⟩⟩⟩
theorem XTI.skip (q : XTI V W s l g i) (hWv : WT K V) (hs : K s = some (0, 5)) (hb : wand (wshr g i) 1 ≠ 0) (hi : i < vi V (vq V s 0) 3) (hn : n = i + 1) : XTI V W s l g n := by
  obtain ⟨q0, q1⟩ := q
  obtain ⟨n8, en⟩ := ssn_8 hWv hs
  refine ⟨by omega, fun h1 h2 h3 h4 h5 => ?_⟩
  obtain ⟨r1, r2⟩ := q1 h1 h2 h3 h4 h5
  have ei : ((i.toNat : Nat) : Int) = i := by omega
  have hf : tb g i.toNat = true := by
    refine (shr1_n0 (z := g) (w := i.toNat) (by omega)).mp ?_
    rw [ei]
    exact hb
  have l0 := h3.1
  obtain ⟨k, k1, k2⟩ := (h3.2.2.2.2.2.2.1 i.toNat (by omega)).mp hf
  refine ⟨r1, r2.mo fun f pf => ⟨fun q => ?_, fun q => ?_⟩⟩
  · rcases q with q | ⟨p1, p2⟩
    · exact Or.inl q
    · exact Or.inr ⟨p1, by omega⟩
  · rcases q with q | ⟨p1, p2⟩
    · exact Or.inl q
    · refine Or.inr ⟨p1, ?_⟩
      have hl : l.toNat < (PEC V s).1 := by
        show l.toNat < ssn V s
        omega
      have e1 := p1 k (by omega)
      have hne : f l.toNat ≠ i := fun e2 => by
        have := pf.2 k l.toNat (by omega) hl (by omega)
        omega
      omega
/-- what the search says of an order that begins so and goes on with i -/
theorem ext_av {f : Nat → Int} {j : Nat} (hP : PFX W s l g) (hx : EXv (orv W s) l.toNat f) (hl : f l.toNat = i) (hj : j < 3) : avv (PEC W s) f j l.toNat = CAv W s l i j ∧ dyv (PEC W s) f j l.toNat = CDv W s l i j := by
  obtain ⟨p1, p2, p3, p4, p5, p6, p7, p8⟩ := hP
  have e : avv (PEC W s) f j l.toNat = CAv W s l i j := by
    unfold CAv
    by_cases c : l = 0
    · rw [if_pos c, c]
      rfl
    · rw [if_neg c]
      have es : l.toNat = (l - 1).toNat + 1 := by omega
      have r := (p8 (l - 1).toNat (by omega) j hj).1
      rw [es] at hl ⊢
      show dyv (PEC W s) f j (l - 1).toNat + LEGv W s (f (l - 1).toNat) (f ((l - 1).toNat + 1)) = _
      rw [hl, dyv_cg (g := orv W s) (l - 1).toNat (fun u hu => hx u (by omega)), ← r, hx (l - 1).toNat (by omega), show (((l - 1).toNat : Nat) : Int) = l - 1 by omega]
  refine ⟨e, ?_⟩
  rw [dyv_avv, e, hl]
  rfl
theorem cbd_of {g2 : Int} (hP : PFX W s l g) (hS : SGD W s) (n8 : ssn W s ≤ 8) (hl : l < (ssn W s : Int)) (i0 : 0 ≤ i) (i1 : i < (ssn W s : Int)) (eg : g2 = wor g (wshl 1 i)) : CBD W s l i g2 := by
  obtain ⟨p1, p2, p3, p4, p5, p6, p7, p8⟩ := hP
  have hS2 := hS
  obtain ⟨s1, s2, s3, s4, s5⟩ := hS2
  have ei : ((i.toNat : Nat) : Int) = i := by omega
  obtain ⟨m, rfl⟩ := Int.eq_ofNat_of_zero_le p3
  have ho := bit_on m (by omega) i.toNat (by omega)
  rw [ei, ← eg] at ho
  obtain ⟨m2, rfl⟩ := Int.eq_ofNat_of_zero_le ho.1
  have hr := bit_rest (ssn W s) n8 m2 (by omega)
  have hw := (bit_all (ssn W s) n8).2
  have hp := pow_8 n8
  obtain ⟨c1, c2, -⟩ := s2 _ i hr.1 (by rw [← hw]; exact hr.2) i0 i1
  refine ⟨p1, by omega, i0, by omega, by omega, ho.2, fun j hj => ?_, c1, ?_, fun h => ?_⟩
  · have b := s5 j i hj i0 i1
    refine ⟨?_, ?_, b.1, b.2⟩
    · unfold CAv
      by_cases c : l = 0
      · rw [if_pos c]
        exact s3
      · rw [if_neg c]
        have r := (p8 (l - 1).toNat (by omega) j hj).1
        rw [show (((l - 1).toNat : Nat) : Int) = l - 1 by omega] at r
        have r2 := dyv_rng hS hj (l - 1).toNat (fun u hu => p5 u (by omega))
        have b2 := p5 (l - 1).toNat (by omega)
        have r3 := s1 _ i b2.1 b2.2 i0 i1
        rw [r]
        omega
    · unfold CAv
      by_cases c : l = 0
      · rw [if_pos c]
        omega
      · rw [if_neg c]
        have r := (p8 (l - 1).toNat (by omega) j hj).1
        rw [show (((l - 1).toNat : Nat) : Int) = l - 1 by omega] at r
        have r2 := dyv_rng hS hj (l - 1).toNat (fun u hu => p5 u (by omega))
        have b2 := p5 (l - 1).toNat (by omega)
        have r3 := s1 _ i b2.1 b2.2 i0 i1
        rw [r]
        omega
  · unfold CRv
    omega
  · have b2 := p5 (l - 1).toNat (by omega)
    omega
/-- comes() says no: nothing that goes on with i is better -/
theorem XTI.no {g2 : Int} (q : XTI V W s l g i) (hWv : WT K V) (hs : K s = some (0, 5)) (hpe : PEC W s = PEC V s) (hah : ahv W s = ahv V s) (h9 : vi W1 s 9 = vi W s 9) (hbe : bev W1 s = bev W s) (hor : orv W1 s = orv W s) (hi : i < vi V (vq V s 0) 3) (hc : CMS W W1 s l i g2 X) (hX : X = 0) (eg : g2 = wor g (wshl 1 i)) (hb : wand (wshr g i) 1 = 0) (hn : n = i + 1) : XTI V W1 s l g n := by
  obtain ⟨q0, q1⟩ := q
  obtain ⟨n8, en⟩ := ssn_8 hWv hs
  have ez : ssn W s = ssn V s := congrArg (fun E : PEn => E.1) hpe
  refine ⟨by omega, fun h1 h2 h3 h4 h5 => ?_⟩
  obtain ⟨r1, r2⟩ := q1 h1 h2 h3 h4 h5
  have hPW := h3.fr r1 hpe
  have hSW := h2.fr hpe hah
  have hB := cbd_of hPW hSW (by omega) (by omega) q0 (by omega) eg
  obtain ⟨c1, c2⟩ := hc hB
  have l0 := h3.1
  have g0 := h3.2.2.1
  have g2b := h3.2.2.2.1
  have ei : ((i.toNat : Nat) : Int) = i := by omega
  have hl : l.toNat < (PEC V s).1 := by
    show l.toNat < ssn V s
    omega
  have eo : ∀ j : Nat, j < l.toNat → orv V s j = orv W s j := fun j hj => (r1.1 j (by omega)).symm
  refine ⟨?_, ?_⟩
  · refine ⟨fun k hk => by rw [hor]; exact r1.1 k hk, fun z z0 hz => (c1 z (Or.inl hz)).trans (r1.2 z z0 hz)⟩
  · rw [h9, hbe]
    rcases c2 with ⟨c3, -⟩ | ⟨-, j, j3, c4⟩
    · exact absurd hX c3
    · have key : ∀ f : Nat → Int, PRM (PEC V s).1 f → (DLv (orv V s) l.toNat f ∨ (EXv (orv V s) l.toNat f ∧ f l.toNat < n)) → ¬ (DLv (orv V s) l.toNat f ∨ (EXv (orv V s) l.toNat f ∧ f l.toNat < i)) → EXv (orv V s) l.toNat f ∧ f l.toNat = i := fun f pf d1 d2 => by
        rcases d1 with d1 | ⟨d1, d3⟩
        · exact absurd (Or.inl d1) d2
        · refine ⟨d1, ?_⟩
          by_cases c : f l.toNat < i
          · exact absurd (Or.inr ⟨d1, c⟩) d2
          · omega
      refine r2.pr (fun f pf df => ?_) (fun f pf d1 d2 ff => ?_) (fun f pf d1 d2 db => ?_)
      · rcases df with df | ⟨df, d3⟩
        · exact Or.inl df
        · exact Or.inr ⟨df, by omega⟩
      · obtain ⟨k1, k2⟩ := key f pf d1 d2
        obtain ⟨a1, a2⟩ := ext_av hPW (k1.cg eo) k2 j3
        rw [hpe] at a1 a2
        have f1 := ff l.toNat hl j j3
        rw [a1, k2] at f1
        have eC : CLSv W s = CLSv V s := congrArg (fun E : PEn => E.2.2.2.2) hpe
        have f1' : CAv W s l i j ≤ CLSv V s j i := f1
        rw [eC] at c4
        rcases c4 with c4 | ⟨c4, c5⟩
        · omega
        · refine ⟨c4, ?_⟩
          have pf' : PRM (ssn V s) f := pf
          obtain ⟨m, em⟩ := Int.eq_ofNat_of_zero_le g0
          have hon := bit_on m (by omega) i.toNat (by omega)
          rw [← em, ei, ← eg] at hon
          obtain ⟨m2, em2⟩ := Int.eq_ofNat_of_zero_le hon.1
          have hr := bit_rest (ssn V s) n8 m2 (by omega)
          rw [← em2] at hr
          have hall := bit_all (ssn V s) n8
          have hr2 : wand (wshl 1 (ssn V s : Int) - 1) (wxor g2 (-1)) < ((2 ^ ssn V s : Nat) : Int) := by
            rw [← hall.2]
            exact hr.2
          have hbits : ∀ y : Nat, y < ssn V s → (tb (wand (wshl 1 (ssn V s : Int) - 1) (wxor g2 (-1))) y = true ↔ ∃ u : Nat, l.toNat < u ∧ u < ssn V s ∧ f u = (y : Int)) := fun y hy => by
            have et : tb (wand (wshl 1 (ssn V s : Int) - 1) (wxor g2 (-1))) y = !(tb g y || decide (y = i.toNat)) := by
              rw [tb_wand, tb_wxor, tb_m1 (by omega), hall.1 y (by omega), decide_eq_true hy, Bool.true_and, Bool.xor_true, eg, tb_wor]
              rw [← ei, tb_shl (by omega) (by omega), ei]
            rw [et, Bool.not_eq_true', Bool.or_eq_false_iff, decide_eq_false_iff_not]
            have hg := h3.2.2.2.2.2.2.1 y hy
            constructor
            · rintro ⟨t1, t2⟩
              obtain ⟨u, u1, u2⟩ := php (ssn V s) f pf' (y : Int) (by omega) (by omega)
              refine ⟨u, ?_, u1, u2⟩
              rcases Nat.lt_trichotomy u l.toNat with c | c | c
              · have hul : (u : Int) < l := by
                  clear hg
                  omega
                have := hg.mpr ⟨u, hul, by rw [← k1 u c]; exact u2⟩
                rw [this] at t1
                cases t1
              · rw [c] at u2
                omega
              · exact c
            · rintro ⟨u, u1, u2, u3⟩
              refine ⟨?_, fun e => ?_⟩
              · cases c : tb g y
                · rfl
                · obtain ⟨k, v1, v2⟩ := hg.mp c
                  have := k1 k (by omega)
                  have := pf'.2 k u (by omega) u2 (by omega)
                  omega
              · have := pf'.2 u l.toNat u2 hl (by omega)
                omega
          have rl := rest_le (j := j) h2.2.1 n8 pf' (ssn V s - 1 - l.toNat) l.toNat _ (by omega) hr.1 hr2 hbits
          have eR : CRv W s i g2 = ahv V s (wand (wshl 1 (ssn V s : Int) - 1) (wxor g2 (-1)) * 8 + f l.toNat) := by
            unfold CRv
            rw [ez, hah, k2]
          rw [a2, ← eR] at rl
          have le : dyv (PEC V s) f j (ssn V s - 1) ≤ EDv (PEC V s) f := by
            rcases (show j = 0 ∨ j = 1 ∨ j = 2 by omega) with rfl | rfl | rfl
            · exact Int.le_trans mxv_l mxv_l
            · exact Int.le_trans mxv_r mxv_l
            · exact mxv_r
          omega
      · obtain ⟨k1, k2⟩ := key f pf d1 d2
        rcases db with ⟨k, v1, v2, v3⟩ | ⟨v1, v2⟩
        · exact ⟨k, by omega, fun j hj => (v2 j hj).trans (k1 j (by omega)).symm, by rw [k1 k v1]; exact v3⟩
        · exact ⟨l.toNat, hl, fun j hj => (v1 j hj).trans (k1 j hj).symm, by rw [k2]; exact v2⟩
/-- the order is written -/
theorem rp_ord (hW : WT K W1) (hs : K s = some (0, 5)) (e : W2 = rpv W1 (vq W1 s 5) 8 l i) (l0 : 0 ≤ l) (l8 : l < 8) (ri : ir i) : (∀ k : Nat, orv W2 s k = if (k : Int) = l then i else orv W1 s k) ∧ dav W2 s = dav W1 s ∧ bev W2 s = bev W1 s ∧ vi W2 s 9 = vi W1 s 9 := by
  have e' := rpv_put e l0 (by omega)
  have a5 := row_n (j := 5) hW hs rfl rfl rfl (by decide) (L := 8) (t := 141)
  have a4 := row_n (j := 4) hW hs rfl rfl rfl (by decide) (L := 24) (t := 140)
  have a7 := row_n (j := 7) hW hs rfl rfl rfl (by decide) (L := 8) (t := 143)
  have n1 : s ≠ vq W1 s 5 := K_ne hs a5 (by decide)
  have n4 : vq W1 s 4 ≠ vq W1 s 5 := K_ne a4 a5 (by decide)
  have n7 : vq W1 s 7 ≠ vq W1 s 5 := K_ne a7 a5 (by decide)
  have es : ∀ j : Nat, vq W2 s j = vq W1 s j := fun j => by
    refine vq_eq ?_
    rw [e']
    exact upd2_ne (Or.inl n1)
  have er := rpv_m e l0 (by omega) ri
  refine ⟨fun k => ?_, ?_, ?_, vi_up e' (Or.inl n1)⟩
  · unfold orv
    rw [es]
    exact er k
  · funext z
    unfold dav rgv
    rw [es]
    split
    · exact vi_up e' (Or.inl n4)
    · rfl
  · funext z
    unfold bev rgv
    rw [es]
    split
    · exact vi_up e' (Or.inl n7)
    · rfl
/-- comes() says yes: the order goes on -/
theorem XTI.go {g2 g3 l2 : Int} (q : XTI V W s l g i) (hWv : WT K V) (hW1 : WT K W1) (hs : K s = some (0, 5)) (hpe : PEC W s = PEC V s) (hah : ahv W s = ahv V s) (hpe2 : PEC W2 s = PEC V s) (hah2 : ahv W2 s = ahv V s) (h9 : vi W1 s 9 = vi W s 9) (hbe : bev W1 s = bev W s) (hor : orv W1 s = orv W s) (hi : i < vi V (vq V s 0) 3) (hc : CMS W W1 s l i g2 X) (hX : X ≠ 0) (eg : g2 = wor g (wshl 1 i)) (hb : wand (wshr g i) 1 = 0) (ri : ir i) (ew : W2 = rpv W1 (vq W1 s 5) 8 l i) (hg : GOP W2 W3 s l2 g3) (el : l2 = l + 1) (eg3 : g3 = wor g (wshl 1 i)) (hn : n = i + 1) : XTI V W3 s l g n := by
  obtain ⟨q0, q1⟩ := q
  obtain ⟨n8, en⟩ := ssn_8 hWv hs
  have ez : ssn W s = ssn V s := congrArg (fun E : PEn => E.1) hpe
  have ez2 : ssn W2 s = ssn V s := congrArg (fun E : PEn => E.1) hpe2
  have eC : CLSv W s = CLSv V s := congrArg (fun E : PEn => E.2.2.2.2) hpe
  have eC2 : CLSv W2 s = CLSv V s := congrArg (fun E : PEn => E.2.2.2.2) hpe2
  subst el
  refine ⟨by omega, fun h1 h2 h3 h4 h5 => ?_⟩
  obtain ⟨r1, r2⟩ := q1 h1 h2 h3 h4 h5
  have hPW := h3.fr r1 hpe
  have hSW := h2.fr hpe hah
  have hB := cbd_of hPW hSW (by omega) (by omega) q0 (by omega) eg
  obtain ⟨c1, c2⟩ := hc hB
  have l0 := h3.1
  have g0 := h3.2.2.1
  have g2b := h3.2.2.2.1
  have ei : ((i.toNat : Nat) : Int) = i := by omega
  have hl : l.toNat < ssn V s := by omega
  rcases c2 with ⟨-, c3⟩ | ⟨c3, -⟩
  · obtain ⟨o1, o2, o3, o4⟩ := rp_ord hW1 hs ew l0 (by omega) ri
    have eo : ∀ k : Nat, (k : Int) < l → orv W2 s k = orv V s k := fun k hk => by
      rw [o1, if_neg (by omega), hor]
      exact r1.1 k hk
    have eoi : orv W2 s l.toNat = i := by rw [o1, if_pos (by omega)]
    have eow : ∀ k : Nat, k < l.toNat → orv W2 s k = orv W s k := fun k hk => by rw [o1, if_neg (by omega), hor]
    have hbit : tb g i.toNat = false := by
      refine (shr1_0 (z := g) (w := i.toNat) (by omega)).mp ?_
      rw [ei]
      exact hb
    obtain ⟨p1, p2, p3, p4, p5, p6, p7, p8⟩ := h3
    have hPW2 : PFX W2 s (l + 1) g3 := by
      obtain ⟨m, em⟩ := Int.eq_ofNat_of_zero_le g0
      have hon := bit_on m (by omega) i.toNat (by omega)
      rw [← em, ei, ← eg3] at hon
      refine ⟨by omega, by omega, hon.1, hon.2, fun k hk => ?_, fun k j hk hj e => ?_, fun y hy => ?_, fun k hk j hj => ?_⟩
      · rw [ez2]
        by_cases c : (k : Int) < l
        · rw [eo k c]
          exact p5 k c
        · rw [show k = l.toNat by omega, eoi]
          omega
      · have hno : ∀ k : Nat, (k : Int) < l → orv V s k ≠ i := fun k hk e2 => by
          have := (p7 i.toNat (by omega)).mpr ⟨k, hk, by omega⟩
          rw [hbit] at this
          cases this
        by_cases ck : (k : Int) < l
        · by_cases cj : (j : Int) < l
          · exact p6 k j ck cj (by rw [← eo k ck, ← eo j cj]; exact e)
          · rw [eo k ck, show j = l.toNat by omega, eoi] at e
            exact absurd e (hno k ck)
        · by_cases cj : (j : Int) < l
          · rw [eo j cj, show k = l.toNat by omega, eoi] at e
            exact absurd e.symm (hno j cj)
          · omega
      · rw [eg3, tb_wor, ← ei, tb_shl (by omega) (by omega), Bool.or_eq_true, decide_eq_true_eq, p7 y (by omega)]
        constructor
        · rintro (⟨k, k1, k2⟩ | k1)
          · exact ⟨k, by omega, by rw [eo k k1]; exact k2⟩
          · exact ⟨l.toNat, by omega, by rw [eoi]; omega⟩
        · rintro ⟨k, k1, k2⟩
          by_cases c : (k : Int) < l
          · exact Or.inl ⟨k, c, by rw [← eo k c]; exact k2⟩
          · rw [show k = l.toNat by omega, eoi] at k2
            exact Or.inr (by omega)
      · rw [hpe2, eC2, o2]
        by_cases c : (k : Int) < l
        · have hcg : ∀ u : Nat, u ≤ k → orv W2 s u = orv V s u := fun u hu => eo u (by omega)
          rw [dyv_cg k hcg, avv_cg hcg, eo k c, c1 _ (Or.inl (by omega)), r1.2 _ (by omega) (by omega)]
          exact p8 k c j hj
        · have ek : k = l.toNat := by omega
          subst ek
          obtain ⟨a1, a2⟩ := ext_av (f := orv W2 s) hPW (fun u hu => eow u hu) eoi hj
          rw [hpe] at a1 a2
          obtain ⟨c4, c5, c6⟩ := c3 j hj
          rw [a1, a2, eoi, ← eC, show ((l.toNat : Nat) : Int) = l by omega]
          exact ⟨c6, c4⟩
    have hSW2 := h2.fr hpe2 hah2
    have eln : (l + 1).toNat = l.toNat + 1 := by omega
    have eo' : ∀ j : Nat, j < l.toNat → orv V s j = orv W2 s j := fun j hj => (eo j (by omega)).symm
    have eo2 : ∀ j : Nat, j < l.toNat → orv W2 s j = orv V s j := fun j hj => eo j (by omega)
    have hB2 : BSv (PEC W2 s) (DLv (orv W2 s) (l + 1).toNat) (vi W2 s 9) (bev W2 s) := by
      rw [hpe2, o4, o3, h9, hbe, eln]
      refine r2.mo fun f pf => ?_
      rw [DLv.suc, eoi]
      constructor
      · rintro (d | ⟨d, d2⟩)
        · exact Or.inl (d.cg eo')
        · exact Or.inr ⟨d.cg eo', d2⟩
      · rintro (d | ⟨d, d2⟩)
        · exact Or.inl (d.cg eo2)
        · exact Or.inr ⟨d.cg eo2, d2⟩
    have hlast : l + 1 = (ssn W2 s : Int) → vi W2 s 9 ≠ -1 → ∀ j : Nat, j < 3 → dyv (PEC W2 s) (orv W2 s) j (ssn W2 s - 1) < vi W2 s 9 := fun d1 d2 j hj => by
      rw [o4, h9] at d2 ⊢
      obtain ⟨-, a2⟩ := ext_av (f := orv W2 s) hPW (fun u hu => eow u hu) eoi hj
      obtain ⟨c4, c5, c6⟩ := c3 j hj
      rw [hpe2, ← hpe, show ssn W2 s - 1 = l.toNat by omega, a2]
      have := hB.2.2.2.2.2.2.2.1
      rcases c5 with c5 | c5
      · exact absurd c5 d2
      · omega
    obtain ⟨k1, k2⟩ := hg (by omega) hSW2 hPW2 hB2 hlast
    refine ⟨⟨fun k hk => (k1.1 k (by omega)).trans (eo k hk), fun z z0 hz => ?_⟩, ?_⟩
    · rw [k1.2 z z0 (by omega), o2, c1 z (Or.inl hz)]
      exact r1.2 z z0 hz
    · rw [hpe2, eln] at k2
      refine k2.mo fun f pf => ?_
      rw [DLv.suc, EXv.suc, eoi]
      constructor
      · rintro ((d | ⟨d, d2⟩) | ⟨d, d2⟩)
        · exact Or.inl (d.cg eo2)
        · exact Or.inr ⟨d.cg eo2, by omega⟩
        · exact Or.inr ⟨d.cg eo2, by omega⟩
      · rintro (d | ⟨d, d2⟩)
        · exact Or.inl (Or.inl (d.cg eo'))
        · by_cases c : f l.toNat = i
          · exact Or.inr ⟨d.cg eo', c⟩
          · exact Or.inl (Or.inr ⟨d.cg eo', by omega⟩)
  · exact absurd c3 hX
theorem XTP.mk (q : XTI V W s l g i) (hW : WT K V) (hs : K s = some (0, 5)) (hi : vi V (vq V s 0) 3 ≤ i) : XTP V W s l g := fun h1 h2 h3 h4 h5 => by
  obtain ⟨n8, en⟩ := ssn_8 hW hs
  obtain ⟨r1, r2⟩ := q.2 h1 h2 h3 h4 h5
  refine ⟨r1, r2.mo fun f pf => ⟨fun d => ?_, fun d => ?_⟩⟩
  · rcases d with d | ⟨d, -⟩
    · exact Or.inl d
    · exact Or.inr d
  · rcases d with d | d
    · exact Or.inl d
    · refine Or.inr ⟨d, ?_⟩
      have l0 := h3.1
      have hl : l.toNat < ssn V s := by omega
      have := (pf.1 l.toNat hl).2
      have e : (((PEC V s).1 : Nat) : Int) = (ssn V s : Int) := rfl
      omega
/-! the whole search -/
def OPB (V : Vmap) (s : Nat) : Prop := ∀ (i : Nat) (a : Int), i < 3 → 0 ≤ a → a < (ssn V s : Int) → 0 ≤ OPNv V s i a ∧ OPNv V s i a ≤ 359
def SKP (V V1 : Vmap) (s : Nat) (d : Int) : Prop := vi V1 s 8 = d ∧ (1 ≤ ssn V s → LGB V s → AH0 V s → OPB V s → 0 ≤ d → d ≤ 449 → PEC V1 s = (ssn V s, d, LEGv V s, OPNv V s, CLSv V s) ∧ AH0 V1 s ∧ BSv (PEC V1 s) (fun _ => True) (vi V1 s 9) (bev V1 s))
/-- V: ahead of all; W: behind lookAhead; V1: at the end -/
theorem SKP.mk {U : Vmap} (hWu : WT K U) (hs : K s = some (0, 5)) (hU : PEC U s = (ssn V s, d, LEGv V s, OPNv V s, CLSv V s)) (haU : ahv U s = ahv V s) (hk : LKA U W s) (hpW : PEC W s = PEC U s) (h9 : vi W s 9 = -1) (hx : XTP W V1 s 0 0) (hp1 : PEC V1 s = PEC W s) (ha1 : ahv V1 s = ahv W s) : SKP V V1 s d := by
  have h8 : vi V1 s 8 = d := (congrArg (fun E : PEn => E.2.1) hp1).trans ((congrArg (fun E : PEn => E.2.1) hpW).trans (congrArg (fun E : PEn => E.2.1) hU))
  refine ⟨h8, fun h1 hL hA hO d0 d9 => ?_⟩
  have eU := hU
  have a1 : ssn U s = ssn V s := congrArg (fun E : PEn => E.1) hU
  have a3 : LEGv U s = LEGv V s := congrArg (fun E : PEn => E.2.2.1) hU
  have b1 : ssn W s = ssn U s := congrArg (fun E : PEn => E.1) hpW
  have b2 : vi W s 8 = d := (congrArg (fun E : PEn => E.2.1) hpW).trans (congrArg (fun E : PEn => E.2.1) hU)
  have b3 : LEGv W s = LEGv U s := congrArg (fun E : PEn => E.2.2.1) hpW
  have b4 : OPNv W s = OPNv V s := (congrArg (fun E : PEn => E.2.2.2.1) hpW).trans (congrArg (fun E : PEn => E.2.2.2.1) hU)
  obtain ⟨n8, en⟩ := ssn_8 hWu hs
  have hLU : LGB U s := by
    unfold LGB at hL ⊢
    rw [a1, a3]
    exact hL
  have hAU : AH0 U s := by
    unfold AH0 at hA ⊢
    rw [haU]
    exact hA
  obtain ⟨k1, k2⟩ := hk hLU hAU
  have hLW : LGB W s := by
    unfold LGB at hLU ⊢
    rw [b1, b3]
    exact hLU
  have hAW : AHB W W s ((2 ^ ssn W s : Nat) : Int) := by
    unfold AHB AHC at k1 ⊢
    rw [b1, b3]
    exact k1
  have hS : SGD W s := by
    refine ⟨hLW, hAW, by omega, by omega, fun i a hi h0 h2 => ?_⟩
    rw [b4]
    exact hO i a hi h0 (by omega)
  have hP : PFX W s 0 0 := ⟨by omega, by omega, by omega, by omega, fun k hk => by omega, fun i j hi => by omega, fun y hy => by
    rw [tb_zero]
    exact ⟨fun q => (by cases q), fun ⟨k, k3, _⟩ => by omega⟩, fun k hk => by omega⟩
  have hB : BSv (PEC W s) (DLv (orv W s) (0 : Int).toNat) (vi W s 9) (bev W s) := by
    rw [h9]
    exact BSv.nil fun f _ ⟨k, k3, _⟩ => absurd k3 (Nat.not_lt_zero k)
  obtain ⟨-, r⟩ := hx (by omega) hS hP (by omega) hB
  refine ⟨hp1.trans (hpW.trans hU), ?_, ?_⟩
  · unfold AH0 at k2 ⊢
    rw [ha1]
    exact k2
  · rw [hp1]
    exact r.mo fun f _ => ⟨fun _ => trivial, fun _ => Or.inr fun j hj => absurd hj (Nat.not_lt_zero j)⟩
end PPE
