/-! ### a season's voyage: legs by where the stations are; plan, planned -/
section PPF
variable {K K1 K2 : Kmap} {V V0 V1 V2 V3 W W1 W2 W3 : Vmap} {x m s o q : Nat} {a b c d e g i k l n p t u w y z v X Y Z T : Int}
def abv (a : Int) : Int := if 0 ≤ a then a else -a
theorem abv_of (h : ABS a X) (r : -2147483648 < a) : X = abv a := by
  unfold abv
  by_cases q : 0 ≤ a
  · rw [if_pos q]
    exact h.1 q
  · rw [if_neg q]
    exact h.2 (by omega) r
def FDv (w a b : Int) : Int := mxv (abv (a / w - b / w)) (abv (a % w - b % w))
theorem FDv_rng (a0 : 0 ≤ a) (a1 : a ≤ 143) (b0 : 0 ≤ b) (b1 : b ≤ 143) (w4 : 4 ≤ w) (w12 : w ≤ 12) : 0 ≤ FDv w a b ∧ FDv w a b ≤ 36 := by
  have e1 : a / w ≤ 35 := Int.lt_add_one_iff.mp (Int.ediv_lt_of_lt_mul (by omega) (by omega))
  have e2 : b / w ≤ 35 := Int.lt_add_one_iff.mp (Int.ediv_lt_of_lt_mul (by omega) (by omega))
  have ra := div_rng (a := a) (b := w) a0 (by omega)
  have rb := div_rng (a := b) (b := w) b0 (by omega)
  have ma := rem_rng (a := a) (b := w) (by omega)
  have mb := rem_rng (a := b) (b := w) (by omega)
  unfold FDv
  generalize a / w = A at *
  generalize b / w = B at *
  generalize a % w = C at *
  generalize b % w = D at *
  have g1 : 0 ≤ abv (A - B) ∧ abv (A - B) ≤ 36 := by
    unfold abv
    split <;> omega
  have g2 : 0 ≤ abv (C - D) ∧ abv (C - D) ≤ 36 := by
    unfold abv
    split <;> omega
  exact ⟨Int.le_trans g1.1 mxv_l, mxv_le g1.2 g2.2⟩
def FDC (w a b X : Int) : Prop := 0 ≤ a → a ≤ 143 → 0 ≤ b → b ≤ 143 → 4 ≤ w → w ≤ 12 → X = FDv w a b
theorem FDC.mk {A B C D Y1 Y2 Z1 Z2 : Int} (r1 : 0 ≤ a → A = a / w) (r2 : 0 ≤ b → B = b / w) (h1 : ABS Z1 Y1) (z1 : ir (A - B) → Z1 = A - B) (r3 : 0 ≤ a → C = a % w) (r4 : 0 ≤ b → D = b % w) (h2 : ABS Z2 Y2) (z2 : ir (C - D) → Z2 = C - D) (hX : (X = Y1 ∧ Y2 ≤ Y1) ∨ (X = Y2 ∧ Y1 ≤ Y2)) : FDC w a b X := fun a0 a1 b0 b1 w4 w12 => by
  have ra := div_rng (a := a) (b := w) a0 (by omega)
  have rb := div_rng (a := b) (b := w) b0 (by omega)
  have ma := rem_rng (a := a) (b := w) (by omega)
  have mb := rem_rng (a := b) (b := w) (by omega)
  have eA := r1 a0
  have eB := r2 b0
  have eC := r3 a0
  have eD := r4 b0
  rw [← eA] at ra
  rw [← eB] at rb
  rw [← eC] at ma
  rw [← eD] at mb
  have k1 := z1 ⟨by omega, by omega⟩
  have k2 := z2 ⟨by omega, by omega⟩
  have e1 := abv_of h1 (by omega)
  have e2 := abv_of h2 (by omega)
  unfold FDv
  rw [← eA, ← eB, ← eC, ← eD, ← k1, ← k2, ← e1, ← e2]
  exact mxv_of hX
/-- the reference's -/
theorem FDC.rf {Y1 Y2 : Int} (h1 : ABS (a / w - b / w) Y1) (h2 : ABS (a % w - b % w) Y2) (hX : (X = Y1 ∧ Y2 ≤ Y1) ∨ (X = Y2 ∧ Y1 ≤ Y2)) : FDC w a b X := FDC.mk (A := a / w) (B := b / w) (C := a % w) (D := b % w) (fun _ => rfl) (fun _ => rfl) h1 (fun _ => rfl) (fun _ => rfl) (fun _ => rfl) h2 (fun _ => rfl) hX
/-! the legs -/
def stC (V : Vmap) (x : Nat) (a : Int) : Int := vi V (plO V x (stg V x a.toNat).toNat) 2
def SVK (V : Vmap) (x : Nat) : Prop := ∀ j : Nat, (j : Int) < ssz V x → PK V x (stg V x j) 1
def LGX (V : Vmap) (x : Nat) (a b : Int) : Int := 2 * FDv (vi V (vq V x 0) 3) (stC V x a) (stC V x b)
def MLG (V V1 : Vmap) (x : Nat) : Prop := PLI V x → SVK V x → ∀ a b : Int, 0 ≤ a → a < ssz V x → 0 ≤ b → b < ssz V x → LEGv V1 (vq V x 2) a b = LGX V x a b
def MLO5 (V W : Vmap) (x : Nat) (i : Int) : Prop := 0 ≤ i ∧ (PLI V x → SVK V x → ∀ a b : Int, 0 ≤ a → a < ssz V x → a < i → 0 ≤ b → b < ssz V x → LEGv W (vq V x 2) a b = LGX V x a b)
def MLN (V W : Vmap) (x : Nat) (i j : Int) : Prop := 0 ≤ i ∧ 0 ≤ j ∧ i < ssz V x ∧ (PLI V x → SVK V x → ∀ a b : Int, 0 ≤ a → a < ssz V x → 0 ≤ b → b < ssz V x → (a < i ∨ (a = i ∧ b < j)) → LEGv W (vq V x 2) a b = LGX V x a b)
theorem MLO5.beg : MLO5 V V x 0 := ⟨by omega, fun _ _ a b h0 _ h1 => by omega⟩
theorem MLO5.in (h : MLO5 V W x i) (hS : SSM V W x) (hi : i < vi W (sto W x) 3) : MLN V W x i 0 := ⟨h.1, by omega, by rw [← hS.1]; exact hi, fun h1 h2 a b a0 a1 b0 b1 hc => h.2 h1 h2 a b a0 a1 (by omega) b0 b1⟩
theorem MLN.out (h : MLN V W x i l) (hS : SSM V W x) (hl : vi W (sto W x) 3 ≤ l) (hn : n = i + 1) : MLO5 V W x n := by
  have e : vi W (sto W x) 3 = ssz V x := hS.1
  exact ⟨by have := h.1; omega, fun h1 h2 a b a0 a1 ha b0 b1 => h.2.2.2 h1 h2 a b a0 a1 b0 b1 (by omega)⟩
theorem MLG.mk (h : MLO5 V W x i) (hS : SSM V W x) (hi : vi W (sto W x) 3 ≤ i) : MLG V W x := fun h1 h2 a b a0 a1 b0 b1 => h.2 h1 h2 a b a0 a1 (by have e : vi W (sto W x) 3 = ssz V x := hS.1; omega) b0 b1
/-- no station there: it can't be -/
theorem MLN.nul (h : MLN V W x i l) (hS : SSM V W x) (hM : SMC V W x) (hW : WT K W) (hx : K x = some (0, 10)) (l0 : 0 ≤ l) (hl : l < vi W (sto W x) 3) (ht : TG K W (sto W x) u 0 X) (hu : u = i ∨ u = l) (hn : NN 6 5 W x → ¬ PK W x X 1) : MLN V W x i n ∨ ¬ (PLI V x ∧ SVK V x) := by
  by_cases q : PLI V x ∧ SVK V x
  · exfalso
    obtain ⟨q1, q2⟩ := q
    obtain ⟨g1, g2, -, -⟩ := hM q1
    have e : vi W (sto W x) 3 = ssz V x := hS.1
    have i0 := h.1
    have i1 := h.2.2.1
    have eX := tgv_st hW (st_at hW hx).2 (i := u) (by omega) (by omega) ht
    have eX2 : X = stg V x u.toNat := eX.trans (hS.2 u.toNat)
    have pk := q2 u.toNat (by omega)
    refine hn g1.1 ?_
    rw [eX2]
    exact ⟨pk.1, by rw [g2.1]; exact pk.2.1, by rw [g2.kd (by have := pk.1; have := pk.2.1; omega)]; exact pk.2.2⟩
  · exact Or.inr q
theorem MLN.vac (h : MLN V W x i l) (l0 : 0 ≤ l) (hn : n = l + 1) (hq : ¬ (PLI V x ∧ SVK V x)) : MLN V W x i n := ⟨h.1, by omega, h.2.2.1, fun h1 h2 => absurd ⟨h1, h2⟩ hq⟩
theorem MLN.no (h : MLN V W x i l) (hS : SSM V W x) (hM : SMC V W x) (hW : WT K W) (hx : K x = some (0, 10)) (l0 : 0 ≤ l) (hl : l < vi W (sto W x) 3) (ht : TG K W (sto W x) u 0 X) (hu : u = i ∨ u = l) (hn : NN 6 5 W x → ¬ PK W x X 1) (h1 : n = l + 1) : MLN V W x i n := by
  rcases MLN.nul (n := n) h hS hM hW hx l0 hl ht hu hn with g | g
  · exact g
  · exact h.vac l0 h1 g
theorem MLN.step {o1 o2 : Nat} {X1 X2 z1 z2 zf : Int} (h : MLN V W x i l) (hWv : WT K V) (hS : SSM V W x) (hM : SMC V W x) (hW : WT K W) (hx : K x = some (0, 10)) (es : vq W x 2 = vq V x 2) (l0 : 0 ≤ l) (hl : l < vi W (sto W x) 3) (t1 : TG K W (sto W x) i 0 X1) (p1 : o1 = plO W x X1.toNat ∧ PK W x X1 1) (t2 : TG K W (sto W x) l 0 X2) (p2 : o2 = plO W x X2.toNat ∧ PK W x X2 1) (hf : FDC (vi W (vq W x 0) 3) (vi W o1 2) (vi W o2 2) Y) (hz : ir (2 * Y) → zf = 2 * Y) (rz : ir zf) (k1 : ir (i * 8) → z1 = i * 8) (k2 : ir (z1 + l) → z2 = z1 + l) (ew : W1 = rpv W (vq W (vq W x 2) 3) 64 z2 zf) (hn : n = l + 1) : MLN V W1 x i n := by
  obtain ⟨i0, -, i1, h3⟩ := h
  refine ⟨i0, by omega, i1, fun h1 h2 a b a0 a1 b0 b1 hc => ?_⟩
  have e : vi W (sto W x) 3 = ssz V x := hS.1
  obtain ⟨st2, st1⟩ := st_at hWv hx
  obtain ⟨sw2, sw1⟩ := st_at hW hx
  have z8 := (hW.int sw1 (j := 3) (Nat.le_of_ble_eq_true rfl) rfl).2
  obtain ⟨g1, g2, g3, g4⟩ := hM h1
  have e1 : X1 = stg V x i.toNat := (tgv_st hW sw1 i0 (by omega) t1).trans (hS.2 i.toNat)
  have e2 : X2 = stg V x l.toNat := (tgv_st hW sw1 l0 (by omega) t2).trans (hS.2 l.toNat)
  have q1 := h2 i.toNat (by omega)
  have q2 := h2 l.toNat (by omega)
  rw [← e1] at q1
  rw [← e2] at q2
  have c0 := q1.1
  have c1 := q1.2.1
  have d0 := q2.1
  have d1 := q2.2.1
  have f1 : vi W o1 2 = stC V x i := by
    have e3 : vi W (plO W x X1.toNat) 2 = vi V (plO V x X1.toNat) 2 := congrArg (fun r : Int × Int × Int => r.1) (g3 X1.toNat (by omega))
    rw [p1.1, e3, e1]
    rfl
  have f2 : vi W o2 2 = stC V x l := by
    have e3 : vi W (plO W x X2.toNat) 2 = vi V (plO V x X2.toNat) 2 := congrArg (fun r : Int × Int × Int => r.1) (g3 X2.toNat (by omega))
    rw [p2.1, e3, e2]
    rfl
  have w0 := (hWv.int (ld_at hWv hx).1 (j := 3) (Nat.le_of_ble_eq_true rfl) rfl).2
  have w1 := (hWv.int (ld_at hWv hx).1 (j := 4) (Nat.le_of_ble_eq_true rfl) rfl).2
  have wm := mul_rng (a := vi V (vq V x 0) 3) (b := vi V (vq V x 0) 4) (A := 12) (B := 12) (by omega) w0.2 (by omega) w1.2
  have u1 : 0 ≤ stC V x i ∧ stC V x i < vi V (vq V x 0) 3 * vi V (vq V x 0) 4 := by
    have := (h1.2.2.1 X1.toNat (by omega)).1
    unfold stC
    rw [← e1]
    exact this
  have u2 : 0 ≤ stC V x l ∧ stC V x l < vi V (vq V x 0) 3 * vi V (vq V x 0) 4 := by
    have := (h1.2.2.1 X2.toNat (by omega)).1
    unfold stC
    rw [← e2]
    exact this
  rw [f1, f2, g4.1] at hf
  have eY := hf u1.1 (by omega) u2.1 (by omega) w0.1 w0.2
  have rY := FDv_rng u1.1 (by omega) u2.1 (by omega) w0.1 w0.2
  rw [← eY] at rY
  have ez := hz ⟨by omega, by omega⟩
  have kk1 := k1 ⟨by omega, by omega⟩
  have kk2 := k2 ⟨by omega, by omega⟩
  rw [kk2, kk1, es] at ew
  have es3 : K (vq V x 2) = some (0, 5) := st2
  have hA := row_n (j := 3) hW es3 rfl rfl rfl (by decide) (L := 64) (t := 139)
  have n1 : vq V x 2 ≠ vq W (vq V x 2) 3 := K_ne es3 hA (by decide)
  have ew' := rpv_put ew (by omega) (by omega)
  have er := rpv_m ew (by omega) (by omega) rz
  have e33 : vq W1 (vq V x 2) 3 = vq W (vq V x 2) 3 := by
    refine vq_eq ?_
    rw [ew']
    exact upd2_ne (Or.inl n1)
  unfold LEGv
  rw [e33, er]
  by_cases c : a = i ∧ b = l
  · obtain ⟨ca, cb⟩ := c
    rw [ca, cb, if_pos rfl, ez, eY]
    rfl
  · rw [if_neg (by omega)]
    exact h3 h1 h2 a b a0 a1 b0 b1 (by omega)
/-! plan() -/
def PEX (V : Vmap) (x : Nat) (d : Int) : PEn := (ssn V (vq V x 2), d, LGX V x, OPNv V (vq V x 2), CLSv V (vq V x 2))
/-- what a season keeps: needs, ices, stations that are there; where a plan stands, it is the best -/
def SXC (V : Vmap) (x : Nat) : Prop := AH0 V (vq V x 2) ∧ OPB V (vq V x 2) ∧ NDB V (vq V x 2) ∧ SVK V x ∧ (vi V (vq V x 2) 8 = -1 ∨ (1 ≤ ssn V (vq V x 2) ∧ BSv (PEX V x (vi V (vq V x 2) 8)) (fun _ => True) (vi V (vq V x 2) 9) (bev V (vq V x 2))))
def PAD (V : Vmap) (x : Nat) (p y d : Int) : Prop := (0 ≤ p ∧ p < vi V x 10) ∧ (0 ≤ y ∧ y ≤ 3) ∧ (0 ≤ d ∧ d ≤ 359) ∧ 1 ≤ ssn V (vq V x 2) ∧ nsm (ndv V (vq V x 2)) (ssn V (vq V x 2)) ≤ vi V (vq V (vq V x 9) p.toNat) 1
def PAC (V V1 : Vmap) (x : Nat) (p y d X : Int) : Prop := PLI V x → SN V x → SXC V x → SXC V1 x ∧ ((X = -1 ∧ ¬ PAD V x p y d) ∨ (PAD V x p y d ∧ X = vi V1 (vq V1 x 2) 9 ∧ BSv (PEX V1 x (d + rgv V (vq V (vq V x 0) 10) 4 y)) (fun _ => True) (vi V1 (vq V1 x 2) 9) (bev V1 (vq V1 x 2))))
theorem PAC.no (h : SN V x → SXC V x → ¬ PAD V x p y d) (hX : X = -1) : PAC V V x p y d X := fun _ h2 h3 => ⟨h3, Or.inl ⟨hX, h h2 h3⟩⟩
theorem PAC.old {Z : Int} (hd : SXC V x → PAD V x p y d) (hZ : ir (d + Y) → Z = d + Y) (hY : Y = rgv V (vq V (vq V x 0) 10) 4 y) (hW : WT K V) (hx : K x = some (0, 10)) (h8 : vi V (vq V x 2) 8 = Z) (hX : X = vi V (vq V x 2) 9) : PAC V V x p y d X := fun h1 h2 h3 => by
  have g := hd h3
  refine ⟨h3, Or.inr ⟨g, hX, ?_⟩⟩
  have hy := g.2.1
  have hd2 := g.2.2.1
  have hl : K (vq V x 0) = some (0, 0) := (ld_at hW hx).1
  have hr := row_n (j := 10) hW hl rfl rfl rfl (by decide) (L := 4) (t := 132)
  have rY : 0 ≤ Y ∧ Y ≤ 90 := by
    rw [hY]
    rw [← rgv_in hy.1 (by omega)]
    exact (hW.int hr (j := y.toNat) (show y.toNat < 4 by omega) rfl).2
  have e := hZ ⟨by omega, by omega⟩
  rw [← hY, ← e, ← h8]
  rcases h3.2.2.2.2 with q | ⟨-, q⟩
  · omega
  · exact q
/-- sought anew: W: behind the legs, V1: behind the search -/
theorem PAC.new {Z : Int} (hd : SXC V x → PAD V x p y d) (hZ : ir (d + Y) → Z = d + Y) (hY : Y = rgv V (vq V (vq V x 0) 10) 4 y) (hW : WT K V) (hWw : WT K W) (hx : K x = some (0, 10)) (hM : SMC V W x) (hS : SSM V W x) (hM1 : SMC V V1 x) (hS1 : SSM V V1 x) (es : vq W x 2 = vq V x 2) (es1 : vq V1 x 2 = vq V x 2) (hm : MLG V W x) (eW : ssn W (vq V x 2) = ssn V (vq V x 2) ∧ OPNv W (vq V x 2) = OPNv V (vq V x 2) ∧ CLSv W (vq V x 2) = CLSv V (vq V x 2) ∧ ahv W (vq V x 2) = ahv V (vq V x 2)) (hk : SKP W V1 (vq W x 2) Z) (en : ndv V1 (vq V x 2) = ndv V (vq V x 2)) (hX : X = vi V1 (vq V1 x 2) 9) : PAC V V1 x p y d X := fun h1 h2 h3 => by
  have g := hd h3
  have hy := g.2.1
  have hd2 := g.2.2.1
  have hn := g.2.2.2.1
  have hl : K (vq V x 0) = some (0, 0) := (ld_at hW hx).1
  have hr := row_n (j := 10) hW hl rfl rfl rfl (by decide) (L := 4) (t := 132)
  have rY : 0 ≤ Y ∧ Y ≤ 90 := by
    rw [hY]
    rw [← rgv_in hy.1 (by omega)]
    exact (hW.int hr (j := y.toNat) (show y.toNat < 4 by omega) rfl).2
  have e := hZ ⟨by omega, by omega⟩
  obtain ⟨s1, s2, s3, s4, s5⟩ := h3
  obtain ⟨w1, w2, w3, w4⟩ := eW
  rw [es] at hk
  obtain ⟨st2, st1⟩ := st_at hW hx
  obtain ⟨n8, enn⟩ := ssn_8 hW st2
  have esz : ((ssn V (vq V x 2) : Nat) : Int) = ssz V x := enn
  have hlm := hm h1 s4
  have w0 := (hW.int (ld_at hW hx).1 (j := 3) (Nat.le_of_ble_eq_true rfl) rfl).2
  have w14 := (hW.int (ld_at hW hx).1 (j := 4) (Nat.le_of_ble_eq_true rfl) rfl).2
  have wm := mul_rng (a := vi V (vq V x 0) 3) (b := vi V (vq V x 0) 4) (A := 12) (B := 12) (by omega) w0.2 (by omega) w14.2
  have cl : ∀ a : Int, 0 ≤ a → a < ssz V x → 0 ≤ stC V x a ∧ stC V x a ≤ 143 := fun a a0 a1 => by
    have pk := s4 a.toNat (by omega)
    have k0 := pk.1
    have k1 := pk.2.1
    have := (h1.2.2.1 (stg V x a.toNat).toNat (by omega)).1
    have e2 : (plv V x (stg V x a.toNat).toNat).1 = stC V x a := rfl
    rw [e2] at this
    omega
  have hLG : LGB W (vq V x 2) := fun a b a0 a1 b0 b1 => by
    rw [w1] at a1 b1
    rw [hlm a b a0 (by omega) b0 (by omega)]
    have c1 := cl a a0 (by omega)
    have c2 := cl b b0 (by omega)
    have := FDv_rng c1.1 c1.2 c2.1 c2.2 w0.1 w0.2
    unfold LGX
    omega
  have hA0 : AH0 W (vq V x 2) := by
    unfold AH0 at s1 ⊢
    rw [w4]
    exact s1
  have hOB : OPB W (vq V x 2) := by
    unfold OPB at s2 ⊢
    rw [w1, w2]
    exact s2
  obtain ⟨k1, k2⟩ := hk
  obtain ⟨k3, k4, k5⟩ := k2 (by omega) hLG hA0 hOB (by omega) (by omega)
  obtain ⟨-, p2, p3, p4⟩ := hM1 h1
  have a1 : ssn V1 (vq V x 2) = ssn V (vq V x 2) := (congrArg (fun E : PEn => E.1) k3).trans w1
  have a4 : OPNv V1 (vq V x 2) = OPNv V (vq V x 2) := (congrArg (fun E : PEn => E.2.2.2.1) k3).trans w2
  have a5 : CLSv V1 (vq V x 2) = CLSv V (vq V x 2) := (congrArg (fun E : PEn => E.2.2.2.2) k3).trans w3
  have eg : stg V1 x = stg V x := funext hS1.2
  have eC : ∀ a : Int, 0 ≤ a → a < ssz V x → stC V1 x a = stC V x a := fun a a0 a1 => by
    have pk := s4 a.toNat (by omega)
    have k0 := pk.1
    have k1 := pk.2.1
    unfold stC
    rw [eg]
    exact congrArg (fun r : Int × Int × Int => r.1) (p3 (stg V x a.toNat).toNat (by omega))
  have eL : ∀ a b : Int, 0 ≤ a → a < ssz V x → 0 ≤ b → b < ssz V x → LGX V1 x a b = LGX V x a b := fun a b a0 a1 b0 b1 => by
    unfold LGX
    rw [eC a a0 a1, eC b b0 b1, p4.1]
  have hB : BSv (PEX V1 x Z) (fun _ => True) (vi V1 (vq V1 x 2) 9) (bev V1 (vq V1 x 2)) := by
    rw [es1]
    refine k5.en ?_ (show 0 < ssn V1 (vq V x 2) by omega)
    refine ⟨?_, ?_, fun a b a0 a1 b0 b1 => ?_, fun i a i3 a0 a1 => ⟨?_, ?_⟩⟩
    · show ssn V1 (vq V x 2) = ssn V1 (vq V1 x 2)
      rw [es1]
    · exact k1
    · have a1' : a < (ssn V1 (vq V x 2) : Int) := a1
      have b1' : b < (ssn V1 (vq V x 2) : Int) := b1
      show LEGv V1 (vq V x 2) a b = LGX V1 x a b
      rw [eL a b a0 (by omega) b0 (by omega), ← hlm a b a0 (by omega) b0 (by omega)]
      exact congrFun (congrFun (congrArg (fun E : PEn => E.2.2.1) k3) a) b
    · show OPNv V1 (vq V x 2) i a = OPNv V1 (vq V1 x 2) i a
      rw [es1]
    · show CLSv V1 (vq V x 2) i a = CLSv V1 (vq V1 x 2) i a
      rw [es1]
  have h8 : vi V1 (vq V1 x 2) 8 = Z := by
    rw [es1]
    exact k1
  refine ⟨⟨?_, ?_, ?_, fun j hj => ?_, Or.inr ⟨?_, ?_⟩⟩, Or.inr ⟨g, hX, ?_⟩⟩
  · rw [es1]
    exact k4
  · rw [es1]
    unfold OPB at s2 ⊢
    rw [a1, a4]
    exact s2
  · rw [es1]
    unfold NDB at s3 ⊢
    rw [a1, en]
    exact s3
  · rw [hS1.1] at hj
    have pk := s4 j hj
    have k0 := pk.1
    have k1 := pk.2.1
    rw [eg]
    exact ⟨k0, by rw [p2.1]; exact k1, by rw [p2.kd (by omega)]; exact pk.2.2⟩
  · rw [es1, a1]
    exact hn
  · rw [h8]
    exact hB
  · rw [← hY, ← e]
    exact hB
/-- planned(): the i-th stop of the best order -/
def PBC (V V1 : Vmap) (x : Nat) (p y d i X : Int) : Prop := PLI V x → SN V x → SXC V x → SXC V1 x ∧ ∃ e, ((e = -1 ∧ ¬ PAD V x p y d) ∨ (PAD V x p y d ∧ BSv (PEX V1 x (d + rgv V (vq V (vq V x 0) 10) 4 y)) (fun _ => True) e (bev V1 (vq V1 x 2)))) ∧ ((X = -1 ∧ (e = -1 ∨ i < 0 ∨ ssz V1 x ≤ i)) ∨ (e ≠ -1 ∧ 0 ≤ i ∧ i < ssz V1 x ∧ X = bev V1 (vq V1 x 2) i.toNat))
theorem PBC.no (h : PAC V V1 x p y d Y) (hc : Y = -1 ∨ i < 0 ∨ vi V1 (sto V1 x) 3 ≤ i) (hX : X = -1) : PBC V V1 x p y d i X := fun h1 h2 h3 => by
  obtain ⟨g1, g2⟩ := h h1 h2 h3
  refine ⟨g1, Y, ?_, Or.inl ⟨hX, hc⟩⟩
  rcases g2 with g2 | ⟨g2, g3, g4⟩
  · exact Or.inl g2
  · exact Or.inr ⟨g2, by rw [g3]; exact g4⟩
theorem PBC.ok (h : PAC V V1 x p y d Y) (hY : Y ≠ -1) (i0 : 0 ≤ i) (i1 : i < vi V1 (sto V1 x) 3) (hX : X = rgv V1 (vq V1 (vq V1 x 2) 7) 8 i) : PBC V V1 x p y d i X := fun h1 h2 h3 => by
  obtain ⟨g1, g2⟩ := h h1 h2 h3
  refine ⟨g1, Y, ?_, Or.inr ⟨hY, i0, i1, ?_⟩⟩
  · rcases g2 with g2 | ⟨g2, g3, g4⟩
    · exact Or.inl g2
    · exact Or.inr ⟨g2, by rw [g3]; exact g4⟩
  · rw [hX]
    unfold bev
    rw [show ((i.toNat : Nat) : Int) = i by omega]
end PPF
