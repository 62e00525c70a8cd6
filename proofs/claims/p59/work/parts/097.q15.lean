/-! ### stores, ships, covers, sledges: both sides, and what stays -/
section Q15
variable {K K0 K1 K2 : Kmap} {V V0 V1 V2 V3 W U : Vmap} {x m o q : Nat} {k i j n e d p a b c w h y z s t X Y Z D : Int} {ρ r : Nat → Int} {Q : (Nat → Int) → Prop} {φ : (Nat → Int) → Nat → Int} {vs vs' : Int → Prop} {τ υ : Nat → Int}
def STO (K : Kmap) (V : Vmap) (x m : Nat) : Prop := RWX K V x ∧ (∀ k : Nat, (k : Int) < vi V x 6 → pkd V x k = 1 → stv V (plO V x k) = rst V m k) ∧ (∀ k : Nat, (k : Int) < vi V x 6 → pkd V x k = 5 → ∀ y : Nat, y < 10 → stv V (plO V x k) (10 + y) = ar 27 V m (10 * k + y)) ∧ ∀ k : Nat, vi V x 6 ≤ (k : Int) → k < 60 → (rst V m k = fun _ => 0) ∧ ∀ y : Nat, y < 10 → ar 27 V m (10 * k + y) = -1
theorem RWX.gro (h : RWX K V x) (hE : ext K K1) : RWX K1 V x := fun a ha => by
  obtain ⟨g1, g2, g3, g4⟩ := h a ha
  exact ⟨hE.obj (Or.inl (by decide)) g1, fun g => ⟨(g2 g).1, hE.arr (g2 g).2⟩, fun g => ⟨(g3 g).1, hE.arr (g3 g).2⟩, g4⟩
theorem STO.gro (h : STO K V x m) (hE : ext K K1) : STO K1 V x m := ⟨h.1.gro hE, h.2⟩
def ppbits (ws : Nat) : Bool := [keyK (0, 10) 5, keyK (0, 10) 6, abase + 6].all fun b => !ws.testBit b
theorem pp_fr {ws : Nat} (hF : FR ws K V K1 V1) (hE : ext K K1) (hW : WT K V) (hx : K x = some (0, 10)) (hb : ppbits ws = true) : vi V1 x 6 = vi V x 6 ∧ ∀ k, plO V1 x k = plO V x k := by
  simp only [ppbits, List.all_cons, List.all_nil, Bool.and_true, Bool.and_eq_true, Bool.not_eq_true'] at hb
  obtain ⟨c5, c6, a⟩ := hb
  have hx1 := hE.obj (Or.inl (by decide)) hx
  obtain ⟨N, hA⟩ := (hW.ref hx (j := 5) (Nat.le_of_ble_eq_true rfl) rfl).2
  have e5 : vq V1 x 5 = vq V x 5 := vq_eq (hF x _ 5 hx hx1 c5)
  refine ⟨vi_fr hF hx hx1 c6, fun k => ?_⟩
  unfold plO
  rw [e5]
  exact vq_eq (hF _ _ k hA (hE.arr hA) a)
def nebits (ws : Nat) : Bool := [keyK (0, 11) 27, keyK (0, 11) 28, abase + 30, abase + 31].all fun b => !ws.testBit b
theorem ne_fr {ws : Nat} (hF : FR ws K V K1 V1) (hE : ext K K1) (hW : WT K V) (hm : K m = some (0, 11)) (hb : nebits ws = true) : ar 28 V1 m = ar 28 V m ∧ ar 27 V1 m = ar 27 V m := by
  simp only [nebits, List.all_cons, List.all_nil, Bool.and_true, Bool.and_eq_true, Bool.not_eq_true'] at hb
  obtain ⟨c7, c8, a7, a8⟩ := hb
  exact ⟨arq hF hE hm (hW.ref hm (j := 28) (Nat.le_of_ble_eq_true rfl) rfl).2 c8 a8, arq hF hE hm (hW.ref hm (j := 27) (Nat.le_of_ble_eq_true rfl) rfl).2 c7 a7⟩
/-- a call that writes nothing of the reference's stores -/
theorem rs_same {ws : Nat} (hF : FR ws K V K1 V1) (hE : ext K K1) (hW : WT K V) (hm : K m = some (0, 11)) (b2 : smbits ws = true) (b3 : nebits ws = true) : rst V1 m = rst V m ∧ ar 27 V1 m = ar 27 V m := by
  obtain ⟨e28, e27⟩ := ne_fr hF hE hW hm b3
  have gs := SMR.fr hF hE hW hm b2
  refine ⟨?_, e27⟩
  funext k
  exact gs.eq (congrFun e28 k)
theorem STO.frx {ws : Nat} (h : STO K V x m) (hF : FR ws K V K1 V1) (hE : ext K K1) (hW : WT K V) (hx : K x = some (0, 10)) (hm : K m = some (0, 11)) (b0 : ppbits ws = true) (b1 : nubits ws = true) (b2 : smbits ws = true) (b3 : nebits ws = true) : STO K1 V1 x m := by
  obtain ⟨h1, h2, h3, h4⟩ := h
  obtain ⟨e6, ep⟩ := pp_fr hF hE hW hx b0
  obtain ⟨g1, g2, g3⟩ := nu_frx hF hE h1 e6 (fun u _ => ep u) b1
  obtain ⟨er, e27⟩ := rs_same hF hE hW hm b2 b3
  refine ⟨g1, fun k hk k1 => ?_, fun k hk k5 y hy => ?_, fun k hk h60 => ?_⟩
  · have hk0 : (k : Int) < vi V x 6 := by rw [← e6]; exact hk
    have k0 : pkd V x k = 1 := by rw [← (g3 k hk0).1]; exact k1
    rw [er, ← h2 k hk0 k0, ← cN_at hk0 k0, ← g2]
    exact (cN_at hk k1).symm
  · have hk0 : (k : Int) < vi V x 6 := by rw [← e6]; exact hk
    have k0 : pkd V x k = 5 := by rw [← (g3 k hk0).1]; exact k5
    rw [ep, (g3 k hk0).2 k0, e27]
    exact h3 k hk0 k0 y hy
  · rw [e6] at hk
    rw [er, e27]
    exact h4 k hk h60
/-- one store changes, on both sides -/
theorem STO.put {w1 w2 : Nat} {k : Nat} (h : STO K V x m) (hP : PLE V x m) (hx : K x = some (0, 10)) (hW : WT K V) (hW1 : WT K1 V1) (hE1 : ext K K1) (hF1 : FR w1 K V K1 V1) (hE2 : ext K1 K2) (hF2 : FR w2 K1 V1 K2 V2) (hk : (k : Int) < vi V x 6) (h1 : pkd V x k = 1) (hN : NUF K V V1 (plO V x k) ρ) (er : rst V1 m = rst V m) (e27 : ar 27 V1 m = ar 27 V m) (er2 : rst V2 m = upg (rst V1 m) k ρ) (e272 : ar 27 V2 m = ar 27 V1 m) (p1 : ppbits w1 = true) (p2 : ppbits w2 = true) (n2 : nubits w2 = true) : STO K2 V2 x m := by
  obtain ⟨h1', h2, h3, h4⟩ := h
  obtain ⟨e6, ep⟩ := pp_fr hF1 hE1 hW hx p1
  obtain ⟨g1, g2, g3⟩ := hN.cn h1' hP.1 hk h1 e6 (fun u _ => ep u)
  have kd : ∀ j : Nat, (j : Int) < vi V x 6 → pkd V1 x j = pkd V x j := fun j hj => by
    unfold pkd
    rw [ep]
    exact (hN _ h1' (SX.of hk) h1).2.1 _ (SX.of hj)
  have g1' : RWX K1 V1 x := g1.gro hE1
  have hx1 := hE1.obj (Or.inl (by decide)) hx
  obtain ⟨f6, fp⟩ := pp_fr hF2 hE2 hW1 hx1 p2
  obtain ⟨q1, q2, q3⟩ := nu_frx hF2 hE2 g1' f6 (fun u _ => fp u) n2
  refine ⟨q1, fun j hj j1 => ?_, fun j hj j5 y hy => ?_, fun j hj h60 => ?_⟩
  · have hj1 : (j : Int) < vi V1 x 6 := by rw [← f6]; exact hj
    have hj0 : (j : Int) < vi V x 6 := by rw [← e6]; exact hj1
    have k0 : pkd V x j = 1 := by rw [← kd j hj0, ← (q3 j hj1).1]; exact j1
    have e : stv V2 (plO V2 x j) = cN V2 x j := (cN_at hj j1).symm
    rw [e, q2, g2, er2, er]
    by_cases q : j = k
    · subst q
      rw [upg_at, upg_at]
    · rw [upg_of q, upg_of q, cN_at hj0 k0]
      exact h2 j hj0 k0
  · have hj1 : (j : Int) < vi V1 x 6 := by rw [← f6]; exact hj
    have hj0 : (j : Int) < vi V x 6 := by rw [← e6]; exact hj1
    have k1 : pkd V1 x j = 5 := by rw [← (q3 j hj1).1]; exact j5
    have k0 : pkd V x j = 5 := by rw [← kd j hj0]; exact k1
    rw [fp, (q3 j hj1).2 k1, ep, g3 j hj0 k0, e272, e27]
    exact h3 j hj0 k0 y hy
  · rw [f6, e6] at hj
    have nk : j ≠ k := by omega
    rw [er2, upg_of nk, er, e272, e27]
    exact h4 j hj h60
theorem PLE.pkk (h : PLE V x m) (g : MPS V V1 m) : PK V x k c ↔ MPK V1 m k c := by
  obtain ⟨-, -, hr⟩ := h
  have e6 := hr.2.2.2.1
  unfold PK MPK
  rw [g.1, ← e6, g.2.2.1]
  constructor
  · rintro ⟨a1, a2, a3⟩
    exact ⟨a1, a2, (hr.kd (k := k.toNat) (by omega)).symm.trans a3⟩
  · rintro ⟨a1, a2, a3⟩
    exact ⟨a1, a2, (hr.kd (k := k.toNat) (by omega)).trans a3⟩
theorem PLE.stk (h : PLE V x m) (g : MSM V V1 m) : STN V x k ↔ MSN V1 m k := by
  have hp := h.pkk (k := k) (c := 1) g.1
  have hr := h.2.2
  unfold STN MSN
  constructor
  · rintro ⟨a1, a2⟩
    refine ⟨hp.mp a1, ?_⟩
    obtain ⟨b1, b2, -⟩ := a1
    rw [g.2.1.2.2, ← hr.lost (by omega)]
    exact a2
  · rintro ⟨a1, a2⟩
    have b := hp.mpr a1
    refine ⟨b, ?_⟩
    obtain ⟨b1, b2, -⟩ := b
    rw [g.2.1.2.2, ← hr.lost (by omega)] at a2
    exact a2
/-- people, hide -/
theorem STO.one {w1 w2 : Nat} (h : STO K V x m) (hP : PLE V x m) (hx : K x = some (0, 10)) (hm : K m = some (0, 11)) (hW : WT K V) (hW1 : WT K1 V1) (hE1 : ext K K1) (hF1 : FR w1 K V K1 V1) (hE2 : ext K1 K2) (hF2 : FR w2 K1 V1 K2 V2) (f : CST K V V1 x k X Q φ) (f1 : MCS V1 V2 m k Y Q φ) (b1 : mpbits w1 = true) (b2 : mvbits w1 = true) (b3 : mlbits w1 = true) (b4 : smbits w1 = true) (b5 : nebits w1 = true) (c1 : nebits w2 = true) (p1 : ppbits w1 = true) (p2 : ppbits w2 = true) (n2 : nubits w2 = true) : X = Y ∧ STO K2 V2 x m := by
  have gm := MSM.fr hF1 hE1 hW hm b1 b2 b3
  obtain ⟨er, e27⟩ := rs_same hF1 hE1 hW hm b4 b5
  have e272 := (ne_fr hF2 hE2 hW1 (hE1.obj (Or.inl (by decide)) hm) c1).2
  have hst := hP.stk (k := k) gm
  have hrow : STN V x k → stv V (plO V x k.toNat) = rst V1 m k.toNat := fun ⟨⟨a1, a2, a3⟩, _⟩ => by
    rw [er]
    exact h.2.1 k.toNat (by omega) a3
  rcases f hP.1.1 with ⟨a1, a2, a3⟩ | ⟨a1, ⟨a2, a3⟩, a4⟩
  · rcases f1 with ⟨d1, d2, d3⟩ | ⟨d1, ⟨d2, d3⟩, d4⟩
    · refine ⟨by omega, ?_⟩
      rw [d2, a2]
      exact (h.gro hE1).gro hE2
    · refine absurd ⟨hst.mpr d2, ?_⟩ a3
      rw [hrow (hst.mpr d2)]
      exact d3
  · rcases f1 with ⟨d1, d2, d3⟩ | ⟨d1, ⟨d2, d3⟩, d4⟩
    · refine absurd ⟨hst.mp a2, ?_⟩ d3
      rw [← hrow a2]
      exact a3
    · refine ⟨by omega, ?_⟩
      have hr := hrow a2
      obtain ⟨⟨z0, z1, z2⟩, -⟩ := a2
      rw [← hr] at d4
      exact h.put hP hx hW hW1 hE1 hF1 hE2 hF2 (by omega) z2 a4 er e27 d4 e272 p1 p2 n2
/-- birds -/
theorem STO.birds {w1 w2 : Nat} (h : STO K V x m) (hP : PLE V x m) (hx : K x = some (0, 10)) (hm : K m = some (0, 11)) (hW : WT K V) (hW1 : WT K1 V1) (hE1 : ext K K1) (hF1 : FR w1 K V K1 V1) (hE2 : ext K1 K2) (hF2 : FR w2 K1 V1 K2 V2) (f : BIC K V V1 x k y n X) (f1 : MBI' V1 V2 m k y n Y) (b1 : mpbits w1 = true) (b4 : smbits w1 = true) (b5 : nebits w1 = true) (c4 : smbits w2 = true) (c5 : w2.testBit (keyK (0, 11) 28) = false) (c6 : w2.testBit (abase + 31) = false) (p1 : ppbits w1 = true) (p2 : ppbits w2 = true) (n2 : nubits w2 = true) : STO K2 V2 x m := by
  have gm := MPS.fr hF1 hE1 hW hm b1
  have hm1 := hE1.obj (Or.inl (by decide)) hm
  have hx1 := hE1.obj (Or.inl (by decide)) hx
  obtain ⟨er, e27⟩ := rs_same hF1 hE1 hW hm b4 b5
  have er2 : rst V2 m = rst V1 m := by
    funext u
    exact (SMR.fr hF2 hE2 hW1 hm1 c4).eq (congrFun (arq hF2 hE2 hm1 (hW1.ref hm1 (j := 28) (Nat.le_of_ble_eq_true rfl) rfl).2 c5 c6) u)
  have hpk := hP.pkk (k := k) (c := 5) gm
  rcases f hP.1.1 with ⟨a1, a2, a3⟩ | ⟨a1, a2, a3⟩
  · rcases f1 with ⟨d1, d2, d3⟩ | ⟨d1, ⟨d2, d3⟩, -⟩
    · rw [d2, a2]
      exact (h.gro hE1).gro hE2
    · exact absurd ⟨hpk.mpr d2, d3⟩ a3
  · rcases f1 with ⟨d1, d2, d3⟩ | ⟨d1, d2, d4⟩
    · exact absurd ⟨hpk.mp a2.1, a2.2⟩ d3
    · obtain ⟨⟨z0, z1, z2⟩, ⟨y0, y9⟩, -⟩ := a2
      have hk : ((k.toNat : Nat) : Int) < vi V x 6 := by omega
      obtain ⟨h1, h2, h3, h4⟩ := h
      obtain ⟨e6, ep⟩ := pp_fr hF1 hE1 hW hx p1
      obtain ⟨i1, i2, i3, i4⟩ := a3 _ h1 (SX.of hk)
      have kd : ∀ j : Nat, (j : Int) < vi V x 6 → pkd V1 x j = pkd V x j := fun j hj => by
        unfold pkd
        rw [ep]
        exact i2 _ (SX.of hj)
      have ne : ∀ u : Nat, (u : Int) < vi V x 6 → u ≠ k.toNat → plO V x u ≠ plO V x k.toNat := fun u hu q => by
        rcases Nat.lt_or_gt_of_ne q with g | g
        · exact hP.1.2.1 u _ g hk
        · exact (hP.1.2.1 _ u g hu).symm
      have g1 : RWX K V1 x := by
        unfold RWX
        rw [SX.to e6 (fun u _ => ep u)]
        exact i1
      obtain ⟨f6, fp⟩ := pp_fr hF2 hE2 hW1 hx1 p2
      obtain ⟨q1, q2, q3⟩ := nu_frx hF2 hE2 (g1.gro hE1) f6 (fun u _ => fp u) n2
      refine ⟨q1, fun j hj j1 => ?_, fun j hj j5 u hu => ?_, fun j hj h60 => ?_⟩
      · have hj1 : (j : Int) < vi V1 x 6 := by rw [← f6]; exact hj
        have hj0 : (j : Int) < vi V x 6 := by rw [← e6]; exact hj1
        have k1 : pkd V1 x j = 1 := by rw [← (q3 j hj1).1]; exact j1
        have k0 : pkd V x j = 1 := by rw [← kd j hj0]; exact k1
        have e : stv V2 (plO V2 x j) = cN V2 x j := (cN_at hj j1).symm
        have nj : j ≠ k.toNat := fun g => by
          subst g
          omega
        rw [e, q2, cN_at hj1 k1, ep, i4 _ (SX.of hj0) (ne j hj0 nj) (Or.inl k0), er2, er]
        exact h2 j hj0 k0
      · have hj1 : (j : Int) < vi V1 x 6 := by rw [← f6]; exact hj
        have hj0 : (j : Int) < vi V x 6 := by rw [← e6]; exact hj1
        have k1 : pkd V1 x j = 5 := by rw [← (q3 j hj1).1]; exact j5
        have k0 : pkd V x j = 5 := by rw [← kd j hj0]; exact k1
        rw [fp, (q3 j hj1).2 k1, ep, d4, e27]
        by_cases q : j = k.toNat
        · rw [q, i3]
          by_cases g : u = y.toNat
          · rw [g, updf_at, updf_at]
          · rw [updf_of (by omega), updf_of (by omega)]
            rw [q] at hj0 k0
            exact h3 _ hj0 k0 u hu
        · rw [i4 _ (SX.of hj0) (ne j hj0 q) (Or.inr k0), updf_of (by omega)]
          exact h3 j hj0 k0 u hu
      · rw [f6, e6] at hj
        rw [er2, er]
        obtain ⟨r1, r2⟩ := h4 j hj h60
        refine ⟨r1, fun u hu => ?_⟩
        rw [d4, e27, updf_of (by omega)]
        exact r2 u hu
/-! covers -/
theorem rpv_n {N : Nat} (e : V1 = rpv V q N c d) (h0 : 0 ≤ c) (h1 : c < (N : Int)) (rd : ir d) : (∀ z, rgv V1 q N z = pt1 (rgv V q N) c d z) ∧ ∀ u, u ≠ q → V1 u = V u := by
  have e' := rpv_put e h0 h1
  refine ⟨fun z => ?_, fun u hu => ?_⟩
  · unfold pt1
    by_cases g : z = c
    · rw [if_pos g, g, ← rgv_in h0 h1]
      exact upd2_int e' rd
    · rw [if_neg g]
      unfold rgv
      by_cases g2 : 0 ≤ z ∧ z < (N : Int)
      · rw [if_pos g2, if_pos g2]
        exact vi_up e' (Or.inr (by omega))
      · rw [if_neg g2, if_neg g2]
  · funext j
    exact uq_ne e' (Or.inl hu)
def CVE (V : Vmap) (x m : Nat) : Prop := ∀ z : Nat, z < 48 → rgv V (vq V (vq V x 0) 9) 48 (z : Int) = ar 105 V m z
def cvbits (ws : Nat) : Bool := [keyK (0, 10) 0, keyK (0, 0) 9, abase + 132].all fun b => !ws.testBit b
def cmbits (ws : Nat) : Bool := [keyK (0, 11) 105, abase + 84].all fun b => !ws.testBit b
theorem cv_fr {ws : Nat} (hF : FR ws K V K1 V1) (hE : ext K K1) (hW : WT K V) (hx : K x = some (0, 10)) (hb : cvbits ws = true) : rgv V1 (vq V1 (vq V1 x 0) 9) 48 = rgv V (vq V (vq V x 0) 9) 48 := by
  simp only [cvbits, List.all_cons, List.all_nil, Bool.and_true, Bool.and_eq_true, Bool.not_eq_true'] at hb
  obtain ⟨c0, c9, a⟩ := hb
  obtain ⟨h0, h9⟩ := ld_cv hW hx
  have h01 := hE.obj (Or.inl (by decide)) h0
  have e0 : vq V1 x 0 = vq V x 0 := vq_eq (hF x _ 0 hx (hE.obj (Or.inl (by decide)) hx) c0)
  have e9 : vq V1 (vq V x 0) 9 = vq V (vq V x 0) 9 := vq_eq (hF _ _ 9 h0 h01 c9)
  funext u
  unfold rgv
  rw [e0, e9]
  split
  · exact vi_frA hF h9 (hE.arr h9) a
  · rfl
theorem cm_fr {ws : Nat} (hF : FR ws K V K1 V1) (hE : ext K K1) (hW : WT K V) (hm : K m = some (0, 11)) (hb : cmbits ws = true) : ar 105 V1 m = ar 105 V m := by
  simp only [cmbits, List.all_cons, List.all_nil, Bool.and_true, Bool.and_eq_true, Bool.not_eq_true'] at hb
  exact arq hF hE hm (hW.ref hm (j := 105) (Nat.le_of_ble_eq_true rfl) rfl).2 hb.1 hb.2
theorem CVE.frx {ws : Nat} (h : CVE V x m) (hF : FR ws K V K1 V1) (hE : ext K K1) (hW : WT K V) (hx : K x = some (0, 10)) (hm : K m = some (0, 11)) (b1 : cvbits ws = true) (b2 : cmbits ws = true) : CVE V1 x m := fun u hu => by
  rw [cv_fr hF hE hW hx b1, cm_fr hF hE hW hm b2]
  exact h u hu
theorem CVE.cover {w1 w2 : Nat} (h : CVE V x m) (hx : K x = some (0, 10)) (hm : K m = some (0, 11)) (hW : WT K V) (hW1 : WT K1 V1) (hE1 : ext K K1) (hF1 : FR w1 K V K1 V1) (hE2 : ext K1 K2) (hF2 : FR w2 K1 V1 K2 V2) (f : CVC V V1 (vq V x 0) s y n X) (f1 : MCV V1 V2 m s y n Y) (b1 : cmbits w1 = true) (b2 : cvbits w2 = true) : CVE V2 x m := by
  have hx1 := hE1.obj (Or.inl (by decide)) hx
  have em := cm_fr hF1 hE1 hW hm b1
  have ec := cv_fr hF2 hE2 hW1 hx1 b2
  intro u hu
  rw [ec]
  rcases f with ⟨a1, a2, a3⟩ | ⟨a1, a2, a3⟩
  · rcases f1 with ⟨d1, d2, d3⟩ | ⟨d1, d2, d3⟩
    · rw [d2, em, a2]
      exact h u hu
    · exact absurd d2 a3
  · rcases f1 with ⟨d1, d2, d3⟩ | ⟨d1, d2, d3⟩
    · exact absurd a2 d3
    · obtain ⟨h0, h9⟩ := ld_cv hW hx
      have n1 : x ≠ vq V (vq V x 0) 9 := K_ne hx h9 (by simp)
      have n2 : vq V x 0 ≠ vq V (vq V x 0) 9 := K_ne h0 h9 (by simp)
      obtain ⟨g1, g2⟩ := rpv_n a3 (by omega) (by omega) (show ir n from ⟨by omega, by omega⟩)
      have e0 : vq V1 x 0 = vq V x 0 := vq_eq (congrFun (g2 _ n1) 0)
      have e9 : vq V1 (vq V x 0) 9 = vq V (vq V x 0) 9 := vq_eq (congrFun (g2 _ n2) 9)
      rw [e0, e9, g1, d3, em]
      unfold pt1
      by_cases q : (u : Int) = s * 12 + y
      · rw [if_pos q, show u = (12 * s + y).toNat by omega, updf_at]
      · rw [if_neg q, updf_of (by omega)]
        exact h u hu
/-! ships -/
theorem SHR.mono (h : SHR vs D τ υ) (hv : ∀ z, vs z → vs' z) : SHR vs' D τ υ := by
  obtain ⟨a1, a2, a3, a4⟩ := h
  refine ⟨a1, a2, fun q => ?_, a4⟩
  obtain ⟨b1, b2, b3, b4, b5, b6, b7, b8⟩ := a3 q
  exact ⟨b1, b2, b3, b4, b5, b6, b7, hv _ b8⟩
theorem SLR.mono (h : SLR vs D τ υ) (hv : ∀ z, vs z → vs' z) : SLR vs' D τ υ := ⟨h.1, h.2.1, hv _ h.2.2⟩
def vsx (V : Vmap) (x : Nat) : Int → Prop := fun z => PK V x z 1
/-- stations stay stations -/
def PKM (V V1 : Vmap) (x : Nat) : Prop := ∀ z, vsx V x z → vsx V1 x z
theorem PKM.tr (h : PKM V V1 x) (g : PKM V1 V2 x) : PKM V V2 x := fun z q => g z (h z q)
theorem PKM.pls (h : PLS V V1 x) : PKM V V1 x := fun z ⟨z0, z1, z2⟩ => ⟨z0, by rw [h.1]; exact z1, by rw [pkd_s h _ (by omega)]; exact z2⟩
theorem PKM.fr {ws : Nat} (hF : FR ws K V K1 V1) (hE : ext K K1) (hW : WT K V) (hx : K x = some (0, 10)) (hN : NN 6 5 V x) (hb : psbits ws = true) : PKM V V1 x := PKM.pls (PLS.fr hF hE hW hx hN hb)
def mwbits7 (ws : Nat) : Bool := [keyK (0, 11) 94, keyK (0, 11) 95, keyK (0, 11) 96, keyK (0, 11) 97, keyK (0, 11) 98, keyK (0, 11) 99, keyK (0, 11) 100, keyK (0, 11) 101, keyK (0, 11) 102, keyK (0, 11) 103, keyK (0, 11) 104].all (fun b => !ws.testBit b) && [72 + 1, 73 + 1, 74 + 1, 75 + 1, 76 + 1, 77 + 1, 78 + 1, 79 + 1, 80 + 1, 81 + 1, 82 + 1].all (fun b => !ws.testBit (abase + b))
theorem mw_fr {ws : Nat} (hF : FR ws K V K1 V1) (hE : ext K K1) (hW : WT K V) (hm : K m = some (0, 11)) (hb : mwbits7 ws = true) : msv V1 m = msv V m := by
  simp only [mwbits7, List.all_cons, List.all_nil, Bool.and_true, Bool.and_eq_true, Bool.not_eq_true'] at hb
  obtain ⟨⟨c0, c1, c2, c3, c4, c5, c6, c7, c8, c9, c10⟩, b0, b1, b2, b3, b4, b5, b6, b7, b8, b9, b10⟩ := hb
  have g94 := arq hF hE hm (hW.ref hm (j := 94) (Nat.le_of_ble_eq_true rfl) rfl).2 c0 b0
  have g95 := arq hF hE hm (hW.ref hm (j := 95) (Nat.le_of_ble_eq_true rfl) rfl).2 c1 b1
  have g96 := arq hF hE hm (hW.ref hm (j := 96) (Nat.le_of_ble_eq_true rfl) rfl).2 c2 b2
  have g97 := arq hF hE hm (hW.ref hm (j := 97) (Nat.le_of_ble_eq_true rfl) rfl).2 c3 b3
  have g98 := arq hF hE hm (hW.ref hm (j := 98) (Nat.le_of_ble_eq_true rfl) rfl).2 c4 b4
  have g99 := arq hF hE hm (hW.ref hm (j := 99) (Nat.le_of_ble_eq_true rfl) rfl).2 c5 b5
  have g100 := arq hF hE hm (hW.ref hm (j := 100) (Nat.le_of_ble_eq_true rfl) rfl).2 c6 b6
  have g101 := arq hF hE hm (hW.ref hm (j := 101) (Nat.le_of_ble_eq_true rfl) rfl).2 c7 b7
  have g102 := arq hF hE hm (hW.ref hm (j := 102) (Nat.le_of_ble_eq_true rfl) rfl).2 c8 b8
  have g103 := arq hF hE hm (hW.ref hm (j := 103) (Nat.le_of_ble_eq_true rfl) rfl).2 c9 b9
  have g104 := arq hF hE hm (hW.ref hm (j := 104) (Nat.le_of_ble_eq_true rfl) rfl).2 c10 b10
  funext u f
  unfold msv
  rw [g94, g95, g96, g97, g98, g99, g100, g101, g102, g103, g104]
def SHZ (V : Vmap) (x m : Nat) : Prop := SHP V x ∧ (∀ s : Nat, (s : Int) < vi V x 10 → SHR (vsx V x) (tdy V x) (cSh V x s) (msv V m s)) ∧ ∀ s : Nat, vi V x 10 ≤ (s : Int) → s < 10 → msv V m s 3 = 0 ∧ msv V m s 6 = 0 ∧ msv V m s 7 = 0 ∧ msv V m s 9 = 0
theorem sh_k (hW : WT K V) (hx : K x = some (0, 10)) (hN : SN V x) : ∀ s : Nat, (s : Int) < vi V x 10 → K (shO V x s) = some (0, 6) := fun _ hs => (sh_at hW hx hN hs).2.2
theorem sho_sn (g : SOS' V V1 x) (hN : SN V x) : SN V1 x := fun j hj => by
  rw [g.1] at hj
  rw [← g.2 j hj]
  exact hN j hj
/-- ships' rows and all of them stay -/
theorem SHZ.same (h : SHZ V x m) (g : SOS' V V1 x) (hs : ∀ s : Nat, (s : Int) < vi V x 10 → shv V1 (shO V x s) = shv V (shO V x s)) (ht : tdy V1 x = tdy V x) (hp : PKM V V1 x) (em : msv V1 m = msv V m) : SHZ V1 x m := by
  obtain ⟨⟨h1, h2, h3⟩, h4, h5⟩ := h
  have key : ∀ s : Nat, (s : Int) < vi V x 10 → shv V1 (shO V1 x s) = shv V (shO V x s) := fun s q => by
    rw [sho_s g s q]
    exact hs s q
  refine ⟨⟨sho_sn g h1, fun i j hij hj => ?_, fun s q => ?_⟩, fun s q => ?_, fun s q h10 => ?_⟩
  · rw [g.1] at hj
    rw [sho_s g i (by omega), sho_s g j hj]
    exact h2 i j hij hj
  · rw [g.1] at q
    rw [key s q]
    exact h3 s q
  · rw [g.1] at q
    have e : cSh V1 x s = cSh V x s := by
      unfold cSh
      rw [g.1, if_pos q, if_pos q]
      exact key s q
    rw [e, em, ht]
    exact (h4 s q).mono hp
  · rw [g.1] at q
    rw [em]
    exact h5 s q h10
theorem SHZ.frx {ws : Nat} (h : SHZ V x m) (hF : FR ws K V K1 V1) (hE : ext K K1) (hW : WT K V) (hx : K x = some (0, 10)) (hm : K m = some (0, 11)) (ht : tdy V1 x = tdy V x) (hp : PKM V V1 x) (b1 : sobit2 ws = true) (b2 : sxbits ws = true) (b3 : mwbits7 ws = true) : SHZ V1 x m := h.same (SOS'.fr hF hE hW hx b1) (fun s q => sx_fr hF hE (sh_k hW hx h.1.1 s q) b2) ht hp (mw_fr hF hE hW hm b3)
/-- a new ship -/
theorem SHZ.ship {w1 w2 : Nat} (h : SHZ V x m) (hx : K x = some (0, 10)) (hm : K m = some (0, 11)) (hW : WT K V) (hW1 : WT K1 V1) (hE1 : ext K K1) (hF1 : FR w1 K V K1 V1) (hE2 : ext K1 K2) (hF2 : FR w2 K1 V1 K2 V2) (hN1 : SN V1 x) (hXY : X = Y) (ht1 : tdy V1 x = tdy V x) (ht2 : tdy V2 x = tdy V1 x) (hp1 : PKM V V1 x) (hp2 : PKM V1 V2 x) (f : NSH K V V1 x p a b X) (f1 : MNS V1 V2 m p a b Y) (hn : vi V1 m 91 = vi V x 10) (b1 : mwbits7 w1 = true) (b2 : sobit2 w2 = true) (b3 : sxbits w2 = true) (c : w2.testBit (keyK (0, 11) 97) = false ∧ w2.testBit (abase + 76) = false) (c' : w2.testBit (keyK (0, 11) 98) = false ∧ w2.testBit (abase + 77) = false) (c'' : w2.testBit (keyK (0, 11) 99) = false ∧ w2.testBit (abase + 78) = false) (c3 : w2.testBit (keyK (0, 11) 101) = false ∧ w2.testBit (abase + 80) = false) (c4 : w2.testBit (keyK (0, 11) 102) = false ∧ w2.testBit (abase + 81) = false) (c5 : w2.testBit (keyK (0, 11) 103) = false ∧ w2.testBit (abase + 82) = false) (c6 : w2.testBit (keyK (0, 11) 104) = false ∧ w2.testBit (abase + 83) = false) : SHZ V2 x m := by
  have hx1 := hE1.obj (Or.inl (by decide)) hx
  have hm1 := hE1.obj (Or.inl (by decide)) hm
  have em := mw_fr hF1 hE1 hW hm b1
  have gs : SOS' V1 V2 x := SOS'.fr hF2 hE2 hW1 hx1 b2
  have gx : ∀ s : Nat, (s : Int) < vi V1 x 10 → shv V2 (shO V1 x s) = shv V1 (shO V1 x s) := fun s q => sx_fr hF2 hE2 (sh_k hW1 hx1 hN1 s q) b3
  rcases f with ⟨a1, a2⟩ | ⟨a1, a2, a3, a4, a5, a6, a7⟩
  · rcases f1 with ⟨d1, d2⟩ | ⟨d1, d2, -⟩
    · subst d2
      subst a2
      exact h
    · omega
  · rcases f1 with ⟨d1, -⟩ | ⟨d1, d2, d3, d4, d5, d6, d7⟩
    · omega
    · obtain ⟨⟨h1, h2, h3⟩, h4, h5⟩ := h
      have h10 := (hW.int hx (j := 10) (Nat.le_of_ble_eq_true rfl) rfl).2
      have hlt : vi V x 10 < 10 := by
        have := (hW1.int hx1 (j := 10) (Nat.le_of_ble_eq_true rfl) rfl).2
        omega
      rw [hn] at d4 d5 d6 d7
      have g97 := arq hF2 hE2 hm1 (hW1.ref hm1 (j := 97) (Nat.le_of_ble_eq_true rfl) rfl).2 c.1 c.2
      have g98 := arq hF2 hE2 hm1 (hW1.ref hm1 (j := 98) (Nat.le_of_ble_eq_true rfl) rfl).2 c'.1 c'.2
      have g99 := arq hF2 hE2 hm1 (hW1.ref hm1 (j := 99) (Nat.le_of_ble_eq_true rfl) rfl).2 c''.1 c''.2
      have g101 := arq hF2 hE2 hm1 (hW1.ref hm1 (j := 101) (Nat.le_of_ble_eq_true rfl) rfl).2 c3.1 c3.2
      have g102 := arq hF2 hE2 hm1 (hW1.ref hm1 (j := 102) (Nat.le_of_ble_eq_true rfl) rfl).2 c4.1 c4.2
      have g103 := arq hF2 hE2 hm1 (hW1.ref hm1 (j := 103) (Nat.le_of_ble_eq_true rfl) rfl).2 c5.1 c5.2
      have g104 := arq hF2 hE2 hm1 (hW1.ref hm1 (j := 104) (Nat.le_of_ble_eq_true rfl) rfl).2 c6.1 c6.2
      -- what stood before stays
      have mo : ∀ s : Nat, s ≠ (vi V x 10).toNat → msv V2 m s = msv V m s := fun s q => by
        rw [← em]
        funext f
        unfold msv
        rw [d4, d5, d6, d7, g97, g98, g99, g101, g102, g103, g104, updf_of q, updf_of q, updf_of q, updf_of q]
      have so : ∀ s : Nat, (s : Int) < vi V x 10 → shO V1 x s = shO V x s ∧ shv V1 (shO V1 x s) = shv V (shO V x s) := fun s q => by
        obtain ⟨e1, e2⟩ := a7 s q
        refine ⟨vq_eq2 e1, ?_⟩
        funext f
        unfold shv
        split
        · exact e2 f (by assumption)
        · rfl
      have hk := sh_k hW hx h1
      have h1' : SHP V1 x := by
        refine ⟨hN1, fun i j hij hj => ?_, fun s q => ?_⟩
        · by_cases g : (j : Int) < vi V x 10
          · rw [(so i (by omega)).1, (so j g).1]
            exact h2 i j hij g
          · rw [show j = (vi V x 10).toNat by omega, (so i (by omega)).1]
            exact K_old (hk i (by omega)) a5
        · by_cases g : (s : Int) < vi V x 10
          · rw [(so s g).2]
            exact h3 s g
          · rw [show s = (vi V x 10).toNat by omega, shv_f (by decide), a6.2.2.2.1]
            exact fun e => absurd rfl e
      have e10 : vi V2 x 10 = vi V x 10 + 1 := gs.1.trans a4
      refine ⟨⟨sho_sn gs hN1, fun i j hij hj => ?_, fun s q => ?_⟩, fun s q => ?_, fun s q q10 => ?_⟩
      · rw [gs.1] at hj
        rw [sho_s gs i (by omega), sho_s gs j hj]
        exact h1'.2.1 i j hij hj
      · rw [gs.1] at q
        rw [sho_s gs s q, gx s q]
        exact h1'.2.2 s q
      · have q1 : (s : Int) < vi V1 x 10 := by rw [← gs.1]; exact q
        have e : cSh V2 x s = shv V1 (shO V1 x s) := by
          unfold cSh
          rw [if_pos q, sho_s gs s q1, gx s q1]
        rw [e, ht2, ht1]
        by_cases g : (s : Int) < vi V x 10
        · have e' : cSh V x s = shv V (shO V x s) := by
            unfold cSh
            rw [if_pos g]
          rw [(so s g).2, mo s (by omega), ← e']
          exact ((h4 s g).mono hp1).mono hp2
        · have es : s = (vi V x 10).toNat := by omega
          subst es
          obtain ⟨n0, n1, n2, n3, n6, n7, n9⟩ := a6
          obtain ⟨m3, m6, m7, m9⟩ := h5 (vi V x 10).toNat (by omega) (by omega)
          rw [← em] at m3 m6 m7 m9
          have t : ∀ f, f < 11 → shv V1 (shO V1 x (vi V x 10).toNat) f = vi V1 (shO V1 x (vi V x 10).toNat) f := fun f hf => shv_f hf
          have u0 : msv V2 m (vi V x 10).toNat 0 = p := (congrFun d4 _).trans updf_at
          have u1 : msv V2 m (vi V x 10).toNat 1 = a := (congrFun d5 _).trans updf_at
          have u2 : msv V2 m (vi V x 10).toNat 2 = b := (congrFun d6 _).trans updf_at
          have u8 : msv V2 m (vi V x 10).toNat 8 = -1 := (congrFun d7 _).trans updf_at
          have u3 : msv V2 m (vi V x 10).toNat 3 = 0 := (congrFun g97 _).trans m3
          have u6 : msv V2 m (vi V x 10).toNat 6 = 0 := (congrFun g98 _).trans m6
          have u7 : msv V2 m (vi V x 10).toNat 7 = 0 := (congrFun g99 _).trans m7
          have u9 : msv V2 m (vi V x 10).toNat 9 = 0 := (congrFun g101 _).trans m9
          unfold SHR
          rw [t 0 (by decide), t 1 (by decide), t 2 (by decide), t 3 (by decide), t 6 (by decide), t 7 (by decide), t 9 (by decide), n0, n1, n2, n3, n6, n7, n9, u0, u1, u2, u3, u6, u7, u8, u9]
          exact ⟨⟨rfl, rfl, rfl, rfl, rfl, rfl, rfl⟩, ⟨by decide, by decide⟩, fun g => absurd rfl g, fun g => by omega, fun _ => rfl, ⟨by decide, by decide, fun g => by omega⟩, fun _ => rfl⟩
      · rw [mo s (by omega)]
        exact h5 s (by omega) q10
/-! sledges -/
def slmb (ws : Nat) : Bool := [keyK (0, 11) 92, keyK (0, 11) 107, keyK (0, 11) 108, keyK (0, 11) 109, keyK (0, 11) 110, keyK (0, 11) 111].all (fun b => !ws.testBit b) && [85 + 1, 86 + 1, 87 + 1, 88 + 1, 89 + 1].all (fun b => !ws.testBit (abase + b))
theorem sm_fr {ws : Nat} (hF : FR ws K V K1 V1) (hE : ext K K1) (hW : WT K V) (hm : K m = some (0, 11)) (hb : slmb ws = true) : vi V1 m 92 = vi V m 92 ∧ rSl V1 m = rSl V m := by
  simp only [slmb, List.all_cons, List.all_nil, Bool.and_true, Bool.and_eq_true, Bool.not_eq_true'] at hb
  obtain ⟨⟨c0, c1, c2, c3, c4, c5⟩, b1, b2, b3, b4, b5⟩ := hb
  have g107 := arq hF hE hm (hW.ref hm (j := 107) (Nat.le_of_ble_eq_true rfl) rfl).2 c1 b1
  have g108 := arq hF hE hm (hW.ref hm (j := 108) (Nat.le_of_ble_eq_true rfl) rfl).2 c2 b2
  have g109 := arq hF hE hm (hW.ref hm (j := 109) (Nat.le_of_ble_eq_true rfl) rfl).2 c3 b3
  have g110 := arq hF hE hm (hW.ref hm (j := 110) (Nat.le_of_ble_eq_true rfl) rfl).2 c4 b4
  have g111 := arq hF hE hm (hW.ref hm (j := 111) (Nat.le_of_ble_eq_true rfl) rfl).2 c5 b5
  refine ⟨vi_fr hF hm (hE.obj (Or.inl (by decide)) hm) c0, ?_⟩
  funext u f
  unfold rSl
  rw [g107, g108, g109, g110, g111]
def SLE (V : Vmap) (x m : Nat) : Prop := sgz V x = vi V m 92 ∧ ∀ i : Nat, (i : Int) < sgz V x → SLR (vsx V x) (tdy V x) (cSl V x i) (rSl V m i)
theorem SLE.frx {ws : Nat} (h : SLE V x m) (hF : FR ws K V K1 V1) (hE : ext K K1) (hW : WT K V) (hx : K x = some (0, 10)) (hm : K m = some (0, 11)) (ht : tdy V1 x = tdy V x) (hp : PKM V V1 x) (b1 : slbit2 ws = true) (b2 : slmb ws = true) : SLE V1 x m := by
  have g := SLS.fr hF hE hW hx b1
  obtain ⟨e1, e2⟩ := sm_fr hF hE hW hm b2
  refine ⟨by rw [g.1, e1]; exact h.1, fun u hu => ?_⟩
  rw [g.1] at hu
  rw [g.2, e2, ht]
  exact (h.2 u hu).mono hp
end Q15
