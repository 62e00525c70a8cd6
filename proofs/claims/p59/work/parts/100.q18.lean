/-! ### a voyage begins; a day goes by: both sides -/
section Q18
variable {K K0 K1 K2 : Kmap} {V V0 V1 V2 V3 W W1 W0 U Um Wm U0 : Vmap} {x m o q l : Nat} {k i j n e d p a b c w h y z s t u X Y Z D : Int} {G : Int → Int} {vs : Int → Prop} {τ υ ρ : Nat → Int}
/-- the days to the seas are one at least -/
def SDP (V : Vmap) (x : Nat) : Prop := ∀ s : Int, 0 ≤ s → s < 4 → 1 ≤ sdy V x s ∧ sdy V x s ≤ 90
theorem SDP.eq (h : SDP V x) (e : sdy V1 x = sdy V x) : SDP V1 x := fun s s0 s4 => by
  rw [e]
  exact h s s0 s4
theorem sd_lr (hW : WT K V) (hx : K x = some (0, 10)) : K (vq V x 0) = some (0, 0) ∧ K (vq V (vq V x 0) 10) = some (132 + 1, 4) := by
  have h0 := (ld_at hW hx).1
  obtain ⟨N, hC⟩ := (hW.ref h0 (j := 10) (Nat.le_of_ble_eq_true rfl) rfl).2
  have hN : N = 4 := by
    rcases (hW.len hC).2.2 with g | g
    · exact absurd g (by decide)
    · exact g
  subst hN
  exact ⟨h0, hC⟩
theorem sd_fr {ws : Nat} (hF : FR ws K V K1 V1) (hE : ext K K1) (hW : WT K V) (hx : K x = some (0, 10)) (hb : sybits ws = true) : sdy V1 x = sdy V x := by
  simp only [sybits, List.all_cons, List.all_nil, Bool.and_true, Bool.and_eq_true, Bool.not_eq_true'] at hb
  obtain ⟨c0, c9, a⟩ := hb
  obtain ⟨h0, h9⟩ := sd_lr hW hx
  have h01 := hE.obj (Or.inl (by decide)) h0
  have e0 : vq V1 x 0 = vq V x 0 := vq_eq (hF x _ 0 hx (hE.obj (Or.inl (by decide)) hx) c0)
  have e9 : vq V1 (vq V x 0) 10 = vq V (vq V x 0) 10 := vq_eq (hF _ _ 10 h0 h01 c9)
  funext z
  unfold sdy rgv
  rw [e0, e9]
  by_cases g : 0 ≤ z ∧ z < ((4 : Nat) : Int)
  · rw [if_pos g, if_pos g]
    exact vi_frA hF h9 (hE.arr h9) a
  · rw [if_neg g, if_neg g]
theorem SDP.frx {ws : Nat} (h : SDP V x) (hF : FR ws K V K1 V1) (hE : ext K K1) (hW : WT K V) (hx : K x = some (0, 10)) (hb : sybits ws = true) : SDP V1 x := h.eq (sd_fr hF hE hW hx hb)
theorem SDP.sea (h : SDP V x) (hx : K x = some (0, 10)) (hW : WT K V) (f : SEC V V1 x s d X) : SDP V1 x := by
  rcases f with ⟨a1, a2, a3⟩ | ⟨a1, ⟨a2, a3⟩, a4⟩
  · rw [a2]
    exact h
  · obtain ⟨h0, h9⟩ := sd_lr hW hx
    have n1 : x ≠ vq V (vq V x 0) 10 := K_ne hx h9 (by simp)
    have n2 : vq V x 0 ≠ vq V (vq V x 0) 10 := K_ne h0 h9 (by simp)
    have k4 : ((4 : Nat) : Int) = 4 := rfl
    obtain ⟨g1, g2⟩ := rpv_n a4 (by omega) (by omega) (show ir d from ⟨by omega, by omega⟩)
    have e0 : vq V1 x 0 = vq V x 0 := vq_eq (congrFun (g2 _ n1) 0)
    have e9 : vq V1 (vq V x 0) 10 = vq V (vq V x 0) 10 := vq_eq (congrFun (g2 _ n2) 10)
    intro z z0 z4
    have e : sdy V1 x z = pt1 (sdy V x) s d z := by
      unfold sdy
      rw [e0, e9, g1]
    rw [e]
    unfold pt1
    by_cases q : z = s
    · rw [if_pos q]
      exact a3
    · rw [if_neg q]
      exact h z z0 z4
theorem SDP.start (h : SDI V x) : SDP V x := fun s s0 s4 => by
  rw [h s s0 s4]
  exact ⟨by decide, by decide⟩
theorem SHZ.mk (hS : SN V x) (hd : ∀ i j : Nat, i < j → (j : Int) < vi V x 10 → shO V x i ≠ shO V x j) (h4 : ∀ s : Nat, (s : Int) < vi V x 10 → SHR (vsx V x) (tdy V x) (cSh V x s) (msv V m s)) (h5 : ∀ s : Nat, vi V x 10 ≤ (s : Int) → s < 10 → msv V m s 3 = 0 ∧ msv V m s 6 = 0 ∧ msv V m s 7 = 0 ∧ msv V m s 9 = 0) : SHZ V x m := by
  refine ⟨⟨hS, hd, fun s hs h3 => ?_⟩, h4, h5⟩
  have r := h4 s hs
  have e : cSh V x s = shv V (shO V x s) := by
    unfold cSh
    rw [if_pos hs]
  rw [e] at r
  obtain ⟨-, -, -, -, -, q0, q3, -⟩ := r.2.2.1 h3
  exact ⟨q0, q3⟩
theorem SHZ.row (h : SHZ V x m) {s : Nat} (hs : (s : Int) < vi V x 10) : SHR (vsx V x) (tdy V x) (shv V (shO V x s)) (msv V m s) := by
  have r := h.2.1 s hs
  unfold cSh at r
  rw [if_pos hs] at r
  exact r
theorem cs_w2 {w2 : Nat} (hF2 : FR w2 K1 V1 K2 V2) (hE2 : ext K1 K2) (hW1 : WT K1 V1) (hx1 : K1 x = some (0, 10)) (hN1 : SN V1 x) (b2 : sobit2 w2 = true) (b3 : sxbits w2 = true) : cSh V2 x = cSh V1 x := by
  have g : SHX K1 V1 V2 := fun b hb => sx_fr hF2 hE2 hb b3
  exact g.cs (SOS'.fr hF2 hE2 hW1 hx1 b2) (sh_k hW1 hx1 hN1)
/-- a ship that leaves -/
theorem lvs_shr (h : SHR vs D τ υ) (h3 : τ 3 = 0) (he : 0 ≤ e ∧ e ≤ 3) (hk : vs k) (hy : 1 ≤ y ∧ y ≤ 90) (hD : 0 ≤ D ∧ D ≤ 3599) : SHR vs D (lvs e k n y D τ) (updf (lvs e k n y D υ) 7 0) := by
  obtain ⟨⟨a0, a1, a2, a3, a6, a7, a9⟩, -, -, -, -, -, hz⟩ := h
  have z7 := hz h3
  have ew : wr (D + y) = D + y := wr_id ⟨by omega, by omega⟩
  have T : ∀ ζ : Nat → Int, lvs e k n y D ζ 0 = ζ 0 ∧ lvs e k n y D ζ 1 = ζ 1 ∧ lvs e k n y D ζ 2 = ζ 2 ∧ lvs e k n y D ζ 3 = 1 ∧ lvs e k n y D ζ 4 = e ∧ lvs e k n y D ζ 5 = k ∧ lvs e k n y D ζ 6 = n ∧ lvs e k n y D ζ 7 = ζ 7 ∧ lvs e k n y D ζ 8 = wr (D + y) ∧ lvs e k n y D ζ 9 = 0 ∧ lvs e k n y D ζ 10 = y := fun ζ => ⟨rfl, rfl, rfl, rfl, rfl, rfl, rfl, rfl, rfl, rfl, rfl⟩
  obtain ⟨t0, t1, t2, t3, t4, t5, t6, t7, t8, t9, t10⟩ := T τ
  obtain ⟨u0, u1, u2, u3, u4, u5, u6, u7, u8, u9, u10⟩ := T υ
  have O : ∀ f, f ≠ 7 → updf (lvs e k n y D υ) 7 0 f = lvs e k n y D υ f := fun f hf => updf_of hf
  have O7 : updf (lvs e k n y D υ) 7 0 7 = 0 := updf_at
  unfold SHR
  rw [O 0 (by decide), O 1 (by decide), O 2 (by decide), O 3 (by decide), O 4 (by decide), O 5 (by decide), O 6 (by decide), O7, O 8 (by decide), O 9 (by decide), O 10 (by decide), t0, t1, t2, t3, t4, t5, t6, t7, t8, t9, t10, u0, u1, u2, u3, u4, u5, u6, u8, u9, u10, ew]
  exact ⟨⟨a0, a1, a2, rfl, rfl, z7, rfl⟩, ⟨by decide, by decide⟩, fun _ => ⟨rfl, rfl, rfl, hy.1, hy.2, he.1, he.2, hk⟩, fun _ => ⟨rfl, by omega⟩, fun g => by omega, ⟨by decide, by decide, fun _ => by decide⟩, fun g => by omega⟩
theorem SHZ.voyage {w1 w2 : Nat} (h : SHZ V x m) (hP : PLE V x m) (hS : SDE V x m) (h1 : SDP V x) (hx : K x = some (0, 10)) (hm : K m = some (0, 11)) (hW : WT K V) (hW1 : WT K1 V1) (hE1 : ext K K1) (hF1 : FR w1 K V K1 V1) (hE2 : ext K1 K2) (hF2 : FR w2 K1 V1 K2 V2) (n10 : vi V x 10 = vi V1 m 91) (ht1 : tdy V1 x = tdy V x) (ht2 : tdy V2 x = tdy V1 x) (htm : vi V1 m 2 = tdy V x) (f : VYC K V V1 x s e k n X) (f1 : MVY V1 V2 m s e k n Y) (b1 : mpbits w1 = true) (b2 : mvbits w1 = true) (b3 : mlbits w1 = true) (b4 : mwbits7 w1 = true) (b5 : mdbits w1 = true) (b6 : sobit2 w1 = true) (b7 : psbits w1 = true) (c2 : sobit2 w2 = true) (c3 : sxbits w2 = true) (c7 : psbits w2 = true) : X = Y ∧ SHZ V2 x m := by
  have hx1 := hE1.obj (Or.inl (by decide)) hx
  have hm1 := hE1.obj (Or.inl (by decide)) hm
  have gm := MSM.fr hF1 hE1 hW hm b1 b2 b3
  have em := mw_fr hF1 hE1 hW hm b4
  have e106 : ar 106 V1 m = ar 106 V m := by
    simp only [mdbits, List.all_cons, List.all_nil, Bool.and_true, Bool.and_eq_true, Bool.not_eq_true'] at b5
    exact arq hF1 hE1 hm (hW.ref hm (j := 106) (Nat.le_of_ble_eq_true rfl) rfl).2 b5.1 b5.2
  have hpm := PLM.of hP gm
  have hw : 0 < vi V (vq V x 0) 3 := by
    have := (hW.int (ld_at hW hx).1 (j := 3) (Nat.le_of_ble_eq_true rfl) rfl).2
    omega
  have hD : 0 ≤ tdy V x ∧ tdy V x ≤ 3599 := (hW.int (ld_at hW hx).1 (j := 0) (Nat.le_of_ble_eq_true rfl) rfl).2
  have hC : CLN V x := fun u hu => (hP.1.2.2.1 u hu).1
  have hpk := hP.pkk (k := k) (c := 1) gm.1
  have hrow : (0 ≤ s ∧ s < vi V x 10) → SHR (vsx V x) (tdy V x) (shv V (shO V x s.toNat)) (msv V1 m s.toNat) := fun g => by
    rw [em]
    exact h.row (by omega)
  have hcond : VYD V x s e k n ↔ MVD V1 m s e k n := by
    unfold VYD MVD
    rw [← n10]
    constructor
    · rintro ⟨q1, q2, q3, q4, q5⟩
      obtain ⟨⟨-, r1, -, r3, -⟩, -⟩ := hrow q1
      have hk := q3.1.1
      exact ⟨q1, q2, ⟨hpk.mp hk, (okc_okm hpm hP.1 hw hk).mp q3⟩, by rw [← r1]; exact q4, by rw [← r3]; exact q5⟩
    · rintro ⟨q1, q2, ⟨q3, q3'⟩, q4, q5⟩
      obtain ⟨⟨-, r1, -, r3, -⟩, -⟩ := hrow q1
      have hk := hpk.mpr q3
      exact ⟨q1, q2, (okc_okm hpm hP.1 hw hk).mpr q3', by rw [r1]; exact q4, by rw [r3]; exact q5⟩
  rcases f hP.1.1 h.1.1 hC with ⟨a1, a2, a3⟩ | ⟨a1, a2, a3⟩
  · rcases f1 with ⟨d1, d2, d3⟩ | ⟨d1, d2, d3⟩
    · refine ⟨by omega, ?_⟩
      rw [d2, a2]
      exact h
    · exact absurd (hcond.mpr d2) a3
  · rcases f1 with ⟨d1, d2, d3⟩ | ⟨d1, d2, d3⟩
    · exact absurd (hcond.mp a2) d3
    · refine ⟨by omega, ?_⟩
      obtain ⟨⟨s0, s1⟩, ⟨e0, e3⟩, hok, -, h3⟩ := a2
      have hs : ((s.toNat : Nat) : Int) < vi V x 10 := by omega
      have hk6 := sh_k hW hx h.1.1
      have g1 : SOS' V V1 x := SOS'.fr hF1 hE1 hW hx b6
      have g2 : SOS' V1 V2 x := SOS'.fr hF2 hE2 hW1 hx1 c2
      have hN1 := sho_sn g1 h.1.1
      have c1 := a3.cs g1 hs h.1.2.1 hk6
      have cc := cs_w2 hF2 hE2 hW1 hx1 hN1 c2 c3
      have hNp1 : NN 6 5 V1 x := (PLS.fr hF1 hE1 hW hx hP.1.1 b7).nn hP.1.1
      have hpm1 : PKM V V2 x := (PKM.fr hF1 hE1 hW hx hP.1.1 b7).tr (PKM.fr hF2 hE2 hW1 hx1 hNp1 c7)
      have ey : sdy V x e = ar 106 V1 m e.toNat := by
        rw [hS e e0 (by omega), e106]
        exact (rgv_in e0 (by show e < ((4 : Nat) : Int); omega)).symm
      have hy := h1 e e0 (by omega)
      have e10 : vi V2 x 10 = vi V x 10 := g2.1.trans g1.1
      refine SHZ.mk (sho_sn g2 hN1) (fun i j hij hj => ?_) (fun u hu => ?_) (fun u hu hu10 => ?_)
      · rw [e10] at hj
        rw [sho_s g2 i (by rw [g1.1]; omega), sho_s g2 j (by rw [g1.1]; exact hj), sho_s g1 i (by omega), sho_s g1 j hj]
        exact h.1.2.1 i j hij hj
      · rw [e10] at hu
        rw [cc, c1, d3, ht2, ht1, htm, ← ey]
        by_cases q : u = s.toNat
        · rw [q, upg_at, upg_at]
          exact (lvs_shr (hrow ⟨s0, s1⟩) h3 ⟨e0, e3⟩ (show vsx V x k from hok.1.1) hy hD).mono hpm1
        · rw [upg_of q, upg_of q, em]
          exact (h.2.1 u hu).mono hpm1
      · rw [e10] at hu
        rw [d3, upg_of (by omega), em]
        exact h.2.2 u hu hu10
/-! a day -/
theorem dkd_dkt (h : DKE V x m) (e3 : vi V1 m 3 = vi V m 3) (e4 : vi V1 m 4 = vi V m 4) (ht : vi V1 m 2 = tdy V x) (f : DKD V x d) (g : DKT V1 m n) : d ≠ 0 ↔ n ≠ 0 := by
  unfold DKD at f
  unfold DKT at g
  rw [e3, e4, ht, ← h.1, ← h.2] at g
  rw [f, g]
theorem pst_cong (h : d ≠ 0 ↔ n ≠ 0) : pst d i ρ = pst n i ρ := by
  unfold pst
  rw [pss_cong h]
theorem STO.day {w1 w2 : Nat} (h : STO K V x m) (hZ : SHZ V x m) (hL : SLE V x m) (hC : CVE V x m) (hDk : DKE V x m) (hP : PLE V x m) (hx : K x = some (0, 10)) (hm : K m = some (0, 11)) (hW : WT K V) (hW1 : WT K1 V1) (hE1 : ext K K1) (hF1 : FR w1 K V K1 V1) (hE2 : ext K1 K2) (hF2 : FR w2 K1 V1 K2 V2) (hXY : X = -1 ↔ Y = -1) (n10 : vi V x 10 = vi V1 m 91) (htm : vi V1 m 2 = tdy V x) (ht1 : X ≠ -1 → tdy V1 x = tdy V x + 1 ∧ tdy V x < 3599) (ht2 : tdy V2 x = tdy V1 x) (f : DYN K V V1 x X) (f1 : MDN V1 V2 m Y) (b1 : mpbits w1 = true) (b2 : mvbits w1 = true) (b3 : mlbits w1 = true) (b4 : mwbits7 w1 = true) (b5 : smbits w1 = true) (b6 : nebits w1 = true) (b7 : cmbits w1 = true) (b8 : slmb w1 = true) (b9 : dmbits w1 = true) (c1 : ppbits w2 = true) (c2 : nubits w2 = true) (c3 : sobit2 w2 = true) (c4 : sxbits w2 = true) (c5 : slbit2 w2 = true) (c6 : psbits w2 = true) (c7 : w2.testBit (keyK (0, 11) 27) = false ∧ w2.testBit (abase + 30) = false) : STO K2 V2 x m ∧ SHZ V2 x m ∧ SLE V2 x m := by
  have hx1 := hE1.obj (Or.inl (by decide)) hx
  have hm1 := hE1.obj (Or.inl (by decide)) hm
  have gm := MSM.fr hF1 hE1 hW hm b1 b2 b3
  have em := mw_fr hF1 hE1 hW hm b4
  obtain ⟨er, e27⟩ := rs_same hF1 hE1 hW hm b5 b6
  have e105 := cm_fr hF1 hE1 hW hm b7
  obtain ⟨e92, esl⟩ := sm_fr hF1 hE1 hW hm b8
  obtain ⟨e3, e4⟩ := dm_fr hF1 hE1 hm b9
  have e272 : ar 27 V2 m = ar 27 V1 m := arq hF2 hE2 hm1 (hW1.ref hm1 (j := 27) (Nat.le_of_ble_eq_true rfl) rfl).2 c7.1 c7.2
  have hD0 : 0 ≤ tdy V x ∧ tdy V x ≤ 3599 := (hW.int (ld_at hW hx).1 (j := 0) (Nat.le_of_ble_eq_true rfl) rfl).2
  have hbn := (hW.int hx (j := 6) (Nat.le_of_ble_eq_true rfl) rfl).2
  have hbs := (hW.int hx (j := 10) (Nat.le_of_ble_eq_true rfl) rfl).2
  rcases f with ⟨a1, a2⟩ | ⟨a1, a2⟩
  · rcases f1 with ⟨d1, d2⟩ | ⟨d1, -⟩
    · rw [d2, a2]
      exact ⟨(h.gro hE1).gro hE2, hZ, hL⟩
    · exact absurd (hXY.mp a1) d1
  · rcases f1 with ⟨d1, -⟩ | ⟨-, d2⟩
    · exact absurd (hXY.mpr d1) a1
    · obtain ⟨t1, t3599⟩ := ht1 a1
      have hk6 := sh_k hW hx hZ.1.1
      obtain ⟨W0, Wm, ⟨wp, wc, wl, wt⟩, hI0, hr, hl, hs, hRW, hNT, hO, hLn, hz, -⟩ := a2 ⟨hP.1, h.1, hZ.1, hk6, hD0.1, t3599⟩
      obtain ⟨U0, Um, ⟨mp, md, m105⟩, mr, ml, ms, m2, m91, m92, -⟩ := d2
      -- places behind the stations' turns
      obtain ⟨-, i2, i3, i4⟩ := wp hP.1
      obtain ⟨u1, u2, u3⟩ := mp
      have hr' := hP.2.2
      obtain ⟨r1, r2, r3, r4, r6, r7⟩ := hP.2.2
      have en : (vi V1 m 10).toNat = (vi V x 6).toNat := by rw [gm.1.1, r4]
      have efo : ∀ j, mfo V1 m j = pfo V x j := fun j => by rw [gm.1.fo, ← hr'.fo]
      have hEq : ∀ j : Nat, (j : Int) < vi V x 6 → plv W0 x j = mlv U0 m j := fun j hj => by
        rw [i4 j hj, u3 j, gm.2.2.1, gm.2.2.2.1, gm.2.2.2.2 6 (by decide) (by decide), gm.2.2.2.2 7 (by decide) (by decide), gm.2.2.2.2 8 (by decide) (by decide), gm.1.2.2.1, en, htm, r1, r2, r3 6 (by decide) (by decide), r3 7 (by decide) (by decide), r3 8 (by decide) (by decide)]
        exact pan_cong (n := (vi V x 6).toNat) (fun u hu => hr'.kd (by omega)) (fun u _ => (efo u).symm) (fun u hu => by rw [gm.2.1.mv gm.1 u]; exact (r6 u (by omega)).2) _ (Nat.le_refl _) j (by omega)
      have hPM : PLM W0 U0 x m := ⟨by rw [i3.1, u2.1, gm.2.2.1]; exact r1, by rw [i3.2.1, u2.2.1, gm.2.2.2.1]; exact r2, fun s h5 h8 => by rw [i3.2.2 s h5 h8, u2.2.2 s h5 h8, gm.2.2.2.2 s h5 h8]; exact r3 s h5 h8, fun j hj => hEq j (by rw [← i2.1]; exact hj)⟩
      have hw : 0 < vi W0 (vq W0 x 0) 3 := by
        have := (hW.int (ld_at hW hx).1 (j := 3) (Nat.le_of_ble_eq_true rfl) rfl).2
        rw [i3.1]
        omega
      have hvs0 : ∀ z, vsx V x z → vsx W0 x z := PKM.pls i2
      have hv0 : ∀ z, vsx V x z → 0 ≤ z := fun z q => q.1
      -- stores behind the stations' turns
      obtain ⟨-, wn, d, wd, ws⟩ := wc hP.1 h.1
      obtain ⟨d', md1, md2, md3⟩ := md
      have edk : d ≠ 0 ↔ d' ≠ 0 := dkd_dkt hDk e3 e4 htm wd md1
      have hst0 : ∀ z, vsx V x z → cN W0 x z.toNat = rst U0 m z.toNat := fun z ⟨z0, z1, z2⟩ => by
        have hj : ((z.toNat : Nat) : Int) < vi V x 6 := by omega
        have k13 : ar 13 V1 m z.toNat = 1 := by rw [gm.1.2.2.1, ← hr'.kd hj]; exact z2
        have elV : vi V (plO V x z.toNat) 5 = ar 28 V1 m z.toNat := by rw [gm.2.1.2.2]; exact hr'.lost hj
        have elW : vi W0 (plO V x z.toNat) 5 = ar 28 U0 m z.toNat := by
          have e := congrArg (fun v : Int × Int × Int => v.2.1) (hEq _ hj)
          rw [← plo_s i2 _ hj]
          exact e
        have es : stv V (plO V x z.toNat) = rst V1 m z.toNat := by rw [er]; exact h.2.1 _ hj z2
        rw [cN_at (by rw [i2.1]; exact hj) (by rw [pkd_s i2 _ hj]; exact z2), plo_s i2 _ hj, ws _ hj z2, md3 _ (Or.inl k13), elV, elW, es, gm.1.1, ← r4, pst_cong edk]
      have hbe0 : ∀ j : Nat, vi V x 6 ≤ (j : Int) → rst U0 m j = rst V1 m j := fun j hj => by
        rw [md3 j (Or.inr (by rw [gm.1.1, ← r4]; exact hj)), if_neg (by rw [gm.1.1, ← r4]; omega)]
      -- covers
      have hcov : ∀ z, 0 ≤ z → z ≤ 3 → cvr W0 x z = mcv U0 m z := fun z z0 z3 => by
        have b : 0 ≤ (tdy V x + 1) % 360 / 30 ∧ (tdy V x + 1) % 360 / 30 ≤ 11 := ⟨by omega, by omega⟩
        unfold cvr mcv
        rw [wt, wl.1, md2.1, htm]
        have hz' := hC (12 * z + (tdy V x + 1) % 360 / 30).toNat (by omega)
        have ei : (((12 * z + (tdy V x + 1) % 360 / 30).toNat : Nat) : Int) = z * 12 + (tdy V x + 1) % 360 / 30 := by omega
        rw [ei] at hz'
        rw [hz', ← e105, ← m105]
        rfl
      -- the ships
      have hM0 : SHM (vsx V x) (tdy V x + 1) (vi V x 10).toNat 0 (msv V1 m, rst U0 m) (cSh V x, cN W0 x) (msv V1 m, rst U0 m) := ⟨hst0, fun u hu => by
        have := hZ.2.1 u (by omega)
        rw [if_neg (by omega), show tdy V x + 1 - 1 = tdy V x by omega]
        show SHR (vsx V x) (tdy V x) (cSh V x u) (msv V1 m u)
        rw [em]
        exact this, fun _ _ => rfl, fun _ _ => rfl⟩
      have e10' : (vi V1 m 91).toNat = (vi V x 10).toNat := by rw [n10]
      rw [e10', htm] at mr
      obtain ⟨q1, q2, q3, q4⟩ := hM0.run hv0 (by omega) (by omega) hcov (fun z hz => okc_okm hPM hI0 hw (hvs0 z hz)) _ (Nat.le_refl _) _ _ hr mr
      -- the sledges
      have hQ0 : SLQ (vsx V x) (tdy V x + 1) (sgz V x).toNat 0 (rSl V1 m, rst Um m) (cSl V x, cN Wm x) (rSl V1 m, rst Um m) := ⟨q1, fun u hu => by
        have := hL.2 u (by omega)
        rw [if_neg (by omega), show tdy V x + 1 - 1 = tdy V x by omega]
        show SLR (vsx V x) (tdy V x) (cSl V x u) (rSl V1 m u)
        rw [esl]
        exact this, fun _ _ => rfl⟩
      have e92' : (vi V2 m 92).toNat = (sgz V x).toNat := by rw [m92, e92, hL.1]
      have ez' : (sgz V1 x).toNat = (sgz V x).toNat := by rw [hz]
      rw [e92', htm] at ml
      rw [ez'] at hl
      obtain ⟨p1, p2, p3⟩ := hQ0.run hv0 (fun z c hz => sok_mok hPM (hvs0 z hz)) _ (Nat.le_refl _) _ _ hl ml
      -- behind the reference's day
      obtain ⟨hI1, s1, s2, s3⟩ := hs hI0
      have pS : PLS V V1 x := i2.tr s1
      have hvs2 : PKM V V2 x := (PKM.pls pS).tr (PKM.fr hF2 hE2 hW1 hx1 hI1.1 c6)
      obtain ⟨f6, fp⟩ := pp_fr hF2 hE2 hW1 hx1 c1
      obtain ⟨g1, g2, g3⟩ := nu_frx hF2 hE2 (hRW.gro hE1) f6 (fun u _ => fp u) c2
      have hN1 := sho_sn hO hZ.1.1
      have hO2 : SOS' V1 V2 x := SOS'.fr hF2 hE2 hW1 hx1 c3
      have cc := cs_w2 hF2 hE2 hW1 hx1 hN1 c3 c4
      have hl2 := SLS.fr hF2 hE2 hW1 hx1 c5
      have e10 : vi V2 x 10 = vi V x 10 := hO2.1.trans hO.1
      have e6 : vi V2 x 6 = vi V x 6 := f6.trans pS.1
      refine ⟨⟨g1, fun k hk k1 => ?_, fun k hk k5 y hy => ?_, fun k hk h60 => ?_⟩, SHZ.mk (sho_sn hO2 hN1) (fun i j hij hj => ?_) (fun u hu => ?_) (fun u hu hu10 => ?_), ?_, fun u hu => ?_⟩
      · have hk1 : (k : Int) < vi V1 x 6 := by rw [← f6]; exact hk
        have hk0 : (k : Int) < vi V x 6 := by rw [← pS.1]; exact hk1
        have k0 : pkd V x k = 1 := by rw [← pkd_s pS k hk0, ← (g3 k hk1).1]; exact k1
        have e : stv V2 (plO V2 x k) = cN V2 x k := (cN_at hk k1).symm
        have ek : ((k : Int)).toNat = k := by omega
        have := p1 (k : Int) ⟨by omega, hk0, by rw [ek]; exact k0⟩
        rw [ek] at this
        rw [e, g2]
        exact this
      · have hk1 : (k : Int) < vi V1 x 6 := by rw [← f6]; exact hk
        have hk0 : (k : Int) < vi V x 6 := by rw [← pS.1]; exact hk1
        have k1 : pkd V1 x k = 5 := by rw [← (g3 k hk1).1]; exact k5
        have k0 : pkd V x k = 5 := by rw [← pkd_s pS k hk0]; exact k1
        rw [fp, (g3 k hk1).2 k1, plo_s pS k hk0, hNT k hk0 k0, e272, e27]
        exact h.2.2.1 k hk0 k0 y hy
      · rw [e6] at hk
        have nv : ¬ vsx V x (k : Int) := fun g => by
          have := g.2.1
          omega
        have e1 : rst V2 m k = rst Um m k := p3 k nv
        have e2 : rst Um m k = rst U0 m k := q3 k nv
        rw [e1, e2, hbe0 k hk, er, e272, e27]
        exact h.2.2.2 k hk h60
      · rw [e10] at hj
        rw [sho_s hO2 i (by rw [hO.1]; omega), sho_s hO2 j (by rw [hO.1]; exact hj), sho_s hO i (by omega), sho_s hO j hj]
        exact hZ.1.2.1 i j hij hj
      · rw [e10] at hu
        have := q2 u (by omega)
        rw [if_pos (by omega)] at this
        rw [cc, ht2, t1]
        exact this.mono hvs2
      · rw [e10] at hu
        have e1 : msv V2 m u = msv V1 m u := q4 u (by omega)
        rw [e1, em]
        exact hZ.2.2 u hu hu10
      · rw [hl2.1, hz, m92, e92]
        exact hL.1
      · rw [hl2.1, hz] at hu
        have := p2 u (by omega)
        rw [if_pos (by omega)] at this
        rw [hl2.2, ht2, t1]
        exact this.mono hvs2
end Q18
