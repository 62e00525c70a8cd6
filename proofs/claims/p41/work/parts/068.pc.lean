/-! ### places and land on the class's side -/
section PC
variable {K K1 K2 K3 : Kmap} {V V0 V1 V2 V3 V4 V5 V6 V7 : Vmap} {x m o q a b l : Nat} {i j n p s c d t w h z X Y Z : Int}
theorem vq_eq2 {k1 : Nat} {V V1 : Vmap} {a b k : Nat} (h : V1 a k = V b k1) : vq V1 a k = vq V b k1 := by unfold vq; rw [h]
def plO (V : Vmap) (x k : Nat) : Nat := vq V (vq V x 5) k
def plT (V : Vmap) (x k : Nat) : Int × Int × Int × Int := (vi V (plO V x k) 0, vi V (plO V x k) 1, vi V (plO V x k) 3, if vi V (plO V x k) 0 = 0 ∨ vi V (plO V x k) 0 = 2 ∨ vi V (plO V x k) 0 = 3 then vi V (plO V x k) 4 else 0)
def plv (V : Vmap) (x k : Nat) : Int × Int × Int := (vi V (plO V x k) 2, vi V (plO V x k) 5, if vi V (plO V x k) 0 = 1 then vi V (plO V x k) 10 else 0)
def pkd (V : Vmap) (x k : Nat) : Int := vi V (plO V x k) 0
def pfo (V : Vmap) (x k : Nat) : Int := if (k : Int) < vi V x 6 ∧ vi V (plO V x k) 0 = 2 then vi V (plO V x k) 4 else -1
theorem pl_at (hW : WT K V) (hx : K x = some (0, 10)) (hN : NN 6 5 V x) {k : Nat} (hk : (k : Int) < vi V x 6) : K (vq V x 5) = some (5 + 1, 60) ∧ V (vq V x 5) k = .ref (plO V x k) ∧ K (plO V x k) = some (0, 3) := by
  have hc := hW.int hx (j := 6) (Nat.le_of_ble_eq_true rfl) rfl
  obtain ⟨N, hn⟩ := (hW.ref hx (j := 5) (Nat.le_of_ble_eq_true rfl) rfl).2
  have hN6 : N = 60 := by
    rcases (hW.len hn).2.2 with h | h
    · exact absurd h (by decide)
    · exact h
  subst hN6
  rcases hW.nul (kd := (5 + 1, 60)) hn (j := k) (show k < 60 by omega) rfl with h | h
  · exact absurd h (hN k hk)
  · exact ⟨hn, h.1, h.2⟩
theorem ld_at (hW : WT K V) (hx : K x = some (0, 10)) : K ((vq V x 0)) = some (0, 0) ∧ K (vq V ((vq V x 0)) 5) = some (125 + 1, 144) ∧ K (vq V ((vq V x 0)) 6) = some (126 + 1, 144) ∧ K (vq V ((vq V x 0)) 7) = some (127 + 1, 144) ∧ K (vq V ((vq V x 0)) 8) = some (128 + 1, 144) := by
  have h0 : K ((vq V x 0)) = some (0, 0) := (hW.ref hx (j := 0) (Nat.le_of_ble_eq_true rfl) rfl).2
  have key : ∀ {u t : Nat}, K u = some (t + 1, 144) ∨ (∃ N, K u = some (t + 1, N) ∧ (lentab.getD t 0 = 0 ∨ N = lentab.getD t 0)) → lentab.getD t 0 = 144 → K u = some (t + 1, 144) := fun h e => by
    rcases h with h | ⟨N, h1, h2⟩
    · exact h
    · have : N = 144 := by omega
      rw [← this]
      exact h1
  obtain ⟨n5, h5⟩ := (hW.ref h0 (j := 5) (Nat.le_of_ble_eq_true rfl) rfl).2
  obtain ⟨n6, h6⟩ := (hW.ref h0 (j := 6) (Nat.le_of_ble_eq_true rfl) rfl).2
  obtain ⟨n7, h7⟩ := (hW.ref h0 (j := 7) (Nat.le_of_ble_eq_true rfl) rfl).2
  obtain ⟨n8, h8⟩ := (hW.ref h0 (j := 8) (Nat.le_of_ble_eq_true rfl) rfl).2
  exact ⟨h0, key (Or.inr ⟨_, h5, (hW.len h5).2.2⟩) rfl, key (Or.inr ⟨_, h6, (hW.len h6).2.2⟩) rfl, key (Or.inr ⟨_, h7, (hW.len h7).2.2⟩) rfl, key (Or.inr ⟨_, h8, (hW.len h8).2.2⟩) rfl⟩
/-- what stays of the places, and of what moves in them; the land -/
def PLS (V V1 : Vmap) (x : Nat) : Prop := vi V1 x 6 = vi V x 6 ∧ True ∧ ∀ k : Nat, (k : Int) < vi V x 6 → V1 (vq V1 x 5) k = V (vq V x 5) k ∧ plT V1 x k = plT V x k
def PVS (V V1 : Vmap) (x : Nat) : Prop := ∀ k : Nat, (k : Int) < vi V x 6 → plv V1 x k = plv V x k
def LDS (V V1 : Vmap) (x : Nat) : Prop := (vi V1 (vq V1 x 0) 3) = (vi V (vq V x 0) 3) ∧ (vi V1 (vq V1 x 0) 4) = (vi V (vq V x 0) 4) ∧ ∀ s : Nat, 5 ≤ s → s ≤ 8 → (rgv V1 (vq V1 ((vq V1 x 0)) s) 144) = (rgv V (vq V ((vq V x 0)) s) 144)
theorem PLS.rf : PLS V V x := ⟨rfl, trivial, fun _ _ => ⟨rfl, rfl⟩⟩
theorem PVS.rf : PVS V V x := fun _ _ => rfl
theorem LDS.rf : LDS V V x := ⟨rfl, rfl, fun _ _ _ => rfl⟩
theorem PLS.tr (f : PLS V V1 x) (g : PLS V1 V2 x) : PLS V V2 x := ⟨g.1.trans f.1, trivial, fun k hk => by
  have h1 := f.2.2 k hk
  have h2 := g.2.2 k (by rw [f.1]; exact hk)
  exact ⟨h2.1.trans h1.1, h2.2.trans h1.2⟩⟩
theorem LDS.tr (f : LDS V V1 x) (g : LDS V1 V2 x) : LDS V V2 x := ⟨g.1.trans f.1, g.2.1.trans f.2.1, fun s h5 h8 => (g.2.2 s h5 h8).trans (f.2.2 s h5 h8)⟩
theorem PVS.tr (e : vi V1 x 6 = vi V x 6) (f : PVS V V1 x) (g : PVS V1 V2 x) : PVS V V2 x := fun k hk => (g k (by rw [e]; exact hk)).trans (f k hk)
theorem PLS.plo (f : PLS V V1 x) {k : Nat} (hk : (k : Int) < vi V x 6) : plO V1 x k = plO V x k := vq_eq2 (f.2.2 k hk).1
theorem plT_kd {k : Nat} (h : plT V1 x k = plT V x k) : pkd V1 x k = pkd V x k := congrArg (fun r => r.1) h
theorem PLS.kd (f : PLS V V1 x) {k : Nat} (hk : (k : Int) < vi V x 6) : pkd V1 x k = pkd V x k := plT_kd (f.2.2 k hk).2
theorem PLS.fo (f : PLS V V1 x) (k : Nat) : pfo V1 x k = pfo V x k := by
  unfold pfo
  rw [f.1]
  by_cases hk : (k : Int) < vi V x 6
  · have h1 := f.kd hk
    have h2 : (if vi V1 (plO V1 x k) 0 = 0 ∨ vi V1 (plO V1 x k) 0 = 2 ∨ vi V1 (plO V1 x k) 0 = 3 then vi V1 (plO V1 x k) 4 else 0) = if vi V (plO V x k) 0 = 0 ∨ vi V (plO V x k) 0 = 2 ∨ vi V (plO V x k) 0 = 3 then vi V (plO V x k) 4 else 0 := congrArg (fun r => r.2.2.2) (f.2.2 k hk).2
    unfold pkd at h1
    rw [h1] at h2 ⊢
    by_cases q : vi V (plO V x k) 0 = 2
    · rw [if_pos (Or.inr (Or.inl q)), if_pos (Or.inr (Or.inl q))] at h2
      rw [h2]
    · rw [if_neg (fun e => q e.2), if_neg (fun e => q e.2)]
  · rw [if_neg (fun e => hk e.1), if_neg (fun e => hk e.1)]
def psbits (ws : Nat) : Bool := [keyK (0, 10) 5, keyK (0, 10) 6, abase + 6, keyK (0, 3) 0, keyK (0, 3) 1, keyK (0, 3) 3, keyK (0, 3) 4].all fun b => !ws.testBit b
def pvbits (ws : Nat) : Bool := [keyK (0, 10) 5, keyK (0, 10) 6, abase + 6, keyK (0, 3) 0, keyK (0, 3) 2, keyK (0, 3) 5, keyK (0, 3) 10].all fun b => !ws.testBit b
def ldbits (ws : Nat) : Bool := [keyK (0, 10) 0, keyK (0, 0) 3, keyK (0, 0) 4, keyK (0, 0) 5, keyK (0, 0) 6, keyK (0, 0) 7, keyK (0, 0) 8, abase + 126, abase + 127, abase + 128, abase + 129].all fun b => !ws.testBit b
theorem plo_fr {ws : Nat} (hF : FR ws K V K1 V1) (hE : ext K K1) (hW : WT K V) (hx : K x = some (0, 10)) (hN : NN 6 5 V x) (c5 : ws.testBit (keyK (0, 10) 5) = false) (ca : ws.testBit (abase + 6) = false) {k : Nat} (hk : (k : Int) < vi V x 6) : V1 (vq V1 x 5) k = V (vq V x 5) k ∧ plO V1 x k = plO V x k ∧ K (plO V x k) = some (0, 3) ∧ K1 (plO V x k) = some (0, 3) := by
  obtain ⟨h1, h2, h3⟩ := pl_at hW hx hN hk
  have hx1 := hE.obj (Or.inl (by decide)) hx
  have e5 : vq V1 x 5 = vq V x 5 := vq_eq (hF x _ 5 hx hx1 c5)
  have e : V1 (vq V1 x 5) k = V (vq V x 5) k := by rw [e5]; exact hF _ _ k h1 (hE.arr h1) ca
  exact ⟨e, vq_eq2 e, h3, hE.obj (Or.inl (by decide)) h3⟩
theorem PLS.fr {ws : Nat} (hF : FR ws K V K1 V1) (hE : ext K K1) (hW : WT K V) (hx : K x = some (0, 10)) (hN : NN 6 5 V x) (hb : psbits ws = true) : PLS V V1 x := by
  simp only [psbits, List.all_cons, List.all_nil, Bool.and_true, Bool.and_eq_true, Bool.not_eq_true'] at hb
  obtain ⟨c5, c6, ca, d0, d1, d3, d4⟩ := hb
  have hx1 := hE.obj (Or.inl (by decide)) hx
  refine ⟨vi_fr hF hx hx1 c6, trivial, fun k hk => ?_⟩
  obtain ⟨e1, e2, h3, h4⟩ := plo_fr hF hE hW hx hN c5 ca hk
  refine ⟨e1, ?_⟩
  unfold plT
  rw [e2, vi_fr hF h3 h4 d0, vi_fr hF h3 h4 d1, vi_fr hF h3 h4 d3, vi_fr hF h3 h4 d4]
theorem PVS.fr {ws : Nat} (hF : FR ws K V K1 V1) (hE : ext K K1) (hW : WT K V) (hx : K x = some (0, 10)) (hN : NN 6 5 V x) (hb : pvbits ws = true) : PVS V V1 x := by
  simp only [pvbits, List.all_cons, List.all_nil, Bool.and_true, Bool.and_eq_true, Bool.not_eq_true'] at hb
  obtain ⟨c5, c6, ca, d0, d2, d5, d10⟩ := hb
  intro k hk
  obtain ⟨e1, e2, h3, h4⟩ := plo_fr hF hE hW hx hN c5 ca hk
  unfold plv
  rw [e2, vi_fr hF h3 h4 d0, vi_fr hF h3 h4 d2, vi_fr hF h3 h4 d5, vi_fr hF h3 h4 d10]
theorem rwI_fr {ws : Nat} (hF : FR ws K V K1 V1) (hE : ext K K1) (ho : K o = some (0, b)) (ho1 : K1 o = some (0, b)) {t s : Nat} (ha : K (vq V o s) = some (t + 1, 144)) (c1 : ws.testBit (keyK (0, b) s) = false) (c2 : ws.testBit (abase + (t + 1)) = false) : (rgv V1 (vq V1 o s) 144) = (rgv V (vq V o s) 144) := by
  funext z
  unfold rgv
  rw [vq_eq (hF o _ s ho ho1 c1), vi_frA hF ha (hE.arr ha) c2]
theorem LDS.fr {ws : Nat} (hF : FR ws K V K1 V1) (hE : ext K K1) (hW : WT K V) (hx : K x = some (0, 10)) (hb : ldbits ws = true) : LDS V V1 x := by
  simp only [ldbits, List.all_cons, List.all_nil, Bool.and_true, Bool.and_eq_true, Bool.not_eq_true'] at hb
  obtain ⟨c0, c3, c4, c5, c6, c7, c8, a5, a6, a7, a8⟩ := hb
  obtain ⟨h0, h5, h6, h7, h8⟩ := ld_at hW hx
  have hx1 := hE.obj (Or.inl (by decide)) hx
  have h01 := hE.obj (Or.inl (by decide)) h0
  have e0 : (vq V1 x 0) = (vq V x 0) := vq_eq (hF x _ 0 hx hx1 c0)
  unfold LDS
  rw [e0]
  refine ⟨vi_fr hF h0 h01 c3, vi_fr hF h0 h01 c4, fun s s5 s8 => ?_⟩
  have hs : s = 5 ∨ s = 6 ∨ s = 7 ∨ s = 8 := by omega
  rcases hs with rfl | rfl | rfl | rfl
  · exact rwI_fr hF hE h0 h01 h5 c5 a5
  · exact rwI_fr hF hE h0 h01 h6 c6 a6
  · exact rwI_fr hF hE h0 h01 h7 c7 a7
  · exact rwI_fr hF hE h0 h01 h8 c8 a8
/-- the places are there, apart, and in cells -/
def PLI (V : Vmap) (x : Nat) : Prop := NN 6 5 V x ∧ (∀ i j : Nat, i < j → (j : Int) < vi V x 6 → plO V x i ≠ plO V x j) ∧ (∀ k : Nat, (k : Int) < vi V x 6 → plc ((vi V (vq V x 0) 3)) ((vi V (vq V x 0) 4)) (plv V x k)) ∧ ∀ z, -1 ≤ (rgv V (vq V ((vq V x 0)) 7) 144) z ∧ (rgv V (vq V ((vq V x 0)) 7) 144) z ≤ 7
theorem PLS.nn (f : PLS V V1 x) (h : NN 6 5 V x) : NN 6 5 V1 x := fun j hj => by
  rw [f.1] at hj
  rw [(f.2.2 j hj).1]
  exact h j hj
theorem PLI.same (h : PLI V x) (f : PLS V V1 x) (g : LDS V V1 x) (hv : ∀ k : Nat, (k : Int) < vi V x 6 → plc ((vi V (vq V x 0) 3)) ((vi V (vq V x 0) 4)) (plv V1 x k)) : PLI V1 x := by
  obtain ⟨h1, h2, h3, h4⟩ := h
  refine ⟨f.nn h1, fun i j hij hj => ?_, fun k hk => ?_, fun z => ?_⟩
  · rw [f.1] at hj
    rw [f.plo (by omega), f.plo hj]
    exact h2 i j hij hj
  · rw [f.1] at hk
    rw [g.1, g.2.1]
    exact hv k hk
  · rw [g.2.2 7 (by decide) (by decide)]
    exact h4 z
theorem PLI.ne (h : PLI V x) {i j : Nat} (hi : (i : Int) < vi V x 6) (hj : (j : Int) < vi V x 6) (hij : i ≠ j) : plO V x i ≠ plO V x j := by
  rcases Nat.lt_or_gt_of_ne hij with l | l
  · exact h.2.1 i j l hj
  · exact Ne.symm (h.2.1 j i l hi)
theorem PLI.lost01 (h : PLI V x) (j : Nat) (hj : (j : Int) < vi V x 6) (hn : vi V (plO V x j) 5 ≠ 0) : vi V (plO V x j) 5 = 1 := by
  have h1 : 0 ≤ vi V (plO V x j) 5 ∧ vi V (plO V x j) 5 ≤ 1 := (h.2.2.1 j hj).2
  omega
/-- all stays -/
def SMC (V V1 : Vmap) (x : Nat) : Prop := PLI V x → PLI V1 x ∧ PLS V V1 x ∧ PVS V V1 x ∧ LDS V V1 x
theorem SMC.rf : SMC V V x := fun h => ⟨h, PLS.rf, PVS.rf, LDS.rf⟩
theorem SMC.tr (f : SMC V V1 x) (g : SMC V1 V2 x) : SMC V V2 x := fun h => by
  obtain ⟨a1, a2, a3, a4⟩ := f h
  obtain ⟨b1, b2, b3, b4⟩ := g a1
  exact ⟨b1, a2.tr b2, PVS.tr a2.1 a3 b3, a4.tr b4⟩
theorem SMC.mk (f : PLI V x → PLS V V1 x) (g : PLI V x → PVS V V1 x) (k : LDS V V1 x) : SMC V V1 x := fun h => by
  have f' := f h
  have g' := g h
  exact ⟨h.same f' k (fun q hq => by rw [g' q hq]; exact h.2.2.1 q hq), f', g', k⟩
theorem SMC.fr {ws : Nat} (hF : FR ws K V K1 V1) (hE : ext K K1) (hW : WT K V) (hx : K x = some (0, 10)) (b1 : psbits ws = true) (b2 : pvbits ws = true) (b3 : ldbits ws = true) : SMC V V1 x := SMC.mk (fun h => PLS.fr hF hE hW hx h.1 b1) (fun h => PVS.fr hF hE hW hx h.1 b2) (LDS.fr hF hE hW hx b3)
/-! the land's own -/
def BES (V : Vmap) (l : Nat) (c t X : Int) : Prop := ((0 ≤ c ∧ c < (vi V l 3) * (vi V l 4)) → 0 ≤ t → t ≤ 7 → X = bsd (vi V l 3) (vi V l 4) c t) ∧ (t < 0 → X = -1)
theorem BES.ng (ht : t < 0) (hX : X = -1) : BES V l c t X := ⟨fun _ h => by omega, fun _ => hX⟩
theorem BES.nc (g : Y ≠ 0 ↔ (0 ≤ c ∧ c < (vi V l 3) * (vi V l 4))) (hY : Y = 0) (hX : X = -1) : BES V l c t X := ⟨fun h => absurd hY (g.mpr h), fun _ => hX⟩
theorem BES.n8 (ht : 8 ≤ t) : BES V l c t X := ⟨fun _ _ h => by omega, fun h => by omega⟩
theorem BES.go {r q y u zr zc : Int} (g : Y ≠ 0 ↔ (0 ≤ c ∧ c < (vi V l 3) * (vi V l 4))) (hY : Y ≠ 0) (h0 : 0 ≤ t) (h7 : t ≤ 7) (rc : ir c) (h3 : 4 ≤ vi V l 3 ∧ vi V l 3 ≤ 12) (e1 : 0 ≤ c → r = c / vi V l 3) (hr : zr = rsv t) (e2 : ir (r + zr) → y = r + zr) (e3 : 0 ≤ c → q = c % vi V l 3) (hc : zc = csv t) (e4 : ir (q + zc) → u = q + zc) : y = c / vi V l 3 + rsv t ∧ u = c % vi V l 3 + csv t := by
  have hc0 := (g.mp hY).1
  have s := stp_rg h0 h7
  have a1 := e1 hc0
  have a3 := e3 hc0
  have b1 := div_rng (a := c) (b := vi V l 3) hc0 (by omega)
  have b3 := rem_rng (a := c) (b := vi V l 3) (by omega)
  have rc2 := rc.2
  have b2 : 4 * (c / vi V l 3) ≤ c := Int.le_trans (Int.mul_le_mul_of_nonneg_right h3.1 b1.1) (Int.mul_ediv_self_le (by omega))
  have r1 := e2 ⟨by omega, by omega⟩
  have r2 := e4 ⟨by omega, by omega⟩
  exact ⟨by omega, by omega⟩
theorem BES.out {y u : Int} (g : y = c / vi V l 3 + rsv t ∧ u = c % vi V l 3 + csv t) (h : y < 0 ∨ vi V l 4 ≤ y ∨ u < 0 ∨ vi V l 3 ≤ u) (h0 : 0 ≤ t) (hX : X = -1) : BES V l c t X := ⟨fun _ _ _ => by
  unfold bsd
  rw [if_neg (by omega)]
  exact hX, fun h => by omega⟩
theorem BES.in {y u : Int} (g : y = c / vi V l 3 + rsv t ∧ u = c % vi V l 3 + csv t) (h : 0 ≤ y ∧ y < vi V l 4 ∧ 0 ≤ u ∧ u < vi V l 3) (h0 : 0 ≤ t) (hX : X = y * vi V l 3 + u) : BES V l c t X := ⟨fun _ _ _ => by
  unfold bsd
  rw [if_pos (by omega), ← g.1, ← g.2, Int.mul_comm (vi V l 3) y]
  exact hX, fun h => by omega⟩
/-! rectangles -/
theorem RCT.n1 {a b : Int} (g : Y ≠ 0 ↔ (0 ≤ a ∧ a < w * h)) (hY : Y = 0) (hX : X = 0) : X ≠ 0 ↔ ((0 ≤ a ∧ a < w * h) ∧ (0 ≤ b ∧ b < w * h) ∧ a / w ≤ b / w ∧ a % w ≤ b % w) := ⟨fun q => absurd hX q, fun q => absurd hY (g.mpr q.1)⟩
theorem RCT.n2 {a b : Int} (g : Y ≠ 0 ↔ (0 ≤ b ∧ b < w * h)) (hY : Y = 0) (hX : X = 0) : X ≠ 0 ↔ ((0 ≤ a ∧ a < w * h) ∧ (0 ≤ b ∧ b < w * h) ∧ a / w ≤ b / w ∧ a % w ≤ b % w) := ⟨fun q => absurd hX q, fun q => absurd hY (g.mpr q.2.1)⟩
theorem RCT.n3 {a b : Int} {r1 r2 Y1 Y2 : Int} (_g : Y1 ≠ 0 ↔ (0 ≤ a ∧ a < w * h)) (_g2 : Y2 ≠ 0 ↔ (0 ≤ b ∧ b < w * h)) (e1 : 0 ≤ a → r1 = a / w) (e2 : 0 ≤ b → r2 = b / w) (hr : r2 < r1) (hX : X = 0) : X ≠ 0 ↔ ((0 ≤ a ∧ a < w * h) ∧ (0 ≤ b ∧ b < w * h) ∧ a / w ≤ b / w ∧ a % w ≤ b % w) := ⟨fun q => absurd hX q, fun q => by
  have h1 := e1 q.1.1
  have h2 := e2 q.2.1.1
  have h3 := q.2.2.1
  omega⟩
theorem RCT.n4 {a b : Int} {r1 r2 Y1 Y2 : Int} (_g : Y1 ≠ 0 ↔ (0 ≤ a ∧ a < w * h)) (_g2 : Y2 ≠ 0 ↔ (0 ≤ b ∧ b < w * h)) (e1 : 0 ≤ a → r1 = a % w) (e2 : 0 ≤ b → r2 = b % w) (hr : r2 < r1) (hX : X = 0) : X ≠ 0 ↔ ((0 ≤ a ∧ a < w * h) ∧ (0 ≤ b ∧ b < w * h) ∧ a / w ≤ b / w ∧ a % w ≤ b % w) := ⟨fun q => absurd hX q, fun q => by
  have h1 := e1 q.1.1
  have h2 := e2 q.2.1.1
  have h3 := q.2.2.2
  omega⟩
theorem RCT.y {a b : Int} {r1 r2 c1 c2 Y1 Y2 : Int} (g1 : Y1 ≠ 0 ↔ (0 ≤ a ∧ a < w * h)) (g2 : Y2 ≠ 0 ↔ (0 ≤ b ∧ b < w * h)) (e1 : 0 ≤ a → r1 = a / w) (e2 : 0 ≤ b → r2 = b / w) (e3 : 0 ≤ a → c1 = a % w) (e4 : 0 ≤ b → c2 = b % w) (h1 : Y1 ≠ 0) (h2 : Y2 ≠ 0) (hr : r1 ≤ r2) (hc : c1 ≤ c2) (hX : X ≠ 0) : X ≠ 0 ↔ ((0 ≤ a ∧ a < w * h) ∧ (0 ≤ b ∧ b < w * h) ∧ a / w ≤ b / w ∧ a % w ≤ b % w) := ⟨fun _ => by
  have ga := g1.mp h1
  have gb := g2.mp h2
  have a1 := e1 ga.1
  have a2 := e2 gb.1
  have a3 := e3 ga.1
  have a4 := e4 gb.1
  exact ⟨ga, gb, by omega, by omega⟩, fun _ => hX⟩
theorem RCT.m3 {a b : Int} {Y1 Y2 : Int} (_g : Y1 ≠ 0 ↔ (0 ≤ a ∧ a < w * h)) (_g2 : Y2 ≠ 0 ↔ (0 ≤ b ∧ b < w * h)) (hr : b % w < a % w) (hX : X = 0) : X ≠ 0 ↔ ((0 ≤ a ∧ a < w * h) ∧ (0 ≤ b ∧ b < w * h) ∧ a / w ≤ b / w ∧ a % w ≤ b % w) := ⟨fun q => absurd hX q, fun q => by
  have h3 := q.2.2.2
  omega⟩
theorem RCT.m4 {a b : Int} {Y1 Y2 : Int} (_g : Y1 ≠ 0 ↔ (0 ≤ a ∧ a < w * h)) (_g2 : Y2 ≠ 0 ↔ (0 ≤ b ∧ b < w * h)) (hr : b / w < a / w) (hX : X = 0) : X ≠ 0 ↔ ((0 ≤ a ∧ a < w * h) ∧ (0 ≤ b ∧ b < w * h) ∧ a / w ≤ b / w ∧ a % w ≤ b % w) := ⟨fun q => absurd hX q, fun q => by
  have h3 := q.2.2.1
  omega⟩
theorem RCT.my {a b : Int} {Y1 Y2 : Int} (g1 : Y1 ≠ 0 ↔ (0 ≤ a ∧ a < w * h)) (g2 : Y2 ≠ 0 ↔ (0 ≤ b ∧ b < w * h)) (h1 : Y1 ≠ 0) (h2 : Y2 ≠ 0) (hc : a % w ≤ b % w) (hr : a / w ≤ b / w) (hX : X ≠ 0) : X ≠ 0 ↔ ((0 ≤ a ∧ a < w * h) ∧ (0 ≤ b ∧ b < w * h) ∧ a / w ≤ b / w ∧ a % w ≤ b % w) := ⟨fun _ => ⟨g1.mp h1, g2.mp h2, hr, hc⟩, fun _ => hX⟩
def CRS (V : Vmap) (l : Nat) (c d X : Int) : Prop := X ≠ 0 ↔ (rgv V (vq V l 6) 144) c = 0 ∧ (rgv V (vq V l 7) 144) c ≠ -1 ∧ (rgv V (vq V l 8) 144) c ≤ d
theorem CRS.n1 (e : Y = (rgv V (vq V l 6) 144) c) (hY : Y ≠ 0) (hX : X = 0) : CRS V l c d X := ⟨fun q => absurd hX q, fun q => absurd (e.trans q.1) hY⟩
theorem CRS.n2 (e : Y = (rgv V (vq V l 7) 144) c) (hY : Y = -1) (hX : X = 0) : CRS V l c d X := ⟨fun q => absurd hX q, fun q => absurd (e.symm.trans hY) q.2.1⟩
theorem CRS.n3 (e : Y = (rgv V (vq V l 8) 144) c) (hY : d < Y) (hX : X = 0) : CRS V l c d X := ⟨fun q => absurd hX q, fun q => by
  have := q.2.2
  omega⟩
theorem CRS.y {Y6 Y7 Y8 : Int} (e6 : Y6 = (rgv V (vq V l 6) 144) c) (e7 : Y7 = (rgv V (vq V l 7) 144) c) (e8 : Y8 = (rgv V (vq V l 8) 144) c) (h6 : Y6 = 0) (h7 : Y7 ≠ -1) (h8 : Y8 ≤ d) (hX : X ≠ 0) : CRS V l c d X := ⟨fun _ => ⟨by rw [← e6]; exact h6, by rw [← e7]; exact h7, by rw [← e8]; exact h8⟩, fun _ => hX⟩
/-! lay() -/
def LAY (V V1 : Vmap) (l : Nat) (p s : Int) : Prop := vi V1 l 3 = p ∧ vi V1 l 4 = s ∧ (∀ z, (rgv V1 (vq V1 l 5) 144) z = 0) ∧ (∀ z, (rgv V1 (vq V1 l 6) 144) z = 0) ∧ (∀ z : Int, (rgv V1 (vq V1 l 7) 144) z = if 0 ≤ z ∧ z < 144 then -1 else 0) ∧ ∀ z, (rgv V1 (vq V1 l 8) 144) z = 0
theorem fll_rw (f : FLL V V1 a 144 c) (z : Int) : rgv V1 a 144 z = if 0 ≤ z ∧ z < 144 then c else 0 := by
  unfold rgv
  by_cases q : 0 ≤ z ∧ z < ((144 : Nat) : Int)
  · rw [if_pos q, if_pos (by omega), f.1 z.toNat (by omega)]
  · rw [if_neg q, if_neg (by omega)]
theorem LAY.mk (hl : K l = some (0, 0)) (rp : ir p) (rs : ir s) (e1 : V1 = upd2 V l 3 (ti p)) (e2 : V2 = upd2 V1 l 4 (ti s)) (k5 : K (vq V2 l 5) = some (125 + 1, 144)) (f5 : FLL V2 V3 (vq V2 l 5) 144 0) (k6 : K (vq V3 l 6) = some (126 + 1, 144)) (f6 : FLL V3 V4 (vq V3 l 6) 144 0) (k7 : K (vq V4 l 7) = some (127 + 1, 144)) (f7 : FLL V4 V5 (vq V4 l 7) 144 (-1)) (k8 : K (vq V5 l 8) = some (128 + 1, 144)) (f8 : FLL V5 V6 (vq V5 l 8) 144 0) : LAY V V6 l p s := by
  have n5 := K_ne hl k5 (by decide)
  have n6 := K_ne hl k6 (by decide)
  have n7 := K_ne hl k7 (by decide)
  have n8 := K_ne hl k8 (by decide)
  have l6 : V6 l = V5 l := f8.2 l n8
  have l5 : V5 l = V4 l := f7.2 l n7
  have l4 : V4 l = V3 l := f6.2 l n6
  have l3 : V3 l = V2 l := f5.2 l n5
  have L6 : V6 l = V2 l := l6.trans (l5.trans (l4.trans l3))
  have q5 : vq V6 l 5 = vq V2 l 5 := vq_eq (congrFun L6 5)
  have q6 : vq V6 l 6 = vq V3 l 6 := vq_eq (congrFun (l6.trans (l5.trans l4)) 6)
  have q7 : vq V6 l 7 = vq V4 l 7 := vq_eq (congrFun (l6.trans l5) 7)
  have q8 : vq V6 l 8 = vq V5 l 8 := vq_eq (congrFun l6 8)
  have u5 : V6 (vq V2 l 5) = V3 (vq V2 l 5) := (f8.2 _ (K_ne k5 k8 (by decide))).trans ((f7.2 _ (K_ne k5 k7 (by decide))).trans (f6.2 _ (K_ne k5 k6 (by decide))))
  have u6 : V6 (vq V3 l 6) = V4 (vq V3 l 6) := (f8.2 _ (K_ne k6 k8 (by decide))).trans (f7.2 _ (K_ne k6 k7 (by decide)))
  have u7 : V6 (vq V4 l 7) = V5 (vq V4 l 7) := f8.2 _ (K_ne k7 k8 (by decide))
  have same : ∀ {A B : Vmap} {r : Nat} (z : Int), A r = B r → rgv A r 144 z = rgv B r 144 z := fun z e => by unfold rgv; rw [vi_eq (congrFun e _)]
  refine ⟨?_, ?_, fun z => ?_, fun z => ?_, fun z => ?_, fun z => ?_⟩
  · rw [vi_eq (congrFun L6 3), vi_up e2 (Or.inr (by decide))]
    exact upd2_int e1 rp
  · rw [vi_eq (congrFun L6 4)]
    exact upd2_int e2 rs
  · skip
    rw [q5, same z u5, fll_rw f5]
    split <;> rfl
  · skip
    rw [q6, same z u6, fll_rw f6]
    split <;> rfl
  · skip
    rw [q7, same z u7, fll_rw f7]
  · skip
    rw [q8, fll_rw f8]
    split <;> rfl
/-! ice(), cell() -/
def ICD (n w p s : Int) : Prop := 4 ≤ p ∧ p ≤ 12 ∧ 4 ≤ s ∧ s ≤ 12 ∧ n ≤ 0 ∧ w ≤ 0
def ICC (V V1 : Vmap) (x : Nat) (p s X : Int) : Prop := (X = 0 ∧ ¬ ICD (vi V x 6) (vi V x 8) p s ∧ V1 = V) ∨ (X = 1 ∧ ICD (vi V x 6) (vi V x 8) p s ∧ LAY V V1 ((vq V x 0)) p s ∧ (vq V1 x 0) = (vq V x 0))
theorem ICC.no (h : ¬ ICD (vi V x 6) (vi V x 8) p s) (hX : X = 0) : ICC V V x p s X := Or.inl ⟨hX, h, rfl⟩
theorem ICC.ok (h : ICD (vi V x 6) (vi V x 8) p s) (hX : X = 1) (g : LAY V V1 (vq V x 0) p s) (g0 : vq V1 x 0 = vq V x 0) : ICC V V1 x p s X := Or.inr ⟨hX, h, g, g0⟩
def CED (w h c a b t d : Int) : Prop := (0 ≤ c ∧ c < w * h) ∧ 0 ≤ a ∧ a ≤ 40 ∧ 0 ≤ b ∧ b ≤ 3 ∧ ((t = -1 ∧ d = 0) ∨ (0 ≤ t ∧ t ≤ 7 ∧ 10 ≤ d ∧ d ≤ 3600))
/-- one number of a row of the land -/
def pt1 (f : Int → Int) (c v : Int) : Int → Int := fun z => if z = c then v else f z
def CEC (V V1 : Vmap) (x : Nat) (c p s t d X : Int) : Prop := (X = 0 ∧ ¬ CED ((vi V (vq V x 0) 3)) ((vi V (vq V x 0) 4)) c p s t d ∧ V1 = V) ∨ (X = 1 ∧ CED ((vi V (vq V x 0) 3)) ((vi V (vq V x 0) 4)) c p s t d ∧ (vi V1 (vq V1 x 0) 3) = (vi V (vq V x 0) 3) ∧ (vi V1 (vq V1 x 0) 4) = (vi V (vq V x 0) 4) ∧ (rgv V1 (vq V1 ((vq V1 x 0)) 5) 144) = pt1 ((rgv V (vq V ((vq V x 0)) 5) 144)) c p ∧ (rgv V1 (vq V1 ((vq V1 x 0)) 6) 144) = pt1 ((rgv V (vq V ((vq V x 0)) 6) 144)) c s ∧ (rgv V1 (vq V1 ((vq V1 x 0)) 7) 144) = pt1 ((rgv V (vq V ((vq V x 0)) 7) 144)) c t ∧ (rgv V1 (vq V1 ((vq V1 x 0)) 8) 144) = pt1 ((rgv V (vq V ((vq V x 0)) 8) 144)) c d)
theorem CEC.no (h : ¬ CED ((vi V (vq V x 0) 3)) ((vi V (vq V x 0) 4)) c p s t d) (hX : X = 0) : CEC V V x c p s t d X := Or.inl ⟨hX, h, rfl⟩
theorem rpv_row {A B : Vmap} {v : Int} (e : B = rpv A a 144 c v) (h0 : 0 ≤ c) (h1 : c < 144) (rv : ir v) : (∀ z, rgv B a 144 z = pt1 (rgv A a 144) c v z) ∧ ∀ u, u ≠ a → B u = A u := by
  have e' := rpv_put e h0 (by omega)
  refine ⟨fun z => ?_, fun u hu => funext fun j => uq_ne e' (Or.inl hu)⟩
  unfold pt1
  by_cases q : z = c
  · subst q
    rw [if_pos rfl, ← rgv_in h0 (by omega)]
    exact upd2_int e' rv
  · rw [if_neg q]
    unfold rgv
    by_cases q2 : 0 ≤ z ∧ z < ((144 : Nat) : Int)
    · rw [if_pos q2, if_pos q2]
      exact vi_up e' (Or.inr (by omega))
    · rw [if_neg q2, if_neg q2]
theorem CEC.ok (h : CED ((vi V (vq V x 0) 3)) ((vi V (vq V x 0) 4)) c p s t d) (hX : X = 1) (hW : WT K V) (hx : K x = some (0, 10)) (rp : ir p) (rs : ir s) (rt : ir t) (rd : ir d) (e1 : V1 = rpv V (vq V (vq V x 0) 5) 144 c p) (e2 : V2 = rpv V1 (vq V1 (vq V x 0) 6) 144 c s) (e3 : V3 = rpv V2 (vq V2 (vq V x 0) 7) 144 c t) (e4 : V4 = rpv V3 (vq V3 (vq V x 0) 8) 144 c d) : CEC V V4 x c p s t d X := by
  obtain ⟨h0, h5, h6, h7, h8⟩ := ld_at hW hx
  have hw := (hW.int h0 (j := 3) (Nat.le_of_ble_eq_true rfl) rfl).2
  have hh := (hW.int h0 (j := 4) (Nat.le_of_ble_eq_true rfl) rfl).2
  have hm := mul_rng (a := (vi V (vq V x 0) 3)) (b := (vi V (vq V x 0) 4)) (A := 12) (B := 12) (by omega) (by omega) (by omega) (by omega)
  have hc := h.1
  have c1 : c < 144 := by
    have := hc.2
    omega
  obtain ⟨a1, b1⟩ := rpv_row e1 hc.1 c1 rp
  have nx5 : x ≠ vq V (vq V x 0) 5 := K_ne hx h5 (by decide)
  have nl5 : vq V x 0 ≠ vq V (vq V x 0) 5 := K_ne h0 h5 (by decide)
  have x1 : V1 x = V x := b1 x nx5
  have l1 : V1 (vq V x 0) = V (vq V x 0) := b1 _ nl5
  rw [vq_eq (congrFun l1 6)] at e2
  obtain ⟨a2, b2⟩ := rpv_row e2 hc.1 c1 rs
  have x2 : V2 x = V x := (b2 x (K_ne hx h6 (by decide))).trans x1
  have l2 : V2 (vq V x 0) = V (vq V x 0) := (b2 _ (K_ne h0 h6 (by decide))).trans l1
  rw [vq_eq (congrFun l2 7)] at e3
  obtain ⟨a3, b3⟩ := rpv_row e3 hc.1 c1 rt
  have x3 : V3 x = V x := (b3 x (K_ne hx h7 (by decide))).trans x2
  have l3 : V3 (vq V x 0) = V (vq V x 0) := (b3 _ (K_ne h0 h7 (by decide))).trans l2
  rw [vq_eq (congrFun l3 8)] at e4
  obtain ⟨a4, b4⟩ := rpv_row e4 hc.1 c1 rd
  have x4 : V4 x = V x := (b4 x (K_ne hx h8 (by decide))).trans x3
  have l4 : V4 (vq V x 0) = V (vq V x 0) := (b4 _ (K_ne h0 h8 (by decide))).trans l3
  have same : ∀ {A B : Vmap} {r : Nat}, A r = B r → rgv A r 144 = rgv B r 144 := fun e => funext fun z => by unfold rgv; rw [vi_eq (congrFun e _)]
  refine Or.inr ⟨hX, h, ?_⟩
  rw [vq_eq (congrFun x4 0), vi_eq (congrFun l4 3), vi_eq (congrFun l4 4), vq_eq (congrFun l4 5), vq_eq (congrFun l4 6), vq_eq (congrFun l4 7), vq_eq (congrFun l4 8)]
  refine ⟨rfl, rfl, ?_, ?_, ?_, ?_⟩
  · rw [same ((b4 _ (K_ne h5 h8 (by decide))).trans ((b3 _ (K_ne h5 h7 (by decide))).trans (b2 _ (K_ne h5 h6 (by decide)))))]
    exact funext a1
  · rw [same ((b4 _ (K_ne h6 h8 (by decide))).trans (b3 _ (K_ne h6 h7 (by decide)))), funext a2, same (b1 _ (K_ne h6 h5 (by decide)))]
  · rw [same (b4 _ (K_ne h7 h8 (by decide))), funext a3, same ((b2 _ (K_ne h7 h6 (by decide))).trans (b1 _ (K_ne h7 h5 (by decide))))]
  · rw [funext a4, same ((b3 _ (K_ne h8 h7 (by decide))).trans ((b2 _ (K_ne h8 h6 (by decide))).trans (b1 _ (K_ne h8 h5 (by decide)))))]
end PC
