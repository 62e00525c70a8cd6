/-! ### a day: the reference's sledges and ships, and all of a day -/
section Q10
variable {K K0 K1 K2 : Kmap} {V V0 V1 V2 V3 W W0 W1 W2 Wm : Vmap} {x m o t q f N l : Nat} {i j n e d p a b w y v X Y Z D z : Int} {r u g c τ : Nat → Int} {k s : Nat}
def rSl (V : Vmap) (m i : Nat) : Nat → Int := fun f => if f = 0 then ar 107 V m i else if f = 1 then ar 108 V m i else if f = 2 then ar 110 V m i else if f = 3 then ar 109 V m i else if f = 4 then ar 111 V m i else 0
/-- what a sledge's coming doesn't write -/
def MSZ (V V1 : Vmap) (m : Nat) : Prop := (ar 107 V1 m = ar 107 V m ∧ ar 108 V1 m = ar 108 V m ∧ ar 109 V1 m = ar 109 V m ∧ ar 110 V1 m = ar 110 V m) ∧ ar 19 V1 m = ar 19 V m ∧ ar 21 V1 m = ar 21 V m ∧ ar 22 V1 m = ar 22 V m ∧ ar 23 V1 m = ar 23 V m ∧ ar 28 V1 m = ar 28 V m ∧ ar 15 V1 m = ar 15 V m
def mzbits (ws : Nat) : Bool := [keyK (0, 11) 107, keyK (0, 11) 108, keyK (0, 11) 109, keyK (0, 11) 110, keyK (0, 11) 19, keyK (0, 11) 21, keyK (0, 11) 22, keyK (0, 11) 23, keyK (0, 11) 28, keyK (0, 11) 15].all (fun b => !ws.testBit b) && [85 + 1, 86 + 1, 87 + 1, 88 + 1, 21 + 1, 23 + 1, 24 + 1, 25 + 1, 30 + 1, 17 + 1].all (fun b => !ws.testBit (abase + b))
theorem MSZ.fr {ws : Nat} (hF : FR ws K V K1 V1) (hE : ext K K1) (hW : WT K V) (hm : K m = some (0, 11)) (hb : mzbits ws = true) : MSZ V V1 m := by
  simp only [mzbits, List.all_cons, List.all_nil, Bool.and_true, Bool.and_eq_true, Bool.not_eq_true'] at hb
  obtain ⟨⟨c0, c1, c2, c3, c4, c5, c6, c7, c8, c9⟩, b0, b1, b2, b3, b4, b5, b6, b7, b8, b9⟩ := hb
  exact ⟨⟨arq hF hE hm (hW.ref hm (j := 107) (Nat.le_of_ble_eq_true rfl) rfl).2 c0 b0, arq hF hE hm (hW.ref hm (j := 108) (Nat.le_of_ble_eq_true rfl) rfl).2 c1 b1, arq hF hE hm (hW.ref hm (j := 109) (Nat.le_of_ble_eq_true rfl) rfl).2 c2 b2, arq hF hE hm (hW.ref hm (j := 110) (Nat.le_of_ble_eq_true rfl) rfl).2 c3 b3⟩, arq hF hE hm (hW.ref hm (j := 19) (Nat.le_of_ble_eq_true rfl) rfl).2 c4 b4, arq hF hE hm (hW.ref hm (j := 21) (Nat.le_of_ble_eq_true rfl) rfl).2 c5 b5, arq hF hE hm (hW.ref hm (j := 22) (Nat.le_of_ble_eq_true rfl) rfl).2 c6 b6, arq hF hE hm (hW.ref hm (j := 23) (Nat.le_of_ble_eq_true rfl) rfl).2 c7 b7, arq hF hE hm (hW.ref hm (j := 28) (Nat.le_of_ble_eq_true rfl) rfl).2 c8 b8, arq hF hE hm (hW.ref hm (j := 15) (Nat.le_of_ble_eq_true rfl) rfl).2 c9 b9⟩
def MOK (V : Vmap) (m : Nat) (z c : Int) : Prop := ar 28 V m z.toNat = 0 ∧ ar 15 V m z.toNat = c
def MSLG (V V1 : Vmap) (m : Nat) (i : Int) : Prop := ∃ t' g', SLP (vi V m 2) (rSl V m i.toNat 4 ≠ 0 ∧ rSl V m i.toNat 2 ≤ vi V m 2) (MOK V m (rSl V m i.toNat 0) (rSl V m i.toNat 1)) (rSl V m i.toNat) (rst V m (rSl V m i.toNat 0).toNat) t' g' ∧ rSl V1 m = upg (rSl V m) i.toNat t' ∧ rst V1 m = upg (rst V m) (rSl V m i.toNat 0).toNat g'
theorem rsl_w {k1 : Nat} (hs : MSZ V V1 m) (a111 : ar 111 V1 m = updf (ar 111 V m) k1 0) (q1 : k1 = s) : rSl V1 m = upg (rSl V m) s (updf (rSl V m s) 4 0) := by
  subst q1
  obtain ⟨⟨h1, h2, h3, h4⟩, -⟩ := hs
  funext j f
  unfold upg
  by_cases q : j = k1
  · rw [if_pos q, q]
    by_cases g : f = 4
    · rw [g, updf_at]
      show ar 111 V1 m k1 = 0
      rw [a111, updf_at]
    · rw [updf_of g]
      unfold rSl
      rw [h1, h2, h3, h4, if_neg g, if_neg g]
  · rw [if_neg q]
    unfold rSl
    rw [h1, h2, h3, h4, a111, updf_of q]
theorem MSLG.no (h : ¬ (vi V (vq V m 111) i.toNat ≠ 0 ∧ vi V (vq V m 110) i.toNat ≤ vi V m 2)) : MSLG V V m i := ⟨_, _, Or.inr (Or.inr ⟨h, rfl, rfl⟩), (upg_id rfl).symm, (upg_id rfl).symm⟩
theorem MOK.ns (hz : z = vi W (vq W m 107) i.toNat) (hs : MSZ V W m) (h : vi W (vq W m 28) z.toNat ≠ 0 ∨ vi W (vq W m 15) z.toNat ≠ vi W (vq W m 108) i.toNat) : ¬ MOK V m (rSl V m i.toNat 0) (rSl V m i.toNat 1) := fun g => by
  obtain ⟨⟨h1, h2, -, -⟩, -, -, -, -, h28, h15⟩ := hs
  have e0 : rSl V m i.toNat 0 = z := (congrFun h1 i.toNat).symm.trans hz.symm
  have e1 : rSl V m i.toNat 1 = vi W (vq W m 108) i.toNat := (congrFun h2 i.toNat).symm
  rw [e0, e1] at g
  obtain ⟨g1, g2⟩ := g
  have a1 : vi W (vq W m 28) z.toNat = 0 := (congrFun h28 z.toNat).trans g1
  have a2 : vi W (vq W m 15) z.toNat = vi W (vq W m 108) i.toNat := (congrFun h15 z.toNat).trans g2
  rcases h with h | h
  · exact h a1
  · exact h a2
theorem MOK.ys (hz : z = vi W (vq W m 107) i.toNat) (hs : MSZ V W m) (h1' : vi W (vq W m 28) z.toNat = 0) (h2' : vi W (vq W m 15) z.toNat = vi W (vq W m 108) i.toNat) : MOK V m (rSl V m i.toNat 0) (rSl V m i.toNat 1) := by
  obtain ⟨⟨h1, h2, -, -⟩, -, -, -, -, h28, h15⟩ := hs
  have e0 : rSl V m i.toNat 0 = z := (congrFun h1 i.toNat).symm.trans hz.symm
  have e1 : rSl V m i.toNat 1 = vi W (vq W m 108) i.toNat := (congrFun h2 i.toNat).symm
  rw [e0, e1]
  exact ⟨(congrFun h28 z.toNat).symm.trans h1', (congrFun h15 z.toNat).symm.trans h2'⟩
theorem MSLG.lo {k1 : Nat} (no : ¬ MOK V m (rSl V m i.toNat 0) (rSl V m i.toNat 1)) (h4 : vi V (vq V m 111) i.toNat ≠ 0) (h2 : vi V (vq V m 110) i.toNat ≤ vi V m 2) (hs : MSZ V V1 m) (a111 : ar 111 V1 m = updf (ar 111 V m) k1 0) (q1 : k1 = i.toNat) (a20 : ar 20 V1 m = ar 20 V m) : MSLG V V1 m i := by
  refine ⟨_, _, Or.inr (Or.inl ⟨⟨h4, h2⟩, no, rfl, rfl⟩), rsl_w hs a111 q1, ?_⟩
  obtain ⟨-, g19, g21, g22, g23, g28, -⟩ := hs
  rw [upg_id rfl]
  funext j f
  unfold rst
  rw [g19, g21, g22, g23, g28, a20]
theorem MSLG.ok {k1 k2 : Nat} (hz : z = vi W (vq W m 107) i.toNat) (hsW : MSZ V W m) (h1' : vi W (vq W m 28) z.toNat = 0) (h2' : vi W (vq W m 15) z.toNat = vi W (vq W m 108) i.toNat) (h4 : vi V (vq V m 111) i.toNat ≠ 0) (h2 : vi V (vq V m 110) i.toNat ≤ vi V m 2) (hs : MSZ V V1 m) (a111 : ar 111 V1 m = updf (ar 111 V m) k1 0) (q1 : k1 = i.toNat) (a20 : ar 20 V1 m = updf (ar 20 V m) k2 w) (q2 : k2 = z.toNat) (e20 : ar 20 W m = ar 20 V m) (hw : w = wr (vi W (vq W m 20) z.toNat + vi W (vq W m 109) i.toNat)) : MSLG V V1 m i := by
  have e0 : rSl V m i.toNat 0 = z := (congrFun hsW.1.1 i.toNat).symm.trans hz.symm
  have e3 : rSl V m i.toNat 3 = vi W (vq W m 109) i.toNat := (congrFun hsW.1.2.2.1 i.toNat).symm
  have e7 : rst V m z.toNat 7 = vi W (vq W m 20) z.toNat := (congrFun e20 z.toNat).symm
  refine ⟨_, _, Or.inl ⟨⟨h4, h2⟩, MOK.ys hz hsW h1' h2', rfl, rfl⟩, rsl_w hs a111 q1, ?_⟩
  obtain ⟨-, g19, g21, g22, g23, g28, -⟩ := hs
  rw [e0, e3, e7, ← hw]
  obtain ⟨r5, r6, r7, r8, r9, rr⟩ := rst_at (V := V) (m := m) (k := z.toNat)
  exact rst_up (as_s g19 (by rw [updf_of (by decide)]; exact r6)) (as_u a20 q2 updf_at) (as_s g21 (by rw [updf_of (by decide)]; exact r8)) (as_s g22 (by rw [updf_of (by decide)]; exact r9)) (as_s g28 (by rw [updf_of (by decide)]; exact r5)) (fun j r hr => by
    rw [g23]
    split
    · rename_i h
      rw [h, updf_of (by omega), rr r hr]
    · rfl) (fun f hf => by rw [updf_of (by omega), rst_0 hf])
/-! what stays while the stations have their turns -/
def MDO (V W : Vmap) (m : Nat) : Prop := msv W m = msv V m ∧ rSl W m = rSl V m ∧ ar 105 W m = ar 105 V m ∧ vi W m 91 = vi V m 91 ∧ vi W m 92 = vi V m 92
theorem MDO.rf : MDO V V m := ⟨rfl, rfl, rfl, rfl, rfl⟩
theorem MDO.tr (h : MDO V W m) (g : MDO W W1 m) : MDO V W1 m := ⟨g.1.trans h.1, g.2.1.trans h.2.1, g.2.2.1.trans h.2.2.1, g.2.2.2.1.trans h.2.2.2.1, g.2.2.2.2.trans h.2.2.2.2⟩
def mdk (ws : Nat) : Bool := [keyK (0, 11) 94, keyK (0, 11) 95, keyK (0, 11) 96, keyK (0, 11) 97, keyK (0, 11) 98, keyK (0, 11) 99, keyK (0, 11) 100, keyK (0, 11) 101, keyK (0, 11) 102, keyK (0, 11) 103, keyK (0, 11) 104, keyK (0, 11) 105, keyK (0, 11) 107, keyK (0, 11) 108, keyK (0, 11) 109, keyK (0, 11) 110, keyK (0, 11) 111, keyK (0, 11) 91, keyK (0, 11) 92].all fun b => !ws.testBit b
def mda (ws : Nat) : Bool := [72 + 1, 73 + 1, 74 + 1, 75 + 1, 76 + 1, 77 + 1, 78 + 1, 79 + 1, 80 + 1, 81 + 1, 82 + 1, 83 + 1, 85 + 1, 86 + 1, 87 + 1, 88 + 1, 89 + 1].all fun b => !ws.testBit (abase + b)
theorem MDO.fr {ws : Nat} (hF : FR ws K V K1 V1) (hE : ext K K1) (hW : WT K V) (hm : K m = some (0, 11)) (h1 : mdk ws = true) (h2 : mda ws = true) : MDO V V1 m := by
  simp only [mdk, List.all_cons, List.all_nil, Bool.and_true, Bool.and_eq_true, Bool.not_eq_true'] at h1
  simp only [mda, List.all_cons, List.all_nil, Bool.and_true, Bool.and_eq_true, Bool.not_eq_true'] at h2
  obtain ⟨c0, c1, c2, c3, c4, c5, c6, c7, c8, c9, c10, c11, c12, c13, c14, c15, c16, c17, c18⟩ := h1
  obtain ⟨b0, b1, b2, b3, b4, b5, b6, b7, b8, b9, b10, b11, b12, b13, b14, b15, b16⟩ := h2
  have g94 := arq hF hE hm (hW.ref hm (j := 94) (Nat.le_of_ble_eq_true rfl) rfl).2 c0 b0
  have g95 := arq hF hE hm (hW.ref hm (j := 95) (Nat.le_of_ble_eq_true rfl) rfl).2 c1 b1
  have g96 := arq hF hE hm (hW.ref hm (j := 96) (Nat.le_of_ble_eq_true rfl) rfl).2 c2 b2
  have g97 := arq hF hE hm (hW.ref hm (j := 97) (Nat.le_of_ble_eq_true rfl) rfl).2 c3 b3
  have g98 := arq hF hE hm (hW.ref hm (j := 98) (Nat.le_of_ble_eq_true rfl) rfl).2 c4 b4
  have g99 := arq hF hE hm (hW.ref hm (j := 99) (Nat.le_of_ble_eq_true rfl) rfl).2 c5 b5
  have g100 := arq hF hE hm (hW.ref hm (j := 100) (Nat.le_of_ble_eq_true rfl) rfl).2 c6 b6
  have g101 := arq hF hE hm (hW.ref hm (j := 101) (Nat.le_of_ble_eq_true rfl) rfl).2 c7 b7
  have g102 := arq hF hE hm (hW.ref hm (j := 102) (Nat.le_of_ble_eq_true rfl) rfl).2 c8 b8
  have g103 := arq hF hE hm (hW.ref hm (j := 103) (Nat.le_of_ble_eq_true rfl) rfl).2 c9 b9
  have g104 := arq hF hE hm (hW.ref hm (j := 104) (Nat.le_of_ble_eq_true rfl) rfl).2 c10 b10
  have g105 := arq hF hE hm (hW.ref hm (j := 105) (Nat.le_of_ble_eq_true rfl) rfl).2 c11 b11
  have g107 := arq hF hE hm (hW.ref hm (j := 107) (Nat.le_of_ble_eq_true rfl) rfl).2 c12 b12
  have g108 := arq hF hE hm (hW.ref hm (j := 108) (Nat.le_of_ble_eq_true rfl) rfl).2 c13 b13
  have g109 := arq hF hE hm (hW.ref hm (j := 109) (Nat.le_of_ble_eq_true rfl) rfl).2 c14 b14
  have g110 := arq hF hE hm (hW.ref hm (j := 110) (Nat.le_of_ble_eq_true rfl) rfl).2 c15 b15
  have g111 := arq hF hE hm (hW.ref hm (j := 111) (Nat.le_of_ble_eq_true rfl) rfl).2 c16 b16
  have hm1 := hE.obj (Or.inl (by decide)) hm
  refine ⟨?_, ?_, g105, vi_fr hF hm hm1 c17, vi_fr hF hm hm1 c18⟩
  · funext s f
    unfold msv
    rw [g94, g95, g96, g97, g98, g99, g100, g101, g102, g103, g104]
  · funext s f
    unfold rSl
    rw [g107, g108, g109, g110, g111]
/-! all of a day -/
def mcv (V : Vmap) (m : Nat) (z : Int) : Int := vi V (vq V m 105) (12 * z + vi V m 2 % 360 / 30).toNat
theorem MSG.sgr (h : MSG V V1 m i) : SGR (vi V m 2) (mcv V m) (OKM V m) i.toNat (msv V m, rst V m) (msv V1 m, rst V1 m) := h
theorem MSLG.slm (h : MSLG V V1 m i) : SLM (vi V m 2) (MOK V m) i.toNat (rSl V m, rst V m) (rSl V1 m, rst V1 m) := h
/-- the stations -/
def MD2 (V W : Vmap) (m : Nat) (i : Int) : Prop := MDS V W m i ∧ MDO V W m
theorem MD2.beg (h2 : vi W m 2 = vi V m 2 + 1) (h3 : vi W m 3 = vi V m 3) (h4 : vi W m 4 = vi V m 4) (hs : SMR V W m) (hm : MSM V W m) (ho : MDO V W m) : MD2 V W m 0 := ⟨MDS.beg h2 h3 h4 hs hm.2.1.2.2, ho⟩
theorem MD2.skip (h : MD2 V W m i) (hm : MDI V W m i) (hx : X ≠ 0 ↔ MSN W m i) (hX : X = 0) (i0 : 0 ≤ i) (hi : i < vi W m 10) (hn : n = i + 1) : MD2 V W m n := ⟨h.1.skip hm.1 hx hX i0 hi hn, h.2⟩
def d3bits (ws : Nat) : Bool := [keyK (0, 11) 2, keyK (0, 11) 3, keyK (0, 11) 4].all fun b => !ws.testBit b
theorem d3_fr {ws : Nat} (hF : FR ws K V K V1) (hm : K m = some (0, 11)) (hb : d3bits ws = true) : vi V1 m 2 = vi V m 2 ∧ vi V1 m 3 = vi V m 3 ∧ vi V1 m 4 = vi V m 4 := by
  simp only [d3bits, List.all_cons, List.all_nil, Bool.and_true, Bool.and_eq_true, Bool.not_eq_true'] at hb
  exact ⟨vi_fr hF hm hm hb.1, vi_fr hF hm hm hb.2.1, vi_fr hF hm hm hb.2.2⟩
theorem MD2.step {w1 w2 : Nat} (h : MD2 V W m i) (hm : MDI V W m i) (hm1 : MSM W W1 m) (hx : X ≠ 0 ↔ MSN W m i) (hX : X ≠ 0) (hb : MBU W W1 m i) (hf : FLS W1 W2 m i) (hF1 : FR w1 K W K W1) (hF2 : FR w2 K W1 K W2) (hW : WT K W) (hW1 : WT K W1) (hK : K m = some (0, 11)) (b1 : d3bits w1 = true) (b2 : mdk w1 = true) (b3 : mda w1 = true) (c1 : d3bits w2 = true) (c2 : mdk w2 = true) (c3 : mda w2 = true) (hn : n = i + 1) : MD2 V W2 m n := by
  obtain ⟨f2, f3, f4⟩ := d3_fr hF1 hK b1
  obtain ⟨g2, g3, g4⟩ := d3_fr hF2 hK c1
  exact ⟨h.1.step hm.1 hm1.1 hx hX hb hf ⟨g2.trans f2, g3.trans f3, g4.trans f4⟩ hn, (h.2.tr (MDO.fr hF1 ext.rf hW hK b2 b3)).tr (MDO.fr hF2 ext.rf hW1 hK c2 c3)⟩
/-- the ships -/
def MD3 (V W : Vmap) (m : Nat) (i : Int) : Prop := ∃ W0, (MDI V W0 m (vi V m 10) ∧ MDS V W0 m (vi V m 10) ∧ ar 105 W0 m = ar 105 V m) ∧ RNR (vi V m 2 + 1) (mcv W0 m) (OKM W0 m) (msv V m, rst W0 m) i.toNat (msv W m, rst W m) ∧ MSM W0 W m ∧ ar 105 W m = ar 105 V m ∧ vi W m 2 = vi V m 2 + 1 ∧ rSl W m = rSl V m ∧ vi W m 91 = vi V m 91 ∧ vi W m 92 = vi V m 92 ∧ i ≤ vi V m 91
theorem MD3.beg (h : MD2 V W m i) (hm : MDI V W m i) (hi : vi W m 10 ≤ i) (hi2 : i ≤ vi W m 10) (h0 : 0 ≤ vi W m 91) : MD3 V W m 0 := by
  have ei : i = vi V m 10 := by
    have := hm.1.1
    omega
  subst ei
  obtain ⟨h1, h2, h3, h4, h5, h6⟩ := h
  have e2 : vi W m 2 = vi V m 2 + 1 := by
    obtain ⟨d, -, g, -⟩ := h1
    exact g.1
  refine ⟨W, ⟨hm, h1, h4⟩, ?_, MSM.rf, h4, e2, h3, h5, h6, by omega⟩
  show (msv W m, rst W m) = (msv V m, rst W m)
  rw [h2]
def m3bits (ws : Nat) : Bool := [keyK (0, 11) 105, keyK (0, 11) 107, keyK (0, 11) 108, keyK (0, 11) 109, keyK (0, 11) 110, keyK (0, 11) 111, keyK (0, 11) 2, keyK (0, 11) 91, keyK (0, 11) 92].all (fun b => !ws.testBit b) && [83 + 1, 85 + 1, 86 + 1, 87 + 1, 88 + 1, 89 + 1].all (fun b => !ws.testBit (abase + b))
theorem m3_fr {ws : Nat} (hF : FR ws K V K1 V1) (hE : ext K K1) (hW : WT K V) (hm : K m = some (0, 11)) (hb : m3bits ws = true) : ar 105 V1 m = ar 105 V m ∧ rSl V1 m = rSl V m ∧ vi V1 m 2 = vi V m 2 ∧ vi V1 m 91 = vi V m 91 ∧ vi V1 m 92 = vi V m 92 := by
  simp only [m3bits, List.all_cons, List.all_nil, Bool.and_true, Bool.and_eq_true, Bool.not_eq_true'] at hb
  obtain ⟨⟨c0, c1, c2, c3, c4, c5, c6, c7, c8⟩, b0, b1, b2, b3, b4, b5⟩ := hb
  have hm1 := hE.obj (Or.inl (by decide)) hm
  have g107 := arq hF hE hm (hW.ref hm (j := 107) (Nat.le_of_ble_eq_true rfl) rfl).2 c1 b1
  have g108 := arq hF hE hm (hW.ref hm (j := 108) (Nat.le_of_ble_eq_true rfl) rfl).2 c2 b2
  have g109 := arq hF hE hm (hW.ref hm (j := 109) (Nat.le_of_ble_eq_true rfl) rfl).2 c3 b3
  have g110 := arq hF hE hm (hW.ref hm (j := 110) (Nat.le_of_ble_eq_true rfl) rfl).2 c4 b4
  have g111 := arq hF hE hm (hW.ref hm (j := 111) (Nat.le_of_ble_eq_true rfl) rfl).2 c5 b5
  refine ⟨arq hF hE hm (hW.ref hm (j := 105) (Nat.le_of_ble_eq_true rfl) rfl).2 c0 b0, ?_, vi_fr hF hm hm1 c6, vi_fr hF hm hm1 c7, vi_fr hF hm hm1 c8⟩
  funext s f
  unfold rSl
  rw [g107, g108, g109, g110, g111]
theorem mcv_eq (h : ar 105 W m = ar 105 V m) (h2 : vi W m 2 = vi V m 2) : mcv W m = mcv V m := by
  funext z
  unfold mcv
  rw [h2]
  exact congrFun h _
theorem MD3.step {ws : Nat} (h : MD3 V W m i) (hs : MSG W W1 m i) (hF : FR ws K W K W1) (hW : WT K W) (hm : K m = some (0, 11)) (b1 : mpbits ws = true) (b2 : mvbits ws = true) (b3 : mlbits ws = true) (b4 : m3bits ws = true) (i0 : 0 ≤ i) (i1 : i < vi W m 91) (hn : n = i + 1) : MD3 V W1 m n := by
  obtain ⟨W0, ⟨w1, w2, w3⟩, hr, f, h105, h2, hl, h91, h92, -⟩ := h
  obtain ⟨g1, g2, g3, g4, g5⟩ := m3_fr hF ext.rf hW hm b4
  have hg := hs.sgr
  have e2 : vi W0 m 2 = vi V m 2 + 1 := by
    obtain ⟨d, -, g, -⟩ := w2
    exact g.1
  rw [h2, mcv_eq (V := W0) (h105.trans w3.symm) (h2.trans e2.symm), okm_s f] at hg
  refine ⟨W0, ⟨w1, w2, w3⟩, ?_, f.tr (MSM.fr hF ext.rf hW hm b1 b2 b3), g1.trans h105, g3.trans h2, g2.trans hl, g4.trans h91, g5.trans h92, by omega⟩
  rw [hn, show (i + 1).toNat = i.toNat + 1 by omega]
  exact ⟨_, hr, hg⟩
/-- the sledges -/
def MD4 (V W : Vmap) (m : Nat) (i : Int) : Prop := ∃ W0 Wm, (MDI V W0 m (vi V m 10) ∧ MDS V W0 m (vi V m 10) ∧ ar 105 W0 m = ar 105 V m) ∧ RNR (vi V m 2 + 1) (mcv W0 m) (OKM W0 m) (msv V m, rst W0 m) (vi V m 91).toNat (msv W m, rst Wm m) ∧ RUN (SLM (vi V m 2 + 1) (MOK W0 m)) (rSl V m, rst Wm m) i.toNat (rSl W m, rst W m) ∧ MSM W0 W m ∧ vi W m 2 = vi V m 2 + 1 ∧ vi W m 91 = vi V m 91 ∧ vi W m 92 = vi V m 92 ∧ i ≤ vi V m 92
theorem MD4.beg (h : MD3 V W m i) (hi : vi W m 91 ≤ i) (h0 : 0 ≤ vi W m 92) : MD4 V W m 0 := by
  obtain ⟨W0, w, hr, f, h105, h2, hl, h91, h92, hi2⟩ := h
  have e : i = vi V m 91 := by omega
  subst e
  refine ⟨W0, W, w, hr, ?_, f, h2, h91, h92, by omega⟩
  show (rSl W m, rst W m) = (rSl V m, rst W m)
  rw [hl]
def m4bits (ws : Nat) : Bool := [keyK (0, 11) 94, keyK (0, 11) 95, keyK (0, 11) 96, keyK (0, 11) 97, keyK (0, 11) 98, keyK (0, 11) 99, keyK (0, 11) 100, keyK (0, 11) 101, keyK (0, 11) 102, keyK (0, 11) 103, keyK (0, 11) 104, keyK (0, 11) 2, keyK (0, 11) 91, keyK (0, 11) 92].all (fun b => !ws.testBit b) && [72 + 1, 73 + 1, 74 + 1, 75 + 1, 76 + 1, 77 + 1, 78 + 1, 79 + 1, 80 + 1, 81 + 1, 82 + 1].all (fun b => !ws.testBit (abase + b))
theorem m4_fr {ws : Nat} (hF : FR ws K V K1 V1) (hE : ext K K1) (hW : WT K V) (hm : K m = some (0, 11)) (hb : m4bits ws = true) : msv V1 m = msv V m ∧ vi V1 m 2 = vi V m 2 ∧ vi V1 m 91 = vi V m 91 ∧ vi V1 m 92 = vi V m 92 := by
  simp only [m4bits, List.all_cons, List.all_nil, Bool.and_true, Bool.and_eq_true, Bool.not_eq_true'] at hb
  obtain ⟨⟨c0, c1, c2, c3, c4, c5, c6, c7, c8, c9, c10, c11, c12, c13⟩, b0, b1, b2, b3, b4, b5, b6, b7, b8, b9, b10⟩ := hb
  have hm1 := hE.obj (Or.inl (by decide)) hm
  have g94 := arq hF hE hm (hW.ref hm (j := 94) (Nat.le_of_ble_eq_true rfl) rfl).2 c0 b0
  have g95 := arq hF hE hm (hW.ref hm (j := 95) (Nat.le_of_ble_eq_true rfl) rfl).2 c1 b1
  have g96 := arq hF hE hm (hW.ref hm (j := 96) (Nat.le_of_ble_eq_true rfl) rfl).2 c2 b2
  have g97 := arq hF hE hm (hW.ref hm (j := 97) (Nat.le_of_ble_eq_true rfl) rfl).2 c3 b3
  have g98 := arq hF hE hm (hW.ref hm (j := 98) (Nat.le_of_ble_eq_true rfl) rfl).2 c4 b4
  have g99 := arq hF hE hm (hW.ref hm (j := 99) (Nat.le_of_ble_eq_true rfl) rfl).2 c5 b5
  have g100 := arq hF hE hm (hW.ref hm (j := 100) (Nat.le_of_ble_eq_true rfl) rfl).2 c6 b6
  have g101 := arq hF hE hm (hW.ref hm (j := 101) (Nat.le_of_ble_eq_true rfl) rfl).2 c7 b7
  have g102 := arq hF hE hm (hW.ref hm (j := 102) (Nat.le_of_ble_eq_true rfl) rfl).2 c8 b8
  have g103 := arq hF hE hm (hW.ref hm (j := 103) (Nat.le_of_ble_eq_true rfl) rfl).2 c9 b9
  have g104 := arq hF hE hm (hW.ref hm (j := 104) (Nat.le_of_ble_eq_true rfl) rfl).2 c10 b10
  refine ⟨?_, vi_fr hF hm hm1 c11, vi_fr hF hm hm1 c12, vi_fr hF hm hm1 c13⟩
  funext s f
  unfold msv
  rw [g94, g95, g96, g97, g98, g99, g100, g101, g102, g103, g104]
theorem mok_s (h : MSM V W m) : MOK W m = MOK V m := by
  obtain ⟨-, ⟨h15, -, h28⟩, -⟩ := h
  funext z c
  unfold MOK
  rw [h28, h15]
theorem MD4.step {ws : Nat} (h : MD4 V W m i) (hs : MSLG W W1 m i) (hF : FR ws K W K W1) (hW : WT K W) (hm : K m = some (0, 11)) (b1 : mpbits ws = true) (b2 : mvbits ws = true) (b3 : mlbits ws = true) (b4 : m4bits ws = true) (i0 : 0 ≤ i) (i1 : i < vi W m 92) (hn : n = i + 1) : MD4 V W1 m n := by
  obtain ⟨W0, Wm, w, hr, hl, f, h2, h91, h92, -⟩ := h
  obtain ⟨g1, g2, g3, g4⟩ := m4_fr hF ext.rf hW hm b4
  have hg := hs.slm
  rw [h2, mok_s f] at hg
  refine ⟨W0, Wm, w, by rw [g1]; exact hr, ?_, f.tr (MSM.fr hF ext.rf hW hm b1 b2 b3), g2.trans h2, g3.trans h91, g4.trans h92, by omega⟩
  rw [hn, show (i + 1).toNat = i.toNat + 1 by omega]
  exact ⟨_, hl, hg⟩
theorem MD4.fin (h : MD4 V W m i) (hi : vi W m 92 ≤ i) : MD4 V W m (vi W m 92) := by
  obtain ⟨W0, Wm, w, hr, hl, f, h2, h91, h92, hi2⟩ := h
  have e : i = vi W m 92 := by omega
  subst e
  exact ⟨W0, Wm, w, hr, hl, f, h2, h91, h92, hi2⟩
def MDN (V V1 : Vmap) (m : Nat) (X : Int) : Prop := (X = -1 ∧ V1 = V) ∨ (X ≠ -1 ∧ MD4 V V1 m (vi V1 m 92))
end Q10
