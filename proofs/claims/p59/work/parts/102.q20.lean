/-! ### how a ship stands; the start -/
section Q20
variable {K K0 K1 K2 : Kmap} {V V0 V1 V2 V3 W : Vmap} {x m o q a : Nat} {k i j n s w X Y Z : Int}
theorem SHZ.at {w1 : Nat} (h : SHZ V x m) (hm : K m = some (0, 11)) (hW : WT K V) (hE1 : ext K K1) (hF1 : FR w1 K V K1 V1) (n10 : vi V x 10 = vi V1 m 91) (f : ATC V x s w X) (g : ATM V1 m s w Y) (b4 : mwbits7 w1 = true) : X = Y := by
  have em := mw_fr hF1 hE1 hW hm b4
  rcases f h.1.1 with ⟨a1, a2⟩ | ⟨a1, a2⟩
  · rcases g with ⟨d1, d2⟩ | ⟨d1, -⟩ <;> omega
  · rcases g with ⟨d1, d2⟩ | ⟨d1, d2, d3, d4, d5, d6, d7⟩
    · omega
    · have r := h.row (s := s.toNat) (by omega)
      rw [em] at d2 d3 d4 d5 d6
      obtain ⟨⟨-, -, -, r3, r6, r7, r9⟩, ⟨s0, s3⟩, -, e1, e2, -⟩ := r
      obtain ⟨t0, t1, t2, t3, t4, t5⟩ := a2
      by_cases w0 : w = 0
      · rw [t0 w0, d2 w0, r3]
      · by_cases w1' : w = 1
        · rw [t1 w1', d3 w1', r6]
        · by_cases w2 : w = 2
          · rw [t2 w2, d4 w2, r7]
          · by_cases w3 : w = 3
            · rw [t3 w3, d5 w3]
              by_cases c : shv V (shO V x s.toNat) 3 = 1 ∨ shv V (shO V x s.toNat) 3 = 3
              · rw [if_pos c]
                exact (e1 c).1
              · rw [if_neg c]
                exact (e2 (by omega)).symm
            · by_cases w4 : w = 4
              · rw [t4 w4, d6 w4, r9]
              · rw [t5 (by omega), d7 (by omega)]
/-! the start -/
def LDC (K : Kmap) (V : Vmap) (x : Nat) : Prop := K (vq V x 9) = some (131 + 1, 48) ∧ (∀ j : Nat, j < 48 → vi V (vq V x 9) j = 0) ∧ vi V x 1 = 120 ∧ vi V x 2 = 239
theorem LDC.mk (f : V x 9 = .ref a) (k : K a = some (131 + 1, 48)) (z : ZR K0 V x 9 48 0) (f1 : V x 1 = ti 120) (f2 : V x 2 = ti 239) : LDC K V x := by
  have e : vq V x 9 = a := vq_of f
  exact ⟨by rw [e]; exact k, z.2, vi_at f1 (ir_c rfl), vi_at f2 (ir_c rfl)⟩
def LDJ (V : Vmap) (x : Nat) : Prop := (∀ z : Nat, z < 48 → rgv V (vq V (vq V x 0) 9) 48 (z : Int) = 0) ∧ vi V (vq V x 0) 1 = 120 ∧ vi V (vq V x 0) 2 = 239
theorem LDJ.at (e : V x 0 = .ref o) (l1 : V o 1 = V0 o 1) (l2 : V o 2 = V0 o 2) (l9 : V o 9 = V0 o 9) (h9 : ∀ j, V (vq V0 o 9) j = V0 (vq V0 o 9) j) (z : LDC K V0 o) : LDJ V x := by
  have e0 : vq V x 0 = o := vq_of e
  unfold LDJ
  rw [e0, vq_eq l9, vi_eq l1, vi_eq l2]
  refine ⟨fun u hu => ?_, z.2.2⟩
  have k48 : ((48 : Nat) : Int) = 48 := rfl
  rw [← rgv_in (show 0 ≤ (u : Int) by omega) (by omega), vi_eq (h9 _)]
  exact z.2.1 _ (by omega)
theorem LDJ.fr {ws : Nat} (h : LDJ V x) (hF : FR ws K V K1 V1) (hE : ext K K1) (hW : WT K V) (hx : K x = some (0, 10)) (b1 : cvbits ws = true) (b2 : dkbits ws = true) : LDJ V1 x := by
  obtain ⟨e1, e2⟩ := dk_fr hF hE hW hx b2
  unfold LDJ
  rw [cv_fr hF hE hW hx b1, e1, e2]
  exact h
theorem sgz_fr {ws : Nat} (hF : FR ws K V K1 V1) (hE : ext K K1) (hW : WT K V) (hx : K x = some (0, 10)) (hb : ws.testBit (keyK (0, 10) 11) = false) (hb2 : ws.testBit (keyK (0, 27) 3) = false) : sgz V1 x = sgz V x := by
  have h2 := sl_at hW hx
  have e : vq V1 x 11 = vq V x 11 := vq_eq (hF x _ 11 hx (hE.obj (Or.inl (by decide)) hx) hb)
  unfold sgz
  rw [e]
  exact vi_fr hF h2 (hE.obj (Or.inr (by decide)) h2) hb2
theorem sgz_at (h : V x 11 = .ref o) (hc : V o 3 = V0 o 3) (h0 : vi V0 o 3 = 0) : sgz V x = 0 := by
  have e : vq V x 11 = o := vq_of h
  unfold sgz
  rw [e, vi_eq hc]
  exact h0
theorem sgz_nw (hW : WT K V) (hx : K x = some (0, 10)) (hq : K q = none) (hV : ∀ b, b ≠ q → V1 b = V b) : sgz V1 x = sgz V x := by
  have h2 := sl_at hW hx
  have e : vq V1 x 11 = vq V x 11 := vq_eq (congrFun (hV x (K_old hx hq)) 11)
  unfold sgz
  rw [e]
  exact vi_nw hV (K_old h2 hq)
def BRJ (V : Vmap) (m : Nat) (i : Int) : Prop := ∀ j : Nat, (j : Int) < i → vi V (vq V m 27) j = -1
theorem BRJ.beg : BRJ V m 0 := fun j hj => by omega
theorem BRJ.step (h : BRJ V m i) (hW : WT K V) (hm : K m = some (0, 11)) (e : V1 = upd2 V (vq V m 27) i.toNat (ti (-1))) (h0 : 0 ≤ i) (hn : n = i + 1) : BRJ V1 m n := fun j hj => by
  obtain ⟨N, hC⟩ := (hW.ref hm (j := 27) (Nat.le_of_ble_eq_true rfl) rfl).2
  have e1 : vq V1 m 27 = vq V m 27 := vq_eq (uq_ne e (Or.inl (K_ne hm hC (by simp))))
  rw [e1]
  by_cases c : j = i.toNat
  · rw [c]
    exact upd2_int e (ir_c rfl)
  · rw [vi_up e (Or.inr c)]
    exact h j (by omega)
def BRF (V : Vmap) (m : Nat) : Prop := ∀ j, j < 600 → vi V (vq V m 27) j = -1
theorem BRJ.fin (h : BRJ V m i) (hi : 600 ≤ i) : BRF V m := fun j hj => h j (by omega)
theorem STO.nil (h6 : vi V x 6 = 0) (z19 : ZB V m 19 60) (z20 : ZB V m 20 60) (z21 : ZB V m 21 60) (z22 : ZB V m 22 60) (z23 : ZB V m 23 240) (z28 : ZB V m 28 60) (hb : BRF V m) : STO K V x m := by
  refine ⟨fun c hc => ?_, fun k hk => by omega, fun k hk => by omega, fun k _ h60 => ⟨?_, fun y hy => hb _ (by omega)⟩⟩
  · obtain ⟨u, hu, -⟩ := hc
    omega
  · funext f
    unfold rst
    split
    · split
      · exact z23 _ (by omega)
      · rfl
    · split
      · exact z28 k h60
      · split
        · exact z19 k h60
        · split
          · exact z20 k h60
          · split
            · exact z21 k h60
            · split
              · exact z22 k h60
              · rfl
theorem SHZ.nil (h10 : vi V x 10 = 0) (z3 : ZB V m 97 10) (z6 : ZB V m 98 10) (z7 : ZB V m 99 10) (z9 : ZB V m 101 10) : SHZ V x m := ⟨⟨fun j hj => by omega, fun i j _ hj => by omega, fun s hs => by omega⟩, fun s hs => by omega, fun s _ h => ⟨z3 s h, z6 s h, z7 s h, z9 s h⟩⟩
theorem SLE.nil (h : sgz V x = 0) (h2 : vi V m 92 = 0) : SLE V x m := ⟨by omega, fun u hu => by omega⟩
theorem CVE.nil (h : LDJ V x) (z : ZB V m 105 48) : CVE V x m := fun u hu => (h.1 u hu).trans (z u hu).symm
theorem DKE.nil (h : LDJ V x) (h3 : vi V m 3 = 120) (h4 : vi V m 4 = 239) : DKE V x m := ⟨h.2.1.trans h3.symm, h.2.2.trans h4.symm⟩
/-! short forms for the calls -/
theorem PKM.fk {ws : Nat} (hF : FR ws K V K1 V1) (hE : ext K K1) (hW : WT K V) (hx : K x = some (0, 10)) (hN : NN 6 5 V x) (b1 : ppbits ws = true) (b2 : ws.testBit (keyK (0, 3) 0) = false) : PKM V V1 x := fun z ⟨z0, z1, z2⟩ => by
  obtain ⟨e6, ep⟩ := pp_fr hF hE hW hx b1
  refine ⟨z0, by rw [e6]; exact z1, ?_⟩
  have h1 := (pl_at hW hx hN (k := z.toNat) (by omega)).2.2
  unfold pkd
  rw [ep, vi_fr hF h1 (hE.obj (Or.inl (by decide)) h1) b2]
  exact z2
theorem PKM.np {ws : Nat} {kd : Int} (h : NPL K V V1 x X kd) (hF : FR ws K V K1 V1) (hE : ext K K1) (hW : WT K V) (hx : K x = some (0, 10)) (hN : NN 6 5 V x) (b2 : ws.testBit (keyK (0, 3) 0) = false) : PKM V V1 x := fun z ⟨z0, z1, z2⟩ => by
  have hz : ((z.toNat : Nat) : Int) < vi V x 6 := by omega
  have h1 := (pl_at hW hx hN hz).2.2
  refine ⟨z0, ?_, ?_⟩
  · rcases h.2.2 with ⟨-, e⟩ | ⟨-, e, -⟩ <;> omega
  · unfold pkd
    rw [h.1 _ hz, vi_fr hF h1 (hE.obj (Or.inl (by decide)) h1) b2]
    exact z2
theorem np_60 {kd : Int} (h : NPL K V V1 x X kd) (hW1 : WT K1 V1) (hx1 : K1 x = some (0, 10)) : X ≠ -1 → vi V x 6 < 60 := fun hX => by
  have := (hW1.int hx1 (j := 6) (Nat.le_of_ble_eq_true rfl) rfl).2
  rcases h.2.2 with ⟨g, -⟩ | ⟨-, e, -⟩
  · exact absurd g hX
  · omega
theorem STO.newp {w1 w2 : Nat} {kd : Int} (h : STO K V x m) (hx : K x = some (0, 10)) (hm : K m = some (0, 11)) (hW : WT K V) (hW1 : WT K1 V1) (hE1 : ext K K1) (hF1 : FR w1 K V K1 V1) (hE2 : ext K1 K2) (hF2 : FR w2 K1 V1 K2 V2) (hp : NPL K V V1 x X kd) (g : NRW K K1 V V1 x kd 0 0 X) (b4 : smbits w1 = true) (b5 : nebits w1 = true) (c4 : smbits w2 = true) (c5 : nebits w2 = true) (p2 : ppbits w2 = true) (n2 : nubits w2 = true) : STO K2 V2 x m := by
  have hx1 := hE1.obj (Or.inl (by decide)) hx
  have hm1 := hE1.obj (Or.inl (by decide)) hm
  have h6 := (hW.int hx (j := 6) (Nat.le_of_ble_eq_true rfl) rfl).2
  exact h.new hx hm hW hW1 hE1 hF1 hE2 hF2 hp g (rst_no h (rs_same hF1 hE1 hW hm b4 b5).1 (rs_same hF2 hE2 hW1 hm1 c4 c5).1 h6.1 (np_60 hp hW1 hx1)) h6.2 b4 b5 c5 p2 n2
theorem STO.news {w1 w2 : Nat} {b c : Int} (h : STO K V x m) (hP : PLE V x m) (hx : K x = some (0, 10)) (hm : K m = some (0, 11)) (hW : WT K V) (hW1 : WT K1 V1) (hE1 : ext K K1) (hF1 : FR w1 K V K1 V1) (hE2 : ext K1 K2) (hF2 : FR w2 K1 V1 K2 V2) (hp : NPL K V V1 x X 1) (g : NRW K K1 V V1 x 1 b c X) (mr : MSR V1 V2 m b c Y) (hXY : X = Y) (b1 : mpbits w1 = true) (b4 : smbits w1 = true) (b5 : nebits w1 = true) (c5 : nebits w2 = true) (p2 : ppbits w2 = true) (n2 : nubits w2 = true) : STO K2 V2 x m := by
  have h6 := (hW.int hx (j := 6) (Nat.le_of_ble_eq_true rfl) rfl).2
  have hn : vi V1 m 10 = vi V x 6 := (MPS.fr hF1 hE1 hW hm b1).1.trans hP.2.2.2.2.2.1.symm
  exact h.new hx hm hW hW1 hE1 hF1 hE2 hF2 hp g (mr.is hXY hn) h6.2 b4 b5 c5 p2 n2
end Q20
