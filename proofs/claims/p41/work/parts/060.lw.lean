/-! ### both sides' tapes, texts and readings, behind any call -/
section LW
variable {K K1 K2 : Kmap} {V V0 V1 V2 : Vmap} {x m o q : Nat} {a b c d e n i j p X Y : Int}
theorem tpN_at (h : V x 17 = .ref o) (hc : V o 3 = V0 o 3) (h0 : vi V0 o 3 = 0) : tpN V x = 0 := by
  have hq : tpO V x = o := vq_of h
  unfold tpN
  rw [hq, vi_eq hc, h0]
theorem tpN_nw (hW : WT K V) (hx : K x = some (0, 10)) (hq : K q = none) (hV : ∀ y, y ≠ q → V1 y = V y) : tpN V1 x = tpN V x := (TSame.sam hx hW (SAM.nw ext.rf hq hV)).1.1
theorem tpN_fr {ws : Nat} (hF : FR ws K V K1 V1) (hE : ext K K1) (hW : WT K V) (hx : K x = some (0, 10)) (hb : ws.testBit (keyK (0, 10) 17) = false) (hb2 : ws.testBit (keyK (0, 31) 3) = false) : tpN V1 x = tpN V x := by
  have hy := (tp_own hx hW).1
  have h1 : tpO V1 x = tpO V x := vq_eq (hF _ _ 17 hx (hE.obj (Or.inl (by decide)) hx) hb)
  unfold tpN
  rw [h1]
  exact vi_fr hF hy (hE.obj (Or.inr (by decide)) hy) hb2
theorem txN_at (h : V x 1 = .ref o) (hc : V o 1 = V0 o 1) (h0 : vi V0 o 1 = 0) : txN V x = 0 := by
  have hq : lwO V x = o := vq_of h
  unfold txN
  rw [hq, vi_eq hc, h0]
theorem txN_nw (hW : WT K V) (hx : K x = some (0, 10)) (hq : K q = none) (hV : ∀ y, y ≠ q → V1 y = V y) : txN V1 x = txN V x := ((SAM.nw (P := TXK) ext.rf hq hV).law hx hW).2.2.1
theorem txN_fr {ws : Nat} (hF : FR ws K V K1 V1) (hE : ext K K1) (hW : WT K V) (hx : K x = some (0, 10)) (hb : ws.testBit (keyK (0, 10) 1) = false) (hb2 : ws.testBit (keyK (0, 1) 1) = false) : txN V1 x = txN V x := by
  have hy := (lw_own hx hW).1
  have h1 : lwO V1 x = lwO V x := vq_eq (hF _ _ 1 hx (hE.obj (Or.inl (by decide)) hx) hb)
  unfold txN
  rw [h1]
  exact vi_fr hF hy (hE.obj (Or.inl (by decide)) hy) hb2
/-- the size of the law's table of readings -/
def rsz (V : Vmap) (o : Nat) : Int := vi V (vq V o 2) 3
theorem rsz_at {t : Nat} (h : V x 2 = .ref t) (hc : V t 3 = V0 t 3) (h0 : vi V0 t 3 = 0) : rsz V x = 0 := by
  unfold rsz
  rw [vq_of h, vi_eq hc, h0]
def RSZ (K : Kmap) (V : Vmap) (o : Nat) : Prop := K (vq V o 2) = some (0, 32) ∧ vi V (vq V o 2) 3 = 0
theorem RSZ.mk {t : Nat} (h : V x 2 = .ref t) (hK : K t = some (0, 32)) (h0 : rsz V x = 0) : RSZ K V x := ⟨by rw [vq_of h]; exact hK, h0⟩
theorem rdN_at (h : V x 1 = .ref o) (h2 : V o 2 = V0 o 2) (h3 : V (vq V0 o 2) 3 = V0 (vq V0 o 2) 3) (h0 : vi V0 (vq V0 o 2) 3 = 0) : rdN V x = 0 := by
  have e1 : lwO V x = o := vq_of h
  unfold rdN
  rw [e1, vq_eq h2, vi_eq h3, h0]
theorem rdN_nw (hW : WT K V) (hx : K x = some (0, 10)) (hq : K q = none) (hV : ∀ y, y ≠ q → V1 y = V y) : rdN V1 x = rdN V x := ((SAM.nw (P := RNK) ext.rf hq hV).rdn hx hW).2.2
def mtbits (ws : Nat) : Bool := [keyK (0, 11) 47, keyK (0, 11) 50, keyK (0, 11) 51, keyK (0, 11) 52, keyK (0, 11) 53, keyK (0, 11) 56, keyK (0, 11) 57, keyK (0, 11) 58, abase + 42, abase + 43, abase + 44, abase + 45, abase + 48, abase + 49, abase + 50].all fun b => !ws.testBit b
theorem arx_fr {ws s t : Nat} (hF : FR ws K V K1 V1) (hE : ext K K1) (hW : WT K V) (hm : K m = some (0, 11)) {lo hi : Int} (hs : s < szK (0, 11)) (hf : fT (0, 11) s = (1, t + 1, 0, lo, hi)) (b1 : ws.testBit (keyK (0, 11) s) = false) (b2 : ws.testBit (abase + (t + 1)) = false) : ar s V1 m = ar s V m := by
  obtain ⟨k, hk⟩ := (hW.ref hm hs hf).2
  have q : vq V1 m s = vq V m s := vq_eq (hF _ _ s hm (hE.obj (Or.inl (by decide)) hm) b1)
  funext j
  unfold ar
  rw [q]
  exact vi_frA hF hk (hE.arr hk) b2
theorem MTS.fr {L : List TXL} {ws : Nat} (h : MTS V m L) (hF : FR ws K V K1 V1) (hE : ext K K1) (hW : WT K V) (hm : K m = some (0, 11)) (hb : mtbits ws = true) : MTS V1 m L := by
  simp only [mtbits, List.all_cons, List.all_nil, Bool.and_true, Bool.and_eq_true, Bool.not_eq_true'] at hb
  obtain ⟨b47, b50, b51, b52, b53, b56, b57, b58, a42, a43, a44, a45, a48, a49, a50⟩ := hb
  exact h.eq (vi_fr hF hm (hE.obj (Or.inl (by decide)) hm) b47) (arx_fr (t := 41) hF hE hW hm (Nat.le_of_ble_eq_true rfl) rfl b50 a42) (arx_fr (t := 42) hF hE hW hm (Nat.le_of_ble_eq_true rfl) rfl b51 a43) (arx_fr (t := 43) hF hE hW hm (Nat.le_of_ble_eq_true rfl) rfl b52 a44) (arx_fr (t := 44) hF hE hW hm (Nat.le_of_ble_eq_true rfl) rfl b53 a45) (arx_fr (t := 47) hF hE hW hm (Nat.le_of_ble_eq_true rfl) rfl b56 a48) (arx_fr (t := 48) hF hE hW hm (Nat.le_of_ble_eq_true rfl) rfl b57 a49) (arx_fr (t := 49) hF hE hW hm (Nat.le_of_ble_eq_true rfl) rfl b58 a50)
def mttbits (ws : Nat) : Bool := [keyK (0, 11) 29, keyK (0, 11) 30, abase + 32].all fun b => !ws.testBit b
theorem MTSame.fr {ws : Nat} (hF : FR ws K V K1 V1) (hE : ext K K1) (hW : WT K V) (hm : K m = some (0, 11)) (hb : mttbits ws = true) : MTSame V V1 m := by
  simp only [mttbits, List.all_cons, List.all_nil, Bool.and_true, Bool.and_eq_true, Bool.not_eq_true'] at hb
  obtain ⟨b29, b30, a32⟩ := hb
  obtain ⟨k, hk⟩ := (hW.ref hm (j := 29) (Nat.le_of_ble_eq_true rfl) rfl).2
  have hm1 := hE.obj (Or.inl (by decide)) hm
  have q : vq V1 m 29 = vq V m 29 := vq_eq (hF _ _ 29 hm hm1 b29)
  exact ⟨vi_fr hF hm hm1 b30, fun j => by unfold mtC; rw [q, vi_frA hF hk (hE.arr hk) a32]⟩
/-- what both sides know alike -/
def TXE (K : Kmap) (V : Vmap) (x m : Nat) : Prop := TPR V x m ∧ rdN V x = vi V m 48 ∧ ∃ L, CTS K V x L ∧ MTS V m L
theorem TXE.nil (h1 : tpN V x = 0) (h2 : vi V m 30 = 0) (h3 : rdN V x = 0) (h4 : vi V m 48 = 0) (h5 : txN V x = 0) (h6 : vi V m 47 = 0) : TXE K V x m := ⟨TPR.zero h1 h2, by omega, [], CTS.nil h5, MTS.nil h6⟩
def rebits (ws : Nat) : Bool := rnbits ws && !ws.testBit (keyK (0, 11) 48)
theorem rdN_frx {ws : Nat} (h : rdN V x = vi V m 48) (hF : FR ws K V K1 V1) (hE : ext K K1) (hW : WT K V) (hx : K x = some (0, 10)) (hm : K m = some (0, 11)) (hb : rebits ws = true) : rdN V1 x = vi V1 m 48 := by
  unfold rebits at hb
  rw [Bool.and_eq_true, Bool.not_eq_true'] at hb
  rw [((SAM.frr ext.rf hF hE hb.1).rdn hx hW).2.2, vi_fr hF hm (hE.obj (Or.inl (by decide)) hm) hb.2]
  exact h
def tebits (ws : Nat) : Bool := txbits ws && tpbits ws && rebits ws && mtbits ws && mttbits ws
theorem TXE.frx {ws : Nat} (h : TXE K V x m) (hF : FR ws K V K1 V1) (hE : ext K K1) (hW : WT K V) (hx : K x = some (0, 10)) (hm : K m = some (0, 11)) (hb : tebits ws = true) : TXE K1 V1 x m := by
  unfold tebits at hb
  simp only [Bool.and_eq_true] at hb
  obtain ⟨⟨⟨⟨b1, b2⟩, b3⟩, b4⟩, b5⟩ := hb
  obtain ⟨h1, h2, L, h3, h4⟩ := h
  exact ⟨h1.same (TSame.sam hx hW (SAM.frt ext.rf hF hE b2)).1 (MTSame.fr hF hE hW hm b5), rdN_frx h2 hF hE hW hx hm b3, L, h3.sam hE hx hW (SAM.frx ext.rf hF hE b1), h4.fr hF hE hW hm b4⟩
theorem TXE.text {w1 w2 : Nat} (h : TXE K V x m) (hx : K x = some (0, 10)) (hm : K m = some (0, 11)) (hW : WT K V) (hW1 : WT K1 V1) (hE1 : ext K K1) (hF1 : FR w1 K V K1 V1) (hE2 : ext K1 K2) (hF2 : FR w2 K1 V1 K2 V2) (f : CTX K K1 V V1 x a b n X) (f1 : MTX V1 V2 m a b n Y) (b1 : mtbits w1 = true) (b2 : mttbits w1 = true) (b3 : rebits w1 = true) (c1 : txbits w2 = true) (c2 : tpbits w2 = true) (c3 : rebits w2 = true) : X = Y ∧ TXE K2 V2 x m := by
  obtain ⟨h1, h2, L, h3, h4⟩ := h
  have hx1 := hE1.obj (Or.inl (by decide)) hx
  have hm1 := hE1.obj (Or.inl (by decide)) hm
  obtain ⟨g1, g2, L', g3, g4⟩ := TXX.both h1 hx hW h3 h4 f (h4.fr hF1 hE1 hW hm b1) (MTSame.fr hF1 hE1 hW hm b2) f1 (fun L' hL => hL.sam hE2 hx1 hW1 (SAM.frx ext.rf hF2 hE2 c1)) (TSame.sam hx1 hW1 (SAM.frt ext.rf hF2 hE2 c2)).1
  exact ⟨g1, g2, rdN_frx (rdN_frx h2 hF1 hE1 hW hx hm b3) hF2 hE2 hW1 hx1 hm1 c3, L', g3, g4⟩
theorem TXE.feed {w1 w2 : Nat} (h : TXE K V x m) (hx : K x = some (0, 10)) (hm : K m = some (0, 11)) (hW : WT K V) (hW1 : WT K1 V1) (hE1 : ext K K1) (hF1 : FR w1 K V K1 V1) (hE2 : ext K1 K2) (hF2 : FR w2 K1 V1 K2 V2) (f : FDR V V1 x a b c d e X) (f1 : MFR V1 V2 m a b c d e Y) (b1 : mtbits w1 = true) (b2 : mttbits w1 = true) (b3 : rebits w1 = true) (b4 : txbits w1 = true) (c1 : txbits w2 = true) (c2 : tpbits w2 = true) (c3 : rebits w2 = true) (c4 : mtbits w2 = true) : X = Y ∧ TXE K2 V2 x m := by
  obtain ⟨h1, h2, L, h3, h4⟩ := h
  have hx1 := hE1.obj (Or.inl (by decide)) hx
  have hm1 := hE1.obj (Or.inl (by decide)) hm
  obtain ⟨g1, g2⟩ := TPR.fed h1 hx hW f (MTSame.fr hF1 hE1 hW hm b2) f1 (TSame.sam hx1 hW1 (SAM.frt ext.rf hF2 hE2 c2)).1
  exact ⟨g1, g2, rdN_frx (rdN_frx h2 hF1 hE1 hW hx hm b3) hF2 hE2 hW1 hx1 hm1 c3, L, (h3.sam hE1 hx hW (SAM.frx ext.rf hF1 hE1 b4)).sam hE2 hx1 hW1 (SAM.frx ext.rf hF2 hE2 c1), (h4.fr hF1 hE1 hW hm b1).fr hF2 hE2 hW1 hm1 c4⟩
theorem TXE.read {w1 w2 : Nat} (h : TXE K V x m) (hx : K x = some (0, 10)) (hm : K m = some (0, 11)) (hW : WT K V) (hW1 : WT K1 V1) (hE1 : ext K K1) (hF1 : FR w1 K V K1 V1) (hE2 : ext K1 K2) (hF2 : FR w2 K1 V1 K2 V2) (hp : PN V x) (hn : vi V x 4 = vi V1 m 9) (f : CRX K K1 V V1 x p i j n X) (f1 : MRX V1 V2 m p i j n Y) (b1 : mtbits w1 = true) (b2 : mttbits w1 = true) (b3 : w1.testBit (keyK (0, 11) 48) = false) (c1 : txbits w2 = true) (c2 : tpbits w2 = true) (c3 : rnbits w2 = true) (c4 : mtbits w2 = true) : X = Y ∧ TXE K2 V2 x m := by
  obtain ⟨h1, h2, L, h3, h4⟩ := h
  have hx1 := hE1.obj (Or.inl (by decide)) hx
  have hm1 := hE1.obj (Or.inl (by decide)) hm
  have hr : rdN V x = vi V1 m 48 := by rw [vi_fr hF1 hm hm1 b3]; exact h2
  obtain ⟨g1, g2, g3, g4⟩ := RXX.both h1 hx hW hp h3 (h4.fr hF1 hE1 hW hm b1) hn hr f (MTSame.fr hF1 hE1 hW hm b2) f1 (TSame.sam hx1 hW1 (SAM.frt ext.rf hF2 hE2 c2)).1 ((SAM.frr ext.rf hF2 hE2 c3).rdn hx1 hW1).2.2
  exact ⟨g1, g2, g4, L, g3.sam hE2 hx1 hW1 (SAM.frx ext.rf hF2 hE2 c1), (h4.fr hF1 hE1 hW hm b1).fr hF2 hE2 hW1 hm1 c4⟩
/-! check(): whether the tape goes -/
def CKC (V V1 : Vmap) (x : Nat) (n : Int) : Prop := ((n < 0 ∨ tpN V x < 8 * n) ∧ TSame V V1 x) ∨ (0 ≤ n ∧ 8 * n ≤ tpN V x ∧ tpN V1 x = 0)
def MKC (V V1 : Vmap) (m : Nat) (n : Int) : Prop := ((n < 0 ∨ vi V m 30 < 8 * n) ∧ MTSame V V1 m) ∨ (0 ≤ n ∧ 8 * n ≤ vi V m 30 ∧ vi V1 m 30 = 0)
theorem CKC.no (h : n < 0 ∨ tpN V x < 8 * n) : CKC V V x n := Or.inl ⟨h, rfl, fun _ => rfl⟩
theorem CKC.mk (h0 : 0 ≤ n) (h8 : 8 * n ≤ tpN V x) (hx : K x = some (0, 10)) (hW : WT K V) (e : V1 = upd2 V (vq V x 17) 3 (ti 0)) : CKC V V1 x n := by
  have hT := (tp_own hx hW).1
  have o3 : tpO V1 x = tpO V x := vq_up e (Or.inl (K_ne hx hT (by decide)))
  refine Or.inr ⟨h0, h8, ?_⟩
  unfold tpN
  rw [o3]
  exact upd2_int e (ir_c rfl)
theorem MKC.no (h : n < 0 ∨ vi V m 30 < 8 * n) : MKC V V m n := Or.inl ⟨h, rfl, fun _ => rfl⟩
theorem TXE.check {w1 w2 : Nat} (h : TXE K V x m) (hx : K x = some (0, 10)) (hm : K m = some (0, 11)) (hW : WT K V) (hW1 : WT K1 V1) (hE1 : ext K K1) (hF1 : FR w1 K V K1 V1) (hE2 : ext K1 K2) (hF2 : FR w2 K1 V1 K2 V2) (f : CKC V V1 x n) (f1 : MKC V1 V2 m n) (b1 : mtbits w1 = true) (b2 : mttbits w1 = true) (b3 : rebits w1 = true) (b4 : txbits w1 = true) (c1 : txbits w2 = true) (c2 : tpbits w2 = true) (c3 : rebits w2 = true) (c4 : mtbits w2 = true) : TXE K2 V2 x m := by
  obtain ⟨h1, h2, L, h3, h4⟩ := h
  have hx1 := hE1.obj (Or.inl (by decide)) hx
  have hm1 := hE1.obj (Or.inl (by decide)) hm
  have ms := MTSame.fr hF1 hE1 hW hm b2
  have ts := (TSame.sam hx1 hW1 (SAM.frt ext.rf hF2 hE2 c2)).1
  have g : TPR V2 x m := by
    rcases f with ⟨p1, p2⟩ | ⟨p1, p2, p3⟩
    · rcases f1 with ⟨q1, q2⟩ | ⟨q1, q2, q3⟩
      · exact (h1.same p2 ms).same ts q2
      · have e1 := ms.1
        have e2 := h1.1
        exfalso
        omega
    · rcases f1 with ⟨q1, q2⟩ | ⟨q1, q2, q3⟩
      · have e1 := ms.1
        have e2 := h1.1
        exfalso
        omega
      · exact TPR.zero (by rw [ts.1]; exact p3) q3
  exact ⟨g, rdN_frx (rdN_frx h2 hF1 hE1 hW hx hm b3) hF2 hE2 hW1 hx1 hm1 c3, L, (h3.sam hE1 hx hW (SAM.frx ext.rf hF1 hE1 b4)).sam hE2 hx1 hW1 (SAM.frx ext.rf hF2 hE2 c1), (h4.fr hF1 hE1 hW hm b1).fr hF2 hE2 hW1 hm1 c4⟩
end LW
