/-! ### a day: the class's sledges, and all of a day -/
section Q9
variable {K K0 K1 K2 : Kmap} {V V0 V1 V2 V3 W W0 W1 W2 Wm : Vmap} {x m o t q f N l : Nat} {i j n e d p a b w z y v X Y Z D : Int} {r u g c : Nat → Int} {k s : Nat}
def SOK (V : Vmap) (x : Nat) (k c : Int) : Prop := STN V x k ∧ vi V (plO V x k.toNat) 2 = c
theorem stn_s (h : SMC V W x) (hI : PLI V x) (k : Int) : STN W x k ↔ STN V x k := by
  obtain ⟨-, h2, h3, -⟩ := h hI
  have key : ∀ j : Nat, (j : Int) < vi V x 6 → pkd W x j = pkd V x j ∧ vi W (plO W x j) 5 = vi V (plO V x j) 5 := fun j hj => ⟨h2.kd hj, congrArg (fun v : Int × Int × Int => v.2.1) (h3 j hj)⟩
  constructor
  · rintro ⟨⟨a1, a2, a3⟩, a4⟩
    rw [h2.1] at a2
    obtain ⟨k1, k2⟩ := key k.toNat (by omega)
    exact ⟨⟨a1, a2, k1.symm.trans a3⟩, k2.symm.trans a4⟩
  · rintro ⟨⟨a1, a2, a3⟩, a4⟩
    obtain ⟨k1, k2⟩ := key k.toNat (by omega)
    exact ⟨⟨a1, by rw [h2.1]; exact a2, k1.trans a3⟩, k2.trans a4⟩
theorem fst_s (h : SMC V W x) (hI : PLI V x) {j : Nat} (hj : (j : Int) < vi V x 6) : vi W (plO W x j) 2 = vi V (plO V x j) 2 := congrArg (fun v : Int × Int × Int => v.1) ((h hI).2.2.1 j hj)
theorem sok_s (h : SMC V W x) (hI : PLI V x) : SOK W x = SOK V x := by
  funext k c
  apply propext
  unfold SOK
  constructor
  · rintro ⟨a1, a2⟩
    have b1 := (stn_s h hI k).mp a1
    obtain ⟨b2, b3, -⟩ := b1.1
    exact ⟨b1, (fst_s h hI (by omega)).symm.trans a2⟩
  · rintro ⟨b1, a2⟩
    obtain ⟨b2, b3, -⟩ := b1.1
    exact ⟨(stn_s h hI k).mpr b1, (fst_s h hI (by omega)).trans a2⟩
theorem okc_s (h : SMC V W x) (hI : PLI V x) : OKC W x = OKC V x := by
  funext k
  apply propext
  obtain ⟨-, -, -, h4⟩ := h hI
  have en : ∀ c, NSC W (vq W x 0) c ↔ NSC V (vq V x 0) c := fun c => by
    unfold NSC nsp
    rw [h4.2.2 6 (by decide) (by decide), h4.1, h4.2.1]
  unfold OKC
  constructor
  · rintro ⟨a1, a2⟩
    have b1 := (stn_s h hI k).mp a1
    obtain ⟨b2, b3, -⟩ := b1.1
    exact ⟨b1, by rw [← fst_s h hI (show ((k.toNat : Nat) : Int) < vi V x 6 by omega)]; exact (en _).mp a2⟩
  · rintro ⟨b1, a2⟩
    obtain ⟨b2, b3, -⟩ := b1.1
    exact ⟨(stn_s h hI k).mpr b1, by rw [fst_s h hI (show ((k.toNat : Nat) : Int) < vi V x 6 by omega)]; exact (en _).mpr a2⟩
/-- one sledge's day, seen from the class -/
def PSL (K : Kmap) (V V1 : Vmap) (x : Nat) (i : Int) : Prop := PLI V x → RWX K V x → 0 ≤ i → i < sgz V x → SLC (tdy V x) (SOK V x) i.toNat (cSl V x, cN V x) (cSl V1 x, cN V1 x) ∧ RWX K V1 x ∧ NST' V V1 x
theorem PSL.n1 (hW : WT K V) (hx : K x = some (0, 10)) (g4 : TG K V (vq V x 11) i 4 X) (hX : X = 0) : PSL K V V x i := fun _ hR i0 i1 => by
  have e4 := tgv_sl hW hx (by decide) (by decide) i0 i1 g4
  refine ⟨⟨_, _, Or.inr (Or.inr ⟨fun h => h.1 (by show cSl V x i.toNat 4 = 0; exact e4.symm.trans hX), rfl, rfl⟩), (upg_id rfl).symm, (upg_id rfl).symm⟩, hR, fun _ _ _ => rfl⟩
theorem PSL.n2 (hW : WT K V) (hx : K x = some (0, 10)) (g2 : TG K V (vq V x 11) i 2 Y) (hY : Y ≠ tdy V x) : PSL K V V x i := fun _ hR i0 i1 => by
  have e2 := tgv_sl hW hx (by decide) (by decide) i0 i1 g2
  refine ⟨⟨_, _, Or.inr (Or.inr ⟨fun h => hY (e2.trans h.2), rfl, rfl⟩), (upg_id rfl).symm, (upg_id rfl).symm⟩, hR, fun _ _ _ => rfl⟩
/-- what its row says behind its coming -/
theorem sl_get (hWW : WT K W) (hx : K x = some (0, 10)) (e11 : vq W x 11 = vq V x 11) (hs : cSl W x = upg (cSl V x) i.toNat (updf (cSl V x i.toNat) 4 0)) (hz : sgz W x = sgz V x) (i0 : 0 ≤ i) (i1 : i < sgz V x) (w0 : 0 ≤ w) (w4 : w < 4) (g : TG K W (vq V x 11) i w X) : X = cSl V x i.toNat w.toNat := by
  rw [← e11] at g
  have e := tgv_sl hWW hx w0 (by omega) i0 (by rw [hz]; exact i1) g
  rw [hs, upg_at, updf_of (by omega)] at e
  exact e
def slbit3 (ws : Nat) : Bool := [keyK (0, 10) 11, keyK (0, 27) 3].all fun b => !ws.testBit b
theorem sl_still {ws : Nat} (hF : FR ws K V K W) (hW : WT K V) (hx : K x = some (0, 10)) (hb : slbit3 ws = true) : vq W x 11 = vq V x 11 ∧ sgz W x = sgz V x := by
  simp only [slbit3, List.all_cons, List.all_nil, Bool.and_true, Bool.and_eq_true, Bool.not_eq_true'] at hb
  have h2 := sl_at hW hx
  have e1 : vq W x 11 = vq V x 11 := vq_eq (hF x _ 11 hx hx hb.1)
  refine ⟨e1, ?_⟩
  unfold sgz
  rw [e1]
  exact vi_fr hF h2 h2 hb.2
/-- what its row says, where it stands in time -/
def SLT (K : Kmap) (V W : Vmap) (x : Nat) (i : Int) : Prop := 0 ≤ i → i < sgz V x → (cSl V x i.toNat 4 ≠ 0 ∧ cSl V x i.toNat 2 = tdy V x) ∧ cSl W x = upg (cSl V x) i.toNat (updf (cSl V x i.toNat) 4 0) ∧ ∀ w X : Int, 0 ≤ w → w < 4 → TG K W (vq V x 11) i w X → X = cSl V x i.toNat w.toNat
theorem SLT.mk {ws : Nat} (hW : WT K V) (hWW : WT K W) (hx : K x = some (0, 10)) (g4 : TG K V (vq V x 11) i 4 X) (hX : X ≠ 0) (g2 : TG K V (vq V x 11) i 2 Y) (hY : Y = tdy V x) (e : TPU K V W (vq V x 11) i 4 0) (hF : FR ws K V K W) (hb : slbit3 ws = true) : SLT K V W x i := fun i0 i1 => by
  have e4 := tgv_sl hW hx (by decide) (by decide) i0 i1 g4
  have e2 := tgv_sl hW hx (by decide) (by decide) i0 i1 g2
  obtain ⟨o1, -⟩ := sl_off hW hx e i0 i1
  obtain ⟨z1, z2⟩ := sl_still hF hW hx hb
  exact ⟨⟨fun h => hX (e4.trans h), e2.symm.trans hY⟩, o1, fun w X w0 w4 g => sl_get hWW hx z1 o1 z2 i0 i1 w0 w4 g⟩
theorem PSL.lc (T : SLT K V W x i) (f : SMC V W x) (nW : NUN K V W) (n1 : NUN K W V1) (f1 : SMC W V1 x) (s1 : SLS W V1 x) (no : NN 6 5 W x → 0 ≤ i → i < sgz V x → ¬ SOK W x (cSl V x i.toNat 0) (cSl V x i.toNat 1)) : PSL K V V1 x i := fun hI hR i0 i1 => by
  obtain ⟨t1, o1, -⟩ := T i0 i1
  have hI' := (f hI).1
  obtain ⟨m1, m2, m3⟩ := nW.cn hR (f hI).2.1.1 (plo_s (f hI).2.1)
  obtain ⟨q1, q2, q3⟩ := n1.cn m1 (f1 hI').2.1.1 (plo_s (f1 hI').2.1)
  have nok := no hI'.1 i0 i1
  rw [sok_s f hI] at nok
  refine ⟨⟨_, _, Or.inr (Or.inl ⟨t1, nok, rfl, rfl⟩), ?_, ?_⟩, q1, fun u hu h5 => ?_⟩
  · exact s1.2.trans o1
  · show cN V1 x = _
    rw [q2, m2]
    exact (upg_id rfl).symm
  · have := q3 u (by rw [(f hI).2.1.1]; exact hu) (by rw [(f hI).2.1.kd hu]; exact h5)
    rw [plo_s (f hI).2.1 u hu] at this
    exact this.trans (m3 u hu h5)
theorem PSL.na (T : SLT K V W x i) (f : SMC V W x) (nW : NUN K V W) (n1 : NUN K W V1) (f1 : SMC W V1 x) (s1 : SLS W V1 x) (g0 : TG K W (vq V x 11) i 0 X) (h : NN 6 5 W x → ¬ STN W x X) : PSL K V V1 x i := PSL.lc T f nW n1 f1 s1 fun hN i0 i1 g => by
  have e0 := (T i0 i1).2.2 0 X (by decide) (by decide) g0
  have e0' : X = cSl V x i.toNat 0 := e0
  rw [← e0'] at g
  exact h hN g.1
theorem PSL.nb (T : SLT K V W x i) (f : SMC V W x) (nW : NUN K V W) (n1 : NUN K W V1) (f1 : SMC W V1 x) (s1 : SLS W V1 x) (g0 : TG K W (vq V x 11) i 0 X) (g1 : TG K W (vq V x 11) i 1 Y) (h : o = plO W x X.toNat ∧ STN W x X) (hne : vi W o 2 ≠ Y) : PSL K V V1 x i := PSL.lc T f nW n1 f1 s1 fun hN i0 i1 g => by
  have e0 : X = cSl V x i.toNat 0 := (T i0 i1).2.2 0 X (by decide) (by decide) g0
  have e1 : Y = cSl V x i.toNat 1 := (T i0 i1).2.2 1 Y (by decide) (by decide) g1
  rw [← e0, ← e1] at g
  exact hne (by rw [h.1]; exact g.2)
theorem PSL.ok (T : SLT K V W x i) (f : SMC V W x) (nW : NUN K V W) (hWW : WT K W) (hx : K x = some (0, 10)) (f1 : SMC W V1 x) (g0 : TG K W (vq V x 11) i 0 X) (g1 : TG K W (vq V x 11) i 1 Y) (g3 : TG K W (vq V x 11) i 3 D) (h : o = plO W x X.toNat ∧ STN W x X) (heq : vi W o 2 = Y) (e : V1 = upd2 W o 7 (ti z)) (rz : ir z) (ho : K o = some (0, 3)) (hz : z = wr (vi W o 7 + D)) : PSL K V V1 x i := fun hI hR i0 i1 => by
  obtain ⟨t1, o1, tg⟩ := T i0 i1
  have hI' := (f hI).1
  have e0 : X = cSl V x i.toNat 0 := tg 0 X (by decide) (by decide) g0
  have e1 : Y = cSl V x i.toNat 1 := tg 1 Y (by decide) (by decide) g1
  have e3 : D = cSl V x i.toNat 3 := tg 3 D (by decide) (by decide) g3
  have e7 : vi W o 7 = stv W o 7 := (stv_f (by decide) (by decide)).symm
  obtain ⟨m1, m2, m3⟩ := nW.cn hR (f hI).2.1.1 (plo_s (f hI).2.1)
  have s1 : SLS W V1 x := SLS.row hWW hx e ho
  have hN : NUF K W V1 o (updf (stv W o) 7 z) := NUF.rf.put e rz (by decide) (by decide)
  obtain ⟨h1, h2⟩ := h
  subst h1
  obtain ⟨⟨a1, a2, a3⟩, a4⟩ := h2
  have hk : (X.toNat : Int) < vi W x 6 := by omega
  obtain ⟨q1, q2, q3⟩ := hN.cn m1 hI' hk a3 (f1 hI').2.1.1 (plo_s (f1 hI').2.1)
  have ok : SOK V x (cSl V x i.toNat 0) (cSl V x i.toNat 1) := by
    rw [← sok_s f hI, ← e0, ← e1]
    exact ⟨⟨⟨a1, a2, a3⟩, a4⟩, heq⟩
  refine ⟨⟨_, _, Or.inl ⟨t1, ok, rfl, rfl⟩, ?_, ?_⟩, q1, fun u hu h5 => ?_⟩
  · exact s1.2.trans o1
  · show cN V1 x = upg (cN V x) (cSl V x i.toNat 0).toNat (updf (cN V x (cSl V x i.toNat 0).toNat) 7 (wr (cN V x (cSl V x i.toNat 0).toNat 7 + cSl V x i.toNat 3)))
    rw [q2, m2, ← e0, ← e3, hz, e7, ← m2, cN_at hk a3]
  · have := q3 u (by rw [(f hI).2.1.1]; exact hu) (by rw [(f hI).2.1.kd hu]; exact h5)
    rw [plo_s (f hI).2.1 u hu] at this
    exact this.trans (m3 u hu h5)
/-! a day: what stays while the stations, the ships and the sledges have their turns -/
def LNS (V W : Vmap) (x : Nat) : Prop := rgv W (vq W (vq W x 0) 9) 48 = rgv V (vq V (vq V x 0) 9) 48 ∧ vi W (vq W x 0) 1 = vi V (vq V x 0) 1 ∧ vi W (vq W x 0) 2 = vi V (vq V x 0) 2
theorem LNS.rf : LNS V V x := ⟨rfl, rfl, rfl⟩
theorem LNS.tr (h : LNS V W x) (g : LNS W W1 x) : LNS V W1 x := ⟨g.1.trans h.1, g.2.1.trans h.2.1, g.2.2.trans h.2.2⟩
theorem ld_cv (hW : WT K V) (hx : K x = some (0, 10)) : K (vq V x 0) = some (0, 0) ∧ K (vq V (vq V x 0) 9) = some (131 + 1, 48) := by
  have h0 := (ld_at hW hx).1
  obtain ⟨N, hC⟩ := (hW.ref h0 (j := 9) (Nat.le_of_ble_eq_true rfl) rfl).2
  have hN : N = 48 := by
    rcases (hW.len hC).2.2 with h | h
    · exact absurd h (by decide)
    · exact h
  subst hN
  exact ⟨h0, hC⟩
def lnbits (ws : Nat) : Bool := [keyK (0, 10) 0, keyK (0, 0) 1, keyK (0, 0) 2, keyK (0, 0) 9, abase + 132].all fun b => !ws.testBit b
theorem LNS.fr {ws : Nat} (hF : FR ws K V K1 V1) (hE : ext K K1) (hW : WT K V) (hx : K x = some (0, 10)) (hb : lnbits ws = true) : LNS V V1 x := by
  simp only [lnbits, List.all_cons, List.all_nil, Bool.and_true, Bool.and_eq_true, Bool.not_eq_true'] at hb
  obtain ⟨c0, c1, c2, c9, a⟩ := hb
  obtain ⟨h0, h9⟩ := ld_cv hW hx
  have h01 := hE.obj (Or.inl (by decide)) h0
  have e0 : vq V1 x 0 = vq V x 0 := vq_eq (hF x _ 0 hx (hE.obj (Or.inl (by decide)) hx) c0)
  have e9 : vq V1 (vq V x 0) 9 = vq V (vq V x 0) 9 := vq_eq (hF _ _ 9 h0 h01 c9)
  refine ⟨?_, ?_, ?_⟩
  · funext z
    unfold rgv
    rw [e0, e9]
    split
    · exact vi_frA hF h9 (hE.arr h9) a
    · rfl
  · rw [e0]
    exact vi_fr hF h0 h01 c1
  · rw [e0]
    exact vi_fr hF h0 h01 c2
/-- ships' table, sledges, land -/
def DYO (V W : Vmap) (x : Nat) : Prop := SOS' V W x ∧ SLS V W x ∧ LNS V W x
theorem DYO.tr (h : DYO V W x) (g : DYO W W1 x) : DYO V W1 x := ⟨h.1.tr g.1, h.2.1.tr g.2.1, h.2.2.tr g.2.2⟩
def dyobits (ws : Nat) : Bool := sobit2 ws && slbit2 ws && lnbits ws
theorem DYO.fr {ws : Nat} (hF : FR ws K V K1 V1) (hE : ext K K1) (hW : WT K V) (hx : K x = some (0, 10)) (hb : dyobits ws = true) : DYO V V1 x := by
  simp only [dyobits, Bool.and_eq_true] at hb
  exact ⟨SOS'.fr hF hE hW hx hb.1.1, SLS.fr hF hE hW hx hb.1.2, LNS.fr hF hE hW hx hb.2⟩
def DY1 (K : Kmap) (V W : Vmap) (x : Nat) : Prop := NUN K V W ∧ SHX K V W ∧ DYO V W x
theorem DY1.tr (h : DY1 K V W x) (g : DY1 K W W1 x) : DY1 K V W1 x := ⟨h.1.tr g.1, h.2.1.tr g.2.1, h.2.2.tr g.2.2⟩
theorem DY1.fr {ws : Nat} (hF : FR ws K V K V1) (hW : WT K V) (hx : K x = some (0, 10)) (b1 : nubits ws = true) (b2 : sxbits ws = true) (b3 : dyobits ws = true) : DY1 K V V1 x := ⟨NUN.fr hF b1, SHX.fr hF b2, DYO.fr hF ext.rf hW hx b3⟩
/-- the stations -/
def DY2 (K : Kmap) (V W : Vmap) (x : Nat) (i : Int) : Prop := CSI K V W x i ∧ SHX K V W ∧ DYO V W x
theorem DY2.beg (h : DY1 K V W x) (hp : PSI V W x 0) : DY2 K V W x 0 := ⟨CSI.beg h.1 hp, h.2.1, h.2.2⟩
theorem DY2.step {ws : Nat} (h : DY2 K V W x i) (hp : PSI V W x i) (hp1 : PSI V W1 x n) (hs : PSN K W W1 x i) (hd : DYI V W x) (hF : FR ws K W K W1) (hW : WT K W) (hx : K x = some (0, 10)) (b2 : sxbits ws = true) (b3 : dyobits ws = true) (i0 : 0 ≤ i) (hi : i < vi W x 6) (hn : n = i + 1) : DY2 K V W1 x n := ⟨h.1.step hp hp1 hs ⟨hd.2, h.2.2.2.2.2.1, h.2.2.2.2.2.2⟩ i0 hi hn, h.2.1.tr (SHX.fr hF b2), h.2.2.tr (DYO.fr hF ext.rf hW hx b3)⟩
/-- the ships -/
def DYQ (K : Kmap) (V : Vmap) (x : Nat) : Prop := PLI V x ∧ RWX K V x ∧ SHP V x ∧ (∀ s : Nat, (s : Int) < vi V x 10 → K (shO V x s) = some (0, 6)) ∧ 0 ≤ tdy V x ∧ tdy V x < 3599
def DY3 (K : Kmap) (V W : Vmap) (x : Nat) (i : Int) : Prop := DYQ K V x → ∃ W0, (PSI V W0 x (vi V x 6) ∧ CSI K V W0 x (vi V x 6) ∧ LNS V W0 x ∧ tdy W0 x = tdy V x + 1) ∧ RNC (tdy V x + 1) (cvr W0 x) (OKC W0 x) (cSh V x, cN W0 x) i.toNat (cSh W x, cN W x) ∧ SMC W0 W x ∧ PLI W0 x ∧ RWX K W x ∧ NST' V W x ∧ DYO V W x ∧ i ≤ vi V x 10
theorem DY3.beg (h : DY2 K V W x i) (hp : PSI V W x i) (hd : DYI V W x) (hi : vi W x 6 ≤ i) (hi2 : i ≤ vi W x 6) (h10 : 0 ≤ vi W x 10) : DY3 K V W x 0 := fun hQ => by
  obtain ⟨hI, hR, hP, hk, -⟩ := hQ
  obtain ⟨p1, p2, -, -⟩ := hp hI
  have ei : i = vi V x 6 := by
    have := p2.1
    omega
  subst ei
  obtain ⟨c1, c2, -⟩ := h.1 hI hR
  refine ⟨W, ⟨hp, h.1, h.2.2.2.2, hd.2⟩, ?_, SMC.rf, p1, c1, c2, h.2.2, by have := h.2.2.1.1; omega⟩
  show (cSh W x, cN W x) = (cSh V x, cN W x)
  rw [h.2.1.cs h.2.2.1 hk]
theorem DY3.nul (h : DY3 K V W x i) (hN : SN W x → i < 0 ∨ vi W x 10 ≤ i) (i0 : 0 ≤ i) (i1 : i < vi W x 10) : DY3 K V W1 x n := fun hQ => by
  obtain ⟨W0, -, -, -, -, -, -, hO, -⟩ := h hQ
  have hS : SN W x := fun j hj => by
    rw [hO.1.1] at hj
    have := hQ.2.2.1.1 j hj
    rw [← hO.1.2 j hj]
    exact this
  rcases hN hS with g | g <;> omega
theorem DY3.step {ws : Nat} (h : DY3 K V W x i) (hd : DYI V W x) (ho : o = vq W (vq W x 9) i.toNat) (hs : PSH K W W1 x o) (hF : FR ws K W K W1) (hW : WT K W) (hx : K x = some (0, 10)) (b1 : psbits ws = true) (b2 : pvbits ws = true) (b3 : ldbits ws = true) (b4 : dyobits ws = true) (i0 : 0 ≤ i) (i1 : i < vi W x 10) (hn : n = i + 1) : DY3 K V W1 x n := fun hQ => by
  obtain ⟨W0, ⟨w1, w2, w3, w4⟩, hr, f, hI0, hR, hT, hO, -⟩ := h hQ
  obtain ⟨hI, hRV, hP, hk, d0, d9⟩ := hQ
  have hIW := (f hI0).1
  have f1 : SMC W W1 x := SMC.fr hF ext.rf hW hx b1 b2 b3
  have o1 : DYO W W1 x := DYO.fr hF ext.rf hW hx b4
  have e10 := hO.1.1
  have eS : ∀ s : Nat, (s : Int) < vi V x 10 → shO W x s = shO V x s := fun s hs => sho_s hO.1 s hs
  have hS : SN W x := fun j hj => by
    rw [e10] at hj
    have := hP.1 j hj
    rw [← hO.1.2 j hj]
    exact this
  have kp := RNC.keep i.toNat _ hr
  have eC : ∀ s : Nat, (s : Int) < vi V x 10 → cSh W x s = shv W (shO W x s) ∧ cSh V x s = shv V (shO V x s) := fun s hs => ⟨by unfold cSh; rw [if_pos (by rw [e10]; exact hs)], by unfold cSh; rw [if_pos hs]⟩
  have hP' : SHP W x := by
    refine ⟨hS, fun a b hab hb => ?_, fun s hs h3 => ?_⟩
    · rw [e10] at hb
      rw [eS a (by omega), eS b hb]
      exact hP.2.1 a b hab hb
    · rw [e10] at hs
      obtain ⟨q1, q2⟩ := eC s hs
      obtain ⟨k1, -, k3⟩ := kp s
      have k1' : cSh W x s 4 = cSh V x s 4 := k1
      have k3' : cSh W x s 3 ≠ 0 → cSh V x s 3 ≠ 0 := k3
      rw [q1, q2] at k1' k3'
      rw [k1']
      exact hP.2.2 s hs (k3' h3)
  have hkW : ∀ s : Nat, (s : Int) < vi W x 10 → K (shO W x s) = some (0, 6) := fun s hs => by
    rw [e10] at hs
    rw [eS s hs]
    exact hk s hs
  have hs' : PSH K W W1 x (shO W x i.toNat) := by
    have : o = shO W x i.toNat := ho
    rw [← this]
    exact hs
  have ht : tdy W x = tdy V x + 1 := hd.2
  obtain ⟨g1, g2, g3⟩ := hs'.sgc (by omega) hIW hR hP' hkW o1.1 (f1 hIW).2.1 (by omega) (by omega)
  have ecv : cvr W x = cvr W0 x := by
    funext z
    unfold cvr
    rw [hO.2.2.1, ← w3.1, ht, ← w4]
  rw [ht, ecv, okc_s f hI0] at g1
  refine ⟨W0, ⟨w1, w2, w3, w4⟩, ?_, f.tr f1, hI0, g2, fun u hu h5 => ?_, hO.tr o1, by omega⟩
  · rw [hn, show (i + 1).toNat = i.toNat + 1 by omega]
    exact ⟨_, hr, g1⟩
  · have pS : PLS V W x := by
      obtain ⟨-, a, -, -⟩ := w1 hI
      exact a.tr (f hI0).2.1
    have := g3 u (by rw [pS.1]; exact hu) (by rw [pS.kd hu]; exact h5)
    rw [plo_s pS u hu] at this
    exact this.trans (hT u hu h5)
/-- the sledges -/
def DY4 (K : Kmap) (V W : Vmap) (x : Nat) (i : Int) : Prop := DYQ K V x → ∃ W0 Wm, (PSI V W0 x (vi V x 6) ∧ CSI K V W0 x (vi V x 6) ∧ LNS V W0 x ∧ tdy W0 x = tdy V x + 1) ∧ PLI W0 x ∧ RNC (tdy V x + 1) (cvr W0 x) (OKC W0 x) (cSh V x, cN W0 x) (vi V x 10).toNat (cSh W x, cN Wm x) ∧ RUN (SLC (tdy V x + 1) (SOK W0 x)) (cSl V x, cN Wm x) i.toNat (cSl W x, cN W x) ∧ SMC W0 W x ∧ RWX K W x ∧ NST' V W x ∧ SOS' V W x ∧ LNS V W x ∧ sgz W x = sgz V x ∧ i ≤ sgz V x
theorem DY4.beg (h : DY3 K V W x i) (hi : vi W x 10 ≤ i) (h0 : 0 ≤ vi W (vq W x 11) 3) : DY4 K V W x 0 := fun hQ => by
  obtain ⟨W0, w, hr, f, hI0, hR, hT, hO, hl⟩ := h hQ
  have e : i.toNat = (vi V x 10).toNat := by
    have := hO.1.1
    omega
  rw [e] at hr
  refine ⟨W0, W, w, hI0, hr, ?_, f, hR, hT, hO.1, hO.2.2, hO.2.1.1, by have := hO.2.1.1; unfold sgz at this ⊢; omega⟩
  show (cSl W x, cN W x) = (cSl V x, cN W x)
  rw [hO.2.1.2]
theorem DY4.fin (h : DY4 K V W x i) (hi : vi W (vq W x 11) 3 ≤ i) : DY4 K V W x (sgz W x) := fun hQ => by
  obtain ⟨W0, Wm, w, hI0, hr, hl, f, hR, hT, hO, hL, hz, hi2⟩ := h hQ
  have e : i = sgz W x := by
    unfold sgz at hz hi2 ⊢
    omega
  subst e
  exact ⟨W0, Wm, w, hI0, hr, hl, f, hR, hT, hO, hL, hz, hi2⟩
theorem DY4.step {ws : Nat} (h : DY4 K V W x i) (hd : DYI V W x) (hs : PSL K W W1 x i) (hF : FR ws K W K W1) (hW : WT K W) (hx : K x = some (0, 10)) (b0 : sxbits ws = true) (b1 : psbits ws = true) (b2 : pvbits ws = true) (b3 : ldbits ws = true) (b4 : sobit2 ws = true) (b5 : lnbits ws = true) (b6 : slbit3 ws = true) (i0 : 0 ≤ i) (i1 : i < vi W (vq W x 11) 3) (hn : n = i + 1) : DY4 K V W1 x n := fun hQ => by
  obtain ⟨W0, Wm, w, hI0, hr, hl, f, hR, hT, hO, hL, hz, -⟩ := h hQ
  obtain ⟨hI, hRV, hP, hk, d0, d9⟩ := hQ
  have hIW := (f hI0).1
  have f1 : SMC W W1 x := SMC.fr hF ext.rf hW hx b1 b2 b3
  have o1 : SOS' W W1 x := SOS'.fr hF ext.rf hW hx b4
  obtain ⟨g1, g2, g3⟩ := hs hIW hR i0 i1
  have hkW : ∀ s : Nat, (s : Int) < vi W x 10 → K (shO W x s) = some (0, 6) := fun s hs => by
    rw [hO.1] at hs
    rw [sho_s hO s hs]
    exact hk s hs
  have ec : cSh W1 x = cSh W x := (SHX.fr hF b0).cs o1 hkW
  rw [hd.2, sok_s f hI0] at g1
  refine ⟨W0, Wm, w, hI0, by rw [ec]; exact hr, ?_, f.tr f1, g2, fun u hu h5 => ?_, hO.tr o1, hL.tr (LNS.fr hF ext.rf hW hx b5), (sl_still hF hW hx b6).2.trans hz, by
    have i1' : i < sgz W x := i1
    omega⟩
  · rw [hn, show (i + 1).toNat = i.toNat + 1 by omega]
    exact ⟨_, hl, g1⟩
  · have pS : PLS V W x := by
      obtain ⟨-, a, -, -⟩ := w.1 hI
      exact a.tr (f hI0).2.1
    have := g3 u (by rw [pS.1]; exact hu) (by rw [pS.kd hu]; exact h5)
    rw [plo_s pS u hu] at this
    exact this.trans (hT u hu h5)
def DYN (K : Kmap) (V V1 : Vmap) (x : Nat) (X : Int) : Prop := (X = -1 ∧ V1 = V) ∨ (X ≠ -1 ∧ DY4 K V V1 x (sgz V1 x))
end Q9
