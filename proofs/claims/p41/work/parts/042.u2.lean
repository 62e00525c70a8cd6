/-! ### the reference's reader: conditions -/
section U2
variable {K : Kmap} {V0 V V1 V2 V3 : Vmap} {x : Nat}
theorem RST.t10 (h : topf V x ≠ 10) : T10 (Ql V x) := fun q S hq => by
  unfold Ql at hq
  cases hk : (vi V x 37).toNat with
  | zero => rw [hk] at hq; cases hq
  | succ k =>
    rw [hk] at hq
    have e1 : q.1 = wt V x k / 1048576 := by
      have := (List.cons.inj hq).1
      rw [← this]
    have e2 : topf V x = wt V x k / UU := by
      unfold topf
      rw [if_neg (by omega), show (vi V x 37 - 1).toNat = k by omega]
    rw [e1]
    intro h9
    exact h (e2.trans h9)
theorem Ql_hd (h0 : vi V x 37 ≠ 0) (h1 : 0 ≤ vi V x 37) : ∃ i S, Ql V x = (topf V x, i) :: S := by
  obtain ⟨k, hk⟩ : ∃ k, (vi V x 37).toNat = k + 1 := ⟨(vi V x 37).toNat - 1, by omega⟩
  have e2 : topf V x = wt V x k / UU := by
    unfold topf
    rw [if_neg h0, show (vi V x 37 - 1).toNat = k by omega]
  refine ⟨(wt V x k % 1048576).toNat, stQ (wt V x) k, ?_⟩
  unfold Ql
  rw [hk, e2]
  rfl
def CDI (V0 V : Vmap) (x : Nat) : Prop := ∀ (src : Nat → Int) (e : Nat), e ≤ 200 → TP V0 x src e → RST V x ∧ conF src e (Tm V0 x) = bnd (pieD src e (vi V x 35).toNat (Tm V x)) (conQ src e (vi V x 35).toNat none none (Ql V x))
def CEI (V0 V : Vmap) (x : Nat) : Prop := ∀ (src : Nat → Int) (e : Nat), e ≤ 200 → TP V0 x src e → RST V x ∧ topf V x ≠ 10 ∧ conF src e (Tm V0 x) = conQ src e (vi V x 35).toNat none none (Ql V x) (Tm V x)
def CND (V0 V1 : Vmap) (x : Nat) (X : Int) : Prop := ∀ (src : Nat → Int) (e : Nat), e ≤ 200 → TP V0 x src e → (X ≠ 0 → conF src e (Tm V0 x) = .ok (Tm V1 x)) ∧ (X = 0 → ∃ q, conF src e (Tm V0 x) = .error q ∧ ER V1 x q)
/-- no bracket -/
theorem CND.e1 {X : Int} (hT : ∀ src e, TP V0 x src e → TP V x src e) (hp : vi V x 31 = vi V0 x 31) (h0 : 0 ≤ vi V0 x 31) (hs : sgn V x ≠ 40) (hX : X = 0) (hf : vi V1 x 33 = -1000 - vi V x 31) : CND V0 V1 x X := fun src e h200 hTP => by
  refine ⟨fun q => absurd hX q, fun _ => ⟨(1, (vi V0 x 31).toNat), ?_, ?_⟩⟩
  · have h1 := (hT src e hTP).sg (by omega)
    rw [hp] at h1
    unfold conF
    show (if rdS src e (vi V0 x 31).toNat = 40 then _ else _) = _
    rw [if_neg (by rw [← h1]; exact hs)]
    rfl
  · unfold ER
    show _ = -1000 * 1 - (((vi V0 x 31).toNat : Nat) : Int)
    omega
/-- the bracket opens -/
theorem CDI.beg (hT : ∀ src e, TP V0 x src e → TP V x src e) (hp : vi V x 31 = vi V0 x 31) (h0 : 0 ≤ vi V0 x 31) (hs : sgn V x = 40) (hcd : vi V x 36 = vi V0 x 36) (hsd : sd V x = sd V0 x) (hop : vi V x 35 = 0) (hw0 : vi V x 37 = 0) (hS : sd V1 x = sd V x) (hQ : wt V1 x = updf (wt V x) (vi V x 37).toNat (1048576 * 13)) (hc : vi V1 x 36 = vi V x 36) (hw : vi V1 x 37 = vi V x 37 + 1) (hp1 : vi V1 x 31 = vi V x 31 + 1) (ho : 0 ≤ vi V x 35 → vi V x 35 ≤ 8 → vi V1 x 35 = vi V x 35 + 1) : CDI V0 V1 x := fun src e h200 hTP => by
  have ho := ho (by omega) (by omega)
  have h1 := (hT src e hTP).sg (by omega)
  rw [hp] at h1
  have hK : Ql V1 x = (13, 0) :: Ql V x := by
    have := Ql_push (V := V) (V1 := V1) (x := x) (op := 13) (c := 0) (by omega) (by omega) (by rw [hQ]; rfl) hw
    exact this
  have hK0 : Ql V x = [] := by unfold Ql; rw [hw0]; rfl
  rw [hK0] at hK
  have hT1 : Tm V1 x = adv (Tm V0 x) := by
    show ((vi V1 x 31).toNat, (vi V1 x 36).toNat, sd V1 x) = ((vi V0 x 31).toNat + 1, (vi V0 x 36).toNat, sd V0 x)
    rw [hS, hsd, hc, hcd, show (vi V1 x 31).toNat = (vi V0 x 31).toNat + 1 by omega]
  have e35 : vi V1 x 35 = 1 := by omega
  refine ⟨⟨by omega, fun j hj => ?_, ?_, ?_, by omega⟩, ?_⟩
  · have hj0 : j = 0 := by omega
    subst hj0
    rw [hQ, show (vi V x 37).toNat = 0 by omega, updf_at]
    decide
  · rw [hK]; exact ⟨Or.inl rfl, trivial⟩
  · rw [hK, e35]; rfl
  · rw [conF_beg (k := 0) (show rdS src e (Tm V0 x).1 = 40 from h1 ▸ hs), hK, hT1, e35]
    rfl
/-- another depth opens -/
theorem CDI.opn {op : Int} (h : CDI V0 V x) (hT : ∀ src e, TP V0 x src e → TP V x src e) (h0 : 0 ≤ vi V x 31) (hs : (sgn V x = 33 ∧ op = 10) ∨ (sgn V x = 40 ∧ op = 13)) (hne : 1 ≤ vi V x 37) (hS : sd V1 x = sd V x) (hQ : wt V1 x = updf (wt V x) (vi V x 37).toNat (1048576 * op)) (hc : vi V1 x 36 = vi V x 36) (hw : vi V1 x 37 = vi V x 37 + 1) (hp : vi V1 x 31 = vi V x 31 + 1) (ho : 0 ≤ vi V x 35 → vi V x 35 ≤ 8 → vi V1 x 35 = vi V x 35 + 1) (h8 : vi V x 35 ≠ 8) : CDI V0 V1 x := fun src e h200 hTP => by
  obtain ⟨hR, h1⟩ := h src e h200 hTP
  have hro := hR.o
  obtain ⟨r1, r2, r3, r4, r5⟩ := hR
  have ho := ho hro r5
  have hsg := (hT src e hTP).sg h0
  have hK : Ql V1 x = (op, 0) :: Ql V x := by
    have := Ql_push (V := V) (V1 := V1) (x := x) (op := op) (c := 0) (by omega) r1 (by rw [hQ, Int.add_zero]) hw
    exact this
  have hT1 : Tm V1 x = adv (Tm V x) := by
    show ((vi V1 x 31).toNat, (vi V1 x 36).toNat, sd V1 x) = ((vi V x 31).toNat + 1, (vi V x 36).toNat, sd V x)
    rw [hS, hc, show (vi V1 x 31).toNat = (vi V x 31).toNat + 1 by omega]
  obtain ⟨i0, S0, hhd⟩ := Ql_hd (V := V) (x := x) (by omega) r1
  have hop : op = 10 ∨ op = 13 := by omega
  have hnO : nO ((op, 0) :: Ql V x) = 1 + nO (Ql V x) := by
    show (if op = 10 ∨ op = 13 then 1 else 0) + nO (Ql V x) = _
    rw [if_pos hop]
  refine ⟨⟨by omega, fun j hj => ?_, ?_, ?_, by omega⟩, ?_⟩
  · rw [hQ]
    by_cases e1 : j = (vi V x 37).toNat
    · rw [e1, updf_at]
      exact pS_no (op := op) (by unfold UU; omega) (by omega)
    · rw [updf_of e1]
      exact r2 j (by omega)
  · rw [hK]
    refine ⟨?_, r3⟩
    rcases hop with rfl | rfl
    · exact Or.inr (Or.inl ⟨rfl, by rw [hhd]; exact List.cons_ne_nil _ _⟩)
    · exact Or.inl rfl
  · rw [hK, hnO]; omega
  · rw [h1, hK, hT1, show (vi V1 x 35).toNat = (vi V x 35).toNat + 1 by omega]
    rcases hs with ⟨q1, rfl⟩ | ⟨q1, rfl⟩
    · exact pieD_not (by omega) (by show rdS src e (vi V x 31).toNat = 33; rw [← hsg]; exact q1)
    · exact pieD_par (by omega) (by show rdS src e (vi V x 31).toNat = 40; rw [← hsg]; exact q1)
theorem CND.e5 {X : Int} (h : CDI V0 V x) (hT : ∀ src e, TP V0 x src e → TP V x src e) (h0 : 0 ≤ vi V x 31) (hs : sgn V x = 33 ∨ sgn V x = 40) (h8 : vi V x 35 = 8) (hX : X = 0) (hf : vi V1 x 33 = -5000 - vi V x 31) : CND V0 V1 x X := fun src e h200 hTP => by
  obtain ⟨hR, h1⟩ := h src e h200 hTP
  have hsg := (hT src e hTP).sg h0
  refine ⟨fun q => absurd hX q, fun _ => ⟨(5, (vi V x 31).toNat), ?_, ?_⟩⟩
  · rw [h1, pieD_x (by rw [h8]; rfl) (by show rdS src e (vi V x 31).toNat = 33 ∨ rdS src e (vi V x 31).toNat = 40; rw [← hsg]; exact hs)]
    rfl
  · unfold ER
    show _ = -1000 * 5 - (((vi V x 31).toNat : Nat) : Int)
    omega
/-- what is compared is read -/
theorem CEI.cmp {X : Int} (h : CDI V0 V x) (hT : ∀ src e, TP V0 x src e → TP V x src e) (h0 : 0 ≤ vi V x 31) (hs : sgn V x ≠ 33 ∧ sgn V x ≠ 40) (hc : CMK V V1 x X) (hX : X ≠ 0) : CEI V0 V1 x := fun src e h200 hTP => by
  obtain ⟨hR, h1⟩ := h src e h200 hTP
  have hsg := (hT src e hTP).sg h0
  obtain ⟨c1, c2, c3⟩ := (hc src e h200 (hT src e hTP) hR).1 hX
  refine ⟨c1, c2, ?_⟩
  have h5 := hR.2.2.2.2
  rw [h1, pieD_c (by omega) (by show rdS src e (vi V x 31).toNat ≠ 33; rw [← hsg]; exact hs.1) (by show rdS src e (vi V x 31).toNat ≠ 40; rw [← hsg]; exact hs.2)]
  exact c3
theorem CND.ec {X Y : Int} (h : CDI V0 V x) (hT : ∀ src e, TP V0 x src e → TP V x src e) (h0 : 0 ≤ vi V x 31) (hs : sgn V x ≠ 33 ∧ sgn V x ≠ 40) (hc : CMK V V1 x Y) (hY : Y = 0) (hX : X = 0) : CND V0 V1 x X := fun src e h200 hTP => by
  obtain ⟨hR, h1⟩ := h src e h200 hTP
  have hsg := (hT src e hTP).sg h0
  obtain ⟨q, c1, c2⟩ := (hc src e h200 (hT src e hTP) hR).2 hY
  refine ⟨fun q => absurd hX q, fun _ => ⟨q, ?_, c2⟩⟩
  have h5 := hR.2.2.2.2
  rw [h1, pieD_c (by omega) (by show rdS src e (vi V x 31).toNat ≠ 33; rw [← hsg]; exact hs.1) (by show rdS src e (vi V x 31).toNat ≠ 40; rw [← hsg]; exact hs.2), c1]
  rfl
/-- a bracket closes: what waits lands, the bracket goes -/
def CCI (V0 V : Vmap) (x : Nat) : Prop := ∀ (src : Nat → Int) (e : Nat), e ≤ 200 → TP V0 x src e → RST V x ∧ conF src e (Tm V0 x) = conQ src e (vi V x 35).toNat none none (Ql V x) (Tm V x)
theorem CCI.clo (h : CEI V0 V x) (hT : ∀ src e, TP V0 x src e → TP V x src e) (h0 : 0 ≤ vi V x 31) (hs : sgn V x = 41) (hl : LDi V V1 x 1) (hl35 : vi V1 x 35 = vi V x 35) (hl31 : vi V1 x 31 = vi V x 31) (ht1 : ¬ (11 ≤ topf V1 x ∧ topf V1 x ≤ 12)) (hne : 1 ≤ vi V1 x 37) (hns : NS V2 x) (hS : sd V2 x = sd V1 x) (hQ : wt V2 x = wt V1 x) (hc : vi V2 x 36 = vi V1 x 36) (hw : vi V2 x 37 = vi V1 x 37 - 1) (hp : vi V2 x 31 = vi V1 x 31 + 1) (ho : 1 ≤ vi V1 x 35 → vi V2 x 35 = vi V1 x 35 - 1) : CCI V0 V2 x := fun src e h200 hTP => by
  obtain ⟨hR, ht, h1⟩ := h src e h200 hTP
  have hsg := (hT src e hTP).sg h0
  have hr : rdS src e (vi V x 31).toNat = 41 := by rw [← hsg]; exact hs
  obtain ⟨b1, b2, b3, b4⟩ := hl src e h200 (hT src e hTP) hR.2.2.1 (fun _ => by rw [hr]; decide)
  have b3 := b3 (RST.t10 ht)
  have hK := Ql_top (V := V1) (V1 := V2) (x := x) rfl (by omega) hQ hw (by omega)
  rw [hK] at b1 b2 b3 b4
  have h13 : topf V1 x = 13 := by
    rcases b1.1 with g | g | g | g
    · exact g
    · exact absurd g.1 (b3 _ _ rfl)
    · exact absurd g.1 (by show topf V1 x ≠ 11; omega)
    · exact absurd g.1 (by show topf V1 x ≠ 12; omega)
  rw [h13] at b2 b4
  have hn : nO ((13, (wt V1 x (vi V1 x 37 - 1).toNat % 1048576).toNat) :: Ql V2 x) = 1 + nO (Ql V2 x) := rfl
  rw [hn] at b2
  have h4 := hR.2.2.2.1
  have h5 := hR.2.2.2.2
  have ho := ho (by omega)
  have hT2 : Tm V2 x = adv (Tm V1 x) := by
    show ((vi V2 x 31).toNat, (vi V2 x 36).toNat, sd V2 x) = ((vi V1 x 31).toNat + 1, (vi V1 x 36).toNat, sd V1 x)
    rw [hS, hc, show (vi V2 x 31).toNat = (vi V1 x 31).toNat + 1 by omega]
  refine ⟨⟨by omega, hns, b1.2, by omega, by omega⟩, ?_⟩
  rw [h1, b4, conQ_clo h200 (by show rdS src e (vi V1 x 31).toNat = 41; rw [hl31]; exact hr), hT2, show (vi V2 x 35).toNat = (vi V x 35).toNat - 1 by omega]
  rfl
theorem CND.ok {X : Int} (h : CCI V0 V x) (hw : vi V x 37 = 0) (hX : X ≠ 0) (hV : V1 = V) : CND V0 V1 x X := fun src e h200 hTP => by
  subst hV
  obtain ⟨hR, h1⟩ := h src e h200 hTP
  refine ⟨fun _ => ?_, fun q => absurd q hX⟩
  have hK0 : Ql V1 x = [] := by unfold Ql; rw [hw]; rfl
  rw [h1, hK0]
  conv => lhs; unfold conQ
theorem CEI.ep (h : CCI V0 V x) (he : EPi V V1 x) (hns : NS V1 x) (h37 : 0 ≤ vi V1 x 37) (ht : topf V1 x ≠ 10) : CEI V0 V1 x := fun src e h200 hTP => by
  obtain ⟨hR, h1⟩ := h src e h200 hTP
  obtain ⟨c1, c2, c4, c3⟩ := he src e hR.2.2.1 hR.2.2.2.1
  have h5 := hR.2.2.2.2
  exact ⟨⟨h37, hns, c1, c2, by omega⟩, ht, h1.trans c3⟩
theorem CND.e9 {X : Int} (h : CEI V0 V x) (hT : ∀ src e, TP V0 x src e → TP V x src e) (h0 : 0 ≤ vi V x 31) (hs : sgn V x ≠ 38 ∧ sgn V x ≠ 124 ∧ sgn V x ≠ 41) (hne : 1 ≤ vi V x 37) (hX : X = 0) (hf : vi V1 x 33 = -1000 - vi V x 31) : CND V0 V1 x X := fun src e h200 hTP => by
  obtain ⟨hR, ht, h1⟩ := h src e h200 hTP
  have hsg := (hT src e hTP).sg h0
  refine ⟨fun q => absurd hX q, fun _ => ⟨(1, (vi V x 31).toNat), ?_, ?_⟩⟩
  · obtain ⟨i, S, hhd⟩ := Ql_hd (V := V) (x := x) (by omega) hR.1
    rw [h1]
    exact conQ_bad h200 hR.2.2.1 (by rw [hhd]; exact List.cons_ne_nil _ _) (RST.t10 ht) (by show rdS src e (vi V x 31).toNat ≠ 38; rw [← hsg]; exact hs.1) (by show rdS src e (vi V x 31).toNat ≠ 124; rw [← hsg]; exact hs.2.1) (by show rdS src e (vi V x 31).toNat ≠ 41; rw [← hsg]; exact hs.2.2)
  · unfold ER
    show _ = -1000 * 1 - (((vi V x 31).toNat : Nat) : Int)
    omega
/-- another piece comes -/
theorem CDI.jmp {a op : Int} (h : CEI V0 V x) (hT : ∀ src e, TP V0 x src e → TP V x src e) (h0 : 0 ≤ vi V x 31) (hs : (sgn V x = 38 ∧ a = 0 ∧ op = 11) ∨ (sgn V x = 124 ∧ a ≠ 0 ∧ op = 12)) (hl : LDi V V1 x a) (hl35 : vi V1 x 35 = vi V x 35) (hl31 : vi V1 x 31 = vi V x 31) (ht11 : topf V1 x ≠ 11) (ht12 : a ≠ 0 → ¬ (11 ≤ topf V1 x ∧ topf V1 x ≤ 12)) (hne : 1 ≤ vi V1 x 37) (hns : NS V2 x) (h0c : 0 ≤ vi V1 x 36 ∧ vi V1 x 36 < 1048576) (hS : sd V2 x = updf (sd V1 x) (vi V1 x 36).toNat (1048576 * op + 0)) (hQ : wt V2 x = updf (wt V1 x) (vi V1 x 37).toNat (1048576 * op + vi V1 x 36)) (hc : vi V2 x 36 = vi V1 x 36 + 1) (hw : vi V2 x 37 = vi V1 x 37 + 1) (hp : vi V2 x 31 = vi V1 x 31 + 1) (ho : vi V2 x 35 = vi V1 x 35) : CDI V0 V2 x := fun src e h200 hTP => by
  obtain ⟨hR, ht, h1⟩ := h src e h200 hTP
  have hsg := (hT src e hTP).sg h0
  obtain ⟨b1, b2, b3, b4⟩ := hl src e h200 (hT src e hTP) hR.2.2.1 (fun ha => by
    rcases hs with ⟨-, q, -⟩ | ⟨q, -, -⟩
    · exact absurd q ha
    · rw [← hsg, q]; decide)
  have b3 := b3 (RST.t10 ht)
  have h4 := hR.2.2.2.1
  have h5 := hR.2.2.2.2
  obtain ⟨i, S, hhd⟩ := Ql_hd (V := V1) (x := x) (by omega) (by omega)
  have n10 : topf V1 x ≠ 10 := by have := b3 _ _ hhd; exact this
  rcases hs with ⟨q, ha, rfl⟩ | ⟨q, ha, rfl⟩
  · have j := JQ.and (src := src) (e := e) h200 b1 (fun q S hq => by rw [hhd] at hq; cases hq; exact ⟨n10, ht11⟩) (by omega) (by rw [hl31, ← hsg]; exact q) h0c (by omega) hS hQ hc hw hp (by omega) ho
    obtain ⟨j1, j2, j3⟩ := j
    refine ⟨⟨by omega, hns, j1, by omega, by omega⟩, ?_⟩
    rw [h1, b4, ← j3, hl35]
  · have h13 : topf V1 x = 13 := by
      rw [hhd] at b1
      rcases b1.1 with g | g | g | g
      · exact g
      · exact absurd g.1 n10
      · exact absurd g.1 ht11
      · exact absurd g.1 (by show topf V1 x ≠ 12; have := ht12 ha; omega)
    have j := JQ.or (src := src) (e := e) h200 b1 (fun q S hq => by rw [hhd] at hq; cases hq; exact h13) (by omega) (by rw [hl31, ← hsg]; exact q) h0c (by omega) hS hQ hc hw hp (by omega) ho
    obtain ⟨j1, j2, j3⟩ := j
    refine ⟨⟨by omega, hns, j1, by omega, by omega⟩, ?_⟩
    rw [h1, b4, ← j3, hl35]
end U2
