/-! ### the reference's reader: numbers, what opens, what is compared -/
section U1
variable {K : Kmap} {V0 V V1 V2 V3 : Vmap} {x : Nat}
theorem inc_at {k : Nat} {Z : Int} (e : V1 = upd2 V x k (ti Z)) (hn : ir (vi V x k + 1) → Z = vi V x k + 1) (rZ : ir Z) : 0 ≤ vi V x k → vi V x k ≤ 8 → vi V1 x k = vi V x k + 1 := fun h0 h8 => by
  rw [upd2_int e rZ]
  exact hn ⟨by omega, by omega⟩
theorem dec_at {k : Nat} {Z : Int} (e : V1 = upd2 V x k (ti Z)) (hn : ir (vi V x k - 1) → Z = vi V x k - 1) (rZ : ir Z) : 1 ≤ vi V x k → vi V1 x k = vi V x k - 1 := fun h0 => by
  rw [upd2_int e rZ]
  have h2 := (vi_ir (V := V) (a := x) (k := k)).2
  exact hn ⟨by omega, by omega⟩
theorem numL_end {src : Nat → Int} {e k p : Nat} {n : Int} (h : dgB (rdS src e p) = false) : numL src e k p n = (p, n) := by
  cases k with
  | zero => rfl
  | succ k =>
    show (if dgB (rdS src e p) then _ else _) = _
    rw [h]; rfl
theorem letN_none {c : Int} (h : c ≠ 97 ∧ c ≠ 112 ∧ c ≠ 98 ∧ c ≠ 104 ∧ c ≠ 105 ∧ c ≠ 114 ∧ c ≠ 115 ∧ c ≠ 110 ∧ c ≠ 111 ∧ c ≠ 116 ∧ c ≠ 101 ∧ c ≠ 100 ∧ c ≠ 121 ∧ c ≠ 109) : letN c = -1 := by
  unfold letN
  obtain ⟨a1, a2, a3, a4, a5, a6, a7, a8, a9, b1, b2, b3, b4, b5⟩ := h
  rw [if_neg a1, if_neg a2, if_neg a3, if_neg a4, if_neg a5, if_neg a6, if_neg a7, if_neg a8, if_neg a9, if_neg b1, if_neg b2, if_neg b3, if_neg b4, if_neg b5]
theorem sumN_none {c : Int} (h : c ≠ 43 ∧ c ≠ 45 ∧ c ≠ 42 ∧ c ≠ 47 ∧ c ≠ 37) : sumN c = -1 := by
  obtain ⟨a1, a2, a3, a4, a5⟩ := h
  have e1 : addN c = -1 := by unfold addN; rw [if_neg a1, if_neg a2]
  unfold sumN
  rw [e1, if_neg (by decide)]
  unfold mulN
  rw [if_neg a3, if_neg a4, if_neg a5]
theorem sgn_fr {ws : Nat} (hF : FR ws K V K V1) (hW : WT K V) (hx : K x = some (0, 11)) (b0 : ws.testBit (keyK (0, 11) 31) = false) (b1 : ws.testBit (keyK (0, 11) 32) = false) (b2 : ws.testBit (keyK (0, 11) 29) = false) (b3 : ws.testBit (abase + (31 + 1)) = false) : sgn V1 x = sgn V x := by
  obtain ⟨n, hn⟩ := (hW.ref hx (j := 29) (Nat.le_of_ble_eq_true rfl) rfl).2
  have q : vq V1 x 29 = vq V x 29 := by unfold vq; rw [hF x _ 29 hx hx b2]
  unfold sgn
  rw [vi_fr hF hx hx b0, vi_fr hF hx hx b1, q, vi_frA hF hn hn b3]
/-- opens() -/
def OPN (V0 V : Vmap) (x : Nat) (X : Int) : Prop := (X ≠ 0 → (0 ≤ vi V0 x 35 → vi V0 x 35 ≤ 8 → vi V x 35 = vi V0 x 35 + 1) ∧ vi V0 x 35 ≠ 8) ∧ (X = 0 → vi V0 x 35 = 8 ∧ vi V x 33 = -5000 - vi V0 x 31)
/-- in readsNumber() -/
def RNI (V0 V : Vmap) (x : Nat) : Prop := ∀ (src : Nat → Int) (e : Nat), TP V0 x src e → numL src e 6 (vi V0 x 31).toNat 0 = numL src e (6 - (vi V x 31 - vi V0 x 31).toNat) (vi V x 31).toNat (vi V x 34) ∧ (vi V0 x 31 < vi V x 31 → dgB (rdS src e (vi V0 x 31).toNat) = true)
theorem RNI.beg (h1 : vi V x 31 = vi V0 x 31) (h2 : vi V x 34 = 0) : RNI V0 V x := fun src e _ => by
  rw [h1, h2, show (vi V0 x 31 - vi V0 x 31).toNat = 0 by omega]
  exact ⟨rfl, fun h => absurd h (by omega)⟩
theorem RNI.step (h : RNI V0 V x) (hT : ∀ src e, TP V0 x src e → TP V x src e) (h0 : 0 ≤ vi V0 x 31) (hle : vi V0 x 31 ≤ vi V x 31) (hlt : vi V x 31 < vi V0 x 31 + 6) (hd : 48 ≤ sgn V x ∧ sgn V x ≤ 57) (hn : vi V1 x 34 = 10 * vi V x 34 + sgn V x - 48) (hp : vi V1 x 31 = vi V x 31 + 1) : RNI V0 V1 x := fun src e hTP => by
  obtain ⟨a1, a2⟩ := h src e hTP
  have hs := (hT src e hTP).sg (by omega)
  have hdg : dgB (rdS src e (vi V x 31).toNat) = true := by
    unfold dgB
    rw [← hs]
    exact decide_eq_true hd
  refine ⟨?_, fun _ => ?_⟩
  · rw [a1, hp, hn, show 6 - (vi V x 31 - vi V0 x 31).toNat = (6 - (vi V x 31 + 1 - vi V0 x 31).toNat) + 1 by omega]
    show (if dgB (rdS src e (vi V x 31).toNat) then numL src e (6 - (vi V x 31 + 1 - vi V0 x 31).toNat) ((vi V x 31).toNat + 1) (10 * vi V x 34 + rdS src e (vi V x 31).toNat - 48) else _) = _
    rw [if_pos hdg, ← hs, show (vi V x 31 + 1).toNat = (vi V x 31).toNat + 1 by omega]
  · by_cases q : vi V0 x 31 < vi V x 31
    · exact a2 q
    · rw [show vi V0 x 31 = vi V x 31 by omega]; exact hdg
theorem NUMR.no {most X : Int} (hT : ∀ src e, TP V0 x src e → TP V x src e) (hp : vi V x 31 = vi V0 x 31) (h0 : 0 ≤ vi V0 x 31) (hd : sgn V x < 48 ∨ 57 < sgn V x) (hX : X = 0) (hf : vi V1 x 33 = -1000 - vi V0 x 31) : NUMR V0 V1 x most X := fun src e hTP => by
  refine ⟨fun q => absurd hX q, fun _ => ⟨(1, (vi V0 x 31).toNat), ?_, ?_⟩⟩
  · have hs := (hT src e hTP).sg (by omega)
    rw [hp] at hs
    have hdg : dgB (rdS src e (vi V0 x 31).toNat) = false := by
      unfold dgB
      rw [← hs]
      exact decide_eq_false (by omega)
    unfold numS
    rw [hdg]; rfl
  · unfold ER
    show _ = -1000 * 1 - (((vi V0 x 31).toNat : Nat) : Int)
    omega
theorem NUMR.long {most X : Int} (h : RNI V0 V x) (hT : ∀ src e, TP V0 x src e → TP V x src e) (h0 : 0 ≤ vi V0 x 31) (hp : vi V x 31 = vi V0 x 31 + 6) (hd : 48 ≤ sgn V x ∧ sgn V x ≤ 57) (hX : X = 0) (hf : vi V1 x 33 = -2000 - vi V x 31) : NUMR V0 V1 x most X := fun src e hTP => by
  obtain ⟨a1, a2⟩ := h src e hTP
  have hs := (hT src e hTP).sg (by omega)
  have hdg : dgB (rdS src e (vi V x 31).toNat) = true := by
    unfold dgB
    rw [← hs]
    exact decide_eq_true hd
  have e1 : numL src e 6 (vi V0 x 31).toNat 0 = ((vi V x 31).toNat, vi V x 34) := by
    rw [a1, show 6 - (vi V x 31 - vi V0 x 31).toNat = 0 by omega]; rfl
  refine ⟨fun q => absurd hX q, fun _ => ⟨(2, (vi V x 31).toNat), ?_, ?_⟩⟩
  · unfold numS
    rw [if_pos (a2 (by omega)), e1]
    exact if_pos hdg
  · unfold ER
    show _ = -1000 * 2 - (((vi V x 31).toNat : Nat) : Int)
    omega
theorem NUMR.end {most X : Int} (h : RNI V0 V x) (hT : ∀ src e, TP V0 x src e → TP V x src e) (h0 : 0 ≤ vi V0 x 31) (hp : vi V0 x 31 < vi V x 31) (hd : sgn V x < 48 ∨ 57 < sgn V x) (hc : (X ≠ 0 ∧ vi V x 34 ≤ most ∧ vi V1 x 31 = vi V x 31 ∧ vi V1 x 34 = vi V x 34) ∨ (X = 0 ∧ most < vi V x 34 ∧ vi V1 x 33 = -3000 - vi V0 x 31)) : NUMR V0 V1 x most X := fun src e hTP => by
  obtain ⟨a1, a2⟩ := h src e hTP
  have hs := (hT src e hTP).sg (by omega)
  have hdg : dgB (rdS src e (vi V x 31).toNat) = false := by
    unfold dgB
    rw [← hs]
    exact decide_eq_false (by omega)
  have e1 : numL src e 6 (vi V0 x 31).toNat 0 = ((vi V x 31).toNat, vi V x 34) := a1.trans (numL_end hdg)
  have e2 : numS src e most (vi V0 x 31).toNat = if most < vi V x 34 then .error (3, (vi V0 x 31).toNat) else .ok ((vi V x 31).toNat, vi V x 34) := by
    unfold numS
    rw [if_pos (a2 hp), e1]
    show (if dgB (rdS src e (vi V x 31).toNat) then _ else _) = _
    rw [hdg]
    rfl
  rw [e2]
  rcases hc with ⟨q1, q2, q3, q4⟩ | ⟨q1, q2, q3⟩
  · refine ⟨fun _ => ?_, fun q => absurd q q1⟩
    rw [if_neg (by omega), q3, q4]
  · refine ⟨fun q => absurd q1 q, fun _ => ⟨(3, (vi V0 x 31).toNat), if_pos q2, ?_⟩⟩
    unfold ER
    show _ = -1000 * 3 - (((vi V0 x 31).toNat : Nat) : Int)
    omega
/-! what is compared -/
theorem stQ_low {w w' : Nat → Int} {k : Nat} (h : ∀ j, j < k → w' j = w j) : stQ w' k = stQ w k := stQ_cong k h
theorem Ql_low (h : vi V1 x 37 = vi V x 37) (hw : ∀ j, j < (vi V x 37).toNat → wt V1 x j = wt V x j) : Ql V1 x = Ql V x := by unfold Ql; rw [h]; exact stQ_low hw
/-- a condition's reader stands well -/
def RST (V : Vmap) (x : Nat) : Prop := 0 ≤ vi V x 37 ∧ NS V x ∧ WQ (Ql V x) ∧ ((nO (Ql V x) : Nat) : Int) = vi V x 35 ∧ vi V x 35 ≤ 8
/-- readsCompared() -/
def CMK (V0 V1 : Vmap) (x : Nat) (X : Int) : Prop := ∀ (src : Nat → Int) (e : Nat), e ≤ 200 → TP V0 x src e → RST V0 x →
  (X ≠ 0 → RST V1 x ∧ topf V1 x ≠ 10 ∧ bnd (cmpF src e (vi V0 x 35).toNat (Tm V0 x)) (conQ src e (vi V0 x 35).toNat none none (Ql V0 x)) = conQ src e (vi V1 x 35).toNat none none (Ql V1 x) (Tm V1 x)) ∧
  (X = 0 → ∃ q, cmpF src e (vi V0 x 35).toNat (Tm V0 x) = .error q ∧ ER V1 x q)
theorem RST.o (h : RST V x) : 0 ≤ vi V x 35 := by have := h.2.2.2.1; omega
/-- the first sum is read -/
def CM1 (V0 V : Vmap) (x : Nat) : Prop := ∀ (src : Nat → Int) (e : Nat), e ≤ 200 → TP V0 x src e → RST V0 x → vi V x 35 = vi V0 x 35 ∧ terF src e (9 - (vi V0 x 35).toNat) (vi V0 x 35).toNat (Tm V0 x) = .ok (Tm V x)
theorem CM1.of {X : Int} (h : SK V0 V x X) (hX : X ≠ 0) : CM1 V0 V x := fun src e h200 hTP hR => (h src e h200 hTP hR.2.1 hR.1 hR.o hR.2.2.2.2).1 hX
theorem CMK.e1 {X Y : Int} (h : SK V0 V x Y) (hY : Y = 0) (hX : X = 0) (hf : V1 = V) : CMK V0 V1 x X := fun src e h200 hTP hR => by
  subst hf
  refine ⟨fun q => absurd hX q, fun _ => ?_⟩
  obtain ⟨q, h1, h2⟩ := (h src e h200 hTP hR.2.1 hR.1 hR.o hR.2.2.2.2).2 hY
  refine ⟨q, ?_, h2⟩
  unfold cmpF
  rw [h1, bnd_er]
theorem CMK.e2 {X : Int} (h : CM1 V0 V x) (hT : ∀ src e, TP V0 x src e → TP V x src e) (h0 : 0 ≤ vi V x 31) (hn : sgn V x ≠ 60 ∧ sgn V x ≠ 62 ∧ sgn V x ≠ 61) (hX : X = 0) (hf : vi V1 x 33 = -1000 - vi V x 31) : CMK V0 V1 x X := fun src e h200 hTP hR => by
  obtain ⟨a1, a2⟩ := h src e h200 hTP hR
  have hs := (hT src e hTP).sg h0
  refine ⟨fun q => absurd hX q, fun _ => ⟨(1, (vi V x 31).toNat), ?_, ?_⟩⟩
  · unfold cmpF
    rw [a2, bnd_ok]
    show (if 0 ≤ cmpN (rdS src e (vi V x 31).toNat) then _ else _) = _
    rw [if_neg]
    · rfl
    · rw [← hs]
      unfold cmpN
      rw [if_neg hn.1, if_neg hn.2.1, if_neg hn.2.2]
      decide
  · unfold ER
    show _ = -1000 * 1 - (((vi V x 31).toNat : Nat) : Int)
    omega
/-- the sign is read, and the second sum -/
def CM2 (V0 V : Vmap) (x : Nat) (k : Int) : Prop := ∀ (src : Nat → Int) (e : Nat), e ≤ 200 → TP V0 x src e → RST V0 x → vi V x 35 = vi V0 x 35 ∧ cmpF src e (vi V0 x 35).toNat (Tm V0 x) = bnd (terF src e (9 - (vi V x 35).toNat) (vi V x 35).toNat (Tm V x)) (fun s3 => .ok (emt s3 (1048576 * k)))
theorem CM2.of {k : Int} (h : CM1 V0 V x) (hT : ∀ src e, TP V0 x src e → TP V x src e) (h0 : 0 ≤ vi V x 31) (hk : (sgn V x = 60 ∧ k = 7) ∨ (sgn V x = 62 ∧ k = 8) ∨ (sgn V x = 61 ∧ k = 9)) (hp : vi V1 x 31 = vi V x 31 + 1) (hc : vi V1 x 36 = vi V x 36) (hS : sd V1 x = sd V x) (ho : vi V1 x 35 = vi V x 35) : CM2 V0 V1 x k := fun src e h200 hTP hR => by
  obtain ⟨a1, a2⟩ := h src e h200 hTP hR
  have hs := (hT src e hTP).sg h0
  have hT1 : Tm V1 x = adv (Tm V x) := by
    show ((vi V1 x 31).toNat, (vi V1 x 36).toNat, sd V1 x) = ((vi V x 31).toNat + 1, (vi V x 36).toNat, sd V x)
    rw [hS, hc, show (vi V1 x 31).toNat = (vi V x 31).toNat + 1 by omega]
  refine ⟨by omega, ?_⟩
  have hk2 : 0 ≤ cmpN (sgn V x) ∧ cmpN (sgn V x) = k := by
    rcases hk with ⟨q1, q2⟩ | ⟨q1, q2⟩ | ⟨q1, q2⟩ <;> rw [q1, q2] <;> decide
  unfold cmpF
  rw [a2, bnd_ok]
  show (if 0 ≤ cmpN (rdS src e (vi V x 31).toNat) then bnd (terF src e (9 - (vi V0 x 35).toNat) (vi V0 x 35).toNat (adv (Tm V x))) (fun s3 => .ok (emt s3 (1048576 * cmpN (rdS src e (vi V x 31).toNat)))) else _) = _
  rw [← hs, if_pos hk2.1, hk2.2, hT1, ho, a1]
theorem CMK.e3 {k X Y : Int} (h : CM2 V0 V x k) (hT : ∀ src e, TP V0 x src e → TP V x src e) (hR2 : RST V0 x → NS V x ∧ 0 ≤ vi V x 37) (hs : SK V V1 x Y) (hY : Y = 0) (hX : X = 0) : CMK V0 V1 x X := fun src e h200 hTP hR => by
  obtain ⟨a1, a2⟩ := h src e h200 hTP hR
  refine ⟨fun q => absurd hX q, fun _ => ?_⟩
  have g := hR2 hR
  obtain ⟨q, h1, h2⟩ := (hs src e h200 (hT src e hTP) g.1 g.2 (by have := hR.o; omega) (by have := hR.2.2.2.2; omega)).2 hY
  refine ⟨q, ?_, h2⟩
  rw [a2, h1, bnd_er]
/-- all is read, and not's that wait are told -/
theorem CMK.ok {k X Y : Int} (h : CM2 V0 V x k) (hT : ∀ src e, TP V0 x src e → TP V x src e) (hR2 : RST V0 x → NS V x ∧ 0 ≤ vi V x 37) (hs : SK V V1 x Y) (hY : Y ≠ 0) (hX : X ≠ 0) (hS : sd V2 x = updf (sd V1 x) (vi V1 x 36).toNat (1048576 * k + 0)) (hQ : wt V2 x = wt V1 x) (hc : vi V2 x 36 = vi V1 x 36 + 1) (hw : vi V2 x 37 = vi V1 x 37) (hp : vi V2 x 31 = vi V1 x 31) (ho : vi V2 x 35 = vi V1 x 35) (h0c : 0 ≤ vi V1 x 36) (hlow : vi V1 x 37 = vi V0 x 37 ∧ ∀ j, j < (vi V0 x 37).toNat → wt V1 x j = wt V0 x j) (he : EPi V2 V3 x) (hns : NS V3 x) (h37 : 0 ≤ vi V3 x 37) (ht : topf V3 x ≠ 10) : CMK V0 V3 x X := fun src e h200 hTP hR => by
  obtain ⟨a1, a2⟩ := h src e h200 hTP hR
  refine ⟨fun _ => ?_, fun q => absurd q hX⟩
  have g := hR2 hR
  obtain ⟨b1, b2⟩ := (hs src e h200 (hT src e hTP) g.1 g.2 (by have := hR.o; omega) (by have := hR.2.2.2.2; omega)).1 hY
  have hQl : Ql V2 x = Ql V0 x := (Ql_same hQ hw).trans (Ql_low hlow.1 hlow.2)
  have hT2 : Tm V2 x = emt (Tm V1 x) (1048576 * k) := by
    show ((vi V2 x 31).toNat, (vi V2 x 36).toNat, sd V2 x) = ((vi V1 x 31).toNat, (vi V1 x 36).toNat + 1, updf (sd V1 x) (vi V1 x 36).toNat (1048576 * k))
    rw [hp, hS, Int.add_zero, show (vi V2 x 36).toNat = (vi V1 x 36).toNat + 1 by omega]
  have e35 : vi V2 x 35 = vi V0 x 35 := by omega
  have h2 := hR.2.2.1
  have h3 := hR.2.2.2.1
  rw [← hQl] at h2 h3
  rw [← e35] at h3
  obtain ⟨c1, c2, c4, c3⟩ := he src e h2 h3
  refine ⟨⟨h37, hns, c1, c2, ?_⟩, ht, ?_⟩
  · have := hR.2.2.2.2
    omega
  · rw [a2, b2, bnd_ok, bnd_ok, ← hT2, ← e35, ← hQl]
    exact c3
end U1
