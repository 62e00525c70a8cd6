/-! ### the reference's reader keeps what the spec says: sums -/
section S5
variable {K : Kmap} {V0 V V1 V2 : Vmap} {x : Nat}
/-- place and codes, as the memory has them -/
def Tm (V : Vmap) (x : Nat) : PS := ((vi V x 31).toNat, (vi V x 36).toNat, sd V x)
/-- what waits above b -/
def KL (V : Vmap) (x b : Nat) : List Int := stL (wt V x) b ((vi V x 37).toNat - b)
/-- the tape that is read -/
def TP (V : Vmap) (x : Nat) (src : Nat → Int) (e : Nat) : Prop := (vi V x 32).toNat = e ∧ ∀ j : Nat, j < e → wand (vi V (vq V x 29) j) 255 = src j
theorem TP.sg {src : Nat → Int} {e : Nat} (h : TP V x src e) (h0 : 0 ≤ vi V x 31) : sgn V x = rdS src e (vi V x 31).toNat := by
  unfold sgn rdS
  by_cases q : vi V x 31 < vi V x 32
  · rw [if_pos q, if_pos (by rw [← h.1]; omega), h.2 _ (by rw [← h.1]; omega)]
  · rw [if_neg q, if_neg (by rw [← h.1]; omega)]
theorem TP.fr {src : Nat → Int} {e ws : Nat} (h : TP V x src e) (hF : FR ws K V K V1) (hW : WT K V) (hx : K x = some (0, 11)) (b1 : ws.testBit (keyK (0, 11) 32) = false) (b2 : ws.testBit (keyK (0, 11) 29) = false) (b3 : ws.testBit (abase + (31 + 1)) = false) : TP V1 x src e := by
  obtain ⟨n, hn⟩ := (hW.ref hx (j := 29) (Nat.le_of_ble_eq_true rfl) rfl).2
  have q : vq V1 x 29 = vq V x 29 := by unfold vq; rw [hF x _ 29 hx hx b2]
  exact ⟨by rw [vi_fr hF hx hx b1]; exact h.1, fun j hj => by rw [q, vi_frA hF hn hn b3]; exact h.2 j hj⟩
theorem pS_sum {a : Int} (h : 2 ≤ a / UU ∧ a / UU ≤ 6) : pS a = true := decide_eq_true h
/-- the top above b -/
theorem KL_top {b : Nat} {op : Int} (hop : op = topf V x) (h0 : vi V x 37 ≠ 0) (hb : b < (vi V x 37).toNat) (hQ : wt V1 x = wt V x) (hw : vi V1 x 37 = vi V x 37 - 1) : KL V x b = op :: KL V1 x b := by
  have h1 : topf V x = wt V x (vi V x 37 - 1).toNat / UU := by unfold topf; rw [if_neg h0]
  obtain ⟨k, hk⟩ : ∃ k, (vi V x 37).toNat - b = k + 1 := ⟨(vi V x 37).toNat - b - 1, by omega⟩
  have h2 : (vi V1 x 37).toNat - b = k := by omega
  have h3 : b + k = (vi V x 37 - 1).toNat := by omega
  unfold KL
  rw [hk, h2, hQ]
  show wt V x (b + k) / 1048576 :: _ = _
  rw [h3, hop, h1]
/-- closesSums() keeps it -/
def CK (V0 V : Vmap) (x : Nat) (a : Int) : Prop := ∀ (src : Nat → Int) (e b d : Nat), e ≤ 200 → TP V0 x src e → b ≤ (vi V0 x 37).toNat → (∀ j, j < b → pS (wt V0 x j) = false) → WS (KL V0 x b) → (a ≠ 0 → ¬ 0 ≤ mulN (rdS src e (vi V0 x 31).toNat)) →
  b ≤ (vi V x 37).toNat ∧ WS (KL V x b) ∧ nB (KL V x b) = nB (KL V0 x b) ∧ conS src e d (KL V0 x b) (Tm V0 x) = conS src e d (KL V x b) (Tm V x)
theorem CK.rf {a : Int} : CK V V x a := fun _ _ _ _ _ _ hb _ hs _ => ⟨hb, hs, rfl, rfl⟩
theorem CK.step {a op : Int} (h : CK V0 V x a) (hcl : CL V0 V x) (hp0 : vi V x 31 = vi V0 x 31) (hop : op = topf V x) (ht : (4 ≤ op ∧ op ≤ 6) ∨ (a ≠ 0 ∧ (op = 2 ∨ op = 3))) (hS : sd V1 x = updf (sd V x) (vi V x 36).toNat (1048576 * op + 0)) (hQ : wt V1 x = wt V x) (hc : vi V1 x 36 = vi V x 36 + 1) (hw : vi V1 x 37 = vi V x 37 - 1) (hp : vi V1 x 31 = vi V x 31) (h0c : 0 ≤ vi V x 36) (h0w : 0 ≤ vi V1 x 37) : CK V0 V1 x a := by
  intro src e b d h200 hT hb hlow hws hm
  obtain ⟨h1, h2, h3, h4⟩ := h src e b d h200 hT hb hlow hws hm
  have hwt := hcl.1
  have hn0 : vi V x 37 ≠ 0 := by omega
  have htop : topf V x = wt V x (vi V x 37 - 1).toNat / UU := by unfold topf; rw [if_neg hn0]
  have hbw : b < (vi V x 37).toNat := by
    refine Classical.byContradiction fun hn => ?_
    have e1 : b = (vi V x 37).toNat := by omega
    have hj := hlow (vi V x 37 - 1).toNat (by omega)
    rw [← hwt, pS_sum (by rw [← htop, ← hop]; omega)] at hj
    cases hj
  have hK := KL_top hop hn0 hbw hQ hw
  have hT1 : Tm V1 x = emt (Tm V x) (1048576 * op) := by
    show ((vi V1 x 31).toNat, (vi V1 x 36).toNat, sd V1 x) = ((vi V x 31).toNat, (vi V x 36).toNat + 1, updf (sd V x) (vi V x 36).toNat (1048576 * op))
    rw [hp, hS, Int.add_zero, show (vi V1 x 36).toNat = (vi V x 36).toNat + 1 by omega]
  rw [hK] at h2 h3 h4
  have hnb : nB (op :: KL V1 x b) = nB (KL V1 x b) := by
    show (if op = 14 then 1 else 0) + _ = _
    rw [if_neg (by omega), Nat.zero_add]
  refine ⟨by omega, h2.2, by rw [← h3, hnb], ?_⟩
  rw [h4, hT1]
  rcases ht with ht | ⟨ha, ht⟩
  · exact conS_mul ht
  · refine conS_add h200 ht (WS.add h2 ht) ?_
    have := hm ha
    rw [← hp0] at this
    exact this
/-- a factor that is read keeps it: while brackets begin -/
def FKi (V0 V : Vmap) (x : Nat) : Prop := ∀ (src : Nat → Int) (e b : Nat), e ≤ 200 → TP V0 x src e → b ≤ (vi V0 x 37).toNat → 0 ≤ vi V0 x 35 → vi V0 x 35 ≤ 8 →
  (0 ≤ vi V x 35 ∧ vi V x 35 ≤ 8 ∧ (vi V0 x 37).toNat ≤ (vi V x 37).toNat ∧ (WS (KL V0 x b) → WS (KL V x b)) ∧ ((nB (KL V x b) : Nat) : Int) - vi V x 35 = ((nB (KL V0 x b) : Nat) : Int) - vi V0 x 35) ∧
  bnd (facD src e (vi V0 x 35).toNat (Tm V0 x)) (conS src e (vi V0 x 35).toNat (KL V0 x b)) = bnd (facD src e (vi V x 35).toNat (Tm V x)) (conS src e (vi V x 35).toNat (KL V x b))
theorem FKi.rf : FKi V V x := fun _ _ _ _ _ _ h0 h8 => ⟨⟨h0, h8, Nat.le_refl _, id, rfl⟩, rfl⟩
theorem KL_push {b : Nat} {op : Int} (hb : b ≤ (vi V x 37).toNat) (h0 : 0 ≤ vi V x 37) (hQ : wt V1 x = updf (wt V x) (vi V x 37).toNat (1048576 * op)) (hw : vi V1 x 37 = vi V x 37 + 1) : KL V1 x b = op :: KL V x b := by
  unfold KL
  have h1 : (vi V1 x 37).toNat - b = ((vi V x 37).toNat - b) + 1 := by omega
  have h2 : (vi V x 37).toNat = b + ((vi V x 37).toNat - b) := by omega
  rw [h1, hQ]
  conv => lhs; rw [h2]
  rw [show b + ((vi V x 37).toNat - b) - b = (vi V x 37).toNat - b by omega]
  exact stL_push (by omega)
theorem FKi.opn (h : FKi V0 V x) (hsg : sgn V x = 91) (hT : ∀ src e, TP V0 x src e → TP V x src e) (hp0 : 0 ≤ vi V x 31) (h0 : 0 ≤ vi V x 37) (hd : vi V x 35 ≠ 8) (hS : sd V1 x = sd V x) (hQ : wt V1 x = updf (wt V x) (vi V x 37).toNat (1048576 * 14)) (hc : vi V1 x 36 = vi V x 36) (hw : vi V1 x 37 = vi V x 37 + 1) (hp : vi V1 x 31 = vi V x 31 + 1) (ho : 0 ≤ vi V x 35 → vi V x 35 ≤ 8 → vi V1 x 35 = vi V x 35 + 1) : FKi V0 V1 x := by
  intro src e b h200 hTP hb g0 g8
  obtain ⟨⟨a1, a2, a3, a4, a5⟩, h1⟩ := h src e b h200 hTP hb g0 g8
  have ho := ho a1 a2
  have hK : KL V1 x b = 14 :: KL V x b := KL_push (by omega) h0 hQ hw
  have hT1 : Tm V1 x = adv (Tm V x) := by
    show ((vi V1 x 31).toNat, (vi V1 x 36).toNat, sd V1 x) = ((vi V x 31).toNat + 1, (vi V x 36).toNat, sd V x)
    rw [hS, hc, show (vi V1 x 31).toNat = (vi V x 31).toNat + 1 by omega]
  have hr : rdS src e (Tm V x).1 = 91 := by rw [← hsg]; exact ((hT src e hTP).sg hp0).symm
  have hnb : nB (14 :: KL V x b) = 1 + nB (KL V x b) := rfl
  refine ⟨⟨by omega, by omega, by omega, fun q => by rw [hK]; exact WS.pushB (a4 q), by rw [hK, hnb, ho]; omega⟩, ?_⟩
  rw [h1, hK, hT1, show (vi V1 x 35).toNat = (vi V x 35).toNat + 1 by omega]
  exact facD_o (by omega) hr
/-- what fell is told -/
def ER (V : Vmap) (x : Nat) (q : Int × Nat) : Prop := vi V x 33 = -1000 * q.1 - (q.2 : Int)
/-- readsNumber() -/
def NUMR (V0 V1 : Vmap) (x : Nat) (most X : Int) : Prop := ∀ (src : Nat → Int) (e : Nat), TP V0 x src e → (X ≠ 0 → numS src e most (vi V0 x 31).toNat = .ok ((vi V1 x 31).toNat, vi V1 x 34)) ∧ (X = 0 → ∃ q, numS src e most (vi V0 x 31).toNat = .error q ∧ ER V1 x q)
/-- readsFactor() -/
def FK (V0 V1 : Vmap) (x : Nat) (X : Int) : Prop := ∀ (src : Nat → Int) (e b : Nat), e ≤ 200 → TP V0 x src e → b ≤ (vi V0 x 37).toNat → 0 ≤ vi V0 x 35 → vi V0 x 35 ≤ 8 →
  (X ≠ 0 → (0 ≤ vi V1 x 35 ∧ vi V1 x 35 ≤ 8 ∧ (vi V0 x 37).toNat ≤ (vi V1 x 37).toNat ∧ (WS (KL V0 x b) → WS (KL V1 x b)) ∧ ((nB (KL V1 x b) : Nat) : Int) - vi V1 x 35 = ((nB (KL V0 x b) : Nat) : Int) - vi V0 x 35) ∧
    bnd (facD src e (vi V0 x 35).toNat (Tm V0 x)) (conS src e (vi V0 x 35).toNat (KL V0 x b)) = conS src e (vi V1 x 35).toNat (KL V1 x b) (Tm V1 x)) ∧
  (X = 0 → ∃ q, bnd (facD src e (vi V0 x 35).toNat (Tm V0 x)) (conS src e (vi V0 x 35).toNat (KL V0 x b)) = .error q ∧ ER V1 x q)
theorem KL_same {b : Nat} (hQ : wt V1 x = wt V x) (hw : vi V1 x 37 = vi V x 37) : KL V1 x b = KL V x b := by unfold KL; rw [hQ, hw]
/-- too deep -/
theorem FK.deep {X : Int} (h : FKi V0 V x) (hsg : sgn V x = 91) (hT : ∀ src e, TP V0 x src e → TP V x src e) (hp0 : 0 ≤ vi V x 31) (hd : vi V x 35 = 8) (hX : X = 0) (hf : vi V1 x 33 = -5000 - vi V x 31) : FK V0 V1 x X := by
  intro src e b h200 hTP hb g0 g8
  obtain ⟨-, h1⟩ := h src e b h200 hTP hb g0 g8
  refine ⟨fun q => absurd hX q, fun _ => ⟨(5, (vi V x 31).toNat), ?_, ?_⟩⟩
  · rw [h1, facD_x (by omega) (by rw [← hsg]; exact ((hT src e hTP).sg hp0).symm)]
    rfl
  · unfold ER
    show _ = -1000 * 5 - (((vi V x 31).toNat : Nat) : Int)
    omega
theorem dg_let {c : Int} (h : dgB c = true) : ¬ 0 ≤ letN c ∧ c ≠ 91 := by
  have h1 := of_decide_eq_true h
  have : c = 48 ∨ c = 49 ∨ c = 50 ∨ c = 51 ∨ c = 52 ∨ c = 53 ∨ c = 54 ∨ c = 55 ∨ c = 56 ∨ c = 57 := by omega
  rcases this with r | r | r | r | r | r | r | r | r | r <;> subst r <;> exact ⟨by decide, by decide⟩
/-- a number, or what falls there -/
theorem FK.num {X Y : Int} (h : FKi V0 V x) (hT : ∀ src e, TP V0 x src e → TP V x src e) (hp0 : 0 ≤ vi V x 31) (hdg : dgB (sgn V x) = true) (hn : NUMR V V2 x 999999 Y) (hX : X = 0 ∧ Y = 0 ∧ vi V1 x 33 = vi V2 x 33 ∨ X ≠ 0 ∧ Y ≠ 0 ∧ sd V1 x = updf (sd V x) (vi V x 36).toNat (1048576 * 0 + vi V2 x 34) ∧ wt V1 x = wt V x ∧ vi V1 x 36 = vi V x 36 + 1 ∧ vi V1 x 37 = vi V x 37 ∧ vi V1 x 31 = vi V2 x 31 ∧ vi V1 x 35 = vi V x 35) (h0c : 0 ≤ vi V x 36) : FK V0 V1 x X := by
  intro src e b h200 hTP hb g0 g8
  obtain ⟨a, h1⟩ := h src e b h200 hTP hb g0 g8
  have hsr := (hT src e hTP).sg hp0
  rw [hsr] at hdg
  have hl := dg_let hdg
  have hnn := hn src e (hT src e hTP)
  have hfd : facD src e (vi V x 35).toNat (Tm V x) = match numS src e 999999 (vi V x 31).toNat with
      | .ok r => .ok (emt (r.1, (Tm V x).2) r.2)
      | .error q => .error q := facD_n hl.1 hl.2
  rcases hX with ⟨hX, hY, hf⟩ | ⟨hX, hY, hS, hQ, hc, hw, hp, ho⟩
  · refine ⟨fun q => absurd hX q, fun _ => ?_⟩
    obtain ⟨q, hq, hE⟩ := hnn.2 hY
    refine ⟨q, ?_, by unfold ER at hE ⊢; rw [hf]; exact hE⟩
    rw [h1, hfd, hq]
    rfl
  · refine ⟨fun _ => ?_, fun q => absurd q hX⟩
    have hok := hnn.1 hY
    rw [KL_same hQ hw, ho, hw]
    refine ⟨a, ?_⟩
    rw [h1, hfd, hok]
    show conS src e _ _ _ = _
    congr 1
    show ((vi V2 x 31).toNat, (vi V x 36).toNat + 1, updf (sd V x) (vi V x 36).toNat (vi V2 x 34)) = ((vi V1 x 31).toNat, (vi V1 x 36).toNat, sd V1 x)
    rw [hp, hS, show 1048576 * 0 + vi V2 x 34 = vi V2 x 34 by omega, show (vi V1 x 36).toNat = (vi V x 36).toNat + 1 by omega]
/-- a letter -/
theorem FK.let {X l : Int} (h : FKi V0 V x) (hT : ∀ src e, TP V0 x src e → TP V x src e) (hp0 : 0 ≤ vi V x 31) (hl : l = letN (sgn V x)) (h0 : 0 ≤ l) (hX : X ≠ 0) (hS : sd V1 x = updf (sd V x) (vi V x 36).toNat (1048576 * 1 + l)) (hQ : wt V1 x = wt V x) (hc : vi V1 x 36 = vi V x 36 + 1) (hw : vi V1 x 37 = vi V x 37) (hp : vi V1 x 31 = vi V x 31 + 1) (ho : vi V1 x 35 = vi V x 35) (h0c : 0 ≤ vi V x 36) : FK V0 V1 x X := by
  intro src e b h200 hTP hb g0 g8
  obtain ⟨a, h1⟩ := h src e b h200 hTP hb g0 g8
  have hsr := (hT src e hTP).sg hp0
  rw [hsr] at hl
  refine ⟨fun _ => ?_, fun q => absurd q hX⟩
  rw [KL_same hQ hw, ho, hw]
  refine ⟨a, ?_⟩
  have hfd : facD src e (vi V x 35).toNat (Tm V x) = .ok (emt (adv (Tm V x)) (1048576 + letN (rdS src e (Tm V x).1))) := facD_l (by rw [show (Tm V x).1 = (vi V x 31).toNat from rfl, ← hl]; exact h0)
  rw [h1, hfd]
  show conS src e _ _ _ = _
  congr 1
  show ((vi V x 31).toNat + 1, (vi V x 36).toNat + 1, updf (sd V x) (vi V x 36).toNat (1048576 + letN (rdS src e (vi V x 31).toNat))) = ((vi V1 x 31).toNat, (vi V1 x 36).toNat, sd V1 x)
  rw [hS, ← hl, show 1048576 * 1 + l = 1048576 + l by omega, show (vi V1 x 36).toNat = (vi V x 36).toNat + 1 by omega, show (vi V1 x 31).toNat = (vi V x 31).toNat + 1 by omega]
/-- neither -/
theorem FK.none {X : Int} (h : FKi V0 V x) (hT : ∀ src e, TP V0 x src e → TP V x src e) (hp0 : 0 ≤ vi V x 31) (hd : dgB (sgn V x) = false) (hl : ¬ 0 ≤ letN (sgn V x)) (h91 : sgn V x ≠ 91) (hX : X = 0) (hf : vi V1 x 33 = -1000 - vi V x 31) : FK V0 V1 x X := by
  intro src e b h200 hTP hb g0 g8
  obtain ⟨-, h1⟩ := h src e b h200 hTP hb g0 g8
  have hsr := (hT src e hTP).sg hp0
  rw [hsr] at hd hl h91
  refine ⟨fun q => absurd hX q, fun _ => ⟨(1, (vi V x 31).toNat), ?_, ?_⟩⟩
  · have hfd : facD src e (vi V x 35).toNat (Tm V x) = match numS src e 999999 (vi V x 31).toNat with
        | .ok r => .ok (emt (r.1, (Tm V x).2) r.2)
        | .error q => .error q := facD_n hl h91
    have hnum : numS src e 999999 (vi V x 31).toNat = .error (1, (vi V x 31).toNat) := by
      unfold numS
      rw [hd]; rfl
    rw [h1, hfd, hnum]
    rfl
  · unfold ER
    show _ = -1000 * 1 - (((vi V x 31).toNat : Nat) : Int)
    omega
/-- a bracket has not closed and nothing more fits -/
theorem conS_unc {src : Nat → Int} {e d : Nat} (h200 : e ≤ 200) : ∀ (S : List Int) (s : PS), WS S → (14 : Int) ∈ S → rdS src e s.1 ≠ 93 → ¬ 0 ≤ mulN (rdS src e s.1) → ¬ 0 ≤ addN (rdS src e s.1) → conS src e d S s = .error (1, s.1) := by
  intro S
  induction S with
  | nil => intro s _ h; exact absurd h List.not_mem_nil
  | cons o S ih =>
    intro s hws hin h93 hm ha
    rcases hws.1 with h | h | h
    · rw [conS_mul ⟨h.1, h.2.1⟩]
      have hin2 : (14 : Int) ∈ S := by
        rcases List.mem_cons.mp hin with q | q
        · omega
        · exact q
      exact ih _ hws.2 hin2 h93 hm ha
    · rw [conS_add h200 h.1 h.2 hm]
      have hin2 : (14 : Int) ∈ S := by
        rcases List.mem_cons.mp hin with q | q
        · omega
        · exact q
      exact ih _ hws.2 hin2 h93 hm ha
    · subst h
      exact conS_f h200 h93 hm ha
/-- readsSum(), once begun: b is what waited then -/
def SKi (V0 V : Vmap) (x : Nat) : Prop := ∀ (src : Nat → Int) (e : Nat), e ≤ 200 → TP V0 x src e → NS V0 x → 0 ≤ vi V0 x 37 → 0 ≤ vi V0 x 35 → vi V0 x 35 ≤ 8 →
  (0 ≤ vi V x 35 ∧ vi V x 35 ≤ 8 ∧ (vi V0 x 37).toNat ≤ (vi V x 37).toNat ∧ WS (KL V x (vi V0 x 37).toNat) ∧ ((nB (KL V x (vi V0 x 37).toNat) : Nat) : Int) = vi V x 35 - vi V0 x 35) ∧
  terF src e (9 - (vi V0 x 35).toNat) (vi V0 x 35).toNat (Tm V0 x) = conS src e (vi V x 35).toNat (KL V x (vi V0 x 37).toNat) (Tm V x)
def SK (V0 V1 : Vmap) (x : Nat) (X : Int) : Prop := ∀ (src : Nat → Int) (e : Nat), e ≤ 200 → TP V0 x src e → NS V0 x → 0 ≤ vi V0 x 37 → 0 ≤ vi V0 x 35 → vi V0 x 35 ≤ 8 →
  (X ≠ 0 → vi V1 x 35 = vi V0 x 35 ∧ terF src e (9 - (vi V0 x 35).toNat) (vi V0 x 35).toNat (Tm V0 x) = .ok (Tm V1 x)) ∧
  (X = 0 → ∃ q, terF src e (9 - (vi V0 x 35).toNat) (vi V0 x 35).toNat (Tm V0 x) = .error q ∧ ER V1 x q)
theorem KL_nil : KL V x (vi V x 37).toNat = [] := by unfold KL; rw [Nat.sub_self]; rfl
theorem SKi.beg {X : Int} (h : FK V0 V x X) (hX : X ≠ 0) : SKi V0 V x := by
  intro src e h200 hTP _ h0 g0 g8
  obtain ⟨⟨a1, a2, a3, a4, a5⟩, h1⟩ := (h src e (vi V0 x 37).toNat h200 hTP (Nat.le_refl _) g0 g8).1 hX
  rw [KL_nil] at a4 a5 h1
  refine ⟨⟨a1, a2, a3, a4 trivial, ?_⟩, ?_⟩
  · have : nB [] = 0 := rfl
    rw [this] at a5
    omega
  · rw [terF_beg (by omega)]
    exact h1
theorem SK.beg0 {X : Int} (h : FK V0 V x X) (hX : X = 0) (hV : V1 = V) : SK V0 V1 x X := by
  subst hV
  intro src e h200 hTP _ h0 g0 g8
  refine ⟨fun q => absurd hX q, fun _ => ?_⟩
  obtain ⟨q, hq, hE⟩ := (h src e (vi V0 x 37).toNat h200 hTP (Nat.le_refl _) g0 g8).2 hX
  rw [KL_nil] at hq
  exact ⟨q, by rw [terF_beg (by omega)]; exact hq, hE⟩
def sumN (c : Int) : Int := if 0 ≤ addN c then addN c else mulN c
theorem sumN_is {c : Int} (h : 0 ≤ sumN c) : (0 ≤ addN c ∧ sumN c = addN c ∧ (addN c = 2 ∨ addN c = 3)) ∨ (0 ≤ mulN c ∧ sumN c = mulN c ∧ 4 ≤ mulN c ∧ mulN c ≤ 6) := by
  unfold sumN at h ⊢
  by_cases h0 : 0 ≤ addN c
  · rw [if_pos h0] at h ⊢
    refine Or.inl ⟨h0, rfl, ?_⟩
    unfold addN at h0 ⊢
    by_cases h1 : c = 43
    · rw [if_pos h1]; exact Or.inl rfl
    · rw [if_neg h1] at h0 ⊢
      by_cases h2 : c = 45
      · rw [if_pos h2]; exact Or.inr rfl
      · rw [if_neg h2] at h0; exact absurd h0 (by decide)
  · rw [if_neg h0] at h ⊢
    refine Or.inr ⟨h, rfl, ?_⟩
    unfold mulN at h ⊢
    by_cases h1 : c = 42
    · rw [if_pos h1]; decide
    · rw [if_neg h1] at h ⊢
      by_cases h2 : c = 47
      · rw [if_pos h2]; decide
      · rw [if_neg h2] at h ⊢
        by_cases h3 : c = 37
        · rw [if_pos h3]; decide
        · rw [if_neg h3] at h; exact absurd h (by decide)
theorem sumN_no {c : Int} (h : ¬ 0 ≤ sumN c) : ¬ 0 ≤ addN c ∧ ¬ 0 ≤ mulN c := by
  unfold sumN at h
  by_cases h0 : 0 ≤ addN c
  · rw [if_pos h0] at h; exact absurd h0 h
  · rw [if_neg h0] at h; exact ⟨h0, h⟩
theorem KL_cases {b : Nat} : ((vi V x 37).toNat ≤ b ∧ KL V x b = []) ∨ (b < (vi V x 37).toNat ∧ ∃ S, KL V x b = topf V x :: S) := by
  by_cases h : (vi V x 37).toNat ≤ b
  · exact Or.inl ⟨h, by unfold KL; rw [Nat.sub_eq_zero_of_le h]; rfl⟩
  · refine Or.inr ⟨by omega, ?_⟩
    obtain ⟨k, hk⟩ : ∃ k, (vi V x 37).toNat - b = k + 1 := ⟨(vi V x 37).toNat - b - 1, by omega⟩
    have h1 : topf V x = wt V x (vi V x 37 - 1).toNat / UU := by unfold topf; rw [if_neg (by omega)]
    refine ⟨stL (wt V x) b k, ?_⟩
    unfold KL
    rw [hk]
    show wt V x (b + k) / 1048576 :: _ = _
    rw [show b + k = (vi V x 37 - 1).toNat by omega, h1]
theorem KL_noM {b : Nat} (ht : ¬ (4 ≤ topf V x ∧ topf V x ≤ 6)) : noM (KL V x b) := by
  rcases KL_cases (V := V) (x := x) (b := b) with ⟨-, h⟩ | ⟨-, S, h⟩
  · rw [h]; trivial
  · rw [h]; exact ht
theorem KL_noA {b : Nat} (hws : WS (KL V x b)) (ht : ¬ (4 ≤ topf V x ∧ topf V x ≤ 6)) (ht2 : ¬ (2 ≤ topf V x ∧ topf V x ≤ 3)) : noA (KL V x b) := by
  rcases KL_cases (V := V) (x := x) (b := b) with ⟨-, h⟩ | ⟨-, S, h⟩
  · rw [h]; trivial
  · rw [h] at hws ⊢
    rcases hws.1 with q | q | q
    · exact absurd ⟨q.1, q.2.1⟩ ht
    · omega
    · exact q
/-- a sign of a sum, what it closes, and the factor behind it -/
theorem SKi.op {V3 V4 : Vmap} {a op Y : Int} (h : SKi V0 V x) (hT : ∀ src e, TP V0 x src e → TP V x src e) (hT3 : ∀ src e, TP V0 x src e → TP V3 x src e) (hlow : ∀ j, j < (vi V0 x 37).toNat → wt V x j = wt V0 x j) (hck : CK V V2 x a) (hQ2 : wt V2 x = wt V x) (ht : ¬ (4 ≤ topf V2 x ∧ topf V2 x ≤ 6)) (ht2 : a ≠ 0 → ¬ (2 ≤ topf V2 x ∧ topf V2 x ≤ 3)) (hop : op = sumN (sgn V x)) (h0 : 0 ≤ op) (ha : (op < 4 ∧ a ≠ 0) ∨ (4 ≤ op ∧ a = 0)) (hp0 : 0 ≤ vi V x 31) (hw2 : 0 ≤ vi V2 x 37) (hp2 : vi V2 x 31 = vi V x 31) (ho2 : vi V2 x 35 = vi V x 35) (hS3 : sd V3 x = sd V2 x) (hQ3 : wt V3 x = updf (wt V2 x) (vi V2 x 37).toNat (1048576 * op)) (hc3 : vi V3 x 36 = vi V2 x 36) (hw3 : vi V3 x 37 = vi V2 x 37 + 1) (hp3 : vi V3 x 31 = vi V2 x 31 + 1) (ho3 : vi V3 x 35 = vi V2 x 35) (hfk : FK V3 V4 x Y) : (Y ≠ 0 → SKi V0 V4 x) ∧ (Y = 0 → SK V0 V4 x 0) := by
  have key : ∀ (src : Nat → Int) (e : Nat), e ≤ 200 → TP V0 x src e → NS V0 x → 0 ≤ vi V0 x 37 → 0 ≤ vi V0 x 35 → vi V0 x 35 ≤ 8 →
      (0 ≤ vi V3 x 35 ∧ vi V3 x 35 ≤ 8 ∧ (vi V0 x 37).toNat ≤ (vi V3 x 37).toNat ∧ WS (KL V3 x (vi V0 x 37).toNat) ∧ ((nB (KL V3 x (vi V0 x 37).toNat) : Nat) : Int) = vi V3 x 35 - vi V0 x 35) ∧
      terF src e (9 - (vi V0 x 35).toNat) (vi V0 x 35).toNat (Tm V0 x) = bnd (facD src e (vi V3 x 35).toNat (Tm V3 x)) (conS src e (vi V3 x 35).toNat (KL V3 x (vi V0 x 37).toNat)) := by
    intro src e h200 hTP hNS g37 g0 g8
    obtain ⟨⟨a1, a2, a3, a4, a5⟩, h1⟩ := h src e h200 hTP hNS g37 g0 g8
    have hsr := (hT src e hTP).sg hp0
    rw [hsr] at hop
    rw [hop] at h0
    have hcase := sumN_is h0
    obtain ⟨c1, c2, c3, c4⟩ := hck src e (vi V0 x 37).toNat (vi V x 35).toNat h200 (hT src e hTP) a3 (fun j hj => by rw [hlow j hj]; exact hNS j hj) a4 (fun hne => by
      rcases hcase with q | q
      · exact mul_add q.1
      · exact absurd (show a = 0 by omega) hne)
    have hK3 : KL V3 x (vi V0 x 37).toNat = op :: KL V2 x (vi V0 x 37).toNat := KL_push c1 hw2 hQ3 hw3
    have hT3' : Tm V3 x = adv (Tm V2 x) := by
      show ((vi V3 x 31).toNat, (vi V3 x 36).toNat, sd V3 x) = ((vi V2 x 31).toNat + 1, (vi V2 x 36).toNat, sd V2 x)
      rw [hS3, hc3, show (vi V3 x 31).toNat = (vi V2 x 31).toNat + 1 by omega]
    have hr2 : rdS src e (Tm V2 x).1 = rdS src e (vi V x 31).toNat := by
      show rdS src e (vi V2 x 31).toNat = _
      rw [hp2]
    have h14 : op ≠ 14 := by omega
    have hnb : nB (op :: KL V2 x (vi V0 x 37).toNat) = nB (KL V2 x (vi V0 x 37).toNat) := by
      show (if op = 14 then 1 else 0) + _ = _
      rw [if_neg h14, Nat.zero_add]
    have hnM : noM (KL V2 x (vi V0 x 37).toNat) := KL_noM ht
    refine ⟨⟨by omega, by omega, by omega, ?_, ?_⟩, ?_⟩
    · rw [hK3]
      rcases ha with ⟨ha1, ha2⟩ | ⟨ha1, ha2⟩
      · refine WS.pushA c2 ?_ (KL_noA c2 ht (ht2 ha2))
        rcases hcase with q | q <;> omega
      · refine WS.pushM c2 ?_ hnM
        rcases hcase with q | q <;> omega
    · rw [hK3, hnb, c3, a5]; omega
    · rw [h1, c4, hK3, hT3', ho3, ho2]
      rcases hcase with q | q
      · have hnA := KL_noA c2 ht (ht2 (by omega))
        rw [conS_a h200 hnA (by rw [hr2]; exact q.1) (by rw [hr2]; exact q.2.2), hr2, ← q.2.1, ← hop]
      · rw [conS_m h200 hnM (by rw [hr2]; exact q.1) (by rw [hr2]; exact q.2.2), hr2, ← q.2.1, ← hop]
  constructor
  · intro hY src e h200 hTP hNS g37 g0 g8
    obtain ⟨⟨b1, b2, b3, b4, b5⟩, h2⟩ := key src e h200 hTP hNS g37 g0 g8
    obtain ⟨⟨f1, f2, f3, f4, f5⟩, h3⟩ := (hfk src e (vi V0 x 37).toNat h200 (hT3 src e hTP) b3 b1 b2).1 hY
    exact ⟨⟨f1, f2, by omega, f4 b4, by omega⟩, h2.trans h3⟩
  · intro hY src e h200 hTP hNS g37 g0 g8
    obtain ⟨⟨b1, b2, b3, b4, b5⟩, h2⟩ := key src e h200 hTP hNS g37 g0 g8
    refine ⟨fun q => absurd rfl q, fun _ => ?_⟩
    obtain ⟨q, hq, hE⟩ := (hfk src e (vi V0 x 37).toNat h200 (hT3 src e hTP) b3 b1 b2).2 hY
    exact ⟨q, h2.trans hq, hE⟩
/-- a bracket closes -/
theorem SKi.clo {V3 : Vmap} (h : SKi V0 V x) (hT : ∀ src e, TP V0 x src e → TP V x src e) (hlow : ∀ j, j < (vi V0 x 37).toNat → wt V x j = wt V0 x j) (hck : CK V V2 x 1) (hsg : sgn V x = 93) (ht : topf V2 x = 14) (hb : (vi V0 x 37).toNat < (vi V2 x 37).toNat) (hp0 : 0 ≤ vi V x 31) (hp2 : vi V2 x 31 = vi V x 31) (ho2 : vi V2 x 35 = vi V x 35) (hS3 : sd V3 x = sd V2 x) (hQ3 : wt V3 x = wt V2 x) (hc3 : vi V3 x 36 = vi V2 x 36) (hw3 : vi V3 x 37 = vi V2 x 37 - 1) (hp3 : vi V3 x 31 = vi V2 x 31 + 1) (ho3 : 1 ≤ vi V2 x 35 → vi V3 x 35 = vi V2 x 35 - 1) : SKi V0 V3 x := by
  intro src e h200 hTP hNS g37 g0 g8
  obtain ⟨⟨a1, a2, a3, a4, a5⟩, h1⟩ := h src e h200 hTP hNS g37 g0 g8
  have hsr := (hT src e hTP).sg hp0
  rw [hsr] at hsg
  obtain ⟨c1, c2, c3, c4⟩ := hck src e (vi V0 x 37).toNat (vi V x 35).toNat h200 (hT src e hTP) a3 (fun j hj => by rw [hlow j hj]; exact hNS j hj) a4 (fun _ => by rw [hsg]; decide)
  have hK2 : KL V2 x (vi V0 x 37).toNat = 14 :: KL V3 x (vi V0 x 37).toNat := KL_top ht.symm (by omega) hb hQ3 hw3
  have hT3' : Tm V3 x = adv (Tm V2 x) := by
    show ((vi V3 x 31).toNat, (vi V3 x 36).toNat, sd V3 x) = ((vi V2 x 31).toNat + 1, (vi V2 x 36).toNat, sd V2 x)
    rw [hS3, hc3, show (vi V3 x 31).toNat = (vi V2 x 31).toNat + 1 by omega]
  have hnb : nB (14 :: KL V3 x (vi V0 x 37).toNat) = 1 + nB (KL V3 x (vi V0 x 37).toNat) := rfl
  rw [hK2] at c2 c3 c4
  rw [hnb] at c3
  have ho3 := ho3 (by omega)
  refine ⟨⟨by omega, by omega, by omega, c2.2, by omega⟩, ?_⟩
  rw [h1, c4, conS_c h200 (by show rdS src e (vi V2 x 31).toNat = 93; rw [hp2]; exact hsg), hT3', show (vi V3 x 35).toNat = (vi V x 35).toNat - 1 by omega]
/-- a bracket has not closed and the sum ends -/
theorem SK.err (h : SKi V0 V x) (hT : ∀ src e, TP V0 x src e → TP V x src e) (hs1 : ¬ 0 ≤ sumN (sgn V x)) (hs2 : sgn V x ≠ 93) (hin : ∃ j, (vi V0 x 37).toNat ≤ j ∧ j < (vi V x 37).toNat ∧ wt V x j / UU = 14) (hp0 : 0 ≤ vi V x 31) (hf : vi V1 x 33 = -1000 - vi V x 31) : SK V0 V1 x 0 := by
  intro src e h200 hTP hNS g37 g0 g8
  obtain ⟨⟨a1, a2, a3, a4, a5⟩, h1⟩ := h src e h200 hTP hNS g37 g0 g8
  have hsr := (hT src e hTP).sg hp0
  rw [hsr] at hs1 hs2
  have hno := sumN_no hs1
  have hmem : ∀ (k j : Nat), j < k → wt V x ((vi V0 x 37).toNat + j) / UU = 14 → (14 : Int) ∈ stL (wt V x) (vi V0 x 37).toNat k := by
    intro k
    induction k with
    | zero => intro j hj; omega
    | succ k ih =>
      intro j hj hv
      show (14 : Int) ∈ wt V x ((vi V0 x 37).toNat + k) / 1048576 :: stL (wt V x) (vi V0 x 37).toNat k
      by_cases hjk : j = k
      · subst hjk
        exact List.mem_cons.mpr (Or.inl hv.symm)
      · exact List.mem_cons.mpr (Or.inr (ih j (by omega) hv))
  obtain ⟨j, j1, j2, j3⟩ := hin
  have hin2 : (14 : Int) ∈ KL V x (vi V0 x 37).toNat := hmem _ (j - (vi V0 x 37).toNat) (by omega) (by rw [show (vi V0 x 37).toNat + (j - (vi V0 x 37).toNat) = j by omega]; exact j3)
  refine ⟨fun q => absurd rfl q, fun _ => ⟨(1, (vi V x 31).toNat), ?_, ?_⟩⟩
  · rw [h1]
    exact conS_unc h200 _ _ a4 hin2 hs2 hno.2 hno.1
  · unfold ER
    show _ = -1000 * 1 - (((vi V x 31).toNat : Nat) : Int)
    omega
/-- the sum ends -/
theorem SK.fin {X : Int} (h : SKi V0 V x) (hT : ∀ src e, TP V0 x src e → TP V x src e) (hlow : ∀ j, j < (vi V0 x 37).toNat → wt V x j = wt V0 x j) (hck : CK V V1 x 1) (hs1 : ¬ 0 ≤ sumN (sgn V x)) (hw : vi V1 x 37 = vi V0 x 37) (hp0 : 0 ≤ vi V x 31) (hp2 : vi V1 x 31 = vi V x 31) (ho2 : vi V1 x 35 = vi V x 35) (hX : X ≠ 0) : SK V0 V1 x X := by
  intro src e h200 hTP hNS g37 g0 g8
  obtain ⟨⟨a1, a2, a3, a4, a5⟩, h1⟩ := h src e h200 hTP hNS g37 g0 g8
  have hsr := (hT src e hTP).sg hp0
  rw [hsr] at hs1
  have hno := sumN_no hs1
  obtain ⟨c1, c2, c3, c4⟩ := hck src e (vi V0 x 37).toNat (vi V x 35).toNat h200 (hT src e hTP) a3 (fun j hj => by rw [hlow j hj]; exact hNS j hj) a4 (fun _ => hno.2)
  have hK : KL V1 x (vi V0 x 37).toNat = [] := by rw [← hw]; exact KL_nil
  rw [hK] at c3 c4
  have hnb : nB [] = 0 := rfl
  rw [hnb] at c3
  refine ⟨fun _ => ⟨by omega, ?_⟩, fun q => absurd q hX⟩
  have hr1 : rdS src e (Tm V1 x).1 = rdS src e (vi V x 31).toNat := by
    show rdS src e (vi V1 x 31).toNat = _
    rw [hp2]
  rw [h1, c4, conS_e h200 (by rw [hr1]; exact hno.2) (by rw [hr1]; exact hno.1)]
end S5
