/-! ### the class's reader, method by method -/
section T2
variable {K : Kmap} {V V1 V2 V3 V4 V5 : Vmap} {x : Nat} {f g : (Nat → Int) → Nat → PS → PE}
theorem sgC_no (h : ¬ (0 ≤ vi V x 3 ∧ vi V x 3 < vi V x 1 ∧ vi V x 3 < 400)) : sgC V x = -1 := by unfold sgC; rw [if_neg h]
theorem sgC_yes {q : Nat} (hq : vq V x 0 = q) (h : 0 ≤ vi V x 3 ∧ vi V x 3 < vi V x 1 ∧ vi V x 3 < 400) : sgC V x = vi V q (vi V x 3).toNat := by unfold sgC; rw [if_pos h, hq]
/-- it has fallen before -/
theorem CR0.bad {a b l : Nat} (h : vi V x 5 ≠ 0) : CR0 K V V x a b l f := fun src e => ⟨fun s hs _ => absurd hs.2.1 h, fun q hq => hq⟩
theorem CRg.bad {a b l : Nat} (h : vi V x 5 ≠ 0) : CRg K V V x a b l f := ⟨CR0.bad h, SFR.rf⟩
theorem RFS.ne0 {c w : Int} (h : RFS V V1 x c w) (rc : ir c) (hc : c ≠ 0) : vi V1 x 5 ≠ 0 := by
  rcases h with ⟨h, rfl⟩ | ⟨-, W, e1, e2⟩
  · exact h
  · rw [vi_up e2 (Or.inr (by decide)), upd2_int e1 rc]; exact hc
/-- nothing that it reads by is put -/
theorem FELL.put {src : Nat → Int} {e k : Nat} {v : Value} {q : Int × Nat} (h : FELL K V x src e q) (hx : K x = some (0, 4)) (hW : WT K V) (e1 : V1 = upd2 V x k v) (hk : k = 3 ∨ k = 4) : FELL K V1 x src e q := by
  obtain ⟨hS, h5, h6, h7⟩ := h
  exact ⟨(hS.put hx hW e1 (by omega)).1, by rw [vi_up e1 (Or.inr (by omega))]; exact h5, by rw [vi_up e1 (Or.inr (by omega))]; exact h6, h7⟩
/-- a call that doesn't touch what is read by, nor what is read -/
def scbits (ws : Nat) : Bool := [keyK (0, 4) 0, keyK (0, 4) 1, keyK (0, 4) 2, keyK (0, 4) 3, keyK (0, 4) 5, keyK (0, 4) 6, keyK (0, 8) 3, keyK (0, 8) 4, abase + 145, abase + 154].all fun b => !ws.testBit b
theorem CR0.fr {ws : Nat} (hF : FR ws K V K V1) (hx : K x = some (0, 4)) (hW : WT K V) (hb : scbits ws = true) : CR0 K V V1 x 0 0 0 (fun _ _ s => .ok s) := by
  simp only [scbits, List.all_cons, List.all_nil, Bool.and_true, Bool.and_eq_true, Bool.not_eq_true'] at hb
  obtain ⟨b0, b1, b2, b3, b5, b6, c3, c4, d1, d2⟩ := hb
  have hT : K (scT V x) = some (0, 8) := (hW.ref hx (j := 2) (Nat.le_of_ble_eq_true rfl) rfl).2
  obtain ⟨n, hn⟩ := (hW.ref hx (j := 0) (Nat.le_of_ble_eq_true rfl) rfl).2
  have t1 : scT V1 x = scT V x := by unfold scT vq; rw [hF x _ 2 hx hx b2]
  have t2 : scN V1 x = scN V x := by unfold scN; rw [t1]; exact vi_fr hF hT hT c4
  have t3 : scS V1 x = scS V x := by unfold scS; rw [t1]; unfold vq; rw [hF _ _ 3 hT hT c3]
  have t0 : vq V1 x 0 = vq V x 0 := by unfold vq; rw [hF x _ 0 hx hx b0]
  have hS : ∀ src e, SCO K V x src e → SCO K V1 x src e := fun src e h => by
    obtain ⟨h1, h2, ⟨N, h3, h3'⟩, h4⟩ := h
    exact ⟨by rw [vi_fr hF hx hx b1]; exact h1, h2, ⟨N, h3, by rw [t3]; exact h3'⟩, fun j hj => by rw [t0, vi_frA hF hn hn d2]; exact h4 j hj⟩
  have i3 := vi_fr hF hx hx b3
  have i5 := vi_fr hF hx hx b5
  have i6 := vi_fr hF hx hx b6
  refine fun src e => ⟨fun s hs hk => ?_, fun q hq => ?_⟩
  · obtain ⟨hs1, h5, hTm, h3, hN, hl, hsm⟩ := hs
    obtain ⟨N, hN1, hN2⟩ := hs1.2.2.1
    refine ⟨⟨hS src e hs1, by rw [i5]; exact h5, ?_, by rw [i3]; exact h3, by rw [t2]; exact hN, hl, hsm.eq t2 t3 (fun j => vi_frA hF hN2 hN2 d1)⟩, by omega⟩
    rw [← hTm]
    unfold TmC
    rw [i3, t2, t3]
    congr 2
    funext j
    rw [vi_frA hF hN2 hN2 d1]
  · obtain ⟨hs1, h5, h6, h7⟩ := hq
    exact ⟨hS src e hs1, by rw [i5]; exact h5, by rw [i6]; exact h6, h7⟩
theorem CRg.fr {ws : Nat} (hF : FR ws K V K V1) (hx : K x = some (0, 4)) (hW : WT K V) (hb : scbits ws = true) (hs : SFR V V1 x) : CRg K V V1 x 0 0 0 (fun _ _ s => .ok s) := ⟨CR0.fr hF hx hW hb, hs⟩
/-- take(): another sign -/
theorem TAK.no0 {c w : Int} (hne : sgC V x ≠ c) (h : RFS V V1 x 1 w) (hx : K x = some (0, 4)) (hW : WT K V) (rw_ : ir w) (hw : w = vi V x 3) : CR0 K V V1 x 0 1 0 (fun src e => tak src e c) := fun src e => ⟨fun s hs hn => by
  have h1 := ((CR0.rfs h hx hW (ir_c rfl) (by decide) rw_ hw) src e).1 s hs hn
  have h2 : tak src e c s = .error (1, s.1) := by
    unfold tak
    rw [if_neg]
    intro q
    exact hne (by rw [hs.sg]; exact q)
  show RES K V1 x src e 1 0 s.2.1 s.1 (tak src e c s)
  rw [h2]
  exact h1, ((CR0.rfs h hx hW (ir_c rfl) (by decide) rw_ hw) src e).2⟩
theorem TAK.no {c w : Int} (hne : sgC V x ≠ c) (h : RFS V V1 x 1 w) (hx : K x = some (0, 4)) (hW : WT K V) (rw_ : ir w) (hw : w = vi V x 3) : CRg K V V1 x 0 1 0 (fun src e => tak src e c) := ⟨TAK.no0 hne h hx hW rw_ hw, h.sfr hx hW (ir_c rfl)⟩
/-- deepen() -/
def depS (c : Int) (d : Nat) (src : Nat → Int) (e : Nat) (s : PS) : PE := if rdS src e s.1 = c then (if 8 ≤ d then .error (5, s.1) else .ok (adv s)) else .error (1, s.1)
theorem DEP.no {c w : Int} {v : Value} {d : Nat} (hne : sgC V x ≠ c) (h : RFS V V1 x 1 w) (hx : K x = some (0, 4)) (hW : WT K V) (hW1 : WT K V1) (rw_ : ir w) (hw : w = vi V x 3) (e2 : V2 = upd2 V1 x 4 v) : CRg K V V2 x 0 1 0 (depS c d) :=
  ((TAK.no hne h hx hW rw_ hw).bnd (CRg.dep hx hW1 e2) (a := 0) (b := 1) (l := 0) (by omega) (by omega) (by omega)).to fun src e s hs => by
    have h2 : rdS src e s.1 ≠ c := fun q => hne (by rw [hs.sg]; exact q)
    unfold tak depS
    rw [if_neg h2, if_neg h2, bnd_er]
theorem DEP.deep0 {c w : Int} {v : Value} {d : Nat} (hc : sgC V x = c) (hd : 8 ≤ d) (h : RFS V V1 x 5 w) (hx : K x = some (0, 4)) (hW : WT K V) (hW1 : WT K V1) (rw_ : ir w) (hw : w = vi V x 3) (e2 : V2 = upd2 V1 x 4 v)   : CR0 K V V2 x 0 1 0 (depS c d) := fun src e =>
  have h0 := ((CR0.rfs h hx hW (ir_c rfl) (by decide) rw_ hw).bnd (CR0.dep hx hW1 e2) (a := 0) (b := 0) (l := 0) (by omega) (by omega) (by omega)) src e
  ⟨fun s hs hn => by
    have h1 := h0.1 s hs hn
    have h2 : depS c d src e s = .error (5, s.1) := by
      unfold depS
      rw [if_pos (by rw [← hs.sg]; exact hc), if_pos hd]
    rw [h2]
    exact h1, h0.2⟩
theorem DEP.deep {c w : Int} {v : Value} {d : Nat} (hc : sgC V x = c) (hd : 8 ≤ d) (h : RFS V V1 x 5 w) (hx : K x = some (0, 4)) (hW : WT K V) (hW1 : WT K V1) (rw_ : ir w) (hw : w = vi V x 3) (e2 : V2 = upd2 V1 x 4 v) : CRg K V V2 x 0 1 0 (depS c d) := ⟨DEP.deep0 hc hd h hx hW hW1 rw_ hw e2, (h.sfr hx hW (ir_c rfl)).tr (SFR.put hx hW1 e2 (by decide))⟩
theorem DEP.yes {c Z : Int} {v : Value} {d : Nat} (hc : sgC V x = c) (hc0 : c ≠ -1) (hd : ¬ 8 ≤ d) (hx : K x = some (0, 4)) (hW : WT K V) (hW1 : WT K V1) (e1 : V1 = upd2 V x 3 (ti Z)) (hZ : ir (vi V x 3 + 1) → Z = vi V x 3 + 1) (rZ : ir Z) (e2 : V2 = upd2 V1 x 4 v) : CRg K V V2 x 0 1 0 (depS c d) :=
  ((CRg.adv hx hW hc hc0 e1 hZ rZ).bnd (CRg.dep hx hW1 e2) (a := 0) (b := 1) (l := 0) (by omega) (by omega) (by omega)).to fun src e s hs => by
    have h2 : rdS src e s.1 = c := by rw [← hs.sg]; exact hc
    unfold tak depS
    rw [if_pos h2, if_pos h2, if_neg hd, bnd_ok]
/-- Text.addStep(), of the text y -/
def ADD (K : Kmap) (V V1 : Vmap) (y : Nat) (k o X : Int) : Prop := X = vi V y 4 ∧ ∃ W Z, ir Z ∧ (ir (X + 1) → Z = X + 1) ∧ V1 = upd2 W y 4 (ti Z) ∧ ∀ N, K (vq V y 3) = some (145, N) → W = rpv V (vq V y 3) N X (wor (wshl o 5) k)
theorem scs_at (hx : K x = some (0, 4)) (hW : WT K V) : K (scT V x) = some (0, 8) ∧ (∃ N, K (scS V x) = some (145, N)) ∧ ∃ n, K (vq V x 0) = some (154, n) := by
  have hT : K (scT V x) = some (0, 8) := (hW.ref hx (j := 2) (Nat.le_of_ble_eq_true rfl) rfl).2
  exact ⟨hT, (hW.ref hT (j := 3) (Nat.le_of_ble_eq_true rfl) rfl).2, (hW.ref hx (j := 0) (Nat.le_of_ble_eq_true rfl) rfl).2⟩
/-- the row of steps is written -/
theorem SCO.row {src : Nat → Int} {e N : Nat} {i v : Int} (h : SCO K V x src e) (hx : K x = some (0, 4)) (hW : WT K V) (hN : K (scS V x) = some (145, N)) (e1 : V1 = rpv V (scS V x) N i v) : SCO K V1 x src e ∧ scT V1 x = scT V x ∧ scN V1 x = scN V x ∧ scS V1 x = scS V x ∧ (∀ k, vi V1 x k = vi V x k) := by
  obtain ⟨hT, -, n, hn⟩ := scs_at hx hW
  unfold rpv at e1
  split at e1
  · have t1 : scT V1 x = scT V x := vq_up e1 (Or.inl (K_ne hx hN (by simp)))
    have t2 : scN V1 x = scN V x := by unfold scN; rw [t1]; exact vi_up e1 (Or.inl (K_ne hT hN (by simp)))
    have t3 : scS V1 x = scS V x := by unfold scS; rw [t1]; exact vq_up e1 (Or.inl (K_ne hT hN (by simp)))
    obtain ⟨h1, h2, ⟨M, h3, h3'⟩, h4⟩ := h
    refine ⟨⟨by rw [vi_up e1 (Or.inl (K_ne hx hN (by simp)))]; exact h1, h2, ⟨M, h3, by rw [t3]; exact h3'⟩, fun j hj => ?_⟩, t1, t2, t3, fun k => vi_up e1 (Or.inl (K_ne hx hN (by simp)))⟩
    rw [vq_up e1 (Or.inl (K_ne hx hN (by simp))), vi_up e1 (Or.inl (K_ne hn hN (by simp)))]
    exact h4 j hj
  · subst e1
    exact ⟨h, rfl, rfl, rfl, fun _ => rfl⟩
theorem SCO.cnt {src : Nat → Int} {e : Nat} {v : Value} (h : SCO K V x src e) (hx : K x = some (0, 4)) (hW : WT K V) (e1 : V1 = upd2 V (scT V x) 4 v) : SCO K V1 x src e ∧ scT V1 x = scT V x ∧ scS V1 x = scS V x ∧ (∀ k, vi V1 x k = vi V x k) ∧ ∀ j, vi V1 (scS V x) j = vi V (scS V x) j := by
  obtain ⟨hT, ⟨M, hM⟩, n, hn⟩ := scs_at hx hW
  have hne := K_ne hx hT (by decide)
  have t1 : scT V1 x = scT V x := vq_up e1 (Or.inl hne)
  have t3 : scS V1 x = scS V x := by unfold scS; rw [t1]; exact vq_up e1 (Or.inr (by decide))
  obtain ⟨h1, h2, ⟨N, h3, h3'⟩, h4⟩ := h
  refine ⟨⟨by rw [vi_up e1 (Or.inl hne)]; exact h1, h2, ⟨N, h3, by rw [t3]; exact h3'⟩, fun j hj => ?_⟩, t1, t3, fun k => vi_up e1 (Or.inl hne), fun j => vi_up e1 (Or.inl (K_ne hM hT (by simp)))⟩
  rw [vq_up e1 (Or.inl hne), vi_up e1 (Or.inl (K_ne hn hT (by simp)))]
  exact h4 j hj
theorem WT.rpv {a N t : Nat} {i v : Int} (h : WT K V) (ha : K a = some (t + 1, N)) (he : fT (t + 1, N) 0 = (0, 0, 0, -2147483648, 2147483647)) (rv : ir v) : WT K (rpv V a N i v) := by
  unfold Jvm.Pilot.@@N@@.rpv
  split
  · exact h.put ha (by rw [show fT (t + 1, N) i.toNat = fT (t + 1, N) 0 from rfl, he]; exact okv_int rv rv.1 rv.2) rfl
  · exact h
/-- a step is said -/
theorem CR0.add {k o X : Int} (h : ADD K V V1 (scT V x) k o X) (hx : K x = some (0, 4)) (hW : WT K V) (k0 : 0 ≤ k) (hk : k < 32) (h0 : 0 ≤ o) (ho : o < 1048576) : CR0 K V V1 x 1 0 1 (fun _ _ s => .ok (emt s (1048576 * trK k + o))) := by
  obtain ⟨hT, ⟨N, hN⟩, n, hn⟩ := scs_at hx hW
  obtain ⟨hX, W, Z, rZ, hZ, e2, hWr⟩ := h
  have e1 : W = rpv V (scS V x) N X (wor (wshl o 5) k) := hWr N hN
  have hWW : WT K W := e1 ▸ hW.rpv hN rfl wor_ir
  refine fun src e => ⟨fun s hs hn1 => ?_, fun q hq => ?_⟩
  · obtain ⟨hS, h5, hTm, h3, hNn, hl, hsm⟩ := hs
    obtain ⟨a1, a2, a3, a4, a5⟩ := hS.row hx hW hN e1
    have e2' : V1 = upd2 W (scT W x) 4 (ti Z) := by rw [a2]; exact e2
    obtain ⟨b1, b2, b3, b4, b5⟩ := a1.cnt hx hWW e2'
    obtain ⟨M, hM1, hM2⟩ := hS.2.2.1
    have hMN : M = N := by rw [hN] at hM2; cases hM2; rfl
    subst hMN
    have e200 := hS.2.1
    have hXn : X = scN V x := hX
    have hp : s.1 = (vi V x 3).toNat := by rw [← hTm]; rfl
    have hnn : s.2.1 = (scN V x).toNat := by rw [← hTm]; rfl
    have hr : (0 ≤ X ∧ X < (M : Int)) := by omega
    have hZ1 : Z = X + 1 := hZ ⟨by omega, by omega⟩
    have i3 : vi V1 x 3 = vi V x 3 := (b4 3).trans (a5 3)
    have hN1 : scN V1 x = scN V x + 1 := by
      unfold scN
      rw [b2, e2', upd2_int rfl rZ, hZ1, hXn]
      rfl
    have hSS : scS V1 x = scS V x := b3.trans a4
    have hj : ∀ j, vi V1 (scS V1 x) j = vi W (scS V x) j := fun j => by rw [hSS]; have := b5 j; rw [a4] at this; exact this
    have e1' : W = upd2 V (scS V x) X.toNat (ti (wor (wshl o 5) k)) := rpv_put e1 hr.1 hr.2
    refine ⟨⟨b1, by rw [b4, a5]; exact h5, ?_, by omega, by omega, hl, ?_⟩, by show s.2.1 + 1 + s.1 + 0 ≤ s.1 + s.2.1 + 1 ∧ s.2.1 ≤ s.2.1 + 1; omega⟩
    · rw [← hTm]
      show ((vi V1 x 3).toNat, (scN V1 x).toNat, fun j => cvt (vi V1 (scS V1 x) j)) = ((vi V x 3).toNat, (scN V x).toNat + 1, updf (fun j => cvt (vi V (scS V x) j)) (scN V x).toNat (1048576 * trK k + o))
      rw [i3, hN1, show (scN V x + 1).toNat = (scN V x).toNat + 1 by omega]
      congr 2
      funext j
      rw [hj j]
      unfold updf
      by_cases hjx : j = (scN V x).toNat
      · rw [if_pos hjx, hjx, ← hXn, upd2_int e1' wor_ir]
        exact cvt_stp h0 ho k0 hk
      · rw [if_neg hjx, vi_up e1' (Or.inr (by rw [hXn]; exact hjx))]
    · intro j hj1
      rw [hN1] at hj1
      rw [hj j]
      by_cases hjx : j = (scN V x).toNat
      · rw [hjx, ← hXn, upd2_int e1' wor_ir]
        obtain ⟨o', rfl⟩ := Int.eq_ofNat_of_zero_le h0
        obtain ⟨k', rfl⟩ := Int.eq_ofNat_of_zero_le k0
        rw [(stp_parts (o := o') (k := k') (by omega) (by omega)).2.2]
        omega
      · rw [vi_up e1' (Or.inr (by rw [hXn]; exact hjx))]
        exact hsm j (by omega)
  · obtain ⟨hS, h5, h6, h7⟩ := hq
    obtain ⟨a1, a2, a3, a4, a5⟩ := hS.row hx hW hN e1
    have e2' : V1 = upd2 W (scT W x) 4 (ti Z) := by rw [a2]; exact e2
    obtain ⟨b1, b2, b3, b4, b5⟩ := a1.cnt hx hWW e2'
    exact ⟨b1, by rw [b4, a5]; exact h5, by rw [b4, a5]; exact h6, h7⟩
theorem SFR.row {N : Nat} {i v : Int} (hx : K x = some (0, 4)) (hW : WT K V) (hN : K (scS V x) = some (145, N)) (e1 : V1 = rpv V (scS V x) N i v) : SFR V V1 x := by
  obtain ⟨hT, hC, -, -⟩ := sc_own hx hW
  unfold rpv at e1
  split at e1
  · have n0 : x ≠ scS V x := K_ne hx hN (by simp)
    have n1 : scT V x ≠ scS V x := K_ne hT hN (by simp)
    have n2 : cbT V x ≠ scS V x := K_ne hC hN (by simp)
    have t1 : scT V1 x = scT V x := vq_up e1 (Or.inl n0)
    have t3 : cbT V1 x = cbT V x := by unfold cbT; rw [t1]; exact vq_up e1 (Or.inl n1)
    exact ⟨t1, by conv => lhs; unfold scS
                  rw [t1]; exact vq_up e1 (Or.inl n1), t3, by conv => lhs; unfold cbR
                                                              rw [t3]; exact vq_up e1 (Or.inl n2), vq_up e1 (Or.inl n0), vi_up e1 (Or.inl n0), fun o _ _ h _ _ => funext fun j => uq_ne e1 (Or.inl h)⟩
  · subst e1; exact SFR.rf
theorem SFR.cnt {v : Value} (hx : K x = some (0, 4)) (hW : WT K V) (e1 : V1 = upd2 V (scT V x) 4 v) : SFR V V1 x := by
  obtain ⟨hT, hC, -, -⟩ := sc_own hx hW
  have n0 : x ≠ scT V x := K_ne hx hT (by decide)
  have n2 : cbT V x ≠ scT V x := K_ne hC hT (by decide)
  have t1 : scT V1 x = scT V x := vq_up e1 (Or.inl n0)
  have t3 : cbT V1 x = cbT V x := by conv => lhs; unfold cbT
                                     rw [t1]; exact vq_up e1 (Or.inr (by decide))
  exact ⟨t1, by conv => lhs; unfold scS
                rw [t1]; exact vq_up e1 (Or.inr (by decide)), t3, by conv => lhs; unfold cbR
                                                                     rw [t3]; exact vq_up e1 (Or.inl n2), vq_up e1 (Or.inl n0), vi_up e1 (Or.inl n0), fun o _ h _ _ _ => funext fun j => uq_ne e1 (Or.inl h)⟩
theorem ADD.sfr {k o X : Int} (h : ADD K V V1 (scT V x) k o X) (hx : K x = some (0, 4)) (hW : WT K V) : SFR V V1 x := by
  obtain ⟨hT, ⟨N, hN⟩, n, hn⟩ := scs_at hx hW
  obtain ⟨hX, W, Z, rZ, hZ, e2, hWr⟩ := h
  have e1 : W = rpv V (scS V x) N X (wor (wshl o 5) k) := hWr N hN
  have hWW : WT K W := e1 ▸ hW.rpv hN rfl wor_ir
  have s1 := SFR.row hx hW hN e1
  exact s1.tr (SFR.cnt hx hWW (by rw [s1.1]; exact e2))
theorem CRg.add {k o X : Int} (h : ADD K V V1 (scT V x) k o X) (hx : K x = some (0, 4)) (hW : WT K V) (k0 : 0 ≤ k) (hk : k < 32) (h0 : 0 ≤ o) (ho : o < 1048576) : CRg K V V1 x 1 0 1 (fun _ _ s => .ok (emt s (1048576 * trK k + o))) := ⟨CR0.add h hx hW k0 hk h0 ho, h.sfr hx hW⟩
/-- the number of the step that is said -/
theorem ADD.num {k o X : Int} {src : Nat → Int} {e : Nat} {s : PS} (h : ADD K V V1 (scT V x) k o X) (hs : AT K V x src e s) : X = (s.2.1 : Int) := by
  obtain ⟨hS, h5, hTm, h3, hNn, hl, hsm⟩ := hs
  have hX : X = scN V x := h.1
  have hnn : s.2.1 = (scN V x).toNat := by rw [← hTm]; rfl
  omega
/-- Text.lead(), of the text y -/
def LED (K : Kmap) (V V1 : Vmap) (y : Nat) (p : Int) : Prop := (p = -1 ∧ V1 = V) ∨ (p ≠ -1 ∧ ∀ N, K (vq V y 3) = some (145, N) → V1 = rpv V (vq V y 3) N p (wor (wshl (vi V y 4) 5) (wand (rgv V (vq V y 3) N p) 31)))
theorem LED.at {p : Int} {j : Option Nat} (h : LED K V V1 (scT V x) p) (hx : K x = some (0, 4)) (hW : WT K V) (hj : (p = -1 ∧ j = none) ∨ ∃ k : Nat, p = (k : Int) ∧ j = some k) {src : Nat → Int} {e : Nat} {s : PS} (hs : AT K V x src e s) (hk : ∀ k, j = some k → k < s.2.1) (hn1 : s.2.1 ≤ s.1) : AT K V1 x src e (pat s j) := by
  obtain ⟨hT, ⟨N, hN⟩, n, hn⟩ := scs_at hx hW
  rcases h with ⟨rfl, rfl⟩ | ⟨hp, hr⟩
  · rcases hj with ⟨-, rfl⟩ | ⟨k, hk1, -⟩
    · exact hs
    · omega
  · rcases hj with ⟨q, -⟩ | ⟨k, rfl, rfl⟩
    · exact absurd q hp
    · have e1 : V1 = rpv V (scS V x) N (k : Int) (wor (wshl (scN V x) 5) (wand (rgv V (scS V x) N (k : Int)) 31)) := hr N hN
      have hks := hk k rfl
      obtain ⟨hS, h5, hTm, h3, hNn, hl, hsm⟩ := hs
      obtain ⟨a1, a2, a3, a4, a5⟩ := hS.row hx hW hN e1
      obtain ⟨M, hM1, hM2⟩ := hS.2.2.1
      have hMN : M = N := by rw [hN] at hM2; cases hM2; rfl
      subst hMN
      have e200 := hS.2.1
      have hp1 : s.1 = (vi V x 3).toNat := by rw [← hTm]; rfl
      have hnn : s.2.1 = (scN V x).toNat := by rw [← hTm]; rfl
      have e1' : V1 = upd2 V (scS V x) k (ti (wor (wshl (scN V x) 5) (wand (vi V (scS V x) k) 31))) := by
        have := rpv_put e1 (by omega) (by omega)
        rw [← rgv_in (by omega) (by omega), Int.toNat_natCast] at this
        exact this
      refine ⟨a1, by rw [a5]; exact h5, ?_, by rw [a5]; exact h3, by rw [a3]; exact hNn, by rw [pat_1]; exact hl, ?_⟩
      · rw [← hTm]
        show ((vi V1 x 3).toNat, (scN V1 x).toNat, fun j => cvt (vi V1 (scS V1 x) j)) = ((vi V x 3).toNat, (scN V x).toNat, updf (fun j => cvt (vi V (scS V x) j)) k (1048576 * (cvt (vi V (scS V x) k) / 1048576) + ((scN V x).toNat : Int)))
        rw [a5, a3, a4]
        congr 2
        funext j
        unfold updf
        by_cases hjk : j = k
        · subst hjk
          rw [if_pos rfl, upd2_int e1' wor_ir, cvt_stp hNn (by omega) wand31.1 wand31.2]
          have hq : wshr (vi V (scS V x) j) 5 = vi V (scS V x) j / 32 := wshr5 vi_ir
          have hs2 := hsm j (by omega)
          have hc : cvt (vi V (scS V x) j) / 1048576 = trK (wand (vi V (scS V x) j) 31) := by
            unfold cvt
            rw [hq]
            omega
          rw [hc]
          omega
        · rw [if_neg hjk, vi_up e1' (Or.inr hjk)]
      · intro j hj1
        rw [a3] at hj1
        rw [a4]
        by_cases hjk : j = k
        · subst hjk
          rw [upd2_int e1' wor_ir]
          obtain ⟨o', ho'⟩ := Int.eq_ofNat_of_zero_le hNn
          obtain ⟨k', hk'⟩ := Int.eq_ofNat_of_zero_le (wand31 (a := vi V (scS V x) j)).1
          have h32 := (wand31 (a := vi V (scS V x) j)).2
          rw [ho', hk', (stp_parts (o := o') (k := k') (by omega) (by omega)).2.2]
          omega
        · rw [vi_up e1' (Or.inr hjk)]
          exact hsm j hj1
theorem LED.sfr {p : Int} (h : LED K V V1 (scT V x) p) (hx : K x = some (0, 4)) (hW : WT K V) : SFR V V1 x := by
  obtain ⟨hT, ⟨N, hN⟩, n, hn⟩ := scs_at hx hW
  rcases h with ⟨-, rfl⟩ | ⟨hp, hr⟩
  · exact SFR.rf
  · exact SFR.row hx hW hN (hr N hN)
theorem LED.fell {p : Int} (h : LED K V V1 (scT V x) p) (hx : K x = some (0, 4)) (hW : WT K V) {src : Nat → Int} {e : Nat} {q : Int × Nat} (hq : FELL K V x src e q) : FELL K V1 x src e q := by
  obtain ⟨hT, ⟨N, hN⟩, n, hn⟩ := scs_at hx hW
  rcases h with ⟨rfl, rfl⟩ | ⟨hp, hr⟩
  · exact hq
  · obtain ⟨hS, h5, h6, h7⟩ := hq
    obtain ⟨a1, a2, a3, a4, a5⟩ := hS.row hx hW hN (hr N hN)
    exact ⟨a1, by rw [a5]; exact h5, by rw [a5]; exact h6, h7⟩
theorem LED.no {y : Nat} {p : Int} (h : p = -1) : LED K V V y p := Or.inl ⟨h, rfl⟩
theorem LED.yes {y N : Nat} {p X : Int} (hp : p ≠ -1) (hK : K (vq V y 3) = some (145, N)) (h1 : X = rgv V (vq V y 3) N p) (h2 : V1 = rpv V (vq V y 3) N p (wor (wshl (vi V y 4) 5) (wand X 31))) : LED K V V1 y p := Or.inr ⟨hp, fun N' h' => by
  have e : N' = N := by rw [hK] at h'; cases h'; rfl
  subst e
  rw [← h1]
  exact h2⟩
/-- the text is where it was -/
theorem LED.T {p : Int} (h : LED K V V1 (scT V x) p) (hx : K x = some (0, 4)) (hW : WT K V) : scT V1 x = scT V x := by
  obtain ⟨hT, ⟨N, hN⟩, n, hn⟩ := scs_at hx hW
  rcases h with ⟨-, rfl⟩ | ⟨hp, hr⟩
  · rfl
  · have e1 := hr N hN
    unfold rpv at e1
    split at e1
    · exact vq_up e1 (Or.inl (K_ne hx hN (by simp)))
    · subst e1; rfl
theorem ADD.mk {y N : Nat} {W : Vmap} {k o z Z : Int} (hz : z = vi V y 4) (hK : K (vq V y 3) = some (145, N)) (h1 : W = rpv V (vq V y 3) N z (wor (wshl o 5) k)) (hl : vi W y 4 = vi V y 4) (hn : ir (vi W y 4 + 1) → Z = vi W y 4 + 1) (rZ : ir Z) (e : V1 = upd2 W y 4 (ti Z)) : ADD K V V1 y k o z := by
  refine ⟨hz, W, Z, rZ, fun h => ?_, e, fun N' h' => ?_⟩
  · rw [hz, ← hl]
    exact hn (by rw [hl, ← hz]; exact h)
  · have e : N' = N := by rw [hK] at h'; cases h'; rfl
    subst e
    exact h1
end T2
