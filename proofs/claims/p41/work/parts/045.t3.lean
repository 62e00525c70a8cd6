/-! ### the class's reader: numbers, factors, sums -/
theorem bnd_id {r : PE} : bnd r (fun s => .ok s) = r := by cases r <;> rfl
def terD (src : Nat → Int) (e d : Nat) (s : PS) : PE := terF src e (9 - d) d s
def parD (src : Nat → Int) (e d : Nat) (s : PS) : PE := orG src e (parG src e (pieD src e d)) s
/-- a number, as it moves the place -/
def numP (src : Nat → Int) (e : Nat) (most : Int) (s : PS) : PE := match numS src e most s.1 with
  | .ok r => .ok (r.1, s.2)
  | .error q => .error q
section T3
variable {K : Kmap} {V V1 V2 V3 V4 V5 : Vmap} {x d d1 : Nat}
def DGT (K : Kmap) (V V1 : Vmap) (x : Nat) (most X : Int) : Prop := CRg K V V1 x 0 1 0 (fun src e => numP src e most) ∧ ∀ src e s r, AT K V x src e s → numS src e most s.1 = .ok r → X = r.2
/-- in digits() -/
def DGI (K : Kmap) (V0 V : Vmap) (x : Nat) (n i : Int) : Prop := SFR V0 V x ∧ ∀ src e, (∀ s, AT K V0 x src e s → AT K V x src e (s.1 + i.toNat, s.2) ∧ numL src e 6 s.1 0 = numL src e (6 - i.toNat) (s.1 + i.toNat) n ∧ (0 < i → dgB (rdS src e s.1) = true)) ∧ ∀ q, FELL K V0 x src e q → FELL K V x src e q
theorem DGI.nil : DGI K V V x 0 0 := ⟨SFR.rf, fun src e => ⟨fun s hs => ⟨hs, rfl, fun h => absurd h (by decide)⟩, fun q hq => hq⟩⟩
theorem DGI.step {n i n1 Z : Int} (h : DGI K V V1 x n i) (hx : K x = some (0, 4)) (hW : WT K V1) (h0 : 0 ≤ i) (h6 : i < 6) (hf : vi V1 x 5 = 0) (hd : 48 ≤ sgC V1 x ∧ sgC V1 x ≤ 57) (hn : n1 = 10 * n + sgC V1 x - 48) (e1 : V2 = upd2 V1 x 3 (ti Z)) (hZ : ir (vi V1 x 3 + 1) → Z = vi V1 x 3 + 1) (rZ : ir Z) : DGI K V V2 x n1 (i + 1) := ⟨h.1.tr (SFR.put hx hW e1 (by decide)), fun src e => ⟨fun s hs => by
  obtain ⟨a1, a2, a3⟩ := (h.2 src e).1 s hs
  have hsg : sgC V1 x = rdS src e (s.1 + i.toNat) := a1.sg
  have hdg : dgB (rdS src e (s.1 + i.toNat)) = true := by
    unfold dgB
    rw [← hsg]
    exact decide_eq_true hd
  have hstep : AT K V2 x src e (s.1 + i.toNat + 1, s.2) := by
    obtain ⟨hS, h5, hT, h3, hN, hl, hsm⟩ := a1
    obtain ⟨p1, p2, p3, p4, p5⟩ := hS.put hx hW e1 (by omega)
    have hlt := rdS_lt (src := src) (e := e) (p := s.1 + i.toNat) (by rw [← hsg]; omega)
    have e200 := hS.2.1
    have hs1 : s.1 + i.toNat = (vi V1 x 3).toNat := by have := congrArg Prod.fst hT; exact this.symm
    have hZ1 := hZ ⟨by omega, by omega⟩
    have g3 : vi V2 x 3 = vi V1 x 3 + 1 := by rw [upd2_int e1 rZ, hZ1]
    refine ⟨p1, by rw [vi_up e1 (Or.inr (by decide))]; exact h5, ?_, by omega, by omega, by show s.1 + i.toNat + 1 ≤ e; omega, hsm.eq p3 p4 p5⟩
    rw [TmC_put hS hx hW e1 (by omega), g3]
    have h2 : (TmC V1 x).2 = s.2 := by rw [hT]
    rw [h2, show (vi V1 x 3 + 1).toNat = s.1 + i.toNat + 1 by omega]
  have ei : (i + 1).toNat = i.toNat + 1 := by omega
  refine ⟨by rw [ei]; exact hstep, ?_, fun _ => ?_⟩
  · rw [a2, ei, show 6 - i.toNat = (6 - (i.toNat + 1)) + 1 by omega]
    show (if dgB (rdS src e (s.1 + i.toNat)) then numL src e (6 - (i.toNat + 1)) (s.1 + i.toNat + 1) (10 * n + rdS src e (s.1 + i.toNat) - 48) else _) = _
    rw [if_pos hdg, ← hsg, ← hn]
    rfl
  · by_cases hi : 0 < i
    · exact a3 hi
    · have hi0 : i.toNat = 0 := by omega
      rw [hi0] at hdg
      exact hdg, fun q hq => ((h.2 src e).2 q hq).put hx hW e1 (Or.inl rfl)⟩⟩
theorem numL_no {src : Nat → Int} {e k p : Nat} {n : Int} (h : dgB (rdS src e p) = false) : numL src e k p n = (p, n) := by
  cases k with
  | zero => rfl
  | succ k =>
    show (if dgB (rdS src e p) then _ else _) = _
    rw [h]; rfl
/-- a seventh digit -/
theorem DGT.long {n i most X w : Int} (h : DGI K V V1 x n i) (h6 : i = 6) (hf : vi V1 x 5 = 0) (hd : 48 ≤ sgC V1 x ∧ sgC V1 x ≤ 57) (hR : RFS V1 V2 x 2 w) (hx : K x = some (0, 4)) (hW : WT K V1) (rw_ : ir w) (hw : w = vi V1 x 3) : DGT K V V2 x most X := by
  have key : ∀ src e s, AT K V x src e s → numS src e most s.1 = .error (2, s.1 + 6) ∧ AT K V1 x src e (s.1 + 6, s.2) := fun src e s hs => by
    obtain ⟨a1, a2, a3⟩ := (h.2 src e).1 s hs
    have hsg : sgC V1 x = rdS src e (s.1 + i.toNat) := a1.sg
    have hdg : dgB (rdS src e (s.1 + i.toNat)) = true := by
      unfold dgB
      rw [← hsg]
      exact decide_eq_true hd
    subst h6
    have e1 : numL src e 6 s.1 0 = (s.1 + 6, n) := a2
    refine ⟨?_, a1⟩
    unfold numS
    rw [if_pos (a3 (by decide)), e1]
    exact if_pos hdg
  refine ⟨⟨fun src e => ⟨fun s hs hn => ?_, fun q hq => ?_⟩, h.1.tr (hR.sfr hx hW (ir_c rfl))⟩, fun src e s r hs hr => ?_⟩
  · obtain ⟨k1, k2⟩ := key src e s hs
    have h2 : numP src e most s = .error (2, s.1 + 6) := by unfold numP; rw [k1]
    refine RES.er h2 ?_
    obtain ⟨hS, h5, hT, h3, hN, hl, hsm⟩ := k2
    rcases hR with ⟨q, -⟩ | ⟨-, W, e1, e2⟩
    · exact absurd h5 q
    · have hW1 : WT K W := hW.p5 hx (ir_c rfl) e1
      obtain ⟨p1, -⟩ := hS.put hx hW e1 (by omega)
      obtain ⟨r1, -⟩ := p1.put hx hW1 e2 (by omega)
      have hs1 : (vi V1 x 3).toNat = s.1 + 6 := congrArg Prod.fst hT
      refine ⟨r1, ?_, ?_, by show (2 : Int) ≠ 0; decide⟩
      · rw [vi_up e2 (Or.inr (by decide)), upd2_int e1 (ir_c rfl)]
      · rw [upd2_int e2 rw_, hw]
        show _ = ((s.1 + 6 : Nat) : Int)
        omega
  · have h1 := (h.2 src e).2 q hq
    rcases hR with ⟨-, rfl⟩ | ⟨q0, -⟩
    · exact h1
    · exact absurd (h1.2.1.symm.trans q0) h1.2.2.2
  · rw [(key src e s hs).1] at hr; cases hr
/-- the digits end: none, too large, or a number -/
theorem DGT.end {n i most X : Int} (h : DGI K V V1 x n i) (h0 : 0 ≤ i) (hx : K x = some (0, 4)) (hW : WT K V1) (hend : vi V1 x 5 ≠ 0 ∨ ¬ (48 ≤ sgC V1 x ∧ sgC V1 x ≤ 57)) (hc : (vi V1 x 3 = vi V x 3 ∧ ∃ w, ir w ∧ w = vi V1 x 3 ∧ RFS V1 V2 x 1 w) ∨ (vi V1 x 3 ≠ vi V x 3 ∧ most < n ∧ ∃ w, ir w ∧ w = vi V x 3 ∧ RFS V1 V2 x 3 w) ∨ (vi V1 x 3 ≠ vi V x 3 ∧ n ≤ most ∧ V2 = V1 ∧ X = n)) : DGT K V V2 x most X := by
  have key : ∀ src e s, AT K V x src e s → AT K V1 x src e (s.1 + i.toNat, s.2) ∧ dgB (rdS src e (s.1 + i.toNat)) = false ∧ numL src e 6 s.1 0 = (s.1 + i.toNat, n) ∧ (0 < i → dgB (rdS src e s.1) = true) ∧ (vi V1 x 3 = vi V x 3 ↔ i = 0) ∧ s.1 = (vi V x 3).toNat := fun src e s hs => by
    obtain ⟨a1, a2, a3⟩ := (h.2 src e).1 s hs
    have hsg : sgC V1 x = rdS src e (s.1 + i.toNat) := a1.sg
    have hdg : dgB (rdS src e (s.1 + i.toNat)) = false := by
      unfold dgB
      rw [← hsg]
      rcases hend with q | q
      · exact absurd a1.2.1 q
      · exact decide_eq_false q
    have b1 : s.1 = (vi V x 3).toNat := by rw [← hs.2.2.1]; rfl
    have b2 : (vi V1 x 3).toNat = s.1 + i.toNat := congrArg Prod.fst a1.2.2.1
    have b3 := hs.2.2.2.1
    have b4 := a1.2.2.2.1
    exact ⟨a1, hdg, a2.trans (numL_no hdg), a3, by omega, b1⟩
  have fel : ∀ src e q, FELL K V x src e q → FELL K V2 x src e q := fun src e q hq => by
    have h1 := (h.2 src e).2 q hq
    have st : ∀ c w, RFS V1 V2 x c w → FELL K V2 x src e q := fun c w hR => by
      rcases hR with ⟨-, rfl⟩ | ⟨q0, -⟩
      · exact h1
      · exact absurd (h1.2.1.symm.trans q0) h1.2.2.2
    rcases hc with ⟨-, w, -, -, hR⟩ | ⟨-, -, w, -, -, hR⟩ | ⟨-, -, rfl, -⟩
    · exact st _ _ hR
    · exact st _ _ hR
    · exact h1
  have fall : ∀ src e s (c w : Int) (p : Nat), AT K V1 x src e s → RFS V1 V2 x c w → ir c → c ≠ 0 → ir w → w = (p : Int) → FELL K V2 x src e (c, p) := fun src e s c w p hs hR rc hc0 rw_ hw => by
    obtain ⟨hS, h5, hT, h3, hN, hl, hsm⟩ := hs
    rcases hR with ⟨q, -⟩ | ⟨-, W, e1, e2⟩
    · exact absurd h5 q
    · have hW1 : WT K W := hW.p5 hx rc e1
      obtain ⟨p1, -⟩ := hS.put hx hW e1 (by omega)
      obtain ⟨r1, -⟩ := p1.put hx hW1 e2 (by omega)
      exact ⟨r1, by rw [vi_up e2 (Or.inr (by decide)), upd2_int e1 rc], by rw [upd2_int e2 rw_]; exact hw, hc0⟩
  have hsf : SFR V1 V2 x := by
    rcases hc with ⟨-, w, -, -, hR⟩ | ⟨-, -, w, -, -, hR⟩ | ⟨-, -, rfl, -⟩
    · exact hR.sfr hx hW (ir_c rfl)
    · exact hR.sfr hx hW (ir_c rfl)
    · exact SFR.rf
  refine ⟨⟨fun src e => ⟨fun s hs hn => ?_, fel src e⟩, h.1.tr hsf⟩, fun src e s r hs hr => ?_⟩
  · obtain ⟨k1, k2, k3, k4, k5, k6⟩ := key src e s hs
    have b3 := hs.2.2.2.1
    rcases hc with ⟨q, w, rw_, hw, hR⟩ | ⟨q, q2, w, rw_, hw, hR⟩ | ⟨q, q2, rfl, hX⟩
    · have hi : i = 0 := k5.mp q
      subst hi
      have hnum : numS src e most s.1 = .error (1, s.1) := by
        unfold numS
        have k2' : dgB (rdS src e s.1) = false := k2
        rw [k2']; rfl
      exact RES.er (by show numP src e most s = _; unfold numP; rw [hnum]) (fall src e _ 1 w s.1 k1 hR (ir_c rfl) (by decide) rw_ (by omega))
    · have hi : 0 < i := by have := fun q3 => q (k5.mpr q3); omega
      have hnum : numS src e most s.1 = .error (3, s.1) := by
        unfold numS
        rw [if_pos (k4 hi), k3]
        show (if dgB (rdS src e (s.1 + i.toNat)) then _ else _) = _
        rw [k2]
        show (if most < n then _ else _) = _
        rw [if_pos q2]
      exact RES.er (by show numP src e most s = _; unfold numP; rw [hnum]) (fall src e _ 3 w s.1 k1 hR (ir_c rfl) (by decide) rw_ (by omega))
    · have hi : 0 < i := by have := fun q3 => q (k5.mpr q3); omega
      have hnum : numS src e most s.1 = .ok (s.1 + i.toNat, n) := by
        unfold numS
        rw [if_pos (k4 hi), k3]
        show (if dgB (rdS src e (s.1 + i.toNat)) then _ else _) = _
        rw [k2]
        show (if most < n then _ else _) = _
        rw [if_neg (by omega)]
      exact RES.ok (s := (s.1 + i.toNat, s.2)) (by show numP src e most s = _; unfold numP; rw [hnum]) k1 (by show s.2.1 + s.1 + 1 ≤ s.1 + i.toNat + s.2.1 + 0 ∧ s.2.1 ≤ s.2.1; omega)
  · obtain ⟨k1, k2, k3, k4, k5, k6⟩ := key src e s hs
    rcases hc with ⟨q, w, rw_, hw, hR⟩ | ⟨q, q2, w, rw_, hw, hR⟩ | ⟨q, q2, rfl, hX⟩
    · have hi : i = 0 := k5.mp q
      subst hi
      unfold numS at hr
      have k2' : dgB (rdS src e s.1) = false := k2
      rw [k2'] at hr; cases hr
    · have hi : 0 < i := by have := fun q3 => q (k5.mpr q3); omega
      unfold numS at hr
      rw [if_pos (k4 hi), k3] at hr
      simp only [k2] at hr
      rw [if_neg (by decide), if_pos q2] at hr
      cases hr
    · have hi : 0 < i := by have := fun q3 => q (k5.mpr q3); omega
      have e1 := (num_ok hr).2.2
      rw [e1, k3, hX]
/-! factors -/
theorem FAC.br {v : Value} (hc : sgC V x = 91) (h1 : CRg K V V1 x 0 1 0 (depS 91 d)) (h2 : CR K V1 V2 x (fun src e => terD src e d1)) (hd : d1 = d + 1) (hx : K x = some (0, 4)) (hW2 : WT K V2) (e3 : V3 = upd2 V2 x 4 v) (h4 : CRg K V3 V4 x 0 1 0 (fun src e => tak src e 93)) : CR K V V4 x (fun src e => facD src e d) :=
  ((((h1.bnd h2 (a := 0) (b := 0) (l := 0) (by omega) (by omega) (by omega)).bnd (CRg.dep hx hW2 e3) (a := 0) (b := 0) (l := 0) (by omega) (by omega) (by omega)).bnd h4 (a := 0) (b := 0) (l := 0) (by omega) (by omega) (by omega))).to fun src e s hs => by
    have hr : rdS src e s.1 = 91 := by rw [← hs.sg]; exact hc
    subst hd
    unfold facD facG dep depS terD
    rw [if_pos hr, if_pos hr]
    by_cases h8 : 8 ≤ d
    · rw [if_pos h8, if_pos h8, bnd_er, bnd_er, bnd_er]
    · rw [if_neg h8, if_neg h8, bnd_ok, bnd_id, show 9 - (d + 1) = 8 - d by omega]
theorem FAC.ltr {c L : Int} (hc : sgC V x = c) (hc0 : 0 ≤ c) (hL : 0 ≤ c → c ≤ 255 → L = letN c) (h0 : 0 ≤ L) (h1 : CRg K V V1 x 0 1 0 (fun src e => tak src e c)) (h2 : CRg K V1 V2 x 1 0 1 (fun _ _ s => .ok (emt s (1048576 * trK 1 + L)))) : CR K V V2 x (fun src e => facD src e d) :=
  (h1.bnd h2 (a := 0) (b := 0) (l := 0) (by omega) (by omega) (by omega)).to fun src e s hs => by
    have hr : rdS src e s.1 = c := by rw [← hs.sg]; exact hc
    have hg := hs.rng
    have hL1 := hL hc0 (by omega)
    have hl : 0 ≤ letN (rdS src e s.1) := by rw [hr, ← hL1]; exact h0
    rw [facD_l hl]
    unfold tak
    rw [if_pos hr, bnd_ok, hr, ← hL1]
    rfl
theorem scT_fr {ws : Nat} (hF : FR ws K V K V1) (hx : K x = some (0, 4)) (hb : ws.testBit (keyK (0, 4) 2) = false) : scT V1 x = scT V x := by unfold scT vq; rw [hF x _ 2 hx hx hb]
theorem FAC.num {n L X : Int} {ws : Nat} (h91 : sgC V x ≠ 91) (hL : sgC V x < 0 ∨ (L < 0 ∧ (0 ≤ sgC V x → sgC V x ≤ 255 → L = letN (sgC V x)))) (h1 : DGT K V V1 x 999999 n) (h2 : ADD K V1 V2 (scT V x) 0 n X) (hF : FR ws K V K V1) (hb : ws.testBit (keyK (0, 4) 2) = false) (hx : K x = some (0, 4)) (hW1 : WT K V1) (n0 : 0 ≤ n) (n9 : n < 1048576) : CR K V V2 x (fun src e => facD src e d) := by
  rw [← scT_fr hF hx hb] at h2
  have s2 := CRg.add h2 hx hW1 (by decide) (by decide) n0 n9
  refine (h1.1.bnd s2 (a := 0) (b := 0) (l := 0) (by omega) (by omega) (by omega)).to fun src e s hs => ?_
  have hg := hs.rng
  have hno : ¬ 0 ≤ letN (rdS src e s.1) := by
    rw [← hs.sg]
    rcases hg with hg | hg
    · rw [hg]; decide
    · rcases hL with hL | hL
      · omega
      · rw [← hL.2 hg.1 hg.2]; omega
  rw [facD_n hno (by rw [← hs.sg]; exact h91)]
  unfold numP
  cases hn : numS src e 999999 s.1 with
  | error q => rfl
  | ok r =>
    have hX := h1.2 src e s r hs hn
    have h0 : (1048576 * trK 0 + r.2 : Int) = r.2 := by show (1048576 * 0 + r.2 : Int) = r.2; omega
    show Jvm.Pilot.@@N@@.bnd (.ok (r.1, s.2)) (fun s => .ok (emt s (1048576 * trK 0 + n))) = .ok (emt (r.1, s.2) r.2)
    rw [hX, bnd_ok, h0]
theorem CR.fac (h : CR K V V1 x (fun src e => facD src e d1)) (q : d1 = d) : CR K V V1 x (fun src e => facD src e d) := q ▸ h
theorem CR.facs (h : CR K V V1 x (fun src e => facsG src e (facD src e d1))) (q : d1 = d) : CR K V V1 x (fun src e => facsG src e (facD src e d)) := q ▸ h
theorem CR.ter (h : CR K V V1 x (fun src e => terD src e d1)) (q : d1 = d) : CR K V V1 x (fun src e => terD src e d) := q ▸ h
theorem CR.pie (h : CR K V V1 x (fun src e => pieD src e d1)) (q : d1 = d) : CR K V V1 x (fun src e => pieD src e d) := q ▸ h
theorem CR.prt (h : CR K V V1 x (fun src e => parG src e (pieD src e d1))) (q : d1 = d) : CR K V V1 x (fun src e => parG src e (pieD src e d)) := q ▸ h
/-! loops -/
/-- from V0 to V: what is to be done in all is what is left to be done -/
def LPI (K : Kmap) (V0 V : Vmap) (x : Nat) (tot rest : (Nat → Int) → Nat → PS → PE) : Prop := SFR V0 V x ∧ ∀ src e, (∀ s, AT K V0 x src e s → s.2.1 ≤ s.1 → (∃ s1, AT K V x src e s1 ∧ (s1.2.1 + s.1 ≤ s1.1 + s.2.1 ∧ s.2.1 ≤ s1.2.1) ∧ tot src e s = rest src e s1) ∨ ∃ q, FELL K V x src e q ∧ tot src e s = .error q) ∧ ∀ q, FELL K V0 x src e q → FELL K V x src e q
variable {tot rest rest1 f g : (Nat → Int) → Nat → PS → PE}
theorem LPI.of (h : CR K V V1 x f) (ht : ∀ src e s, tot src e s = bnd (f src e s) (rest src e)) : LPI K V V1 x tot rest := ⟨h.2, fun src e => ⟨fun s hs hn => by
  have r := (h.1 src e).1 s hs (by omega)
  cases hf : f src e s with
  | ok s1 => rw [hf] at r; exact Or.inl ⟨s1, r.1, by have := r.2; omega, by rw [ht, hf, bnd_ok]⟩
  | error q => rw [hf] at r; exact Or.inr ⟨q, r, by rw [ht, hf, bnd_er]⟩, (h.1 src e).2⟩⟩
theorem LPI.end (h : LPI K V V1 x tot rest) (hr : ∀ src e s1, AT K V1 x src e s1 → rest src e s1 = .ok s1) : CR K V V1 x tot := ⟨fun src e => ⟨fun s hs hn => by
  rcases (h.2 src e).1 s hs (by omega) with ⟨s1, a1, a2, a3⟩ | ⟨q, a1, a2⟩
  · exact RES.ok (a3.trans (hr src e s1 a1)) a1 (by omega)
  · exact RES.er a2 a1, (h.2 src e).2⟩, h.1⟩
theorem LPI.bad (h : CR K V V1 x f) (h5 : vi V x 5 ≠ 0) : LPI K V V1 x tot rest := ⟨h.2, fun src e => ⟨fun s hs _ => absurd hs.2.1 h5, (h.1 src e).2⟩⟩
theorem LPI.step {a l : Nat} (h : LPI K V V1 x tot rest) (hc : CRg K V1 V2 x 0 a l f) (hal : l ≤ a) (hr : ∀ src e s1, AT K V1 x src e s1 → rest src e s1 = bnd (f src e s1) (rest1 src e)) : LPI K V V2 x tot rest1 := ⟨h.1.tr hc.2, fun src e => ⟨fun s hs hn => by
  rcases (h.2 src e).1 s hs hn with ⟨s1, a1, a2, a3⟩ | ⟨q, a1, a2⟩
  · have r := (hc.1 src e).1 s1 a1 (by omega)
    cases hf : f src e s1 with
    | ok s2 => rw [hf] at r; exact Or.inl ⟨s2, r.1, by have := r.2; omega, by rw [a3, hr src e s1 a1, hf, bnd_ok]⟩
    | error q => rw [hf] at r; exact Or.inr ⟨q, r, by rw [a3, hr src e s1 a1, hf, bnd_er]⟩
  · exact Or.inr ⟨q, (hc.1 src e).2 q a1, a2⟩, fun q hq => (hc.1 src e).2 q ((h.2 src e).2 q hq)⟩⟩
end T3
