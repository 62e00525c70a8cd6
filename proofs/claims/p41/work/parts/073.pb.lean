/-! ### places and land, on both sides -/
section PB
variable {K K1 K2 K3 : Kmap} {V V0 V1 V2 V3 : Vmap} {x m o q : Nat} {i j n s d t w h z X Y Z k u c p a b : Int}
/-- both sides hold the same places on the same ice -/
def PLR (V : Vmap) (x m : Nat) : Prop := (vi V (vq V x 0) 3) = vi V m 0 ∧ (vi V (vq V x 0) 4) = vi V m 1 ∧ (∀ s : Nat, 5 ≤ s → s ≤ 8 → (rgv V (vq V ((vq V x 0)) s) 144) = (rgv V (vq V m s) 144)) ∧ vi V x 6 = vi V m 10 ∧ (∀ k : Nat, (k : Int) < vi V x 6 → plT V x k = mlT V m k ∧ plv V x k = mlv V m k) ∧ ∀ k : Nat, vi V x 6 ≤ (k : Int) → k < 60 → ar 28 V m k = 0
def PLE (V : Vmap) (x m : Nat) : Prop := PLI V x ∧ OWC V x ∧ PLR V x m
theorem OWC.same (h : OWC V x) (f : PLS V V1 x) (h4 : vi V x 4 ≤ vi V1 x 4) : OWC V1 x := fun k hk hd => by
  rw [f.1] at hk
  have e := (f.2.2 k hk).2
  have h1 := h k hk (by rw [← f.kd hk]; exact hd)
  rw [e]
  exact ⟨h1.1, by omega⟩
theorem PLR.kd (h : PLR V x m) {k : Nat} (hk : (k : Int) < vi V x 6) : pkd V x k = ar 13 V m k := congrArg (fun r => r.1) (h.2.2.2.2.1 k hk).1
theorem PLR.lost (h : PLR V x m) {k : Nat} (hk : (k : Int) < vi V x 6) : vi V (plO V x k) 5 = ar 28 V m k := congrArg (fun r => r.2.1) (h.2.2.2.2.1 k hk).2
theorem PLR.fo (h : PLR V x m) (k : Nat) : pfo V x k = mfo V m k := by
  unfold pfo mfo
  rw [← h.2.2.2.1]
  by_cases hk : (k : Int) < vi V x 6
  · have h1 := h.kd hk
    have h2 : (if vi V (plO V x k) 0 = 0 ∨ vi V (plO V x k) 0 = 2 ∨ vi V (plO V x k) 0 = 3 then vi V (plO V x k) 4 else 0) = if ar 13 V m k = 0 ∨ ar 13 V m k = 2 ∨ ar 13 V m k = 3 then ar 17 V m k else 0 := congrArg (fun r => r.2.2.2) (h.2.2.2.2.1 k hk).1
    unfold pkd at h1
    rw [h1] at h2 ⊢
    by_cases q : ar 13 V m k = 2
    · rw [if_pos (Or.inr (Or.inl q)), if_pos (Or.inr (Or.inl q))] at h2
      rw [h2]
    · rw [if_neg (fun e => q e.2), if_neg (fun e => q e.2)]
  · rw [if_neg (fun e => hk e.1), if_neg (fun e => hk e.1)]
theorem PLE.same (h : PLE V x m) (g : SMC V V1 x) (h4 : vi V x 4 ≤ vi V1 x 4) (gm : MSM V V1 m) : PLE V1 x m := by
  obtain ⟨hI, hO, r1, r2, r3, r4, r6, r7⟩ := h
  obtain ⟨g1, g2, g3, g4⟩ := g hI
  obtain ⟨m1, m2, m3⟩ := gm
  refine ⟨g1, hO.same g2 h4, ?_, ?_, fun s h5 h8 => ?_, ?_, fun k hk => ?_, fun k hk h60 => ?_⟩
  · rw [g4.1, m3.1]; exact r1
  · rw [g4.2.1, m3.2.1]; exact r2
  · rw [g4.2.2 s h5 h8, m3.2.2 s h5 h8]; exact r3 s h5 h8
  · rw [g2.1, m1.1]; exact r4
  · rw [g2.1] at hk
    rw [(g2.2.2 k hk).2, g3 k hk, m1.mT, m2.mv m1]
    exact r6 k hk
  · rw [g2.1] at hk
    rw [m2.2.2]
    exact r7 k hk h60
theorem PLE.frx {ws : Nat} (h : PLE V x m) (hF : FR ws K V K1 V1) (hE : ext K K1) (hW : WT K V) (hx : K x = some (0, 10)) (hm : K m = some (0, 11)) (h4 : vi V x 4 ≤ vi V1 x 4) (b1 : psbits ws = true) (b2 : pvbits ws = true) (b3 : ldbits ws = true) (b4 : mpbits ws = true) (b5 : mvbits ws = true) (b6 : mlbits ws = true) : PLE V1 x m := h.same (SMC.fr hF hE hW hx b1 b2 b3) h4 (MSM.fr hF hE hW hm b4 b5 b6)
theorem PLE.nil (h6 : vi V x 6 = 0) (h10 : vi V m 10 = 0) (hl : ∀ k : Nat, k < 60 → ar 28 V m k = 0) (r1 : (vi V (vq V x 0) 3) = vi V m 0) (r2 : (vi V (vq V x 0) 4) = vi V m 1) (r3 : ∀ s : Nat, 5 ≤ s → s ≤ 8 → (rgv V (vq V ((vq V x 0)) s) 144) = (rgv V (vq V m s) 144)) (h7 : ∀ z, -1 ≤ (rgv V (vq V ((vq V x 0)) 7) 144) z ∧ (rgv V (vq V ((vq V x 0)) 7) 144) z ≤ 7) : PLE V x m := ⟨⟨fun j hj => by omega, fun i j _ hj => by omega, fun k hk => by omega, h7⟩, fun k hk => by omega, r1, r2, r3, by omega, fun k hk => by omega, fun k _ h60 => hl k h60⟩
/-! ice() -/
theorem rwI_up {v : Int} {s : Nat} (h : ∀ j : Nat, j < 144 → ar s V m j = v) (z : Int) : (rgv V (vq V m s) 144) z = if 0 ≤ z ∧ z < 144 then v else 0 := by
  show (if 0 ≤ z ∧ z < ((144 : Nat) : Int) then vi V (vq V m s) z.toNat else 0) = _
  by_cases q : 0 ≤ z ∧ z < 144
  · rw [if_pos q, if_pos (by omega)]
    exact h z.toNat (by omega)
  · rw [if_neg q, if_neg (by omega)]
theorem PLE.ice {w1 w2 : Nat} (h : PLE V x m) (hx : K x = some (0, 10)) (hm : K m = some (0, 11)) (hW : WT K V) (hW1 : WT K1 V1) (hE1 : ext K K1) (hF1 : FR w1 K V K1 V1) (hE2 : ext K1 K2) (hF2 : FR w2 K1 V1 K2 V2) (h41 : vi V x 4 ≤ vi V1 x 4) (h42 : vi V1 x 4 ≤ vi V2 x 4) (h8 : vi V x 8 = vi V1 m 66) (f : ICC V V1 x p s X) (f1 : MIC V1 V2 m p s Y) (b1 : psbits w1 = true) (b2 : pvbits w1 = true) (b3 : mpbits w1 = true) (b4 : mvbits w1 = true) (b5 : mlbits w1 = true) (c1 : psbits w2 = true) (c2 : pvbits w2 = true) (c3 : ldbits w2 = true) (c4 : mpbits w2 = true) (c5 : mvbits w2 = true) : X = Y ∧ PLE V2 x m := by
  have h' := h
  obtain ⟨hI, hO, r1, r2, r3, r4, r6, r7⟩ := h
  have gm : MSM V V1 m := MSM.fr hF1 hE1 hW hm b3 b4 b5
  have hx1 := hE1.obj (Or.inl (by decide)) hx
  have hm1 := hE1.obj (Or.inl (by decide)) hm
  have gs : SMC V1 V2 x := SMC.fr hF2 hE2 hW1 hx1 c1 c2 c3
  have fp : MPS V1 V2 m := MPS.fr hF2 hE2 hW1 hm1 c4
  have fv : MVS V1 V2 m := MVS.fr hF2 hE2 hW1 hm1 c5
  have fs : PLS V V1 x := PLS.fr hF1 hE1 hW hx hI.1 b1
  have e1 := gm.1.1
  rcases f with ⟨a1, a2, a3⟩ | ⟨a1, a2, a3, a4⟩
  · subst a3
    rcases f1 with ⟨b1, b2, b3⟩ | ⟨b1, b2, b3⟩
    · subst b3
      exact ⟨by omega, h'.same gs h42 MSM.rf⟩
    · exact absurd (by rw [r4, h8, ← e1]; exact b2) a2
  · rcases f1 with ⟨b1, b2, b3⟩ | ⟨b1, b2, b3⟩
    · exact absurd (by rw [e1, ← r4, ← h8]; exact a2) b2
    · have n0 : vi V x 6 = 0 := by
        have h60 := (hW.int hx (j := 6) (Nat.le_of_ble_eq_true rfl) rfl).2
        have := a2.2.2.2.2.1
        omega
      obtain ⟨l1, l2, l3, l4, l5, l6⟩ := a3
      obtain ⟨d1, d2, d3, d4, d5, d6⟩ := b3
      have n1 : vi V1 x 6 = 0 := fs.1.trans n0
      rw [← a4] at l1 l2 l3 l4 l5 l6
      have hI1 : PLI V1 x := ⟨fun j hj => by omega, fun i j _ hj => by omega, fun k hk => by omega, fun z => by
        rw [l5]
        split <;> exact ⟨by decide, by decide⟩⟩
      obtain ⟨g1, g2, g3, g4⟩ := gs hI1
      have n2 : vi V2 x 6 = 0 := g2.1.trans n1
      have m10 : vi V2 m 10 = 0 := by rw [fp.1, e1, ← r4]; exact n0
      have key : ∀ s : Nat, 5 ≤ s → s ≤ 8 → (rgv V2 (vq V2 ((vq V2 x 0)) s) 144) = (rgv V2 (vq V2 m s) 144) := fun s h5 h8 => by
        rw [g4.2.2 s h5 h8]
        have hs : s = 5 ∨ s = 6 ∨ s = 7 ∨ s = 8 := by omega
        rcases hs with rfl | rfl | rfl | rfl
        · funext z
          rw [rwI_up d3 z]
          refine (l3 z).trans ?_
          split <;> rfl
        · funext z
          rw [rwI_up d4 z]
          refine (l4 z).trans ?_
          split <;> rfl
        · funext z
          rw [rwI_up d5 z]
          exact l5 z
        · funext z
          rw [rwI_up d6 z]
          refine (l6 z).trans ?_
          split <;> rfl
      refine ⟨by omega, PLE.nil n2 m10 (fun k hk => ?_) ?_ ?_ key g1.2.2.2⟩
      · rw [fv.2.2, gm.2.1.2.2]
        exact r7 k (by omega) hk
      · rw [g4.1, d1]
        exact l1
      · rw [g4.2.1, d2]
        exact l2
/-! cell() -/
theorem rwI_put {v : Int} {s : Nat} {V' : Vmap} (e : ar s V1 m = updf (ar s V' m) c.toNat v) (h0 : 0 ≤ c) (h1 : c < 144) : (rgv V1 (vq V1 m s) 144) = pt1 ((rgv V' (vq V' m s) 144)) c v := by
  funext z
  show (if 0 ≤ z ∧ z < ((144 : Nat) : Int) then ar s V1 m z.toNat else 0) = if z = c then v else (if 0 ≤ z ∧ z < ((144 : Nat) : Int) then ar s V' m z.toNat else 0)
  rw [e]
  by_cases q : z = c
  · subst q
    rw [if_pos (by omega), if_pos rfl, updf_at]
  · rw [if_neg q]
    by_cases q2 : 0 ≤ z ∧ z < ((144 : Nat) : Int)
    · rw [if_pos q2, if_pos q2, updf_of (by omega)]
    · rw [if_neg q2, if_neg q2]
theorem PLE.cell {w1 w2 : Nat} (h : PLE V x m) (hx : K x = some (0, 10)) (hm : K m = some (0, 11)) (hW : WT K V) (hW1 : WT K1 V1) (hE1 : ext K K1) (hF1 : FR w1 K V K1 V1) (hE2 : ext K1 K2) (hF2 : FR w2 K1 V1 K2 V2) (h41 : vi V x 4 ≤ vi V1 x 4) (h42 : vi V1 x 4 ≤ vi V2 x 4) (f : CEC V V1 x c p s t d X) (f1 : MCE V1 V2 m c p s t d Y) (b1 : psbits w1 = true) (b2 : pvbits w1 = true) (b3 : mpbits w1 = true) (b4 : mvbits w1 = true) (b5 : mlbits w1 = true) (c1 : psbits w2 = true) (c2 : pvbits w2 = true) (c3 : ldbits w2 = true) (c4 : mpbits w2 = true) (c5 : mvbits w2 = true) : X = Y ∧ PLE V2 x m := by
  have h' := h
  obtain ⟨hI, hO, r1, r2, r3, r4, r6, r7⟩ := h
  have gm : MSM V V1 m := MSM.fr hF1 hE1 hW hm b3 b4 b5
  have hx1 := hE1.obj (Or.inl (by decide)) hx
  have hm1 := hE1.obj (Or.inl (by decide)) hm
  have gs : SMC V1 V2 x := SMC.fr hF2 hE2 hW1 hx1 c1 c2 c3
  have fp : MPS V1 V2 m := MPS.fr hF2 hE2 hW1 hm1 c4
  have fv : MVS V1 V2 m := MVS.fr hF2 hE2 hW1 hm1 c5
  have fs : PLS V V1 x := PLS.fr hF1 hE1 hW hx hI.1 b1
  have fw : PVS V V1 x := PVS.fr hF1 hE1 hW hx hI.1 b2
  have e1 := gm.1.1
  have ecd : CED ((vi V (vq V x 0) 3)) ((vi V (vq V x 0) 4)) c p s t d ↔ CED (vi V1 m 0) (vi V1 m 1) c p s t d := by rw [gm.2.2.1, gm.2.2.2.1, r1, r2]
  rcases f with ⟨a1, a2, a3⟩ | ⟨a1, a2, a3, a4, a5, a6, a7, a8⟩
  · subst a3
    rcases f1 with ⟨b1, b2, b3⟩ | ⟨b1, b2, b3⟩
    · subst b3
      exact ⟨by omega, h'.same gs h42 MSM.rf⟩
    · exact absurd (ecd.mpr b2) a2
  · rcases f1 with ⟨b1, b2, b3⟩ | ⟨b1, b2, d1, d2, d5, d6, d7, d8⟩
    · exact absurd (ecd.mp a2) b2
    · have hld := (ld_at hW hx).1
      have hw := (hW.int hld (j := 3) (Nat.le_of_ble_eq_true rfl) rfl).2
      have hh := (hW.int hld (j := 4) (Nat.le_of_ble_eq_true rfl) rfl).2
      have hmm := mul_rng (a := (vi V (vq V x 0) 3)) (b := (vi V (vq V x 0) 4)) (A := 12) (B := 12) (by omega) (by omega) (by omega) (by omega)
      have hc0 := a2.1.1
      have hc1 : c < 144 := by
        have := a2.1.2
        omega
      have ht : -1 ≤ t ∧ t ≤ 7 := by
        have := a2.2.2.2.2.2
        omega
      have hI1 : PLI V1 x := by
        refine ⟨fs.nn hI.1, fun i j hij hj => ?_, fun k hk => ?_, fun z => ?_⟩
        · rw [fs.1] at hj
          rw [fs.plo (by omega), fs.plo hj]
          exact hI.2.1 i j hij hj
        · rw [fs.1] at hk
          rw [a3, a4, fw k hk]
          exact hI.2.2.1 k hk
        · rw [a7]
          unfold pt1
          by_cases q : z = c
          · rw [if_pos q]; exact ht
          · rw [if_neg q]; exact hI.2.2.2 z
      obtain ⟨g1, g2, g3, g4⟩ := gs hI1
      have R : ∀ s : Nat, 5 ≤ s → s ≤ 8 → (rgv V (vq V ((vq V x 0)) s) 144) = (rgv V1 (vq V1 m s) 144) := fun s h5 h8 => by rw [gm.2.2.2.2 s h5 h8]; exact r3 s h5 h8
      refine ⟨by omega, g1, (hO.same fs h41).same g2 h42, ?_, ?_, fun s h5 h8 => ?_, ?_, fun k hk => ?_, fun k hk h60 => ?_⟩
      · rw [g4.1, a3, d1, gm.2.2.1]; exact r1
      · rw [g4.2.1, a4, d2, gm.2.2.2.1]; exact r2
      · rw [g4.2.2 s h5 h8]
        have hs : s = 5 ∨ s = 6 ∨ s = 7 ∨ s = 8 := by omega
        rcases hs with rfl | rfl | rfl | rfl
        · rw [a5, R 5 (by decide) (by decide), rwI_put d5 hc0 hc1]
        · rw [a6, R 6 (by decide) (by decide), rwI_put d6 hc0 hc1]
        · rw [a7, R 7 (by decide) (by decide), rwI_put d7 hc0 hc1]
        · rw [a8, R 8 (by decide) (by decide), rwI_put d8 hc0 hc1]
      · rw [g2.1, fs.1, fp.1, e1]; exact r4
      · rw [g2.1, fs.1] at hk
        have hk1 : (k : Int) < vi V1 x 6 := by rw [fs.1]; exact hk
        rw [(g2.2.2 k hk1).2, g3 k hk1, (fs.2.2 k hk).2, fw k hk, fp.mT, fv.mv fp, gm.1.mT, gm.2.1.mv gm.1]
        exact r6 k hk
      · rw [g2.1, fs.1] at hk
        rw [fv.2.2, gm.2.1.2.2]
        exact r7 k hk h60
/-! a new place -/
theorem NEWT_eq {kd ow la r1 r2 : Int} (h : kd = 0 ∨ kd = 2 ∨ kd = 3 → r1 = r2) : NEWT kd ow la r1 = NEWT kd ow la r2 := by
  unfold NEWT
  by_cases q : kd = 0 ∨ kd = 2 ∨ kd = 3
  · rw [if_pos q, if_pos q, h q]
  · rw [if_neg q, if_neg q]
theorem PLE.new {kd ow la r1 r2 fi si : Int} (h : PLE V x m) (hx : K x = some (0, 10)) (hW : WT K V) (f : NEWL K V V1 x X (NEWT kd ow la r1) (fi, 0, si)) (gm : MSM V V1 m) (gs : SMC V1 V2 x) (f1 : MNEW V1 V2 m Y (NEWT kd ow la r2) fi si) (hr : kd = 0 ∨ kd = 2 ∨ kd = 3 → r1 = r2) (hc : (0 ≤ fi ∧ fi < ((vi V (vq V x 0) 3)) * ((vi V (vq V x 0) 4)))) (how : kd = 0 → 0 ≤ ow ∧ ow < vi V x 4) (h41 : vi V x 4 ≤ vi V1 x 4) (h42 : vi V1 x 4 ≤ vi V2 x 4) : X = Y ∧ PLE V2 x m := by
  obtain ⟨hI, hO, r1', r2', r3, r4, r6, r7⟩ := h
  obtain ⟨fl, fc⟩ := f hI
  obtain ⟨y1, y2, y3, y4, -, y5, y6⟩ := f1
  have e1 := gm.1.1
  rcases fc with ⟨a1, a2, -⟩ | ⟨a1, a2, a3, -, a5, a6, a7, a8, a9⟩
  · omega
  · have h60 := (hW.int hx (j := 6) (Nat.le_of_ble_eq_true rfl) rfl).2
    have hplo : ∀ k : Nat, (k : Int) < vi V x 6 → plO V1 x k = plO V x k := fun k hk => vq_eq2 (a5 k hk).1
    have hI1 : PLI V1 x := by
      refine ⟨fun j hj => ?_, fun i j hij hj => ?_, fun k hk => ?_, fun z => ?_⟩
      · by_cases q : (j : Int) < vi V x 6
        · rw [(a5 j q).1]
          exact hI.1 j q
        · rw [show j = (vi V x 6).toNat by omega]
          exact a6
      · by_cases q : (j : Int) < vi V x 6
        · rw [hplo i (by omega), hplo j q]
          exact hI.2.1 i j hij q
        · rw [show j = (vi V x 6).toNat by omega, hplo i (by omega)]
          exact K_old (pl_at hW hx hI.1 (k := i) (by omega)).2.2 a7
      · rw [fl.1, fl.2.1]
        by_cases q : (k : Int) < vi V x 6
        · rw [(a5 k q).2.2]
          exact hI.2.2.1 k q
        · rw [show k = (vi V x 6).toNat by omega, a9]
          exact ⟨hc, by show (0 : Int) ≤ 0; decide, by show (0 : Int) ≤ 1; decide⟩
      · rw [fl.2.2 7 (by decide) (by decide)]
        exact hI.2.2.2 z
    obtain ⟨g1, g2, g3, g4⟩ := gs hI1
    have hO1 : OWC V1 x := fun k hk hd => by
      by_cases q : (k : Int) < vi V x 6
      · have hk0 : plT V1 x k = plT V x k := (a5 k q).2.1
        rw [hk0]
        have hd' : pkd V x k = 0 := by rw [← plT_kd hk0]; exact hd
        have := hO k q hd'
        exact ⟨this.1, by omega⟩
      · have ek : k = (vi V x 6).toNat := by omega
        subst ek
        have hk0 : kd = 0 := (congrArg (fun r => r.1) a8).symm.trans hd
        have := how hk0
        rw [a8]
        exact ⟨this.1, by show ow < _; omega⟩
    have en : (vi V1 m 10).toNat = (vi V x 6).toNat := by rw [e1, r4]
    refine ⟨by omega, g1, hO1.same g2 h42, ?_, ?_, fun s h5 h8 => ?_, ?_, fun k hk => ?_, fun k hk hk60 => ?_⟩
    · rw [g4.1, fl.1, y5.1, gm.2.2.1]; exact r1'
    · rw [g4.2.1, fl.2.1, y5.2.1, gm.2.2.2.1]; exact r2'
    · rw [g4.2.2 s h5 h8, fl.2.2 s h5 h8, y5.2.2 s h5 h8, gm.2.2.2.2 s h5 h8]; exact r3 s h5 h8
    · rw [g2.1, a3, y4, e1, r4]
    · rw [g2.1] at hk
      rw [(g2.2.2 k hk).2, g3 k hk, (y6 k).1, (y6 k).2, en]
      by_cases q : (k : Int) < vi V x 6
      · rw [if_neg (by omega), if_neg (by omega), (a5 k q).2.1, (a5 k q).2.2, gm.1.mT, gm.2.1.mv gm.1]
        exact r6 k q
      · have ek : k = (vi V x 6).toNat := by omega
        subst ek
        rw [if_pos rfl, if_pos rfl, a8, a9, NEWT_eq hr, gm.2.1.2.2, r7 _ (by omega) (by omega)]
        exact ⟨rfl, rfl⟩
    · rw [g2.1] at hk
      have h9 := congrArg (fun r => r.2.1) (y6 k).2
      rw [if_neg (by omega)] at h9
      have h8 : ar 28 V2 m k = ar 28 V1 m k := h9
      rw [h8, gm.2.1.2.2]
      exact r7 k (by omega) hk60
theorem PLE.full {T : Int × Int × Int × Int} {v : Int × Int × Int} (h : PLE V x m) (f : NEWL K V V1 x X T v) (h60 : 60 ≤ vi V x 6) (gm : MSM V V1 m) (gs : SMC V1 V2 x) (g2 : MSM V1 V2 m) (hY : Y = -1) (h41 : vi V x 4 ≤ vi V1 x 4) (h42 : vi V1 x 4 ≤ vi V2 x 4) : X = Y ∧ PLE V2 x m := by
  obtain ⟨fl, fc⟩ := f h.1
  rcases fc with ⟨a1, a2, a3, a4⟩ | ⟨a1, a2, -⟩
  · refine ⟨by omega, (h.same (V1 := V1) (fun hI => ⟨hI.same a3 fl (fun k hk => by rw [a4 k hk]; exact hI.2.2.1 k hk), a3, a4, fl⟩) h41 gm).same gs h42 g2⟩
  · omega
theorem asl_both (hT : TXE K V x m) (hC : CWI K V x) (hR : YRL V x m) (h9 : vi V x 4 ≤ 9) (h47 : vi V m 47 ≤ 20) (hM : ∀ L, MTS V m L → MTS V1 m L) (hYM : YMS V V1 m) (ht : tdy V x = vi V1 m 2) (hd : 0 ≤ tdy V x ∧ tdy V x ≤ 3599) (hp : 0 ≤ p ∧ p < vi V x 4) (g : MAS V1 m p Y) : Y ≠ 0 ↔ ASL K V x p := by
  have hT' := hT
  obtain ⟨-, -, L, h3, h4⟩ := hT
  have hC' := hC
  obtain ⟨-, L', c1, c2, -⟩ := hC
  have e := c1.uniq h3
  subst e
  obtain ⟨W, Z, g1, g2⟩ := g
  have n1 := g1 L' (hM L' h4) c2 (Or.inr ⟨by decide, rfl, rfl⟩) (by omega) (by omega)
  have hy := yr_both hT' hR h9 h47 c1 hYM hp.1 hp.2
  have n2 : NUMS L' (CNF L' (yrw V x p.toNat) (tdy V x)) 122 0 0 L'.length Z := by
    rw [ht]
    refine NUMS.cong (fun i j => ⟨fun q => CNF.yes (fun u hu => (hy u hu).symm) q, fun q => CNF.yes hy q⟩) n1
  rw [g2]
  constructor
  · exact fun q => ⟨L', Z, c1, n2, q⟩
  · rintro ⟨L2, Z2, q1, q2, q3⟩
    have e2 := q1.uniq c1
    subst e2
    rw [q2.uniq n2] at q3
    exact q3
end PB
