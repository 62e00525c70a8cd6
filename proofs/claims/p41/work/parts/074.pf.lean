/-! ### the calls that make places, pair by pair -/
section PF
variable {K K1 K2 K3 : Kmap} {V V0 V1 V2 V3 : Vmap} {x m o q : Nat} {i j n s d t w h z X Y Z k u c p a b : Int}
theorem PLE.claim {w1 w2 : Nat} (h : PLE V x m) (hx : K x = some (0, 10)) (hm : K m = some (0, 11)) (hW : WT K V) (hW1 : WT K1 V1) (hE1 : ext K K1) (hF1 : FR w1 K V K1 V1) (hE2 : ext K1 K2) (hF2 : FR w2 K1 V1 K2 V2) (h41 : vi V x 4 ≤ vi V1 x 4) (h42 : vi V1 x 4 ≤ vi V2 x 4) (hT : TXE K V x m) (hC : CWI K V x) (hR : YRL V x m) (h9 : vi V x 4 = vi V1 m 9) (ht : tdy V x = vi V1 m 2) (f : CLM K V V1 x p a b t X) (f1 : MCL V1 V2 m p a b t Y) (b3 : mpbits w1 = true) (b4 : mvbits w1 = true) (b5 : mlbits w1 = true) (b6 : mtbits w1 = true) (b7 : ymbits w1 = true) (c1 : psbits w2 = true) (c2 : pvbits w2 = true) (c3 : ldbits w2 = true) : X = Y ∧ PLE V2 x m := by
  have h' := h
  obtain ⟨hI, hO, r1, r2, r3, r4, r6, r7⟩ := h
  have gm : MSM V V1 m := MSM.fr hF1 hE1 hW hm b3 b4 b5
  have hx1 := hE1.obj (Or.inl (by decide)) hx
  have hm1 := hE1.obj (Or.inl (by decide)) hm
  have gs : SMC V1 V2 x := SMC.fr hF2 hE2 hW1 hx1 c1 c2 c3
  have hd := (hW.int (ld_at hW hx).1 (j := 0) (Nat.le_of_ble_eq_true rfl) rfl).2
  have hp9 := (hW.int hx (j := 4) (Nat.le_of_ble_eq_true rfl) rfl).2
  have h47 := (hW.int hm (j := 47) (Nat.le_of_ble_eq_true rfl) rfl).2
  have ecd : CLD (vi V x 4) ((vi V (vq V x 0) 3)) ((vi V (vq V x 0) 4)) p a b t ↔ CLD (vi V1 m 9) (vi V1 m 0) (vi V1 m 1) p a b t := by rw [h9, gm.2.2.1, gm.2.2.2.1, r1, r2]
  have easl : 0 ≤ p ∧ p < vi V x 4 → ∀ Y', MAS V1 m p Y' → (Y' ≠ 0 ↔ ASL K V x p) := fun hp Y' g => asl_both hT hC hR (by omega) (by omega) (fun L hL => hL.fr hF1 hE1 hW hm b6) (YMS.fr hF1 hE1 hW hm b7) ht hd hp g
  have e1 := gm.1.1
  rcases f with ⟨a1, a2, a3⟩ | ⟨a1, a2, a3⟩
  · rcases f1 with ⟨d1, d2, d3⟩ | ⟨d1, ⟨Y', d2, d2'⟩, d3⟩
    · exact ⟨by omega, ((h'.same a3 h41 gm).same gs h42 d3)⟩
    · rcases a2 with a2 | a2
      · exact absurd (ecd.mpr d1) a2
      · exact absurd d2' ((easl ⟨d1.1, by rw [h9]; exact d1.2.1⟩ Y' d2).mpr a2)
  · rcases f1 with ⟨d1, d2, d3⟩ | ⟨d1, -, d3⟩
    · rcases d2 with d2 | d2 | ⟨Y', d2, d2'⟩
      · exact absurd (ecd.mp a1) d2
      · exact PLE.full h' a3 (by rw [r4, ← e1]; exact d2) gm gs d3 d1 h41 h42
      · exact absurd ((easl ⟨a1.1, a1.2.1⟩ Y' d2).mp d2') a2
    · exact PLE.new h' hx hW a3 gm gs d3 (fun _ => rfl) a1.2.2.1.1 (fun _ => ⟨a1.1, a1.2.1⟩) h41 h42
theorem PLE.station {w1 w2 : Nat} (h : PLE V x m) (hx : K x = some (0, 10)) (hm : K m = some (0, 11)) (hW : WT K V) (hW1 : WT K1 V1) (hE1 : ext K K1) (hF1 : FR w1 K V K1 V1) (hE2 : ext K1 K2) (hF2 : FR w2 K1 V1 K2 V2) (h41 : vi V x 4 ≤ vi V1 x 4) (h42 : vi V1 x 4 ≤ vi V2 x 4) (h9 : vi V x 4 = vi V1 m 9) (ht : tdy V x = vi V1 m 2) (f : STC K V V1 x p c a b X) (f1 : MST V1 V2 m p c a b Y) (b3 : mpbits w1 = true) (b4 : mvbits w1 = true) (b5 : mlbits w1 = true) (c1 : psbits w2 = true) (c2 : pvbits w2 = true) (c3 : ldbits w2 = true) : X = Y ∧ PLE V2 x m := by
  have h' := h
  obtain ⟨hI, hO, r1, r2, r3, r4, r6, r7⟩ := h
  have gm : MSM V V1 m := MSM.fr hF1 hE1 hW hm b3 b4 b5
  have gs : SMC V1 V2 x := SMC.fr hF2 hE2 hW1 (hE1.obj (Or.inl (by decide)) hx) c1 c2 c3
  have ecd : STD (vi V x 4) ((vi V (vq V x 0) 3)) ((vi V (vq V x 0) 4)) ((rgv V (vq V ((vq V x 0)) 6) 144)) p c a b ↔ STD (vi V1 m 9) (vi V1 m 0) (vi V1 m 1) ((rgv V1 (vq V1 m 6) 144)) p c a b := by rw [h9, gm.2.2.1, gm.2.2.2.1, gm.2.2.2.2 6 (by decide) (by decide), r1, r2, r3 6 (by decide) (by decide)]
  have e1 := gm.1.1
  rcases f with ⟨a1, a2, a3⟩ | ⟨a1, a3⟩
  · subst a3
    rcases f1 with ⟨d1, d2, d3⟩ | ⟨d1, d3⟩
    · subst d3
      exact ⟨by omega, h'.same gs h42 MSM.rf⟩
    · exact absurd (ecd.mpr d1) a2
  · rcases f1 with ⟨d1, d2, d3⟩ | ⟨d1, d3⟩
    · subst d3
      rcases d2 with d2 | d2
      · exact absurd (ecd.mp a1) d2
      · exact PLE.full h' a3 (by rw [r4, ← e1]; exact d2) gm gs MSM.rf d1 h41 h42
    · rw [ht] at a3
      exact PLE.new h' hx hW a3 gm gs d3 (fun q => by omega) a1.2.2.1 (fun q => by omega) h41 h42
theorem PLE.field {w1 w2 : Nat} (h : PLE V x m) (hx : K x = some (0, 10)) (hm : K m = some (0, 11)) (hW : WT K V) (hW1 : WT K1 V1) (hE1 : ext K K1) (hF1 : FR w1 K V K1 V1) (hE2 : ext K1 K2) (hF2 : FR w2 K1 V1 K2 V2) (h41 : vi V x 4 ≤ vi V1 x 4) (h42 : vi V1 x 4 ≤ vi V2 x 4) (f : FLC K V V1 x k c X) (f1 : MFL V1 V2 m k c Y) (b3 : mpbits w1 = true) (b4 : mvbits w1 = true) (b5 : mlbits w1 = true) (c1 : psbits w2 = true) (c2 : pvbits w2 = true) (c3 : ldbits w2 = true) : X = Y ∧ PLE V2 x m := by
  have h' := h
  obtain ⟨hI, hO, hr⟩ := h
  have hr' := hr
  obtain ⟨r1, r2, r3, r4, r6, r7⟩ := hr
  have gm : MSM V V1 m := MSM.fr hF1 hE1 hW hm b3 b4 b5
  have gs : SMC V1 V2 x := SMC.fr hF2 hE2 hW1 (hE1.obj (Or.inl (by decide)) hx) c1 c2 c3
  have e1 := gm.1.1
  have est : STN V x k ↔ MSN V1 m k := by
    unfold STN PK MSN MPK
    rw [gm.1.2.2.1, gm.2.1.2.2, e1, ← r4]
    constructor
    · rintro ⟨⟨q0, q1, q2⟩, q3⟩
      have hk : ((k.toNat : Nat) : Int) < vi V x 6 := by omega
      rw [hr'.kd hk] at q2
      rw [hr'.lost hk] at q3
      exact ⟨⟨q0, q1, q2⟩, q3⟩
    · rintro ⟨⟨q0, q1, q2⟩, q3⟩
      have hk : ((k.toNat : Nat) : Int) < vi V x 6 := by omega
      rw [← hr'.kd hk] at q2
      rw [← hr'.lost hk] at q3
      exact ⟨⟨q0, q1, q2⟩, q3⟩
  have ecd : FLD V x k c ↔ MFD' V1 m k c := by
    unfold FLD MFD'
    rw [gm.2.2.1, gm.2.2.2.1, gm.2.2.2.2 6 (by decide) (by decide), est, r1, r2, r3 6 (by decide) (by decide)]
  rcases f hI with ⟨a1, a2, a3⟩ | ⟨a1, a3⟩
  · subst a3
    rcases f1 with ⟨d1, d2, d3⟩ | ⟨d1, d3⟩
    · subst d3
      exact ⟨by omega, h'.same gs h42 MSM.rf⟩
    · exact absurd (ecd.mpr d1) a2
  · rcases f1 with ⟨d1, d2, d3⟩ | ⟨d1, d3⟩
    · subst d3
      rcases d2 with d2 | d2
      · exact absurd (ecd.mp a1) d2
      · exact PLE.full h' a3 (by rw [r4, ← e1]; exact d2) gm gs MSM.rf d1 h41 h42
    · have hk : ((k.toNat : Nat) : Int) < vi V x 6 := by
        have := a1.1.1.1
        have := a1.1.1.2.1
        omega
      have eo : (plT V x k.toNat).2.1 = ar 14 V1 m k.toNat := by
        rw [gm.1.2.2.2.1]
        exact congrArg (fun r => r.2.1) (r6 _ hk).1
      rw [eo] at a3
      exact PLE.new h' hx hW a3 gm gs d3 (fun _ => rfl) a1.2.1 (fun q => by omega) h41 h42
theorem PLE.reserve {w1 w2 : Nat} (h : PLE V x m) (hx : K x = some (0, 10)) (hm : K m = some (0, 11)) (hW : WT K V) (hW1 : WT K1 V1) (hE1 : ext K K1) (hF1 : FR w1 K V K1 V1) (hE2 : ext K1 K2) (hF2 : FR w2 K1 V1 K2 V2) (h41 : vi V x 4 ≤ vi V1 x 4) (h42 : vi V1 x 4 ≤ vi V2 x 4) (f : RVC K V V1 x a b t X) (f1 : MRV V1 V2 m a b t Y) (b3 : mpbits w1 = true) (b4 : mvbits w1 = true) (b5 : mlbits w1 = true) (c1 : psbits w2 = true) (c2 : pvbits w2 = true) (c3 : ldbits w2 = true) : X = Y ∧ PLE V2 x m := by
  have h' := h
  obtain ⟨hI, hO, r1, r2, r3, r4, r6, r7⟩ := h
  have gm : MSM V V1 m := MSM.fr hF1 hE1 hW hm b3 b4 b5
  have gs : SMC V1 V2 x := SMC.fr hF2 hE2 hW1 (hE1.obj (Or.inl (by decide)) hx) c1 c2 c3
  have ecd : RVD ((vi V (vq V x 0) 3)) ((vi V (vq V x 0) 4)) a b t ↔ RVD (vi V1 m 0) (vi V1 m 1) a b t := by rw [gm.2.2.1, gm.2.2.2.1, r1, r2]
  have e1 := gm.1.1
  rcases f with ⟨a1, a2, a3⟩ | ⟨a1, a3⟩
  · subst a3
    rcases f1 with ⟨d1, d2, d3⟩ | ⟨d1, d3⟩
    · subst d3
      exact ⟨by omega, h'.same gs h42 MSM.rf⟩
    · exact absurd (ecd.mpr d1) a2
  · rcases f1 with ⟨d1, d2, d3⟩ | ⟨d1, d3⟩
    · subst d3
      rcases d2 with d2 | d2
      · exact absurd (ecd.mp a1) d2
      · exact PLE.full h' a3 (by rw [r4, ← e1]; exact d2) gm gs MSM.rf d1 h41 h42
    · exact PLE.new h' hx hW a3 gm gs d3 (fun _ => rfl) a1.1.1 (fun q => by omega) h41 h42
theorem PLE.site {w1 w2 : Nat} (h : PLE V x m) (hx : K x = some (0, 10)) (hm : K m = some (0, 11)) (hW : WT K V) (hW1 : WT K1 V1) (hE1 : ext K K1) (hF1 : FR w1 K V K1 V1) (hE2 : ext K1 K2) (hF2 : FR w2 K1 V1 K2 V2) (h41 : vi V x 4 ≤ vi V1 x 4) (h42 : vi V1 x 4 ≤ vi V2 x 4) (f : SIC K V V1 x c b X) (f1 : MSI V1 V2 m c b Y) (b3 : mpbits w1 = true) (b4 : mvbits w1 = true) (b5 : mlbits w1 = true) (c1 : psbits w2 = true) (c2 : pvbits w2 = true) (c3 : ldbits w2 = true) : X = Y ∧ PLE V2 x m := by
  have h' := h
  obtain ⟨hI, hO, r1, r2, r3, r4, r6, r7⟩ := h
  have gm : MSM V V1 m := MSM.fr hF1 hE1 hW hm b3 b4 b5
  have gs : SMC V1 V2 x := SMC.fr hF2 hE2 hW1 (hE1.obj (Or.inl (by decide)) hx) c1 c2 c3
  have ecd : (0 ≤ c ∧ c < ((vi V (vq V x 0) 3)) * ((vi V (vq V x 0) 4))) ↔ (0 ≤ c ∧ c < (vi V1 m 0) * (vi V1 m 1)) := by rw [gm.2.2.1, gm.2.2.2.1, r1, r2]
  have e1 := gm.1.1
  rcases f with ⟨a1, a2, a3⟩ | ⟨a1, a3⟩
  · subst a3
    rcases f1 with ⟨d1, d2, d3⟩ | ⟨d1, d3⟩
    · subst d3
      exact ⟨by omega, h'.same gs h42 MSM.rf⟩
    · exact absurd (ecd.mpr d1) a2
  · rcases f1 with ⟨d1, d2, d3⟩ | ⟨d1, d3⟩
    · subst d3
      rcases d2 with d2 | d2
      · exact absurd (ecd.mp a1) d2
      · exact PLE.full h' a3 (by rw [r4, ← e1]; exact d2) gm gs MSM.rf d1 h41 h42
    · have hk : (if b ≠ 0 then (5 : Int) else 4) ≠ 0 ∧ (if b ≠ 0 then (5 : Int) else 4) ≠ 2 ∧ (if b ≠ 0 then (5 : Int) else 4) ≠ 3 := by
        split <;> decide
      exact PLE.new h' hx hW a3 gm gs d3 (fun q => by omega) a1 (fun q => by omega) h41 h42
theorem PLE.title {w1 w2 : Nat} (h : PLE V x m) (hx : K x = some (0, 10)) (hm : K m = some (0, 11)) (hW : WT K V) (hW1 : WT K1 V1) (hE1 : ext K K1) (hF1 : FR w1 K V K1 V1) (hE2 : ext K1 K2) (hF2 : FR w2 K1 V1 K2 V2) (h41 : vi V x 4 ≤ vi V1 x 4) (h42 : vi V1 x 4 ≤ vi V2 x 4) (hT : TXE K V x m) (hC : CWI K V x) (hR : YRL V x m) (ht : tdy V x = vi V1 m 2) (f : TIC K V V1 x k n X) (f1 : MTI V1 V2 m k n Y) (b3 : mpbits w1 = true) (b4 : mvbits w1 = true) (b5 : mlbits w1 = true) (b6 : mtbits w1 = true) (b7 : ymbits w1 = true) (c1 : psbits w2 = true) (c2 : pvbits w2 = true) (c3 : ldbits w2 = true) : X = Y ∧ PLE V2 x m := by
  have h' := h
  obtain ⟨hI, hO, hr⟩ := h
  have hr' := hr
  obtain ⟨r1, r2, r3, r4, r6, r7⟩ := hr
  have gm : MSM V V1 m := MSM.fr hF1 hE1 hW hm b3 b4 b5
  have gs : SMC V1 V2 x := SMC.fr hF2 hE2 hW1 (hE1.obj (Or.inl (by decide)) hx) c1 c2 c3
  have hd := (hW.int (ld_at hW hx).1 (j := 0) (Nat.le_of_ble_eq_true rfl) rfl).2
  have hp9 := (hW.int hx (j := 4) (Nat.le_of_ble_eq_true rfl) rfl).2
  have h47 := (hW.int hm (j := 47) (Nat.le_of_ble_eq_true rfl) rfl).2
  have e1 := gm.1.1
  have etd : TID V x k n ↔ MTD V1 m k n := by
    unfold TID PK MTD MPK
    rw [gm.1.2.2.1, e1, ← r4]
    constructor
    · rintro ⟨⟨q0, q1, q2⟩, q3⟩
      have hk : ((k.toNat : Nat) : Int) < vi V x 6 := by omega
      rw [hr'.kd hk] at q2
      exact ⟨⟨q0, q1, q2⟩, q3⟩
    · rintro ⟨⟨q0, q1, q2⟩, q3⟩
      have hk : ((k.toNat : Nat) : Int) < vi V x 6 := by omega
      rw [← hr'.kd hk] at q2
      exact ⟨⟨q0, q1, q2⟩, q3⟩
  -- the claim's number and party
  have hcl : TID V x k n → ((k.toNat : Nat) : Int) < vi V x 6 ∧ (plT V x k.toNat).2.2.2 = ar 17 V1 m k.toNat ∧ (plT V x k.toNat).2.1 = ar 14 V1 m k.toNat ∧ 0 ≤ (plT V x k.toNat).2.1 ∧ (plT V x k.toNat).2.1 < vi V x 4 := fun g => by
    have q0 := g.1.1
    have q1 := g.1.2.1
    have hk : ((k.toNat : Nat) : Int) < vi V x 6 := by omega
    have e := (r6 _ hk).1
    have ho := hO _ hk g.1.2.2
    have k13 : ar 13 V m k.toNat = 0 := (hr'.kd hk).symm.trans g.1.2.2
    refine ⟨hk, ?_, ?_, ho.1, ho.2⟩
    · rw [e, gm.1.2.2.2.2.2]
      show (if ar 13 V m k.toNat = 0 ∨ _ then _ else _) = _
      rw [if_pos (Or.inl k13)]
    · rw [e, gm.1.2.2.2.1]
      rfl
  have easl : TID V x k n → ∀ Y', MAS V1 m (ar 14 V1 m k.toNat) Y' → (Y' ≠ 0 ↔ ASL K V x (plT V x k.toNat).2.1) := fun g Y' ga => by
    obtain ⟨-, -, q2, q3, q4⟩ := hcl g
    rw [← q2] at ga
    exact asl_both hT hC hR (by omega) (by omega) (fun L hL => hL.fr hF1 hE1 hW hm b6) (YMS.fr hF1 hE1 hW hm b7) ht hd ⟨q3, q4⟩ ga
  rcases f hI hO with ⟨a1, a2, a3⟩ | ⟨a1, a2, a3, a4, a5, a6, -, a8⟩
  · rcases f1 with ⟨d1, d2, d3⟩ | ⟨d1, d2, d3, -⟩
    · exact ⟨by omega, ((h'.same a3 h41 gm).same gs h42 d3)⟩
    · exfalso
      have hT0 := etd.mpr d2
      obtain ⟨-, q1, q2, -⟩ := hcl hT0
      rcases a2 with a2 | ⟨a2, a2'⟩
      · exact a2 hT0
      · rcases d3 with d3 | ⟨Y', d3, d3'⟩
        · omega
        · exact ((easl hT0 Y' d3).mpr a2') d3'
  · have hT0 := a2
    obtain ⟨hk, q1, q2, q3, q4⟩ := hcl hT0
    rcases f1 with ⟨d1, d2, d3⟩ | ⟨d1, d2, d3, d4, d5, d6, -, d8⟩
    · exfalso
      rcases d2 with d2 | ⟨d2, Y', d2a, d2b⟩
      · exact d2 (etd.mp hT0)
      · exact a3 ⟨by omega, (easl hT0 Y' d2a).mp d2b⟩
    · have hplo : ∀ j : Nat, (j : Int) < vi V x 6 → plO V1 x j = plO V x j := fun j hj => vq_eq2 (a8 j hj).1
      have hI1 : PLI V1 x := by
        refine ⟨fun j hj => ?_, fun i j hij hj => ?_, fun j hj => ?_, fun z => ?_⟩
        · rw [a6] at hj
          rw [(a8 j hj).1]
          exact hI.1 j hj
        · rw [a6] at hj
          rw [hplo i (by omega), hplo j hj]
          exact hI.2.1 i j hij hj
        · rw [a6] at hj
          rw [a4.1, a4.2.1, a5 j hj]
          exact hI.2.2.1 j hj
        · rw [a4.2.2 7 (by decide) (by decide)]
          exact hI.2.2.2 z
      have hO1 : OWC V1 x := fun j hj hd => by
        rw [a6] at hj
        have e := (a8 j hj).2
        have hdd : (plT V1 x j).1 = 0 := hd
        rw [e] at hdd ⊢
        by_cases q : j = k.toNat
        · subst q
          rw [if_pos rfl]
          exact ⟨q3, by show (plT V x k.toNat).2.1 < _; omega⟩
        · rw [if_neg q] at hdd ⊢
          have := hO j hj hdd
          exact ⟨this.1, by omega⟩
      obtain ⟨g1, g2, g3, g4⟩ := gs hI1
      refine ⟨by omega, g1, hO1.same g2 h42, ?_, ?_, fun s h5 h8 => ?_, ?_, fun j hj => ?_, fun j hj h60 => ?_⟩
      · rw [g4.1, a4.1, d4.1, gm.2.2.1]; exact r1
      · rw [g4.2.1, a4.2.1, d4.2.1, gm.2.2.2.1]; exact r2
      · rw [g4.2.2 s h5 h8, a4.2.2 s h5 h8, d4.2.2 s h5 h8, gm.2.2.2.2 s h5 h8]; exact r3 s h5 h8
      · rw [g2.1, a6, d6, e1]; exact r4
      · rw [g2.1, a6] at hj
        have hj1 : (j : Int) < vi V1 x 6 := by rw [a6]; exact hj
        have e := r6 j hj
        have ev : mlv V2 m j = mlv V m j := by
          obtain ⟨u1, u2, u3⟩ := d5
          have hk13 : ar 13 V2 m j = ar 13 V1 m j := by
            have h8 := congrArg (fun r => r.1) (d8 j)
            have h8' : ar 13 V2 m j = (if j = k.toNat then (0, (mlT V1 m j).2.1, (mlT V1 m j).2.2.1, n) else mlT V1 m j).1 := h8
            rw [h8']
            by_cases q : j = k.toNat
            · rw [if_pos q, q]
              exact d2.1.2.2.symm
            · rw [if_neg q]
              rfl
          have e0 : mlv V2 m j = mlv V1 m j := by
            unfold mlv
            rw [u1, u2, u3, hk13]
          rw [e0]
          exact gm.2.1.mv gm.1 j
        refine ⟨?_, by rw [g3 j hj1, a5 j hj, ev]; exact e.2⟩
        rw [(g2.2.2 j hj1).2, (a8 j hj).2, d8 j, gm.1.mT j, e.1]
      · rw [g2.1, a6] at hj
        rw [d5.2.2, gm.2.1.2.2]
        exact r7 j hj h60
theorem PLE.day {w1 w2 : Nat} (h : PLE V x m) (hx : K x = some (0, 10)) (hm : K m = some (0, 11)) (hW : WT K V) (hW1 : WT K1 V1) (hE1 : ext K K1) (hF1 : FR w1 K V K1 V1) (hE2 : ext K1 K2) (hF2 : FR w2 K1 V1 K2 V2) (h41 : vi V x 4 ≤ vi V1 x 4) (h42 : vi V1 x 4 ≤ vi V2 x 4) (ht : tdy V x = vi V1 m 2) (hXY : X = Y) (f : DYP V V1 x X) (f1 : MDY V1 V2 m Y) (b3 : mpbits w1 = true) (b4 : mvbits w1 = true) (b5 : mlbits w1 = true) (c1 : psbits w2 = true) (c2 : pvbits w2 = true) (c3 : ldbits w2 = true) : PLE V2 x m := by
  have h' := h
  obtain ⟨hI, hO, hr⟩ := h
  have hr' := hr
  obtain ⟨r1, r2, r3, r4, r6, r7⟩ := hr
  have gm : MSM V V1 m := MSM.fr hF1 hE1 hW hm b3 b4 b5
  have gs : SMC V1 V2 x := SMC.fr hF2 hE2 hW1 (hE1.obj (Or.inl (by decide)) hx) c1 c2 c3
  have e1 := gm.1.1
  rcases f with ⟨a1, a2⟩ | ⟨a1, a2⟩
  · rcases f1 with ⟨d1, d2⟩ | ⟨d1, -⟩
    · subst a2 d2
      exact h'.same gs h42 MSM.rf
    · omega
  · rcases f1 with ⟨d1, -⟩ | ⟨-, d1, d2, d3⟩
    · omega
    · obtain ⟨i1, i2, i3, i4⟩ := a2 hI
      obtain ⟨g1, g2, g3, g4⟩ := gs i1
      have h6 := (hW.int hx (j := 6) (Nat.le_of_ble_eq_true rfl) rfl).2
      have en : (vi V1 m 10).toNat = (vi V x 6).toNat := by rw [e1, r4]
      have efo : ∀ j, mfo V1 m j = pfo V x j := fun j => by rw [gm.1.fo, ← hr'.fo]
      have hE : ∀ j : Nat, (j : Int) < vi V x 6 → plv V1 x j = mlv V2 m j := fun j hj => by
        rw [i4 j hj, d3 j, gm.2.2.1, gm.2.2.2.1, gm.2.2.2.2 6 (by decide) (by decide), gm.2.2.2.2 7 (by decide) (by decide), gm.2.2.2.2 8 (by decide) (by decide), gm.1.2.2.1, en, ht, r1, r2, r3 6 (by decide) (by decide), r3 7 (by decide) (by decide), r3 8 (by decide) (by decide)]
        exact pan_cong (n := (vi V x 6).toNat) (fun u hu => hr'.kd (by omega)) (fun u _ => (efo u).symm) (fun u hu => by rw [gm.2.1.mv gm.1 u]; exact (r6 u (by omega)).2) _ (Nat.le_refl _) j (by omega)
      refine ⟨g1, (hO.same i2 h41).same g2 h42, ?_, ?_, fun s h5 h8 => ?_, ?_, fun j hj => ?_, fun j hj h60 => ?_⟩
      · rw [g4.1, i3.1, d2.1, gm.2.2.1]; exact r1
      · rw [g4.2.1, i3.2.1, d2.2.1, gm.2.2.2.1]; exact r2
      · rw [g4.2.2 s h5 h8, i3.2.2 s h5 h8, d2.2.2 s h5 h8, gm.2.2.2.2 s h5 h8]; exact r3 s h5 h8
      · rw [g2.1, i2.1, d1.1, e1]; exact r4
      · rw [g2.1, i2.1] at hj
        have hj1 : (j : Int) < vi V1 x 6 := by rw [i2.1]; exact hj
        refine ⟨?_, by rw [g3 j hj1]; exact hE j hj⟩
        rw [(g2.2.2 j hj1).2, (i2.2.2 j hj).2, d1.mT, gm.1.mT]
        exact (r6 j hj).1
      · rw [g2.1, i2.1] at hj
        have h9 : mlv V2 m j = mlv V1 m j := by
          rw [d3 j]
          exact pan_hi (n := (vi V x 6).toNat) (fun u hu => by
            rw [efo]
            unfold pfo
            rw [if_neg (fun q => by have := q.1; omega)]) _ (by omega) j (by omega)
        have h10 : ar 28 V2 m j = ar 28 V1 m j := congrArg (fun r => r.2.1) h9
        rw [h10, gm.2.1.2.2]
        exact r7 j hj h60
end PF
