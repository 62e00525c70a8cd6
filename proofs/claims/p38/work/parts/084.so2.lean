/-! ### places behind a call: where they stand, and what is new; soundings of a new site -/
section SO2
variable {K K0 K1 K2 K3 Kn Ki : Kmap} {V V0 V1 V2 V3 V9 Vn Vi W : Vmap} {x m o t q : Nat} {i j n k c s e d p a b w z X Y Z : Int} {T : Int × Int × Int × Int} {v : Int × Int × Int}
/-- places stay where they stand; what is new is of kind g -/
def POL (V V1 : Vmap) (x : Nat) (g : Int) : Prop := vi V x 6 ≤ vi V1 x 6 ∧ (∀ k : Nat, (k : Int) < vi V x 6 → plO V1 x k = plO V x k) ∧ ∀ k : Nat, vi V x 6 ≤ (k : Int) → (k : Int) < vi V1 x 6 → pkd V1 x k = g
def pobits (ws : Nat) : Bool := [keyK (0, 10) 5, keyK (0, 10) 6, abase + 6].all fun b => !ws.testBit b
theorem POL.fr {ws : Nat} {g : Int} (hF : FR ws K V K1 V1) (hE : ext K K1) (hW : WT K V) (hx : K x = some (0, 10)) (hb : pobits ws = true) : POL V V1 x g := by
  simp only [pobits, List.all_cons, List.all_nil, Bool.and_true, Bool.and_eq_true, Bool.not_eq_true'] at hb
  obtain ⟨c5, c6, a⟩ := hb
  have hx1 := hE.obj (Or.inl (by decide)) hx
  obtain ⟨N, hA⟩ := (hW.ref hx (j := 5) (Nat.le_of_ble_eq_true rfl) rfl).2
  have e5 : vq V1 x 5 = vq V x 5 := vq_eq (hF x _ 5 hx hx1 c5)
  have e6 : vi V1 x 6 = vi V x 6 := vi_fr hF hx hx1 c6
  refine ⟨by omega, fun k _ => ?_, fun k h1 h2 => by omega⟩
  unfold plO
  rw [e5]
  exact vq_eq (hF _ _ k hA (hE.arr hA) a)
theorem POL.pls {g : Int} (f : PLS V V1 x) : POL V V1 x g := ⟨Int.le_of_eq f.1.symm, fun k hk => vq_eq2 (f.2.2 k hk).1, fun k h1 h2 => by
  have := f.1
  omega⟩
theorem POL.nl (h : NEWL K V V1 x X T v) (hI : PLI V x) : POL V V1 x T.1 := by
  obtain ⟨-, ⟨-, -, h1, -⟩ | ⟨h1, h2, h3, h4, h5, -, -, h6, -⟩⟩ := h hI
  · exact POL.pls h1
  · refine ⟨by omega, fun k hk => vq_eq2 (h5 k hk).1, fun k h7 h8 => ?_⟩
    have e : k = (vi V x 6).toNat := by omega
    rw [e]
    exact congrArg (fun q : Int × Int × Int × Int => q.1) h6
theorem CLM.pol (h : CLM K V V1 x p a b c X) (hI : PLI V x) : POL V V1 x 0 := by
  rcases h with ⟨-, -, g⟩ | ⟨-, -, g⟩
  · exact POL.pls (g hI).2.1
  · exact POL.nl g hI
theorem STC.pol (h : STC K V V1 x p c a b X) (hI : PLI V x) : POL V V1 x 1 := by
  rcases h with ⟨-, -, g⟩ | ⟨-, g⟩
  · subst g
    exact POL.pls PLS.rf
  · exact POL.nl g hI
theorem FLC.pol (h : FLC K V V1 x k c X) (hI : PLI V x) : POL V V1 x 2 := by
  rcases h hI with ⟨-, -, g⟩ | ⟨-, g⟩
  · subst g
    exact POL.pls PLS.rf
  · exact POL.nl g hI
theorem RVC.pol (h : RVC K V V1 x a b c X) (hI : PLI V x) : POL V V1 x 3 := by
  rcases h with ⟨-, -, g⟩ | ⟨-, g⟩
  · subst g
    exact POL.pls PLS.rf
  · exact POL.nl g hI
theorem SIC.pol (h : SIC K V V1 x c b X) (hI : PLI V x) : POL V V1 x (if b ≠ 0 then 5 else 4) := by
  rcases h with ⟨-, -, g⟩ | ⟨-, g⟩
  · subst g
    exact POL.pls PLS.rf
  · exact POL.nl g hI
def mobits (ws : Nat) : Bool := [keyK (0, 11) 121, keyK (0, 11) 122, keyK (0, 11) 123, abase + 97, abase + 98, abase + 99].all fun b => !ws.testBit b
theorem mo_fr {ws : Nat} (hF : FR ws K V K1 V1) (hE : ext K K1) (hW : WT K V) (hm : K m = some (0, 11)) (hb : mobits ws = true) : ar 121 V1 m = ar 121 V m ∧ ar 122 V1 m = ar 122 V m ∧ ar 123 V1 m = ar 123 V m := by
  simp only [mobits, List.all_cons, List.all_nil, Bool.and_true, Bool.and_eq_true, Bool.not_eq_true'] at hb
  obtain ⟨c1, c2, c3, a1, a2, a3⟩ := hb
  exact ⟨arq hF hE hm (hW.ref hm (j := 121) (Nat.le_of_ble_eq_true rfl) rfl).2 c1 a1, arq hF hE hm (hW.ref hm (j := 122) (Nat.le_of_ble_eq_true rfl) rfl).2 c2 a2, arq hF hE hm (hW.ref hm (j := 123) (Nat.le_of_ble_eq_true rfl) rfl).2 c3 a3⟩
theorem SOE.frx {ws : Nat} {g : Int} (h : SOE V x m) (hF : FR ws K V K1 V1) (hE : ext K K1) (hW : WT K V) (hx : K x = some (0, 10)) (hm : K m = some (0, 11)) (hN : NN 6 5 V x) (hp : POL V V1 x g) (hg : g ≠ 4) (b1 : sobits ws = true) (b2 : mobits ws = true) : SOE V1 x m := by
  obtain ⟨e1, e2, e3⟩ := mo_fr hF hE hW hm b2
  exact h.same (SOS.fr hF hE hW hx hN h.1 hp.2.1 b1) hp.1 (fun k h1 h2 => by rw [hp.2.2 k h1 h2]; exact hg) e1 e2 e3
/-! a new site's table -/
def TBF (K : Kmap) (V : Vmap) (x : Nat) : Prop := K (vq V x 2) = none
theorem TBF.mk (f2 : V x 2 = .ref o) (hn : K o = none) : TBF K V x := by
  unfold TBF
  rw [vq_of f2]
  exact hn
def SNW (K K1 : Kmap) (V : Vmap) (x : Nat) (p : Int) : Prop := p = 4 → V x 15 = .ref (snO V x) ∧ K (snO V x) = none ∧ K1 (snO V x) = some (0, 34) ∧ snz V x = 0 ∧ K (vq V (snO V x) 2) = none
theorem SNW.no (h : p ≠ 4) : SNW K K1 V x p := fun g => absurd g h
theorem SNW.mk {kd : Nat × Nat} {u : Value} (f : V x 15 = .ref q) (n : q ≠ x) (hb : K q = none) (hk : K1 q = some (0, 34)) (e : V = upd2 V9 x 15 u) (hz : vi V9 q 3 = 0) (hK : K2 = updK K q kd) (hT : TBF K2 V9 q) : SNW K K1 V x p := fun _ => by
  have eo : snO V x = q := vq_of f
  have e2 : vq V q 2 = vq V9 q 2 := vq_up e (Or.inl n)
  unfold snz
  rw [eo, e2]
  refine ⟨f, hb, hk, (vi_up e (Or.inl n)).trans hz, ?_⟩
  unfold TBF at hT
  rw [hK] at hT
  by_cases g : vq V9 q 2 = q
  · rw [g, updK_same] at hT
    cases hT
  · rwa [updK_ne g] at hT
theorem NN.back {ws : Nat} (h : NN 6 5 V1 x) (hF : FR ws K V K1 V1) (hE : ext K K1) (hW : WT K V) (hx : K x = some (0, 10)) (hb : pobits ws = true) : NN 6 5 V x := fun j hj => by
  simp only [pobits, List.all_cons, List.all_nil, Bool.and_true, Bool.and_eq_true, Bool.not_eq_true'] at hb
  obtain ⟨c5, c6, a⟩ := hb
  have hx1 := hE.obj (Or.inl (by decide)) hx
  obtain ⟨N, hA⟩ := (hW.ref hx (j := 5) (Nat.le_of_ble_eq_true rfl) rfl).2
  have e5 : vq V1 x 5 = vq V x 5 := vq_eq (hF x _ 5 hx hx1 c5)
  have e6 : vi V1 x 6 = vi V x 6 := vi_fr hF hx hx1 c6
  have h1 := h j (by rw [e6]; exact hj)
  rw [e5, hF _ _ j hA (hE.arr hA) a] at h1
  exact h1
theorem SOE.new2 {w1 w2 : Nat} {g : Int} (h : SOE V x m) (hI : PLI V x) (hx : K x = some (0, 10)) (hm : K m = some (0, 11)) (hW : WT K V) (hW1 : WT K1 V1) (hE1 : ext K K1) (hF1 : FR w1 K V K1 V1) (hE2 : ext K1 K2) (hF2 : FR w2 K1 V1 K2 V2) (hp : POL V V1 x g) (hg : g ≠ 4) (hN2 : NN 6 5 V2 x) (b1 : sobits w1 = true) (b2 : mobits w1 = true) (c0 : pobits w2 = true) (c1 : sobits w2 = true) (c2 : mobits w2 = true) : SOE V2 x m := by
  have hx1 := hE1.obj (Or.inl (by decide)) hx
  have hm1 := hE1.obj (Or.inl (by decide)) hm
  exact (h.frx hF1 hE1 hW hx hm hI.1 hp hg b1 b2).frx (g := 0) hF2 hE2 hW1 hx1 hm1 (NN.back hN2 hF2 hE2 hW1 hx1 c0) (POL.fr hF2 hE2 hW1 hx1 c0) (by decide) c1 c2
def NST (K : Kmap) (V V1 : Vmap) (x : Nat) (b X : Int) : Prop := b = 0 → X ≠ -1 → V1 (plO V1 x (vi V x 6).toNat) 15 = .ref (snO V1 (plO V1 x (vi V x 6).toNat)) ∧ K (snO V1 (plO V1 x (vi V x 6).toNat)) = none ∧ snz V1 (plO V1 x (vi V x 6).toNat) = 0 ∧ K (vq V1 (snO V1 (plO V1 x (vi V x 6).toNat)) 2) = none
theorem NST.no (hX : X = -1) : NST K V V1 x b X := fun _ g => absurd hX g
theorem NST.nb (h : b ≠ 0) : NST K V V1 x b X := fun g => absurd g h
theorem NST.mk {kd : Nat × Nat} (s : SNW K2 K3 V3 q p) (hp : p = 4) (hq : K q = none) (hK : K2 = updK K q kd) (ho : K3 q = some (0, 3)) (hx3 : K3 x = some (0, 10)) (hW3 : WT K3 V3) (h6 : vi V3 x 6 = vi V x 6) (hs : SET V3 V1 x q X) : NST K V V1 x b X := fun _ hX => by
  rcases hs with ⟨h1, -⟩ | ⟨h1, h2, V4, e1, e2⟩
  · exact absurd h1 hX
  · obtain ⟨s1, s2, s3, s4, s5⟩ := s hp
    obtain ⟨N, hA⟩ := (hW3.ref hx3 (j := 5) (Nat.le_of_ble_eq_true rfl) rfl).2
    have nxa : x ≠ vq V3 x 5 := K_ne hx3 hA (by simp)
    have nqx : q ≠ x := K_ne ho hx3 (by decide)
    have nqa : q ≠ vq V3 x 5 := K_ne ho hA (by simp)
    have ntx : snO V3 q ≠ x := K_ne s3 hx3 (by decide)
    have nta : snO V3 q ≠ vq V3 x 5 := K_ne s3 hA (by simp)
    have h5 : vq V1 x 5 = vq V3 x 5 := (vq_up e2 (Or.inr (by decide))).trans (vq_up e1 (Or.inl nxa))
    have hnew : V1 (vq V1 x 5) (vi V3 x 6).toNat = .ref q := by rw [h5, uq_ne e2 (Or.inl (Ne.symm nxa)), uq_same e1]
    have eq : plO V1 x (vi V x 6).toNat = q := by
      rw [← h6]
      exact vq_of hnew
    have e15 : V1 q 15 = V3 q 15 := (uq_ne e2 (Or.inl nqx)).trans (uq_ne e1 (Or.inl nqa))
    have eo : snO V1 q = snO V3 q := vq_eq e15
    have et : ∀ f, V1 (snO V3 q) f = V3 (snO V3 q) f := fun f => (uq_ne e2 (Or.inl ntx)).trans (uq_ne e1 (Or.inl nta))
    have none2 : ∀ r, K2 r = none → K r = none := fun r hr => by
      rw [hK] at hr
      by_cases g : r = q
      · rw [g]
        exact hq
      · rwa [updK_ne g] at hr
    rw [eq, e15, eo, s1, vq_eq (et 2)]
    refine ⟨rfl, none2 _ s2, ?_, none2 _ s5⟩
    show vi V1 (snO V1 q) 3 = 0
    rw [eo, vi_eq (et 3)]
    exact s4
theorem SOE.site {w1 w2 : Nat} (h : SOE V x m) (hI : PLI V x) (hx : K x = some (0, 10)) (hm : K m = some (0, 11)) (hW : WT K V) (hW1 : WT K1 V1) (hE1 : ext K K1) (hF1 : FR w1 K V K1 V1) (hE2 : ext K1 K2) (hF2 : FR w2 K1 V1 K2 V2) (f : SIC K V V1 x c b X) (f1 : NST K V V1 x b X) (hN2 : NN 6 5 V2 x) (h60 : vi V x 6 ≤ 60) (b1 : sobits w1 = true) (b2 : mobits w1 = true) (c0 : pobits w2 = true) (c1 : sobits w2 = true) (c2 : mobits w2 = true) : SOE V2 x m := by
  have hp := f.pol hI
  have hx1 := hE1.obj (Or.inl (by decide)) hx
  have hm1 := hE1.obj (Or.inl (by decide)) hm
  have mid : SOE V1 x m := by
    by_cases q : b = 0
    · rcases f with ⟨-, -, g⟩ | ⟨-, g⟩
      · rw [g]
        obtain ⟨e1, e2, e3⟩ := mo_fr hF1 hE1 hW hm b2
        rw [g] at e1 e2 e3
        exact h
      · obtain ⟨-, ⟨g1, -, g2, -⟩ | ⟨g1, g2, g3, g4, g5, -, g7, g8, -⟩⟩ := g hI
        · exact h.frx (g := 0) hF1 hE1 hW hx hm hI.1 (POL.pls g2) (by decide) b1 b2
        · obtain ⟨n1, n2, n3, n4⟩ := f1 q (by omega)
          obtain ⟨e1, e2, e3⟩ := mo_fr hF1 hE1 hW hm b2
          have hs := SOS.fr hF1 hE1 hW hx hI.1 h.1 hp.2.1 b1
          obtain ⟨⟨h1, h2⟩, h3, h4⟩ := h
          have hk0 : ∀ k : Nat, (k : Int) < vi V1 x 6 → (k : Int) < vi V x 6 ∨ k = (vi V x 6).toNat := fun k hk => by omega
          refine ⟨⟨fun k hk qk => ?_, fun i j hij hj qi qj => ?_⟩, fun k hk qk => ?_, fun k hk hk60 => ?_⟩
          · rcases hk0 k hk with r | r
            · obtain ⟨s1, s2, s3⟩ := hs k r
              rw [s2] at qk
              rw [s1, (s3 qk).1]
              exact h1 k r qk
            · rw [r, n1]
              exact fun e => by cases e
          · have ri : (i : Int) < vi V x 6 := by omega
            obtain ⟨s1, s2, s3⟩ := hs i ri
            rw [s2] at qi
            have p1 := s3 qi
            have o1 : snO V1 (plO V x i) = snO V (plO V x i) := vq_eq p1.1
            have at_i := so_at hW hx hI.1 ⟨h1, h2⟩ ri qi
            rcases hk0 j hj with r | r
            · obtain ⟨t1, t2, t3⟩ := hs j r
              rw [t2] at qj
              have p2 := t3 qj
              have o2 : snO V1 (plO V x j) = snO V (plO V x j) := vq_eq p2.1
              rw [s1, t1, o1, o2, p1.2.2.1, p2.2.2.1]
              exact h2 i j hij r qi qj
            · rw [s1, o1, p1.2.2.1, r]
              have hc := (sn_tab hW at_i.2.2).1
              refine ⟨fun e => ?_, fun e => ?_⟩
              · rw [← e, at_i.2.2] at n2
                cases n2
              · rw [← e, hc] at n4
                cases n4
          · rcases hk0 k hk with r | r
            · obtain ⟨s1, s2, s3⟩ := hs k r
              rw [s2] at qk
              have p1 := s3 qk
              have u := h3 k r qk
              unfold SNB mlo mhi at u ⊢
              rw [s1, e1, e2, e3, p1.2.1]
              refine ⟨u.1, u.2.1, fun i hi => ?_⟩
              rw [p1.2.2.2, p1.2.2.2]
              exact u.2.2 i hi
            · have z0 : ar 121 V1 m k = 0 := by
                rw [e1]
                exact h4 k (by omega) (by omega)
              unfold SNB
              rw [z0, r, n3]
              exact ⟨rfl, fun i hi => by omega, fun i hi => by omega⟩
          · rw [e1]
            exact h4 k (by omega) hk60
    · rw [if_pos q] at hp
      exact h.frx hF1 hE1 hW hx hm hI.1 hp (by decide) b1 b2
  exact mid.frx (g := 0) hF2 hE2 hW1 hx1 hm1 (NN.back hN2 hF2 hE2 hW1 hx1 c0) (POL.fr hF2 hE2 hW1 hx1 c0) (by decide) c1 c2
/-! sound() and sure() -/
theorem SOE.sound {w1 w2 : Nat} (h : SOE V x m) (hP : PLE V x m) (hx : K x = some (0, 10)) (hm : K m = some (0, 11)) (hW : WT K V) (hW1 : WT K1 V1) (hE1 : ext K K1) (hF1 : FR w1 K V K1 V1) (hE2 : ext K1 K2) (hF2 : FR w2 K1 V1 K2 V2) (f : SNC K V V1 x k d w X) (f1 : MSU V1 V2 m k d w Y) (hI1 : NN 6 5 V1 x) (h1m : vi V1 m 10 = vi V m 10) (h13 : ar 13 V1 m = ar 13 V m) (b1 : mobits w1 = true) (c0 : pobits w2 = true) (c1 : sobits w2 = true) (p1 : pobits w1 = true) (p2 : w1.testBit (keyK (0, 3) 0) = false) : X = Y ∧ SOE V2 x m := by
  have hx1 := hE1.obj (Or.inl (by decide)) hx
  have hm1 := hE1.obj (Or.inl (by decide)) hm
  obtain ⟨e1, e2, e3⟩ := mo_fr hF1 hE1 hW hm b1
  obtain ⟨hI, -, -, -, -, hn, hk, -⟩ := hP
  have hpo := POL.fr (g := 0) hF1 hE1 hW hx p1
  have hp2 := POL.fr (g := 0) hF2 hE2 hW1 hx1 c0
  have n61 : vi V1 x 6 = vi V x 6 := by
    simp only [pobits, List.all_cons, List.all_nil, Bool.and_true, Bool.and_eq_true, Bool.not_eq_true'] at p1
    exact vi_fr hF1 hx hx1 p1.2.1
  have n62 : vi V2 x 6 = vi V1 x 6 := by
    simp only [pobits, List.all_cons, List.all_nil, Bool.and_true, Bool.and_eq_true, Bool.not_eq_true'] at c0
    exact vi_fr hF2 hx1 (hE2.obj (Or.inl (by decide)) hx1) c0.2.1
  have hpk : PK V x k 4 ↔ MPK V1 m k 4 := by
    unfold PK MPK
    rw [h1m, ← hn, h13]
    constructor
    · rintro ⟨g1, g2, g3⟩
      refine ⟨g1, g2, ?_⟩
      rw [← g3]
      exact (congrArg (fun q : Int × Int × Int × Int => q.1) (hk k.toNat (by omega)).1).symm
    · rintro ⟨g1, g2, g3⟩
      refine ⟨g1, g2, ?_⟩
      rw [← g3]
      exact congrArg (fun q : Int × Int × Int × Int => q.1) (hk k.toNat (by omega)).1
  rcases f hI.1 with ⟨a1, a2, a3⟩ | ⟨a1, a2, a3, a4, a5, a6⟩
  · rcases f1 with ⟨d1, d2, d3⟩ | ⟨d1, d2, d3, d4, d5, -⟩
    · refine ⟨a1.trans d1.symm, ?_⟩
      have hs : SOS V V1 x := by
        rw [a2]
        exact fun _ _ => ⟨rfl, rfl, fun _ => ⟨rfl, rfl, rfl, fun _ _ => rfl⟩⟩
      have mid : SOE V1 x m := h.same hs hpo.1 (fun u h1 h2 => by omega) e1 e2 e3
      have hs2 : SOS V1 V2 x := SOS.fr hF2 hE2 hW1 hx1 hI1 mid.1 hp2.2.1 c1
      refine mid.same hs2 hp2.1 (fun u h1 h2 => by omega) ?_ ?_ ?_
      all_goals rw [d2]
    · exfalso
      have q1 := hpk.mpr d2
      have hk' : ((k.toNat : Nat) : Int) < vi V x 6 := by have := q1.2.1; have := q1.1; omega
      have r := (h.2.1 k.toNat hk' q1.2.2)
      have at_k := so_at hW hx hI.1 h.1 hk' q1.2.2
      rcases a3 with a3 | a3 | a3
      · exact a3 ⟨q1, d3⟩
      · rw [at_k.2.1] at a3
        cases a3
      · have u : ar 121 V m k.toNat ≤ 8 := by
          have hr := (sn_tab hW at_k.2.2).2.1.2.2.1
          have k8 : ((8 : Nat) : Int) = 8 := rfl
          have := r.1
          unfold snz at this
          omega
        have u2 := r.1
        rw [e1] at d4
        omega
  · have hk' : ((k.toNat : Nat) : Int) < vi V x 6 := by have := a2.2.1; have := a2.1; omega
    have r := (h.2.1 k.toNat hk' a2.2.2)
    have at_k := so_at hW hx hI.1 h.1 hk' a2.2.2
    rcases f1 with ⟨d1, d2, d3⟩ | ⟨d1, d2, d3, d4, d5, d6, d7, d8⟩
    · exfalso
      rcases d3 with d3 | d3
      · exact d3 ⟨hpk.mp a2, a3⟩
      · rw [e1] at d3
        have := r.1
        omega
    · refine ⟨a1.trans d1.symm, ?_⟩
      obtain ⟨s1, s2, s3⟩ := sn_tab hW a4
      have k8 : ((8 : Nat) : Int) = 8 := rfl
      have hz : snz V (plO V x k.toNat) = vi V (snO V (plO V x k.toNat)) 3 := rfl
      have hds := a3
      obtain ⟨q1, q2, q3, q4⟩ := hds
      obtain ⟨v1, v2, v3, v4⟩ := apv_all (a := d - w) (b := d + w) (c := 0) (d := 0) (e := 0) s2 a4 (by rw [← hz]; omega) (by decide) ⟨by omega, by omega⟩ ⟨by omega, by omega⟩ (ir_c rfl) (ir_c rfl) (ir_c rfl)
      rw [← a6] at v1 v2 v3 v4
      -- the class's sites behind both calls
      have hnz : 0 ≤ snz V (plO V x k.toNat) := s2.2.1
      have key : ∀ u : Nat, (u : Int) < vi V x 6 → pkd V x u = 4 → plO V1 x u = plO V x u ∧ pkd V1 x u = 4 ∧ V1 (plO V x u) 15 = V (plO V x u) 15 ∧ vq V1 (snO V (plO V x u)) 2 = vq V (snO V (plO V x u)) 2 ∧ snz V1 (plO V x u) = (if u = k.toNat then snz V (plO V x u) + 1 else snz V (plO V x u)) ∧ ∀ i : Nat, (i : Int) < snz V1 (plO V x u) → snr V1 (plO V x u) i 0 = (if u = k.toNat ∧ (i : Int) = snz V (plO V x u) then d - w else snr V (plO V x u) i 0) ∧ snr V1 (plO V x u) i 1 = (if u = k.toNat ∧ (i : Int) = snz V (plO V x u) then d + w else snr V (plO V x u) i 1) := fun u hu h4 => by
        obtain ⟨o1, o2, o3⟩ := so_at hW hx hI.1 h.1 hu h4
        have hc := (sn_tab hW o3).1
        have ep := hpo.2.1 u hu
        have ek : pkd V1 x u = 4 := by
          unfold pkd
          rw [ep, vi_fr hF1 o1 (hE1.obj (Or.inl (by decide)) o1) p2]
          exact h4
        have e15 : V1 (plO V x u) 15 = V (plO V x u) 15 := congrFun (v3 _ (K_ne o1 a4 (by decide)) (K_ne o1 s1 (by simp))) 15
        have eo : snO V1 (plO V x u) = snO V (plO V x u) := vq_eq e15
        refine ⟨ep, ek, e15, ?_, ?_⟩
        · by_cases g : u = k.toNat
          · rw [g]
            exact vq_eq (v2 2 (by decide))
          · have nt : snO V (plO V x u) ≠ snO V (plO V x k.toNat) := by
              rcases Nat.lt_or_gt_of_ne g with l | l
              · exact (h.1.2 u k.toNat l hk' h4 a2.2.2).1
              · exact Ne.symm (h.1.2 k.toNat u l hu a2.2.2 h4).1
            exact vq_eq (congrFun (v3 _ nt (K_ne o3 s1 (by simp))) 2)
        · by_cases g : u = k.toNat
          · subst g
            have ez : snz V1 (plO V x k.toNat) = snz V (plO V x k.toNat) + 1 := by
              unfold snz
              rw [eo]
              exact v1
            refine ⟨by rw [if_pos rfl]; exact ez, fun i hi => ?_⟩
            rw [ez] at hi
            have e2' : vq V1 (snO V (plO V x k.toNat)) 2 = vq V (snO V (plO V x k.toNat)) 2 := vq_eq (v2 2 (by decide))
            have k2 : ((2 : Nat) : Int) = 2 := rfl
            unfold snr
            rw [eo, e2', v4, v4]
            rw [hz] at hi ⊢
            by_cases g : (i : Int) = vi V (snO V (plO V x k.toNat)) 3
            · refine ⟨?_, ?_⟩
              · rw [if_neg (by omega), if_pos (by omega), if_pos ⟨rfl, g⟩]
              · rw [if_neg (by omega), if_neg (by omega), if_pos (by omega), if_pos ⟨rfl, g⟩]
            · refine ⟨?_, ?_⟩
              · rw [if_pos (by omega), if_neg (fun e => g e.2)]
              · rw [if_pos (by omega), if_neg (fun e => g e.2)]
          · have nt : snO V (plO V x u) ≠ snO V (plO V x k.toNat) ∧ vq V (snO V (plO V x u)) 2 ≠ vq V (snO V (plO V x k.toNat)) 2 := by
              rcases Nat.lt_or_gt_of_ne g with l | l
              · exact h.1.2 u k.toNat l hk' h4 a2.2.2
              · exact ⟨Ne.symm (h.1.2 k.toNat u l hu a2.2.2 h4).1, Ne.symm (h.1.2 k.toNat u l hu a2.2.2 h4).2⟩
            have et : ∀ f, V1 (snO V (plO V x u)) f = V (snO V (plO V x u)) f := fun f => congrFun (v3 _ nt.1 (K_ne o3 s1 (by simp))) f
            have ec : ∀ f, V1 (vq V (snO V (plO V x u)) 2) f = V (vq V (snO V (plO V x u)) 2) f := fun f => congrFun (v3 _ (K_ne hc a4 (by simp)) nt.2) f
            refine ⟨?_, fun i _ => ?_⟩
            · rw [if_neg g]
              unfold snz
              rw [eo]
              exact vi_eq (et 3)
            · rw [if_neg (fun e => g e.1), if_neg (fun e => g e.1)]
              unfold snr
              rw [eo, vq_eq (et 2)]
              exact ⟨vi_eq (ec _), vi_eq (ec _)⟩
      have kd1 : ∀ u : Nat, (u : Int) < vi V x 6 → pkd V1 x u = pkd V x u := fun u hu => by
        have o1 := (pl_at hW hx hI.1 hu).2.2
        unfold pkd
        rw [hpo.2.1 u hu]
        exact vi_fr hF1 o1 (hE1.obj (Or.inl (by decide)) o1) p2
      have hI1' : SOI V1 x := by
        refine ⟨fun u hu q => ?_, fun i j hij hj qi qj => ?_⟩
        · rw [n61] at hu
          rw [kd1 u hu] at q
          obtain ⟨y1, -, y3, -⟩ := key u hu q
          rw [y1, y3]
          exact h.1.1 u hu q
        · rw [n61] at hj
          have hi : (i : Int) < vi V x 6 := by omega
          rw [kd1 i hi] at qi
          rw [kd1 j hj] at qj
          obtain ⟨y1, -, y3, y4, -⟩ := key i hi qi
          obtain ⟨z1, -, z3, z4, -⟩ := key j hj qj
          have oi : snO V1 (plO V x i) = snO V (plO V x i) := vq_eq y3
          have oj : snO V1 (plO V x j) = snO V (plO V x j) := vq_eq z3
          rw [y1, z1, oi, oj, y4, z4]
          exact h.1.2 i j hij hj qi qj
      have hs2 : SOS V1 V2 x := SOS.fr hF2 hE2 hW1 hx1 hI1 hI1' hp2.2.1 c1
      refine ⟨⟨fun u hu q => ?_, fun i j hij hj qi qj => ?_⟩, fun u hu q => ?_, fun u hu h60 => ?_⟩
      · rw [n62, n61] at hu
        obtain ⟨t1, t2, t3⟩ := hs2 u (by rw [n61]; exact hu)
        rw [t2] at q
        rw [t1, (t3 q).1]
        exact hI1'.1 u (by rw [n61]; exact hu) q
      · rw [n62] at hj
        obtain ⟨t1, t2, t3⟩ := hs2 i (by omega)
        obtain ⟨t4, t5, t6⟩ := hs2 j hj
        rw [t2] at qi
        rw [t5] at qj
        have oi : snO V2 (plO V1 x i) = snO V1 (plO V1 x i) := vq_eq (t3 qi).1
        have oj : snO V2 (plO V1 x j) = snO V1 (plO V1 x j) := vq_eq (t6 qj).1
        rw [t1, t4, oi, oj, (t3 qi).2.2.1, (t6 qj).2.2.1]
        exact hI1'.2 i j hij hj qi qj
      · rw [n62, n61] at hu
        have hu1 : (u : Int) < vi V1 x 6 := by rw [n61]; exact hu
        obtain ⟨t1, t2, t3⟩ := hs2 u hu1
        rw [t2] at q
        have p3 := t3 q
        rw [kd1 u hu] at q
        obtain ⟨y1, -, -, -, y5, y6⟩ := key u hu q
        have ru := h.2.1 u hu q
        rw [t1, p3.2.1, y1, y5]
        have e121 : ar 121 V2 m u = if u = k.toNat then ar 121 V m u + 1 else ar 121 V m u := by
          rw [d8, e1]
          by_cases g : u = k.toNat
          · rw [if_pos g, g, updf_at]
          · rw [if_neg g, updf_of g]
        have hmany : ar 121 V m u ≤ 8 := by
          obtain ⟨-, -, o3⟩ := so_at hW hx hI.1 h.1 hu q
          have hr := (sn_tab hW o3).2.1.2.2.1
          have := ru.1
          unfold snz at this
          omega
        have e122 : ∀ i : Nat, (i : Int) < ar 121 V2 m u → ar 122 V2 m (8 * u + i) = (if u = k.toNat ∧ (i : Int) = ar 121 V m u then d else ar 122 V m (8 * u + i)) ∧ ar 123 V2 m (8 * u + i) = (if u = k.toNat ∧ (i : Int) = ar 121 V m u then w else ar 123 V m (8 * u + i)) := fun i hi => by
          rw [e121] at hi
          rw [d6, d7, e2, e3, e1]
          rw [e1] at d5
          by_cases g : u = k.toNat
          · rw [if_pos g] at hi
            by_cases g2 : (i : Int) = ar 121 V m u
            · have e9 : 8 * u + i = 8 * k.toNat + (ar 121 V m k.toNat).toNat := by
                rw [← g]
                omega
              rw [if_pos ⟨g, g2⟩, if_pos ⟨g, g2⟩, e9, updf_at, updf_at]
              exact ⟨rfl, rfl⟩
            · have e9 : 8 * u + i ≠ 8 * k.toNat + (ar 121 V m k.toNat).toNat := by
                rw [← g]
                omega
              rw [if_neg (fun e => g2 e.2), if_neg (fun e => g2 e.2), updf_of e9, updf_of e9]
              exact ⟨rfl, rfl⟩
          · rw [if_neg g] at hi
            have r9 := r.1
            have e9 : 8 * u + i ≠ 8 * k.toNat + (ar 121 V m k.toNat).toNat := by omega
            rw [if_neg (fun e => g e.1), if_neg (fun e => g e.1), updf_of e9, updf_of e9]
            exact ⟨rfl, rfl⟩
        have ez : (if u = k.toNat then snz V (plO V x u) + 1 else snz V (plO V x u)) = ar 121 V2 m u := by
          rw [e121, ru.1]
        refine ⟨ez, fun i hi => ?_, fun i hi => ?_⟩
        · obtain ⟨f1, f2⟩ := e122 i hi
          rw [f1, f2]
          by_cases g : u = k.toNat ∧ (i : Int) = ar 121 V m u
          · rw [if_pos g, if_pos g]
            exact ⟨⟨q1, q2⟩, q3, q4⟩
          · rw [if_neg g, if_neg g]
            refine ru.2.1 i ?_
            rw [e121] at hi
            by_cases g2 : u = k.toNat
            · rw [if_pos g2] at hi
              have := fun e => g ⟨g2, e⟩
              omega
            · rw [if_neg g2] at hi
              exact hi
        · obtain ⟨f1, f2⟩ := e122 i hi
          rw [← y1, p3.2.2.2, p3.2.2.2, y1]
          obtain ⟨x1, x2⟩ := y6 i (by rw [y5, ez]; exact hi)
          unfold mlo mhi
          rw [x1, x2, f1, f2, ru.1]
          by_cases g : u = k.toNat ∧ (i : Int) = ar 121 V m u
          · rw [if_pos g, if_pos g, if_pos g, if_pos g]
            exact ⟨rfl, rfl⟩
          · rw [if_neg g, if_neg g, if_neg g, if_neg g]
            have hi' : (i : Int) < ar 121 V m u := by
              rw [e121] at hi
              by_cases g2 : u = k.toNat
              · rw [if_pos g2] at hi
                have := fun e => g ⟨g2, e⟩
                omega
              · rw [if_neg g2] at hi
                exact hi
            exact ru.2.2 i hi'
      · rw [n62, n61] at hu
        rw [d8, updf_of (by omega), e1]
        exact h.2.2 u hu h60
theorem SOE.sure {w1 : Nat} (h : SOE V x m) (hP : PLE V x m) (hx : K x = some (0, 10)) (hm : K m = some (0, 11)) (hW : WT K V) (hE1 : ext K K1) (hF1 : FR w1 K V K1 V1) (f : SRC K V x k X) (f1 : MRC' V1 m k Y) (b1 : mobits w1 = true) (b2 : mpbits w1 = true) : X = Y := by
  obtain ⟨e1, e2, e3⟩ := mo_fr hF1 hE1 hW hm b1
  have gm := MPS.fr hF1 hE1 hW hm b2
  obtain ⟨hI, -, -, -, -, hn, hk, -⟩ := hP
  have hpk : PK V x k 4 ↔ MPK V1 m k 4 := by
    unfold PK MPK
    rw [gm.1, ← hn, gm.2.2.1]
    constructor
    · rintro ⟨g1, g2, g3⟩
      refine ⟨g1, g2, ?_⟩
      rw [← g3]
      exact (congrArg (fun q : Int × Int × Int × Int => q.1) (hk k.toNat (by omega)).1).symm
    · rintro ⟨g1, g2, g3⟩
      refine ⟨g1, g2, ?_⟩
      rw [← g3]
      exact congrArg (fun q : Int × Int × Int × Int => q.1) (hk k.toNat (by omega)).1
  rcases f hI.1 with ⟨a1, a2⟩ | ⟨a1, a2⟩
  · rcases f1 with ⟨d1, d2⟩ | ⟨d1, -⟩
    · omega
    · exact absurd (hpk.mpr d1) a2
  · rcases f1 with ⟨d1, d2⟩ | ⟨d1, d2⟩
    · exact absurd (hpk.mp a1) d2
    · have hk' : ((k.toNat : Nat) : Int) < vi V x 6 := by have := a1.2.1; have := a1.1; omega
      have at_k := so_at hW hx hI.1 h.1 hk' a1.2.2
      have r := h.2.1 k.toNat hk' a1.2.2
      have s1 := a2.2 at_k.2.2 (h.1.1 _ hk' a1.2.2)
      have hb : SNB V1 m k.toNat := by
        unfold SNB
        rw [e1, e2, e3]
        exact r.2.1
      have s2 := d2 hb a1.1
      have c0 : 0 ≤ snz V (plO V x k.toNat) := (sn_tab hW at_k.2.2).2.1.2.1
      refine SDV.uniq s1 s2 (by rw [r.1, e1]) (fun i hi => ?_) (fun i hi => ?_)
      · have := r.2.2 i (by have := r.1; omega)
        unfold mlo
        rw [e2, e3]
        exact this.1
      · have := r.2.2 i (by have := r.1; omega)
        unfold mhi
        rw [e2, e3]
        exact this.2
theorem SOE.nil (h : vi V x 6 = 0) (z : ZB V m 121 60) : SOE V x m := ⟨⟨fun k hk => by omega, fun i j _ hj => by omega⟩, fun k hk => by omega, fun k _ h60 => z k h60⟩
end SO2
