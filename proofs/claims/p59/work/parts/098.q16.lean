/-! ### new places and their rows -/
section Q16
variable {K K0 K1 K2 K3 Ka Kc Kn Ki : Kmap} {V V0 V1 V2 V3 Va Vn Vi W W1 U : Vmap} {x m o q N f : Nat} {k i j n e d p a b c w h y z s t u X Y Z D kd p' : Int} {T : Int × Int × Int × Int} {v : Int × Int × Int} {ν : Value} {ρ ρ' : Nat → Int}
/-- cells of objects that were there stay -/
def OCS (K : Kmap) (V V1 : Vmap) (x : Nat) : Prop := ∀ b k, K b = some k → b ≠ x → ∀ j, V1 b j = V b j
/-- a new place's row -/
def PRR (K K1 : Kmap) (V1 : Vmap) (x : Nat) (p : Int) : Prop := (p = 1 → V1 x 13 = .ref (vq V1 x 13) ∧ K (vq V1 x 13) = none ∧ K1 (vq V1 x 13) = some (158 + 1, 4) ∧ ∀ j : Nat, j < 4 → vi V1 (vq V1 x 13) j = 0) ∧ (p = 5 → V1 x 13 = .ref (vq V1 x 13) ∧ K (vq V1 x 13) = none ∧ K1 (vq V1 x 13) = some (158 + 1, 10) ∧ ∀ j : Nat, j < 10 → vi V1 (vq V1 x 13) j = -1)
def PRW (K K1 : Kmap) (V V1 : Vmap) (x : Nat) (p : Int) : Prop := OCS K V V1 x ∧ (vi V1 x 6 = 0 ∧ vi V1 x 7 = 0 ∧ vi V1 x 8 = 0 ∧ vi V1 x 9 = 0) ∧ PRR K K1 V1 x p
theorem PRR.no (h1 : p ≠ 1) (h5 : p ≠ 5) : PRR K K1 V1 x p := ⟨fun g => absurd g h1, fun g => absurd g h5⟩
theorem PRR.sa (h1 : p = 1) (f : V1 x 13 = .ref q) (z : ZR K V1 x 13 4 0) (hk : K1 q = some (158 + 1, 4)) : PRR K K1 V1 x p := ⟨fun _ => by
  have e := vq_of f
  obtain ⟨z1, z2⟩ := z
  rw [e] at z1 z2 ⊢
  exact ⟨f, z1, hk, z2⟩, fun g => by omega⟩
theorem PRR.ne (h5 : p = 5) (f : V1 x 13 = .ref q) (hq : K q = none) (hk : K1 q = some (158 + 1, 10)) (hz : ∀ j : Nat, j < 10 → vi V1 q j = -1) : PRR K K1 V1 x p := ⟨fun g => by omega, fun _ => by
  have e := vq_of f
  rw [e]
  exact ⟨f, hq, hk, hz⟩⟩
theorem PRR.put (h : PRR K Kc W q p) (e : W1 = upd2 W q f ν) (hf : f ≠ 13) (hq : Kc q = some (0, 3)) : PRR K Kc W1 q p := by
  have e13 : W1 q 13 = W q 13 := uq_ne e (Or.inr (Ne.symm hf))
  have eq : vq W1 q 13 = vq W q 13 := vq_eq e13
  have cl : ∀ N, Kc (vq W q 13) = some (158 + 1, N) → ∀ j, vi W1 (vq W q 13) j = vi W (vq W q 13) j := fun N hN j => vi_up e (Or.inl (K_ne hN hq (by simp)))
  refine ⟨fun g => ?_, fun g => ?_⟩
  · obtain ⟨a1, a2, a3, a4⟩ := h.1 g
    rw [eq, e13]
    exact ⟨a1, a2, a3, fun j hj => (cl _ a3 j).trans (a4 j hj)⟩
  · obtain ⟨a1, a2, a3, a4⟩ := h.2 g
    rw [eq, e13]
    exact ⟨a1, a2, a3, fun j hj => (cl _ a3 j).trans (a4 j hj)⟩
theorem PRR.to (h : PRR K K1 V1 x p) (e : p = p') : PRR K K1 V1 x p' := e ▸ h
/-- places and their rows stay -/
def RSM (K : Kmap) (V V1 : Vmap) : Prop := (∀ b, K b = some (0, 3) → ∀ j, j < 16 → V1 b j = V b j) ∧ ∀ b N, K b = some (158 + 1, N) → ∀ j, V1 b j = V b j
theorem RSM.rf : RSM K V V := ⟨fun _ _ _ _ => rfl, fun _ _ _ _ => rfl⟩
def prbits (ws : Nat) : Bool := [keyK (0, 3) 0, keyK (0, 3) 1, keyK (0, 3) 2, keyK (0, 3) 3, keyK (0, 3) 4, keyK (0, 3) 5, keyK (0, 3) 6, keyK (0, 3) 7, keyK (0, 3) 8, keyK (0, 3) 9, keyK (0, 3) 10, keyK (0, 3) 11, keyK (0, 3) 12, keyK (0, 3) 13, keyK (0, 3) 14, keyK (0, 3) 15, abase + 159].all fun b => !ws.testBit b
theorem pr_fr {ws : Nat} (hF : FR ws K V K V1) (hb : prbits ws = true) : RSM K V V1 := by
  simp only [prbits, List.all_cons, List.all_nil, Bool.and_true, Bool.and_eq_true, Bool.not_eq_true'] at hb
  obtain ⟨c0, c1, c2, c3, c4, c5, c6, c7, c8, c9, c10, c11, c12, c13, c14, c15, ca⟩ := hb
  refine ⟨fun b hb j hj => ?_, fun b N hb j => hF _ _ j hb hb ca⟩
  rcases (show j = 0 ∨ j = 1 ∨ j = 2 ∨ j = 3 ∨ j = 4 ∨ j = 5 ∨ j = 6 ∨ j = 7 ∨ j = 8 ∨ j = 9 ∨ j = 10 ∨ j = 11 ∨ j = 12 ∨ j = 13 ∨ j = 14 ∨ j = 15 by omega) with rfl | rfl | rfl | rfl | rfl | rfl | rfl | rfl | rfl | rfl | rfl | rfl | rfl | rfl | rfl | rfl
  · exact hF _ _ 0 hb hb c0
  · exact hF _ _ 1 hb hb c1
  · exact hF _ _ 2 hb hb c2
  · exact hF _ _ 3 hb hb c3
  · exact hF _ _ 4 hb hb c4
  · exact hF _ _ 5 hb hb c5
  · exact hF _ _ 6 hb hb c6
  · exact hF _ _ 7 hb hb c7
  · exact hF _ _ 8 hb hb c8
  · exact hF _ _ 9 hb hb c9
  · exact hF _ _ 10 hb hb c10
  · exact hF _ _ 11 hb hb c11
  · exact hF _ _ 12 hb hb c12
  · exact hF _ _ 13 hb hb c13
  · exact hF _ _ 14 hb hb c14
  · exact hF _ _ 15 hb hb c15
theorem RSM.tr (h : RSM K V V1) (hE : ext K K1) (g : RSM K1 V1 V2) : RSM K V V2 := ⟨fun b hb j hj => (g.1 b (hE.obj (Or.inl (by decide)) hb) j hj).trans (h.1 b hb j hj), fun b N hb j => (g.2 b N (hE.arr hb) j).trans (h.2 b N hb j)⟩
/-- something is written elsewhere -/
theorem RSM.put (h : RSM K V W) (e : W1 = upd2 W q f ν) (n1 : ∀ b, K b = some (0, 3) → b ≠ q) (n2 : ∀ b N, K b = some (158 + 1, N) → b ≠ q) : RSM K V W1 := ⟨fun b hb j hj => (uq_ne e (Or.inl (n1 b hb))).trans (h.1 b hb j hj), fun b N hb j => (uq_ne e (Or.inl (n2 b N hb))).trans (h.2 b N hb j)⟩
theorem RSM.new (h : RSM K V W) (e : W1 = upd2 W q f ν) (hq : K q = none) : RSM K V W1 := h.put e (fun _ hb => K_old hb hq) (fun _ _ hb => K_old hb hq)
/-- where a new place stands, not settled yet -/
def PRX (K Kc : Kmap) (V W : Vmap) (q : Nat) (p a b : Int) : Prop := RSM K V W ∧ (vi W q 6 = a ∧ vi W q 7 = b ∧ vi W q 8 = 0 ∧ vi W q 9 = 0) ∧ PRR K Kc W q p
theorem PRX.mk {kq : Nat × Nat} (r0 : RSM K V Va) (hq : K q = none) (hK : Kn = updK K q kq) (hV : ∀ b, b ≠ q → Vn b = Va b) (g : PRW Kn Ki Vn Vi q p) : PRX K Ki V Vi q p 0 0 := by
  obtain ⟨g1, g2, g3, g4⟩ := g
  have kn : ∀ b, b ≠ q → Kn b = K b := fun b hb => by rw [hK, updK_ne hb]
  have none2 : ∀ r, Kn r = none → K r = none := fun r hr => by
    by_cases c : r = q
    · rw [c]
      exact hq
    · rw [← kn r c]
      exact hr
  refine ⟨⟨fun b hb j hj => ?_, fun b N hb j => ?_⟩, g2, fun e => ?_, fun e => ?_⟩
  · have nb := K_old hb hq
    exact (g1 b _ ((kn b nb).trans hb) nb j).trans ((congrFun (hV b nb) j).trans (r0.1 b hb j hj))
  · have nb := K_old hb hq
    exact (g1 b _ ((kn b nb).trans hb) nb j).trans ((congrFun (hV b nb) j).trans (r0.2 b N hb j))
  · obtain ⟨a1, a2, a3, a4⟩ := g3 e
    exact ⟨a1, none2 _ a2, a3, a4⟩
  · obtain ⟨a1, a2, a3, a4⟩ := g4 e
    exact ⟨a1, none2 _ a2, a3, a4⟩
theorem PRX.p6 (h : PRX K Kc V W q p a b) (e : W1 = upd2 W q 6 (ti d)) (rd : ir d) (hq : K q = none) (hc : Kc q = some (0, 3)) : PRX K Kc V W1 q p d b := ⟨h.1.new e hq, ⟨upd2_int e rd, (vi_up e (Or.inr (by decide))).trans h.2.1.2.1, (vi_up e (Or.inr (by decide))).trans h.2.1.2.2.1, (vi_up e (Or.inr (by decide))).trans h.2.1.2.2.2⟩, h.2.2.put e (by decide) hc⟩
theorem PRX.p7 (h : PRX K Kc V W q p a b) (e : W1 = upd2 W q 7 (ti d)) (rd : ir d) (hq : K q = none) (hc : Kc q = some (0, 3)) : PRX K Kc V W1 q p a d := ⟨h.1.new e hq, ⟨(vi_up e (Or.inr (by decide))).trans h.2.1.1, upd2_int e rd, (vi_up e (Or.inr (by decide))).trans h.2.1.2.2.1, (vi_up e (Or.inr (by decide))).trans h.2.1.2.2.2⟩, h.2.2.put e (by decide) hc⟩
theorem PRX.p10 (h : PRX K Kc V W q p a b) (e : W1 = upd2 W q 10 ν) (hq : K q = none) (hc : Kc q = some (0, 3)) : PRX K Kc V W1 q p a b := ⟨h.1.new e hq, ⟨(vi_up e (Or.inr (by decide))).trans h.2.1.1, (vi_up e (Or.inr (by decide))).trans h.2.1.2.1, (vi_up e (Or.inr (by decide))).trans h.2.1.2.2.1, (vi_up e (Or.inr (by decide))).trans h.2.1.2.2.2⟩, h.2.2.put e (by decide) hc⟩
theorem PRX.to (h : PRX K Kc V W q p a b) (e : p = p') : PRX K Kc V W q p' a b := e ▸ h
/-- behind the call -/
def NRW (K K1 : Kmap) (V V1 : Vmap) (x : Nat) (p a b X : Int) : Prop := RSM K V V1 ∧ (X ≠ -1 → K1 (plO V1 x (vi V x 6).toNat) = some (0, 3) ∧ (vi V1 (plO V1 x (vi V x 6).toNat) 6 = a ∧ vi V1 (plO V1 x (vi V x 6).toNat) 7 = b ∧ vi V1 (plO V1 x (vi V x 6).toNat) 8 = 0 ∧ vi V1 (plO V1 x (vi V x 6).toNat) 9 = 0) ∧ PRR K K1 V1 (plO V1 x (vi V x 6).toNat) p)
theorem NRW.rf (hX : X = -1) : NRW K K1 V V x p a b X := ⟨RSM.rf, fun g => absurd hX g⟩
theorem NRW.r0 (r : RSM K V V1) (hX : X = -1) : NRW K K1 V V1 x p a b X := ⟨r, fun g => absurd hX g⟩
theorem NRW.mk (h : PRX K Kc V W q p a b) (hq : K q = none) (hc : Kc q = some (0, 3)) (hx : K x = some (0, 10)) (hxc : Kc x = some (0, 10)) (hE : ext K Kc) (hWc : WT Kc W) (h6 : vi W x 6 = vi V x 6) (hs : SET W V1 x q X) : NRW K Kc V V1 x p a b X := by
  obtain ⟨r, ⟨f6, f7, f8, f9⟩, pr⟩ := h
  rcases hs with ⟨h1, -, h3⟩ | ⟨h1, h2, V4, e1, e2⟩
  · subst h3
    exact ⟨r, fun g => absurd h1 g⟩
  · obtain ⟨M, hA⟩ := (hWc.ref hxc (j := 5) (Nat.le_of_ble_eq_true rfl) rfl).2
    have nxa : x ≠ vq W x 5 := K_ne hxc hA (by simp)
    have nqx : q ≠ x := K_ne hc hxc (by decide)
    have nqa : q ≠ vq W x 5 := K_ne hc hA (by simp)
    have h5 : vq V1 x 5 = vq W x 5 := (vq_up e2 (Or.inr (by decide))).trans (vq_up e1 (Or.inl nxa))
    have hnew : V1 (vq V1 x 5) (vi W x 6).toNat = .ref q := by rw [h5, uq_ne e2 (Or.inl (Ne.symm nxa)), uq_same e1]
    have eq : plO V1 x (vi V x 6).toNat = q := by
      rw [← h6]
      exact vq_of hnew
    have eo : ∀ j, V1 q j = W q j := fun j => (uq_ne e2 (Or.inl nqx)).trans (uq_ne e1 (Or.inl nqa))
    have r1 : RSM K V V4 := r.put e1 (fun b hb => K_ne (hE.obj (Or.inl (by decide)) hb) hA (by simp)) (fun b N hb => K_ne (hE.arr hb) hA (by simp))
    have r2 : RSM K V V1 := r1.put e2 (fun b hb => K_ne hb hx (by decide)) (fun b N hb => K_ne hb hx (by simp))
    have e13 : V1 q 13 = W q 13 := eo 13
    have eq13 : vq V1 q 13 = vq W q 13 := vq_eq e13
    have cl : ∀ N, Kc (vq W q 13) = some (158 + 1, N) → ∀ j, vi V1 (vq W q 13) j = vi W (vq W q 13) j := fun N hN j => (vi_up e2 (Or.inl (K_ne hN hxc (by simp)))).trans (vi_up e1 (Or.inl (K_ne hN hA (by simp))))
    refine ⟨r2, fun _ => ?_⟩
    rw [eq, vi_eq (eo 6), vi_eq (eo 7), vi_eq (eo 8), vi_eq (eo 9)]
    refine ⟨hc, ⟨f6, f7, f8, f9⟩, fun g => ?_, fun g => ?_⟩
    · obtain ⟨a1, a2, a3, a4⟩ := pr.1 g
      rw [eq13, e13]
      exact ⟨a1, a2, a3, fun j hj => (cl _ a3 j).trans (a4 j hj)⟩
    · obtain ⟨a1, a2, a3, a4⟩ := pr.2 g
      rw [eq13, e13]
      exact ⟨a1, a2, a3, fun j hj => (cl _ a3 j).trans (a4 j hj)⟩
theorem NRW.fr {ws : Nat} (h : NRW K K1 V V1 x p a b X) (hE : ext K K1) (hF : FR ws K1 V1 K1 V2) (hW : WT K1 V1) (hx : K1 x = some (0, 10)) (b1 : prbits ws = true) (b2 : ppbits ws = true) : NRW K K1 V V2 x p a b X := by
  have g := pr_fr hF b1
  obtain ⟨e6, ep⟩ := pp_fr hF ext.rf hW hx b2
  refine ⟨h.1.tr hE g, fun hX => ?_⟩
  obtain ⟨hk, ⟨f6, f7, f8, f9⟩, pr⟩ := h.2 hX
  rw [ep]
  have eo : ∀ j, j < 16 → V2 (plO V1 x (vi V x 6).toNat) j = V1 (plO V1 x (vi V x 6).toNat) j := fun j hj => g.1 _ hk j hj
  have e13 := eo 13 (by decide)
  have eq13 := vq_eq e13
  rw [vi_eq (eo 6 (by decide)), vi_eq (eo 7 (by decide)), vi_eq (eo 8 (by decide)), vi_eq (eo 9 (by decide))]
  refine ⟨hk, ⟨f6, f7, f8, f9⟩, fun q1 => ?_, fun q1 => ?_⟩
  · obtain ⟨a1, a2, a3, a4⟩ := pr.1 q1
    rw [eq13, e13]
    exact ⟨a1, a2, a3, fun j hj => (vi_eq (g.2 _ _ a3 j)).trans (a4 j hj)⟩
  · obtain ⟨a1, a2, a3, a4⟩ := pr.2 q1
    rw [eq13, e13]
    exact ⟨a1, a2, a3, fun j hj => (vi_eq (g.2 _ _ a3 j)).trans (a4 j hj)⟩
/-- the class's places behind the call -/
def NPL (K : Kmap) (V V1 : Vmap) (x : Nat) (X kd : Int) : Prop := (∀ k : Nat, (k : Int) < vi V x 6 → plO V1 x k = plO V x k) ∧ NN 6 5 V1 x ∧ ((X = -1 ∧ vi V1 x 6 = vi V x 6) ∨ (X ≠ -1 ∧ vi V1 x 6 = vi V x 6 + 1 ∧ 0 ≤ vi V x 6 ∧ K (plO V1 x (vi V x 6).toNat) = none ∧ pkd V1 x (vi V x 6).toNat = kd ∧ vi V1 (plO V1 x (vi V x 6).toNat) 5 = 0))
theorem NPL.pls (h : PLS V V1 x) (hN : NN 6 5 V x) (hX : X = -1) : NPL K V V1 x X kd := ⟨fun k hk => vq_eq2 (h.2.2 k hk).1, fun j hj => by
  rw [h.1] at hj
  rw [(h.2.2 j hj).1]
  exact hN j hj, Or.inl ⟨hX, h.1⟩⟩
theorem NPL.nl (h : NEWL K V V1 x X T v) (hI : PLI V x) (hv : v.2.1 = 0) : NPL K V V1 x X T.1 := by
  obtain ⟨-, ⟨h0, -, h1, -⟩ | ⟨h1, h2, h3, h4, h5, h6, h7, h8, h9⟩⟩ := h hI
  · exact NPL.pls h1 hI.1 h0
  · refine ⟨fun k hk => vq_eq2 (h5 k hk).1, fun j hj => ?_, Or.inr ⟨by omega, h3, h4, h7, congrArg (fun q : Int × Int × Int × Int => q.1) h8, (congrArg (fun q : Int × Int × Int => q.2.1) h9).trans hv⟩⟩
    by_cases g : (j : Int) < vi V x 6
    · rw [(h5 j g).1]
      exact hI.1 j g
    · rw [show j = (vi V x 6).toNat by omega]
      exact h6
theorem CLM.npl (h : CLM K V V1 x p a b c X) (hI : PLI V x) : NPL K V V1 x X 0 := by
  rcases h with ⟨hX, -, g⟩ | ⟨-, -, g⟩
  · exact NPL.pls (g hI).2.1 hI.1 hX
  · exact NPL.nl g hI rfl
theorem STC.npl (h : STC K V V1 x p c a b X) (hI : PLI V x) : NPL K V V1 x X 1 := by
  rcases h with ⟨hX, -, g⟩ | ⟨-, g⟩
  · subst g
    exact NPL.pls PLS.rf hI.1 hX
  · exact NPL.nl g hI rfl
theorem FLC.npl (h : FLC K V V1 x k c X) (hI : PLI V x) : NPL K V V1 x X 2 := by
  rcases h hI with ⟨hX, -, g⟩ | ⟨-, g⟩
  · subst g
    exact NPL.pls PLS.rf hI.1 hX
  · exact NPL.nl g hI rfl
theorem RVC.npl (h : RVC K V V1 x a b c X) (hI : PLI V x) : NPL K V V1 x X 3 := by
  rcases h with ⟨hX, -, g⟩ | ⟨-, g⟩
  · subst g
    exact NPL.pls PLS.rf hI.1 hX
  · exact NPL.nl g hI rfl
theorem SIC.npl (h : SIC K V V1 x c b X) (hI : PLI V x) : NPL K V V1 x X (if b ≠ 0 then 5 else 4) := by
  rcases h with ⟨hX, -, g⟩ | ⟨-, g⟩
  · subst g
    exact NPL.pls PLS.rf hI.1 hX
  · exact NPL.nl g hI rfl
/-- the class's side of a new place -/
theorem npl_st (h : NPL K V V1 x X kd) (r : RSM K V V1) (hR : RWX K V x) {k : Nat} (hk : (k : Int) < vi V x 6) : pkd V1 x k = pkd V x k ∧ (KS V (plO V x k) → V1 (plO V x k) 13 = V (plO V x k) 13 ∧ stv V1 (plO V1 x k) = stv V (plO V x k)) := by
  have ko := (hR _ (SX.of hk)).1
  have ep := h.1 k hk
  have e0 : vi V1 (plO V x k) 0 = vi V (plO V x k) 0 := vi_eq (r.1 _ ko 0 (by decide))
  refine ⟨by unfold pkd; rw [ep]; exact e0, fun hs => ?_⟩
  obtain ⟨-, M, hM⟩ := ks_row hR (SX.of hk) hs
  have e13 := r.1 _ ko 13 (by decide)
  rw [ep]
  exact ⟨e13, stv_eq e0 e13 (fun f _ h9 => vi_eq (r.1 _ ko f (by omega))) (fun j => vi_eq (r.2 _ _ hM j))⟩
theorem npl_rw (h : NPL K V V1 x X kd) (g : NRW K K1 V V1 x kd a b X) (hR : RWX K V x) (hE : ext K K1) (hW1 : WT K1 V1) (hx1 : K1 x = some (0, 10)) : RWX K1 V1 x := by
  have kk : ∀ k : Nat, (k : Int) < vi V1 x 6 → K1 (plO V1 x k) = some (0, 3) := fun k hk => (pl_at hW1 hx1 h.2.1 hk).2.2
  -- an old place
  have old : ∀ k : Nat, (k : Int) < vi V x 6 → (vi V1 (plO V1 x k) 0 = 1 → V1 (plO V1 x k) 13 = .ref (vq V1 (plO V1 x k) 13) ∧ ∃ M, K (vq V1 (plO V1 x k) 13) = some (158 + 1, M) ∧ M = 4) ∧ (vi V1 (plO V1 x k) 0 = 5 → V1 (plO V1 x k) 13 = .ref (vq V1 (plO V1 x k) 13) ∧ ∃ M, K (vq V1 (plO V1 x k) 13) = some (158 + 1, M) ∧ M = 10) := fun k hk => by
    obtain ⟨e0, es⟩ := npl_st h g.1 hR hk
    unfold pkd at e0
    obtain ⟨-, r1, r5, -⟩ := hR _ (SX.of hk)
    refine ⟨fun q => ?_, fun q => ?_⟩
    · rw [e0] at q
      have e13 := (es (Or.inl q)).1
      rw [h.1 k hk, e13, vq_eq e13]
      exact ⟨(r1 q).1, _, (r1 q).2, rfl⟩
    · rw [e0] at q
      have e13 := (es (Or.inr q)).1
      rw [h.1 k hk, e13, vq_eq e13]
      exact ⟨(r5 q).1, _, (r5 q).2, rfl⟩
  have oldr : ∀ k : Nat, (k : Int) < vi V x 6 → KS V1 (plO V1 x k) → vq V1 (plO V1 x k) 13 = vq V (plO V x k) 13 ∧ KS V (plO V x k) ∧ ∃ M, K (vq V1 (plO V1 x k) 13) = some (158 + 1, M) := fun k hk hs => by
    obtain ⟨e0, es⟩ := npl_st h g.1 hR hk
    unfold pkd at e0
    have hs' : KS V (plO V x k) := by
      unfold KS at hs ⊢
      rw [e0] at hs
      exact hs
    have e13 := (es hs').1
    obtain ⟨-, M, hM⟩ := ks_row hR (SX.of hk) hs'
    rw [h.1 k hk, vq_eq e13]
    exact ⟨rfl, hs', M, hM⟩
  rcases h.2.2 with ⟨n1, n2⟩ | ⟨n1, n2, n3, n4, n5, n6⟩
  · intro c hc
    obtain ⟨k, hk, ek⟩ := hc
    subst ek
    have hk0 : (k : Int) < vi V x 6 := by rw [← n2]; exact hk
    obtain ⟨o1, o5⟩ := old k hk0
    refine ⟨kk k hk, fun q => ?_, fun q => ?_, fun c' hc' hn qa qb => ?_⟩
    · obtain ⟨z1, M, z2, z3⟩ := o1 q
      subst z3
      exact ⟨z1, hE.arr z2⟩
    · obtain ⟨z1, M, z2, z3⟩ := o5 q
      subst z3
      exact ⟨z1, hE.arr z2⟩
    · obtain ⟨k', hk', ek'⟩ := hc'
      subst ek'
      have hk0' : (k' : Int) < vi V x 6 := by rw [← n2]; exact hk'
      obtain ⟨s1, s2, -⟩ := oldr k hk0 qa
      obtain ⟨t1, t2, -⟩ := oldr k' hk0' qb
      rw [s1, t1]
      refine (hR _ (SX.of hk0)).2.2.2 _ (SX.of hk0') ?_ s2 t2
      rw [← h.1 k hk0, ← h.1 k' hk0']
      exact hn
  · obtain ⟨-, -, pr⟩ := g.2 n1
    have kd' : vi V1 (plO V1 x (vi V x 6).toNat) 0 = kd := n5
    have cs : ∀ k : Nat, (k : Int) < vi V1 x 6 → (k : Int) < vi V x 6 ∨ k = (vi V x 6).toNat := fun k hk => by omega
    have newr : KS V1 (plO V1 x (vi V x 6).toNat) → K (vq V1 (plO V1 x (vi V x 6).toNat) 13) = none := fun q => by
      rcases q with q | q
      · exact (pr.1 (kd'.symm.trans q)).2.1
      · exact (pr.2 (kd'.symm.trans q)).2.1
    intro c hc
    obtain ⟨k, hk, ek⟩ := hc
    subst ek
    refine ⟨kk k hk, fun q => ?_, fun q => ?_, fun c' hc' hn qa qb => ?_⟩
    · rcases cs k hk with r | r
      · obtain ⟨z1, M, z2, z3⟩ := (old k r).1 q
        subst z3
        exact ⟨z1, hE.arr z2⟩
      · subst r
        have := pr.1 (kd'.symm.trans q)
        exact ⟨this.1, this.2.2.1⟩
    · rcases cs k hk with r | r
      · obtain ⟨z1, M, z2, z3⟩ := (old k r).2 q
        subst z3
        exact ⟨z1, hE.arr z2⟩
      · subst r
        have := pr.2 (kd'.symm.trans q)
        exact ⟨this.1, this.2.2.1⟩
    · obtain ⟨k', hk', ek'⟩ := hc'
      subst ek'
      rcases cs k hk with r | r
      · obtain ⟨s1, s2, M, s3⟩ := oldr k r qa
        rcases cs k' hk' with r' | r'
        · obtain ⟨t1, t2, -⟩ := oldr k' r' qb
          rw [s1, t1]
          refine (hR _ (SX.of r)).2.2.2 _ (SX.of r') ?_ s2 t2
          rw [← h.1 k r, ← h.1 k' r']
          exact hn
        · subst r'
          exact K_old s3 (newr qb)
      · subst r
        rcases cs k' hk' with r' | r'
        · obtain ⟨t1, t2, M, t3⟩ := oldr k' r' qb
          exact (K_old t3 (newr qa)).symm
        · subst r'
          exact absurd rfl hn
/-- a new place, on both sides -/
theorem STO.new {w1 w2 : Nat} (h : STO K V x m) (hx : K x = some (0, 10)) (hm : K m = some (0, 11)) (hW : WT K V) (hW1 : WT K1 V1) (hE1 : ext K K1) (hF1 : FR w1 K V K1 V1) (hE2 : ext K1 K2) (hF2 : FR w2 K1 V1 K2 V2) (hp : NPL K V V1 x X kd) (g : NRW K K1 V V1 x kd a b X) (hr : rst V2 m = if X = -1 then rst V1 m else upg (rst V1 m) (vi V x 6).toNat (updf (updf (rst V1 m (vi V x 6).toNat) 6 a) 7 b)) (h60 : vi V x 6 ≤ 60) (b4 : smbits w1 = true) (b5 : nebits w1 = true) (c5 : nebits w2 = true) (p2 : ppbits w2 = true) (n2 : nubits w2 = true) : STO K2 V2 x m := by
  have hx1 := hE1.obj (Or.inl (by decide)) hx
  have hm1 := hE1.obj (Or.inl (by decide)) hm
  obtain ⟨h1, h2, h3, h4⟩ := h
  obtain ⟨er, e27⟩ := rs_same hF1 hE1 hW hm b4 b5
  have e272 := (ne_fr hF2 hE2 hW1 hm1 c5).2
  have b6 := (hW1.int hx1 (j := 6) (Nat.le_of_ble_eq_true rfl) rfl).2
  have hR1 := npl_rw hp g h1 hE1 hW1 hx1
  obtain ⟨f6, fp⟩ := pp_fr hF2 hE2 hW1 hx1 p2
  obtain ⟨q1, q2, q3⟩ := nu_frx hF2 hE2 hR1 f6 (fun u _ => fp u) n2
  have cs : ∀ k : Nat, (k : Int) < vi V1 x 6 → (k : Int) < vi V x 6 ∨ (X ≠ -1 ∧ k = (vi V x 6).toNat) := fun k hk => by
    rcases hp.2.2 with ⟨n1, n2⟩ | ⟨n1, n2, n3, -⟩
    · exact Or.inl (by omega)
    · by_cases c : (k : Int) < vi V x 6
      · exact Or.inl c
      · exact Or.inr ⟨n1, by omega⟩
  have ro : ∀ k : Nat, (k : Int) < vi V x 6 → rst V2 m k = rst V m k := fun k hk => by
    rw [hr]
    split
    · rw [er]
    · rw [upg_of (by omega), er]
  have fin : ∀ k : Nat, vi V2 x 6 ≤ (k : Int) → k < 60 → (rst V2 m k = fun _ => 0) ∧ ∀ y : Nat, y < 10 → ar 27 V2 m (10 * k + y) = -1 := fun k hk hk60 => by
    have hk0 : vi V x 6 ≤ (k : Int) ∧ (X ≠ -1 → k ≠ (vi V x 6).toNat) := by
      rw [f6] at hk
      rcases hp.2.2 with ⟨n1, n2⟩ | ⟨n1, n2, n3, -⟩
      · exact ⟨by omega, fun e => absurd n1 e⟩
      · exact ⟨by omega, fun _ => by omega⟩
    obtain ⟨r1, r2⟩ := h4 k hk0.1 hk60
    rw [e272, e27]
    refine ⟨?_, r2⟩
    rw [hr]
    split
    · rw [er]
      exact r1
    · rename_i c
      rw [upg_of (hk0.2 c), er]
      exact r1
  refine ⟨q1, fun k hk k1 => ?_, fun k hk k5 y hy => ?_, fin⟩
  · have hk1 : (k : Int) < vi V1 x 6 := by rw [← f6]; exact hk
    have k1' : pkd V1 x k = 1 := by rw [← (q3 k hk1).1]; exact k1
    have e : stv V2 (plO V2 x k) = cN V2 x k := (cN_at hk k1).symm
    rw [e, q2, cN_at hk1 k1']
    rcases cs k hk1 with c | ⟨c1, c2⟩
    · obtain ⟨s1, s2⟩ := npl_st hp g.1 h1 c
      have k0 : pkd V x k = 1 := by rw [← s1]; exact k1'
      rw [(s2 (Or.inl k0)).2, ro k c]
      exact h2 k c k0
    · subst c2
      obtain ⟨-, ⟨a6, a7, a8, a9⟩, pr⟩ := g.2 c1
      obtain ⟨n1, n2⟩ | ⟨n1, n2', n3, n4, n5, n6⟩ := hp.2.2
      · exact absurd n1 c1
      · have hkd : kd = 1 := n5.symm.trans k1'
        obtain ⟨p1, p2', p3, p4⟩ := pr.1 hkd
        have hz := (h4 (vi V x 6).toNat (by omega) (by omega)).1
        rw [hr, if_neg c1, upg_at, er, hz]
        funext f
        unfold pkd at k1'
        by_cases g10 : 10 ≤ f
        · rw [updf_of (by omega), updf_of (by omega)]
          unfold stv
          rw [if_pos g10]
          split
          · rename_i g2
            exact p4 _ (by omega)
          · rfl
        · by_cases g5 : 5 ≤ f
          · rw [stv_f g5 (by omega)]
            rcases (show f = 5 ∨ f = 6 ∨ f = 7 ∨ f = 8 ∨ f = 9 by omega) with rfl | rfl | rfl | rfl | rfl
            · rw [updf_of (by decide), updf_of (by decide)]
              exact n6
            · rw [updf_of (by decide), updf_at]
              exact a6
            · rw [updf_at]
              exact a7
            · rw [updf_of (by decide), updf_of (by decide)]
              exact a8
            · rw [updf_of (by decide), updf_of (by decide)]
              exact a9
          · rw [updf_of (by omega), updf_of (by omega)]
            unfold stv
            rw [if_neg g10, if_neg g5]
  · have hk1 : (k : Int) < vi V1 x 6 := by rw [← f6]; exact hk
    have k5' : pkd V1 x k = 5 := by rw [← (q3 k hk1).1]; exact k5
    rw [fp, (q3 k hk1).2 k5', e272, e27]
    rcases cs k hk1 with c | ⟨c1, c2⟩
    · obtain ⟨s1, s2⟩ := npl_st hp g.1 h1 c
      have k0 : pkd V x k = 5 := by rw [← s1]; exact k5'
      rw [(s2 (Or.inr k0)).2]
      exact h3 k c k0 y hy
    · subst c2
      obtain ⟨-, -, pr⟩ := g.2 c1
      obtain ⟨n1, n2⟩ | ⟨n1, n2', n3, n4, n5, n6⟩ := hp.2.2
      · exact absurd n1 c1
      · have hkd : kd = 5 := n5.symm.trans k5'
        obtain ⟨p1, p2', p3, p4⟩ := pr.2 hkd
        have h5 : vi V1 (plO V1 x (vi V x 6).toNat) 0 = 5 := k5'
        rw [stv_b h5 hy, p4 y hy]
        exact ((h4 (vi V x 6).toNat (by omega) (by omega)).2 y hy).symm
/-- what the reference's call makes of the rows: nothing, where it is no station's -/
theorem rst_no (h : STO K V x m) (er : rst V1 m = rst V m) (e : rst V2 m = rst V1 m) (h0 : 0 ≤ vi V x 6) (h6 : X ≠ -1 → vi V x 6 < 60) : rst V2 m = if X = -1 then rst V1 m else upg (rst V1 m) (vi V x 6).toNat (updf (updf (rst V1 m (vi V x 6).toNat) 6 0) 7 0) := by
  split
  · exact e
  · rename_i c
    have := h6 c
    have hz := (h.2.2.2 (vi V x 6).toNat (by omega) (by omega)).1
    rw [e, er, hz]
    refine (upg_id ?_).symm
    rw [hz]
    funext f
    by_cases g7 : f = 7
    · rw [g7, updf_at]
    · rw [updf_of g7]
      by_cases g6 : f = 6
      · rw [g6, updf_at]
      · rw [updf_of g6]
/-- the reference's station() -/
def MSR (V V1 : Vmap) (m : Nat) (a b X : Int) : Prop := (X = -1 ∧ V1 = V) ∨ (X ≠ -1 ∧ rst V1 m = upg (rst V m) (vi V m 10).toNat (updf (updf (rst V m (vi V m 10).toNat) 6 a) 7 b))
theorem MSR.ok {k1 k2 : Nat} (hX : X ≠ -1) (a19 : ar 19 V1 m = updf (ar 19 V m) k1 a) (a20 : ar 20 V1 m = updf (ar 20 V m) k2 b) (q1 : k1 = (vi V m 10).toNat) (q2 : k2 = (vi V m 10).toNat) (a21 : ar 21 V1 m = ar 21 V m) (a22 : ar 22 V1 m = ar 22 V m) (a23 : ar 23 V1 m = ar 23 V m) (a28 : ar 28 V1 m = ar 28 V m) : MSR V V1 m a b X := by
  subst q1
  obtain ⟨r5, r6, r7, r8, r9, rr⟩ := rst_at (V := V) (m := m) (k := (vi V m 10).toNat)
  refine Or.inr ⟨hX, rst_up (as_u a19 rfl (by rw [updf_of (by decide), updf_at])) (as_u a20 q2 updf_at) (as_s a21 (by rw [updf_of (by decide), updf_of (by decide)]; exact r8)) (as_s a22 (by rw [updf_of (by decide), updf_of (by decide)]; exact r9)) (as_s a28 (by rw [updf_of (by decide), updf_of (by decide)]; exact r5)) (fun j r hr => ?_) (fun f hf => by rw [updf_of (by omega), updf_of (by omega), rst_0 hf])⟩
  rw [a23]
  split
  · rename_i g
    rw [g, updf_of (by omega), updf_of (by omega), rr r hr]
  · rfl
theorem MSR.is (h : MSR V1 V2 m a b Y) (hXY : X = Y) (hn : vi V1 m 10 = vi V x 6) : rst V2 m = if X = -1 then rst V1 m else upg (rst V1 m) (vi V x 6).toNat (updf (updf (rst V1 m (vi V x 6).toNat) 6 a) 7 b) := by
  unfold MSR at h
  rw [hn] at h
  rcases h with ⟨h1, h2⟩ | ⟨h1, h2⟩
  · rw [if_pos (by omega), h2]
  · rw [if_neg (by omega)]
    exact h2
end Q16
