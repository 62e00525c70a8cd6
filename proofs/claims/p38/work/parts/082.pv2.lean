/-! ### ships: what stands in them, a new one; over, on both sides -/
section PV2
variable {K K1 K2 Kp : Kmap} {V V0 V1 V2 Vp W W1 : Vmap} {x m o q : Nat} {i j n k c s e d p a b w z y X Y Z : Int} {L : List TXL}
def shO (V : Vmap) (x s : Nat) : Nat := vq V (vq V x 9) s
def shF (V : Vmap) (x s f : Nat) : Int := vi V (shO V x s) f
theorem sh_row (hW : WT K V) (hx : K x = some (0, 10)) : K (vq V x 9) = some (7 + 1, 10) := by
  obtain ⟨N, hA⟩ := (hW.ref hx (j := 9) (Nat.le_of_ble_eq_true rfl) rfl).2
  rcases (hW.len hA).2.2 with h | h
  · exact absurd h (by decide)
  · rw [hA, h]
    rfl
theorem sh_at (hW : WT K V) (hx : K x = some (0, 10)) (hN : SN V x) {s : Nat} (hs : (s : Int) < vi V x 10) : s < 10 ∧ V (vq V x 9) s = .ref (shO V x s) ∧ K (shO V x s) = some (0, 6) := by
  have h10 := (hW.int hx (j := 10) (Nat.le_of_ble_eq_true rfl) rfl).2
  have hs10 : s < 10 := by omega
  rcases hW.nul (sh_row hW hx) (j := s) hs10 rfl with h | h
  · exact absurd h (hN s hs)
  · exact ⟨hs10, h.1, h.2⟩
def SHL (V V1 : Vmap) (x : Nat) : Prop := SN V x → SN V1 x ∧ vi V1 x 10 = vi V x 10 ∧ ∀ s : Nat, (s : Int) < vi V x 10 → V1 (vq V1 x 9) s = V (vq V x 9) s ∧ ∀ f, f < 11 → shF V1 x s f = shF V x s f
theorem SHL.rf : SHL V V x := fun h => ⟨h, rfl, fun _ _ => ⟨rfl, fun _ _ => rfl⟩⟩
theorem SHL.tr (f : SHL V V1 x) (g : SHL V1 V2 x) : SHL V V2 x := fun h => by
  obtain ⟨f1, f2, f3⟩ := f h
  obtain ⟨g1, g2, g3⟩ := g f1
  refine ⟨g1, g2.trans f2, fun s hs => ?_⟩
  have hs' : (s : Int) < vi V1 x 10 := by rw [f2]; exact hs
  exact ⟨(g3 s hs').1.trans (f3 s hs).1, fun f hf => ((g3 s hs').2 f hf).trans ((f3 s hs).2 f hf)⟩
def slbits (ws : Nat) : Bool := [keyK (0, 10) 9, keyK (0, 10) 10, abase + 8, keyK (0, 6) 0, keyK (0, 6) 1, keyK (0, 6) 2, keyK (0, 6) 3, keyK (0, 6) 4, keyK (0, 6) 5, keyK (0, 6) 6, keyK (0, 6) 7, keyK (0, 6) 8, keyK (0, 6) 9, keyK (0, 6) 10].all fun b => !ws.testBit b
theorem SHL.fr {ws : Nat} (hF : FR ws K V K1 V1) (hE : ext K K1) (hW : WT K V) (hx : K x = some (0, 10)) (hb : slbits ws = true) : SHL V V1 x := fun hN => by
  simp only [slbits, List.all_cons, List.all_nil, Bool.and_true, Bool.and_eq_true, Bool.not_eq_true'] at hb
  obtain ⟨c9, c10, a8, f0, f1, f2, f3, f4, f5, f6, f7, f8, f9, f10⟩ := hb
  have hx1 := hE.obj (Or.inl (by decide)) hx
  have hA := sh_row hW hx
  have e9 : vq V1 x 9 = vq V x 9 := vq_eq (hF x _ 9 hx hx1 c9)
  have e10 : vi V1 x 10 = vi V x 10 := vi_fr hF hx hx1 c10
  have er : ∀ s : Nat, V1 (vq V x 9) s = V (vq V x 9) s := fun s => hF _ _ s hA (hE.arr hA) a8
  refine ⟨fun j hj => ?_, e10, fun s hs => ⟨by rw [e9, er], fun f hf => ?_⟩⟩
  · rw [e10] at hj
    rw [e9, er]
    exact hN j hj
  · obtain ⟨h1, h2, h3⟩ := sh_at hW hx hN hs
    have eo : shO V1 x s = shO V x s := by
      unfold shO
      rw [e9, vq_eq (er s)]
    have h4 := hE.obj (Or.inl (by decide)) h3
    unfold shF
    rw [eo]
    match f, hf with
    | 0, _ => exact vi_fr hF h3 h4 f0
    | 1, _ => exact vi_fr hF h3 h4 f1
    | 2, _ => exact vi_fr hF h3 h4 f2
    | 3, _ => exact vi_fr hF h3 h4 f3
    | 4, _ => exact vi_fr hF h3 h4 f4
    | 5, _ => exact vi_fr hF h3 h4 f5
    | 6, _ => exact vi_fr hF h3 h4 f6
    | 7, _ => exact vi_fr hF h3 h4 f7
    | 8, _ => exact vi_fr hF h3 h4 f8
    | 9, _ => exact vi_fr hF h3 h4 f9
    | 10, _ => exact vi_fr hF h3 h4 f10
    | f + 11, hf => exact absurd hf (by omega)
/-- what a new ship is -/
def SHN (V : Vmap) (q : Nat) (p a b : Int) : Prop := vi V q 0 = p ∧ vi V q 1 = a ∧ vi V q 2 = b ∧ vi V q 3 = 0 ∧ vi V q 6 = 0 ∧ vi V q 7 = 0 ∧ vi V q 9 = 0
def NSH (K : Kmap) (V V1 : Vmap) (x : Nat) (p a b X : Int) : Prop := (X = -1 ∧ V1 = V) ∨ (X ≠ -1 ∧ X = vi V x 10 ∧ 0 ≤ vi V x 10 ∧ vi V1 x 10 = vi V x 10 + 1 ∧ K (shO V1 x (vi V x 10).toNat) = none ∧ SHN V1 (shO V1 x (vi V x 10).toNat) p a b ∧ ∀ s : Nat, (s : Int) < vi V x 10 → V1 (vq V1 x 9) s = V (vq V x 9) s ∧ ∀ f, f < 11 → shF V1 x s f = shF V x s f)
theorem NSH.no (hX : X = -1) : NSH K V V x p a b X := Or.inl ⟨hX, rfl⟩
theorem NSH.mk {c : Nat} (g : SHL V Vp x) (hN : SN V x) (hq : K q = none) (hW : WT K V) (hx : K x = some (0, 10)) (hqp : Kp q = some (0, 6)) (hWp : WT Kp Vp) (hxp : Kp x = some (0, 10)) (hn : SHN Vp q p a b) (e1 : V1 = upd2 Vp (vq Vp x 9) c (.ref q)) (e2 : V2 = upd2 V1 x 10 (ti Y)) (hc : c = (vi V x 10).toNat) (hY : Y = vi V x 10 + 1) (hX : X = vi V x 10) : NSH K V V2 x p a b X := by
  subst hc hY
  obtain ⟨g1, g2, g3⟩ := g hN
  have h10 := (hW.int hx (j := 10) (Nat.le_of_ble_eq_true rfl) rfl).2
  have h10' : 0 ≤ vi V x 10 ∧ vi V x 10 ≤ 10 := ⟨by omega, by omega⟩
  have hA := sh_row hWp hxp
  have nxa : x ≠ vq Vp x 9 := K_ne hxp hA (by decide)
  have nqx : q ≠ x := K_ne hqp hxp (by decide)
  have nqa : q ≠ vq Vp x 9 := K_ne hqp hA (by decide)
  have h5 : vq V2 x 9 = vq Vp x 9 := (vq_up e2 (Or.inr (by decide))).trans (vq_up e1 (Or.inl nxa))
  have hn10 : vi V2 x 10 = vi V x 10 + 1 := upd2_int e2 ⟨by omega, by omega⟩
  have hrow : ∀ j, j ≠ (vi V x 10).toNat → V2 (vq V2 x 9) j = Vp (vq Vp x 9) j := fun j hj => by
    rw [h5, uq_ne e2 (Or.inl (Ne.symm nxa)), uq_ne e1 (Or.inr hj)]
  have hnew : V2 (vq V2 x 9) (vi V x 10).toNat = .ref q := by
    rw [h5, uq_ne e2 (Or.inl (Ne.symm nxa)), uq_same e1]
  have hob : ∀ b, b ≠ x → b ≠ vq Vp x 9 → ∀ f, vi V2 b f = vi Vp b f := fun b n1 n2 f => (vi_up e2 (Or.inl n1)).trans (vi_up e1 (Or.inl n2))
  have hqn : shO V2 x (vi V x 10).toNat = q := vq_of hnew
  refine Or.inr ⟨by omega, hX, h10'.1, hn10, by rw [hqn]; exact hq, ?_, fun s hs => ?_⟩
  · rw [hqn]
    obtain ⟨n0, n1, n2, n3, n6, n7, n9⟩ := hn
    exact ⟨(hob _ nqx nqa _).trans n0, (hob _ nqx nqa _).trans n1, (hob _ nqx nqa _).trans n2, (hob _ nqx nqa _).trans n3, (hob _ nqx nqa _).trans n6, (hob _ nqx nqa _).trans n7, (hob _ nqx nqa _).trans n9⟩
  · have er := hrow s (by omega)
    have eo : shO V2 x s = shO Vp x s := vq_eq2 er
    have hkp : Kp (shO Vp x s) = some (0, 6) := (sh_at hWp hxp g1 (s := s) (by rw [g2]; exact hs)).2.2
    have n1 : shO Vp x s ≠ x := K_ne hkp hxp (by decide)
    have n2 : shO Vp x s ≠ vq Vp x 9 := K_ne hkp hA (by decide)
    refine ⟨er.trans (g3 s hs).1, fun f hf => Eq.trans ?_ ((g3 s hs).2 f hf)⟩
    unfold shF
    rw [eo]
    exact hob _ n1 n2 _
def MNS (V V1 : Vmap) (m : Nat) (p a b X : Int) : Prop := (X = -1 ∧ V1 = V) ∨ (X = vi V m 91 ∧ 0 ≤ vi V m 91 ∧ vi V1 m 91 = vi V m 91 + 1 ∧ ar 94 V1 m = updf (ar 94 V m) (vi V m 91).toNat p ∧ ar 95 V1 m = updf (ar 95 V m) (vi V m 91).toNat a ∧ ar 96 V1 m = updf (ar 96 V m) (vi V m 91).toNat b ∧ ar 100 V1 m = updf (ar 100 V m) (vi V m 91).toNat (-1))
theorem MNS.no (hX : X = -1) : MNS V V m p a b X := Or.inl ⟨hX, rfl⟩
theorem MNS.ok {d1 d2 d3 d4 : Nat} (h0 : 0 ≤ vi V m 91) (hX : X = vi V m 91) (h1 : vi V1 m 91 = vi V m 91 + 1) (e1 : ar 94 V1 m = updf (ar 94 V m) d1 p) (e2 : ar 95 V1 m = updf (ar 95 V m) d2 a) (e3 : ar 96 V1 m = updf (ar 96 V m) d3 b) (e4 : ar 100 V1 m = updf (ar 100 V m) d4 (-1)) (q1 : d1 = (vi V m 91).toNat) (q2 : d2 = (vi V m 91).toNat) (q3 : d3 = (vi V m 91).toNat) (q4 : d4 = (vi V m 91).toNat) : MNS V V1 m p a b X := by
  subst q1 q2 q3 q4
  exact Or.inr ⟨hX, h0, h1, e1, e2, e3, e4⟩
theorem SHE.same (h : SHE V x m) (hN : SN V x) (f : SHL V V1 x) (h4 : vi V x 4 ≤ vi V1 x 4) (e94 : ar 94 V1 m = ar 94 V m) : SHE V1 x m := fun s hs => by
  obtain ⟨f1, f2, f3⟩ := f hN
  rw [f2] at hs
  have h1 := h s hs
  have e0 : shw V1 x s = shw V x s := (f3 s hs).2 0 (by decide)
  rw [e0, e94]
  exact ⟨h1.1, h1.2.1, by omega⟩
theorem SHE.fr {ws : Nat} (h : SHE V x m) (hF : FR ws K V K1 V1) (hE : ext K K1) (hW : WT K V) (hx : K x = some (0, 10)) (hm : K m = some (0, 11)) (hN : SN V x) (h4 : vi V x 4 ≤ vi V1 x 4) (h10 : vi V1 x 10 = vi V x 10) (b3 : shbits ws = true) (b2 : robits ws = true) : SHE V1 x m := h.frx hF hE hW hx hm hN h10 h4 b3 b2
theorem SHE.ship {w1 w2 : Nat} (h : SHE V x m) (hx : K x = some (0, 10)) (hm : K m = some (0, 11)) (hW : WT K V) (hW1 : WT K1 V1) (hE1 : ext K K1) (hF1 : FR w1 K V K1 V1) (hE2 : ext K1 K2) (hF2 : FR w2 K1 V1 K2 V2) (hN1 : SN V1 x) (hXY : X = Y) (hp : X ≠ -1 → 0 ≤ p ∧ p < vi V x 4) (h41 : vi V x 4 ≤ vi V1 x 4) (h42 : vi V1 x 4 ≤ vi V2 x 4) (h102 : vi V2 x 10 = vi V1 x 10) (f : NSH K V V1 x p a b X) (f1 : MNS V1 V2 m p a b Y) (hn : vi V1 m 91 = vi V x 10) (b1 : robits w1 = true) (b2 : shbits w2 = true) : SHE V2 x m := by
  have hx1 := hE1.obj (Or.inl (by decide)) hx
  have hm1 := hE1.obj (Or.inl (by decide)) hm
  have b1' := b1
  simp only [robits, List.all_cons, List.all_nil, Bool.and_true, Bool.and_eq_true, Bool.not_eq_true'] at b1'
  have e94 := arq hF1 hE1 hm (hW.ref hm (j := 94) (Nat.le_of_ble_eq_true rfl) rfl).2 b1'.1 b1'.2
  -- the class's ships stay behind the reference's call
  have key : ∀ s : Nat, (s : Int) < vi V1 x 10 → shw V2 x s = shw V1 x s := fun s hs => by
    obtain ⟨h1, h2, h3⟩ := sh_at hW1 hx1 hN1 hs
    simp only [shbits, List.all_cons, List.all_nil, Bool.and_true, Bool.and_eq_true, Bool.not_eq_true'] at b2
    obtain ⟨c9, c8, c0⟩ := b2
    have hA := sh_row hW1 hx1
    have e9 : vq V2 x 9 = vq V1 x 9 := vq_eq (hF2 x _ 9 hx1 (hE2.obj (Or.inl (by decide)) hx1) c9)
    have e8 : V2 (vq V1 x 9) s = V1 (vq V1 x 9) s := hF2 _ _ s hA (hE2.arr hA) c8
    unfold shw
    rw [e9, vq_eq e8]
    exact vi_fr hF2 h3 (hE2.obj (Or.inl (by decide)) h3) c0
  rcases f with ⟨a1, a2⟩ | ⟨a1, a2, a3, a4, -, a5, a6⟩
  · rcases f1 with ⟨d1, d2⟩ | ⟨d1, d2, -⟩
    · subst d2
      intro s hs
      rw [a2] at hs ⊢
      have h1 := h s hs
      exact h1
    · omega
  · rcases f1 with ⟨d1, -⟩ | ⟨d1, d2, -, d4, -⟩
    · omega
    · intro s hs
      rw [h102, a4] at hs
      have hp' := hp a1
      rw [key s (by omega), d4, e94, hn]
      by_cases q : s = (vi V x 10).toNat
      · have e0 : shw V1 x s = p := by rw [q]; exact a5.1
        rw [e0, q, updf_at]
        exact ⟨rfl, by omega, by omega⟩
      · have e0 : shw V1 x s = shw V x s := (a6 s (by omega)).2 0 (by decide)
        have h1 := h s (by omega)
        rw [e0, updf_of q]
        exact ⟨h1.1, h1.2.1, by omega⟩
/-! what the catches are like -/
theorem sdt.nil (h : csz V x = 0) : sdt V x := fun i hi => by omega
theorem sdt.same (h : sdt V x) (f : CAM V V1 x) (h10 : vi V x 10 ≤ vi V1 x 10) : sdt V1 x := fun i hi => by
  rw [f.1] at hi
  rw [f.2, f.2, f.2]
  have := h i hi
  exact ⟨⟨this.1.1, by omega⟩, this.2⟩
theorem sdt.caught (h : sdt V x) (f : CAC V V1 x s k e n d X) (g : CTC V V1 x s k e n d X) (h10 : vi V x 10 ≤ vi V1 x 10) (hd : tdy V x ≤ 3599) : sdt V1 x := by
  rcases f with ⟨a1, a2⟩ | ⟨a1, a2, a3, a4⟩
  · exact h.same a2 h10
  · rcases g with ⟨b1, -⟩ | ⟨-, -, -, b4⟩
    · omega
    · intro i hi
      rw [a3] at hi
      have e := a4 i hi
      have e0 : ctg V1 x i 0 = (ctr V1 x i).1 := rfl
      have e3 : ctg V1 x i 3 = (ctr V1 x i).2.2.2.1 := rfl
      have e4 : ctg V1 x i 4 = (ctr V1 x i).2.2.2.2 := rfl
      rw [e0, e3, e4, e]
      by_cases q : (i : Int) = csz V x
      · rw [if_pos q]
        show (0 ≤ s ∧ s < vi V1 x 10) ∧ (0 ≤ n ∧ n ≤ 1000000) ∧ 0 ≤ d ∧ d ≤ 3599
        omega
      · rw [if_neg q]
        have := h i (by omega)
        exact ⟨⟨this.1.1, Int.lt_of_lt_of_le this.1.2 h10⟩, this.2⟩
/-- over(), on both sides -/
theorem SHE.over {w1 : Nat} (h : SHE V x m) (hC : CAE V x m) (hr : sdt V x) (hT : TXE K V x m) (hCW : CWI K V x) (hY : YRL V x m) (hN : SN V x) (hW : WT K V) (hm : K m = some (0, 11)) (hF : FR w1 K V K1 V1) (hE : ext K K1) (h9 : vi V x 4 ≤ 9) (h47 : vi V m 47 ≤ 20) (f : OVT K V x X) (g : ROT V1 m Y) (b1 : mcbits w1 = true) (b2 : robits w1 = true) (b3 : ymbits w1 = true) (b4 : mtbits w1 = true) : X = Y := by
  have gM := MCM.fr hF hE hW hm b1
  have hYM := YMS.fr hF hE hW hm b3
  simp only [robits, List.all_cons, List.all_nil, Bool.and_true, Bool.and_eq_true, Bool.not_eq_true'] at b2
  have e94 := arq hF hE hm (hW.ref hm (j := 94) (Nat.le_of_ble_eq_true rfl) rfl).2 b2.1 b2.2
  have hT' := hT
  obtain ⟨-, -, L, h3, h4⟩ := hT
  obtain ⟨-, L', c1, c2, -⟩ := hCW
  have e := c1.uniq h3
  subst e
  have hs : sho V x := fun s hs => (h s hs).2
  have f1 := f hN hr hs L' c1
  have g1 := g L' (h4.fr hF hE hW hm b4) c2
  have hn : csz V x = vi V1 m 120 := hC.1.trans gM.1.symm
  have hrow : ∀ u : Nat, (u : Int) < csz V x → ctr V x u = mcr V1 m u := fun u hu => (hC.2 u hu).trans (gM.2 u).symm
  rw [← hn] at g1
  refine OVJ.uniq f1 g1 (fun u hu => ?_) (fun u hu => congrArg (fun q : Int × Int × Int × Int × Int => q.2.2.2.2) (hrow u hu))
  unfold OVD ROD
  rw [← hn]
  have r1 := (hr u hu).1
  have q1 : ((ctr V x u).1.toNat : Int) < vi V x 10 := by
    show ((ctg V x u 0).toNat : Int) < vi V x 10
    omega
  have q2 := h _ q1
  have q3 : shw V x (ctr V x u).1.toNat = ar 94 V1 m (ctr V x u).1.toNat := q2.1.trans (congrFun e94 _).symm
  exact OVP.cong (hrow u hu) (tsum_cong (fun v hv => hrow v (by omega)) (hrow u hu)) q3 (yr_both hT' hY h9 h47 c1 hYM q2.2.1 q2.2.2)
end PV2
