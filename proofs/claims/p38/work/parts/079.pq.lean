/-! ### catches, told alike: caught, doubt -/
section PQ
variable {K K1 K2 : Kmap} {V V0 V1 V2 : Vmap} {x m o t : Nat} {i j n k c s e d w a b X Y Z : Int}
def cto (V : Vmap) (x : Nat) : Nat := vq V x 14
def ctg (V : Vmap) (x i c : Nat) : Int := vi V (vq V (cto V x) 2) (5 * i + c)
def ctr (V : Vmap) (x i : Nat) : Int × Int × Int × Int × Int := (ctg V x i 0, ctg V x i 1, ctg V x i 2, ctg V x i 3, ctg V x i 4)
def mcr (V : Vmap) (m i : Nat) : Int × Int × Int × Int × Int := (ar 128 V m i, ar 129 V m i, ar 130 V m i, ar 131 V m i, ar 132 V m i)
def sdy (V : Vmap) (x : Nat) : Int → Int := rgv V (vq V (vq V x 0) 10) 4
def msd (V : Vmap) (m : Nat) : Int → Int := rgv V (vq V m 106) 4
theorem ct_tab (hW : WT K V) (ht : K t = some (0, 26)) : K (vq V t 2) = some (148 + 1, 1000) ∧ TRM K V t 5 200 ∧ vi V t 1 = ((200 : Nat) : Int) := by
  obtain ⟨N, hC⟩ := (hW.ref ht (j := 2) (Nat.le_of_ble_eq_true rfl) rfl).2
  have hN : N = 1000 := by
    rcases (hW.len hC).2.2 with h | h
    · exact absurd h (by decide)
    · exact h
  subst hN
  have h0 := (hW.int ht (j := 0) (Nat.le_of_ble_eq_true rfl) rfl).2
  have h1 := (hW.int ht (j := 1) (Nat.le_of_ble_eq_true rfl) rfl).2
  have h3 := (hW.int ht (j := 3) (Nat.le_of_ble_eq_true rfl) rfl).2
  exact ⟨hC, ⟨by omega, by omega, by omega, 148, hC⟩, by omega⟩
theorem ct_at (hW : WT K V) (hx : K x = some (0, 10)) : K (cto V x) = some (0, 26) := (hW.ref hx (j := 14) (Nat.le_of_ble_eq_true rfl) rfl).2
theorem tgv_ct (hW : WT K V) (hx : K x = some (0, 10)) (hc0 : 0 ≤ c) (hc : c < 5) (h0 : 0 ≤ i) (h1 : i < csz V x) (g : TG K V (vq V x 14) i c X) : X = ctg V x i.toNat c.toNat := by
  obtain ⟨-, hT, -⟩ := ct_tab hW (ct_at hW hx)
  have e := g 5 200 (by decide) (by decide) hT
  have w0 : vi V (vq V x 14) 0 = 5 := hT.1
  have h1' : i < vi V (vq V x 14) 3 := h1
  unfold tgv at e
  rw [if_pos ⟨h0, h1', hc0, by omega⟩, w0] at e
  rw [e]
  exact congrArg (vi V (vq V (vq V x 14) 2)) (by omega)
/-- the rows stay -/
def CAM (V V1 : Vmap) (x : Nat) : Prop := csz V1 x = csz V x ∧ ∀ i c : Nat, ctg V1 x i c = ctg V x i c
theorem CAM.rf : CAM V V x := ⟨rfl, fun _ _ => rfl⟩
def ctbits (ws : Nat) : Bool := [keyK (0, 10) 14, keyK (0, 26) 2, keyK (0, 26) 3, abase + 149].all fun b => !ws.testBit b
theorem CAM.fr {ws : Nat} (hF : FR ws K V K1 V1) (hE : ext K K1) (hW : WT K V) (hx : K x = some (0, 10)) (hb : ctbits ws = true) : CAM V V1 x := by
  simp only [ctbits, List.all_cons, List.all_nil, Bool.and_true, Bool.and_eq_true, Bool.not_eq_true'] at hb
  obtain ⟨c14, t2, t3, a⟩ := hb
  have h2 := ct_at hW hx
  have h3 := (ct_tab hW h2).1
  have g2 := hE.obj (Or.inr (by decide)) h2
  have e1 : cto V1 x = cto V x := vq_eq (hF x _ 14 hx (hE.obj (Or.inl (by decide)) hx) c14)
  have e3 : vq V1 (cto V x) 2 = vq V (cto V x) 2 := vq_eq (hF _ _ 2 h2 g2 t2)
  refine ⟨?_, fun i c => ?_⟩
  · show vi V1 (cto V1 x) 3 = vi V (cto V x) 3
    rw [e1]
    exact vi_fr hF h2 g2 t3
  · unfold ctg
    rw [e1, e3]
    exact vi_frA hF h3 (hE.arr h3) a
def MCM (V V1 : Vmap) (m : Nat) : Prop := vi V1 m 120 = vi V m 120 ∧ ∀ i : Nat, mcr V1 m i = mcr V m i
theorem MCM.rf : MCM V V m := ⟨rfl, fun _ => rfl⟩
def mcbits (ws : Nat) : Bool := [keyK (0, 11) 120, keyK (0, 11) 128, keyK (0, 11) 129, keyK (0, 11) 130, keyK (0, 11) 131, keyK (0, 11) 132, abase + 104, abase + 105, abase + 106, abase + 107, abase + 108].all fun b => !ws.testBit b
theorem MCM.fr {ws : Nat} (hF : FR ws K V K1 V1) (hE : ext K K1) (hW : WT K V) (hm : K m = some (0, 11)) (hb : mcbits ws = true) : MCM V V1 m := by
  simp only [mcbits, List.all_cons, List.all_nil, Bool.and_true, Bool.and_eq_true, Bool.not_eq_true'] at hb
  obtain ⟨c0, c1, c2, c3, c4, c5, a1, a2, a3, a4, a5⟩ := hb
  refine ⟨vi_fr hF hm (hE.obj (Or.inl (by decide)) hm) c0, fun k => ?_⟩
  exact w5 (congrFun (arq hF hE hm (hW.ref hm (j := 128) (Nat.le_of_ble_eq_true rfl) rfl).2 c1 a1) k) (congrFun (arq hF hE hm (hW.ref hm (j := 129) (Nat.le_of_ble_eq_true rfl) rfl).2 c2 a2) k) (congrFun (arq hF hE hm (hW.ref hm (j := 130) (Nat.le_of_ble_eq_true rfl) rfl).2 c3 a3) k) (congrFun (arq hF hE hm (hW.ref hm (j := 131) (Nat.le_of_ble_eq_true rfl) rfl).2 c4 a4) k) (congrFun (arq hF hE hm (hW.ref hm (j := 132) (Nat.le_of_ble_eq_true rfl) rfl).2 c5 a5) k)
/-! caught() -/
def CAC (V V1 : Vmap) (x : Nat) (s k e n d X : Int) : Prop := (X = -1 ∧ CAM V V1 x) ∨ (X = csz V x ∧ 0 ≤ csz V x ∧ csz V1 x = csz V x + 1 ∧ ∀ i : Nat, (i : Int) < csz V x + 1 → ctr V1 x i = if (i : Int) = csz V x then (s, k, e, n, d) else ctr V x i)
theorem CAC.no (hX : X = -1) : CAC V V x s k e n d X := Or.inl ⟨hX, CAM.rf⟩
theorem CAC.ap (hW : WT K V) (hx : K x = some (0, 10)) (rs : ir s) (rk : ir k) (re : ir e) (rn : ir n) (rd : ir d) (ha : APP K V V1 (vq V x 14) s k e n d X) : CAC V V1 x s k e n d X := by
  have a2 := ct_at hW hx
  obtain ⟨a3, a4, a5⟩ := ct_tab hW a2
  have h3 := (hW.int a2 (j := 3) (Nat.le_of_ble_eq_true rfl) rfl).2
  rcases ha 5 200 (by decide) (by decide) a4 a5 with ⟨b1, b2, b3⟩ | ⟨b1, b2, b3⟩
  · subst b3
    exact Or.inl ⟨b2, CAM.rf⟩
  · obtain ⟨c1, c2, c3, c4⟩ := apv_all (a := s) (b := k) (c := e) (d := n) (e := d) a4 a2 b1 (by decide) rs rk re rn rd
    have b3' : V1 = apv V (cto V x) s k e n d := b3
    rw [← b3'] at c1 c2 c3 c4
    have n1 : x ≠ cto V x := K_ne hx a2 (by decide)
    have n2 : x ≠ vq V (cto V x) 2 := K_ne hx a3 (by decide)
    have e1 : cto V1 x = cto V x := by unfold cto at c3 n1 n2⊢; unfold vq at c3 n1 n2⊢; rw [c3 x n1 n2]
    have e3 : vq V1 (cto V x) 2 = vq V (cto V x) 2 := vq_eq (c2 2 (by decide))
    have ez : csz V x = vi V (cto V x) 3 := rfl
    refine Or.inr ⟨b2, by rw [ez]; omega, ?_, fun i hi => ?_⟩
    · show vi V1 (cto V1 x) 3 = _
      rw [e1, c1]
      rfl
    · have key : ∀ c : Nat, ctg V1 x i c = vi V1 (vq V (cto V x) 2) (5 * i + c) := fun c => by
        unfold ctg
        rw [e1, e3]
      have k5 : ((5 : Nat) : Int) = 5 := rfl
      rw [ez] at hi ⊢
      by_cases q : (i : Int) = vi V (cto V x) 3
      · rw [if_pos q]
        refine w5 ((key 0).trans ?_) ((key 1).trans ?_) ((key 2).trans ?_) ((key 3).trans ?_) ((key 4).trans ?_)
        all_goals rw [c4, k5, if_neg (by omega)]
        · rw [if_pos (by omega)]
        · rw [if_neg (by omega), if_pos (by omega)]
        · rw [if_neg (by omega), if_neg (by omega), if_pos (by omega)]
        · rw [if_neg (by omega), if_neg (by omega), if_neg (by omega), if_pos (by omega)]
        · rw [if_neg (by omega), if_neg (by omega), if_neg (by omega), if_neg (by omega)]
      · rw [if_neg q]
        refine w5 ((key 0).trans ?_) ((key 1).trans ?_) ((key 2).trans ?_) ((key 3).trans ?_) ((key 4).trans ?_)
        all_goals (rw [c4, k5, if_pos (by omega)]; rfl)
def MCC (V V1 : Vmap) (m : Nat) (s k e n d X : Int) : Prop := (X = -1 ∧ V1 = V) ∨ (X = vi V m 120 ∧ 0 ≤ vi V m 120 ∧ vi V1 m 120 = vi V m 120 + 1 ∧ ∀ i : Nat, mcr V1 m i = if i = (vi V m 120).toNat then (s, k, e, n, d) else mcr V m i)
theorem MCC.no (hX : X = -1) : MCC V V m s k e n d X := Or.inl ⟨hX, rfl⟩
theorem MCC.ok {d1 d2 d3 d4 d5 : Nat} (h0 : 0 ≤ vi V m 120) (hX : X = vi V m 120) (h1 : vi V1 m 120 = vi V m 120 + 1) (e1 : ar 128 V1 m = updf (ar 128 V m) d1 s) (e2 : ar 129 V1 m = updf (ar 129 V m) d2 k) (e3 : ar 130 V1 m = updf (ar 130 V m) d3 e) (e4 : ar 131 V1 m = updf (ar 131 V m) d4 n) (e5 : ar 132 V1 m = updf (ar 132 V m) d5 d) (q1 : d1 = (vi V m 120).toNat) (q2 : d2 = (vi V m 120).toNat) (q3 : d3 = (vi V m 120).toNat) (q4 : d4 = (vi V m 120).toNat) (q5 : d5 = (vi V m 120).toNat) : MCC V V1 m s k e n d X := Or.inr ⟨hX, h0, h1, fun i => by
  subst q1 q2 q3 q4 q5
  unfold mcr
  rw [e1, e2, e3, e4, e5]
  by_cases q : i = (vi V m 120).toNat
  · rw [if_pos q, q, updf_at, updf_at, updf_at, updf_at, updf_at]
  · rw [if_neg q, updf_of q, updf_of q, updf_of q, updf_of q, updf_of q]⟩
/-! both sides -/
def CAE (V : Vmap) (x m : Nat) : Prop := csz V x = vi V m 120 ∧ ∀ i : Nat, (i : Int) < csz V x → ctr V x i = mcr V m i
theorem CAE.nil (h : csz V x = 0) (h1 : vi V m 120 = 0) : CAE V x m := ⟨by omega, fun i hi => by omega⟩
theorem CAE.same (h : CAE V x m) (f : CAM V V1 x) (g : MCM V V1 m) : CAE V1 x m := by
  refine ⟨by rw [f.1, g.1]; exact h.1, fun i hi => ?_⟩
  rw [f.1] at hi
  rw [g.2]
  exact (w5 (f.2 i 0) (f.2 i 1) (f.2 i 2) (f.2 i 3) (f.2 i 4)).trans (h.2 i hi)
theorem CAE.frx {ws : Nat} (h : CAE V x m) (hF : FR ws K V K1 V1) (hE : ext K K1) (hW : WT K V) (hx : K x = some (0, 10)) (hm : K m = some (0, 11)) (b1 : ctbits ws = true) (b2 : mcbits ws = true) : CAE V1 x m := h.same (CAM.fr hF hE hW hx b1) (MCM.fr hF hE hW hm b2)
theorem CAE.caught {w1 w2 : Nat} (h : CAE V x m) (hx : K x = some (0, 10)) (hm : K m = some (0, 11)) (hW : WT K V) (hW1 : WT K1 V1) (hE1 : ext K K1) (hF1 : FR w1 K V K1 V1) (hE2 : ext K1 K2) (hF2 : FR w2 K1 V1 K2 V2) (hXY : X = Y) (hY : Y = -1 ∨ 0 ≤ Y) (f : CAC V V1 x s k e n d X) (f1 : MCC V1 V2 m s k e n d Y) (b1 : mcbits w1 = true) (b2 : ctbits w2 = true) : CAE V2 x m := by
  have gm : MCM V V1 m := MCM.fr hF1 hE1 hW hm b1
  have gs : CAM V1 V2 x := CAM.fr hF2 hE2 hW1 (hE1.obj (Or.inl (by decide)) hx) b2
  rcases f with ⟨a1, a2⟩ | ⟨a1, a2, a3, a4⟩
  · rcases f1 with ⟨d1, d2⟩ | ⟨d1, d2, -⟩
    · subst d2
      exact (h.same a2 gm).same gs MCM.rf
    · omega
  · rcases f1 with ⟨d1, -⟩ | ⟨d1, d2, d3, d4⟩
    · omega
    · have h1 := h.1
      have m1 := gm.1
      refine ⟨by rw [gs.1, a3, d3, m1, h1], fun i hi => ?_⟩
      rw [gs.1, a3] at hi
      have e0 : ctr V2 x i = ctr V1 x i := w5 (gs.2 i 0) (gs.2 i 1) (gs.2 i 2) (gs.2 i 3) (gs.2 i 4)
      rw [e0, a4 i hi, d4]
      by_cases q : (i : Int) = csz V x
      · rw [if_pos q, if_pos (by omega)]
      · rw [if_neg q, if_neg (by omega), gm.2]
        exact h.2 i (by omega)
/-! doubt() -/
def DBX (sd : Int → Int) (r q : Int × Int × Int × Int × Int) : Prop := r.1 = q.1 ∧ r.2.2.1 ≠ q.2.2.1 ∧ (if r.2.2.2.2 ≤ q.2.2.2.2 then q.2.2.2.2 - r.2.2.2.2 else r.2.2.2.2 - q.2.2.2.2) < (sd r.2.2.1 + sd q.2.2.1) / 4
def DBF (D : Nat → Nat → Prop) (n w X : Int) : Prop := ((w < 0 ∨ 1 < w) ∧ X = -1) ∨ (0 ≤ w ∧ w ≤ 1 ∧ ((X = -1 ∧ ∀ i j : Nat, i < j → (j : Int) < n → ¬ D i j) ∨ ∃ i j : Nat, i < j ∧ (j : Int) < n ∧ D i j ∧ (∀ u v : Nat, u < v → (v : Int) < n → u < i ∨ (u = i ∧ v < j) → ¬ D u v) ∧ X = if w = 0 then (i : Int) else (j : Int)))
theorem DBF.uniq {D : Nat → Nat → Prop} (f : DBF D n w X) (g : DBF D n w Y) : X = Y := by
  rcases f with ⟨f1, f2⟩ | ⟨f0, f1, f2⟩
  · rcases g with ⟨g1, g2⟩ | ⟨g0, g1, -⟩
    · omega
    · omega
  · rcases g with ⟨g1, g2⟩ | ⟨-, -, g2⟩
    · omega
    · rcases f2 with ⟨a1, a2⟩ | ⟨i, j, a1, a2, a3, a4, a5⟩
      · rcases g2 with ⟨b1, -⟩ | ⟨u, v, b1, b2, b3, -, -⟩
        · omega
        · exact absurd b3 (a2 u v b1 b2)
      · rcases g2 with ⟨-, b2⟩ | ⟨u, v, b1, b2, b3, b4, b5⟩
        · exact absurd a3 (b2 i j a1 a2)
        · have h1 : ¬ (u < i ∨ (u = i ∧ v < j)) := fun q => a4 u v b1 b2 q b3
          have h2 : ¬ (i < u ∨ (i = u ∧ j < v)) := fun q => b4 i j a1 a2 q a3
          have e1 : i = u := by omega
          have e2 : j = v := by omega
          rw [a5, b5, e1, e2]
theorem DBF.cong {D D' : Nat → Nat → Prop} (h : ∀ i j : Nat, i < j → (j : Int) < n → (D i j ↔ D' i j)) (f : DBF D n w X) : DBF D' n w X := by
  rcases f with f | ⟨f0, f1, f2⟩
  · exact Or.inl f
  · refine Or.inr ⟨f0, f1, ?_⟩
    rcases f2 with ⟨a1, a2⟩ | ⟨i, j, a1, a2, a3, a4, a5⟩
    · exact Or.inl ⟨a1, fun i j hi hj q => a2 i j hi hj ((h i j hi hj).mpr q)⟩
    · exact Or.inr ⟨i, j, a1, a2, (h i j a1 a2).mp a3, fun u v hu hv q r => a4 u v hu hv q ((h u v hu hv).mpr r), a5⟩
/-- none before the row i, and in row i none before j -/
def DBL (D : Nat → Nat → Prop) (n i j : Int) : Prop := ∀ u v : Nat, u < v → (v : Int) < n → (u : Int) < i ∨ ((u : Int) = i ∧ (v : Int) < j) → ¬ D u v
theorem DBL.beg {D : Nat → Nat → Prop} : DBL D n 0 0 := fun u v _ _ h => by omega
theorem DBL.row {D : Nat → Nat → Prop} (h : DBL D n i 0) (hj : j = i + 1) : DBL D n i j := fun u v hu hv q => by
  rcases q with q | q
  · exact h u v hu hv (Or.inl q)
  · omega
theorem DBL.step {D : Nat → Nat → Prop} (h : DBL D n i j) (h0 : 0 ≤ i) (hij : i < j) (hD : Y ≠ 0 ↔ D i.toNat j.toNat) (hY : Y = 0) (hk : k = j + 1) : DBL D n i k := fun u v hu hv q => by
  by_cases e : (u : Int) = i ∧ (v : Int) = j
  · have e1 : i.toNat = u := by omega
    have e2 : j.toNat = v := by omega
    rw [e1, e2] at hD
    exact fun r => absurd hY (hD.mpr r)
  · exact h u v hu hv (by omega)
theorem DBL.next {D : Nat → Nat → Prop} (h : DBL D n i j) (hj : n ≤ j) (hk : k = i + 1) : DBL D n k 0 := fun u v hu hv q => h u v hu hv (by omega)
theorem DBF.bad {D : Nat → Nat → Prop} (h : w < 0 ∨ 1 < w) (hX : X = -1) : DBF D n w X := Or.inl ⟨h, hX⟩
theorem DBF.no {D : Nat → Nat → Prop} (h : DBL D n i 0) (hi : n ≤ i) (h0 : 0 ≤ w) (h1 : w ≤ 1) (hX : X = -1) : DBF D n w X := Or.inr ⟨h0, h1, Or.inl ⟨hX, fun u v hu hv => h u v hu hv (Or.inl (by omega))⟩⟩
theorem DBF.ys {D : Nat → Nat → Prop} (h : DBL D n i j) (h0 : 0 ≤ i) (hij : i < j) (hj : j < n) (hD : Y ≠ 0 ↔ D i.toNat j.toNat) (hY : Y ≠ 0) (w0 : 0 ≤ w) (w1 : w ≤ 1) (hX : (w = 0 ∧ X = i) ∨ (w ≠ 0 ∧ X = j)) : DBF D n w X := Or.inr ⟨w0, w1, Or.inr ⟨i.toNat, j.toNat, by omega, by omega, hD.mp hY, fun u v hu hv q => h u v hu hv (by omega), by
  rcases hX with ⟨e1, e2⟩ | ⟨e1, e2⟩
  · rw [if_pos e1]
    omega
  · rw [if_neg e1]
    omega⟩⟩
end PQ
