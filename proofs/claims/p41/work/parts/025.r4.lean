def CL (V0 V : Vmap) (x : Nat) : Prop := wt V x = wt V0 x ∧ 0 ≤ vi V x 37 ∧ vi V x 37 ≤ vi V0 x 37 ∧ ∀ j, (vi V x 37).toNat ≤ j → j < (vi V0 x 37).toNat → pS (wt V x j) = true
def CS (V0 V : Vmap) (x : Nat) (a : Int) : Prop := CL V0 V x ∧ (a ≠ 0 → ∀ j, j + 1 = (vi V x 37).toNat → pS (wt V x j) = false)
section CL
variable {V0 V V1 : Vmap} {x : Nat}
theorem CL.rf (h : 0 ≤ vi V x 37) : CL V V x := ⟨rfl, h, Int.le_refl _, fun j a b => by omega⟩
theorem CL.step (h : CL V0 V x) (ht : 2 ≤ topf V x ∧ topf V x ≤ 6) (hQ : wt V1 x = wt V x) (hw : vi V1 x 37 = vi V x 37 - 1) (h0 : 0 ≤ vi V1 x 37) (_ : True) : CL V0 V1 x := by
  obtain ⟨a, b, c, d⟩ := h
  obtain ⟨t1, t2⟩ := topf_is (V := V) (x := x) (by omega)
  refine ⟨by rw [hQ, a], h0, by omega, fun j h1 h2 => ?_⟩
  rw [hQ]
  by_cases e : j = (vi V x 37 - 1).toNat
  · rw [e]; exact pS_of t2.symm ht
  · exact d j (by omega) h2
theorem CS.of {a : Int} (h : CL V0 V x) (ht : a ≠ 0 → topf V x < 2 ∨ 6 < topf V x) : CS V0 V x a := by
  refine ⟨h, fun ha j hj => ?_⟩
  have h1 := ht ha
  have e : j = (vi V x 37 - 1).toNat := by omega
  have t : topf V x = wt V x j / UU := by unfold topf; rw [if_neg (by omega), e]
  exact pS_no t.symm (by omega)
theorem NS.less (h : NS V x) (hQ : wt V1 x = wt V x) (hw : vi V1 x 37 ≤ vi V x 37) : NS V1 x := fun j hj => by rw [hQ]; exact h j (by omega)
end CL
def HO (V : Vmap) (x : Nat) (a X : Int) : Prop := (X ≠ 0 → ∃ k, a.toNat ≤ k ∧ k < (vi V x 37).toNat ∧ wt V x k / UU = 14) ∧ (X = 0 → ∀ k, a.toNat ≤ k → k < (vi V x 37).toNat → wt V x k / UU ≠ 14)
def HOI (V : Vmap) (x : Nat) (a l : Int) : Prop := a ≤ l ∧ ∀ k, a.toNat ≤ k → k < l.toNat → wt V x k / UU ≠ 14
theorem upd_eq {f2 f1 g g0 : Nat → Int} {i i0 : Nat} {v : Int} (a : f2 = f1) (b : f1 = updf g i v) (c : g = g0) (d : i = i0) : f2 = updf g0 i0 v := by subst a b c d; rfl
def GF (V0 V : Vmap) (x : Nat) : Prop := (vi V0 x 37 ≤ vi V x 37 ∧ ∀ j, j < (vi V0 x 37).toNat → wt V x j = wt V0 x j) ∧ ∀ j, (vi V0 x 37).toNat ≤ j → j < (vi V x 37).toNat → wt V x j / UU = 14
def GM (V0 V : Vmap) (x : Nat) : Prop := (vi V0 x 37 ≤ vi V x 37 ∧ ∀ j, j < (vi V0 x 37).toNat → wt V x j = wt V0 x j) ∧ ∀ j, (vi V0 x 37).toNat ≤ j → j < (vi V x 37).toNat → pS (wt V x j) = true ∨ wt V x j / UU = 14
def SQ (V0 V : Vmap) (x : Nat) : Prop := vi V x 37 = vi V0 x 37 ∧ ∀ j, j < (vi V0 x 37).toNat → wt V x j = wt V0 x j
section GF
variable {V0 V V1 : Vmap} {x fr : Nat} {S0 : Nat → Int} {s z z1 a X : Int}
theorem RJ.zz (h : RJ V x fr S0 s z) (e : z = z1) : RJ V x fr S0 s z1 := e ▸ h
theorem GF.rf : GF V V x := ⟨⟨Int.le_refl _, fun _ _ => rfl⟩, fun j a b => by omega⟩
theorem GF.same (h : GF V0 V x) (hQ : wt V1 x = wt V x) (hw : vi V1 x 37 = vi V x 37) : GF V0 V1 x := by
  obtain ⟨⟨a, b⟩, c⟩ := h
  exact ⟨⟨by omega, fun j hj => by rw [hQ]; exact b j hj⟩, fun j h1 h2 => by rw [hQ]; exact c j h1 (by omega)⟩
theorem GF.push (h : GF V0 V x) (h0 : 0 ≤ vi V0 x 37) (hQ : wt V1 x = updf (wt V x) (vi V x 37).toNat (1048576 * 14)) (hw : vi V1 x 37 = vi V x 37 + 1) : GF V0 V1 x := by
  obtain ⟨⟨a, b⟩, c⟩ := h
  refine ⟨⟨by omega, fun j hj => by rw [hQ, updf_ne (by omega)]; exact b j hj⟩, fun j h1 h2 => ?_⟩
  rw [hQ]
  by_cases e : j = (vi V x 37).toNat
  · rw [e, updf_same]; rfl
  · rw [updf_ne e]; exact c j h1 (by omega)
theorem GM.of (h : GF V0 V x) : GM V0 V x := ⟨h.1, fun j a b => Or.inr (h.2 j a b)⟩
theorem GM.clo (h : GM V0 V x) (hn : NS V0 x) (hc : CS V V1 x a) (h0 : 0 ≤ vi V0 x 37) : GM V0 V1 x := by
  obtain ⟨⟨b1, b2⟩, b3⟩ := h
  obtain ⟨⟨c1, c2, c3, c4⟩, -⟩ := hc
  have hle : vi V0 x 37 ≤ vi V1 x 37 := by
    by_cases e : vi V0 x 37 ≤ vi V1 x 37
    · exact e
    · exfalso
      have g := c4 (vi V1 x 37).toNat (Nat.le_refl _) (by omega)
      rw [c1, b2 _ (by omega), hn _ (by omega)] at g
      exact Bool.noConfusion g
  exact ⟨⟨hle, fun j hj => by rw [c1]; exact b2 j hj⟩, fun j h1 h2 => by rw [c1]; exact b3 j h1 (by omega)⟩
theorem GM.push {op : Int} (h : GM V0 V x) (ho : 2 ≤ op ∧ op ≤ 6) (h0 : 0 ≤ vi V0 x 37) (hQ : wt V1 x = updf (wt V x) (vi V x 37).toNat (1048576 * op)) (hw : vi V1 x 37 = vi V x 37 + 1) : GM V0 V1 x := by
  obtain ⟨⟨a, b⟩, c⟩ := h
  refine ⟨⟨by omega, fun j hj => by rw [hQ, updf_ne (by omega)]; exact b j hj⟩, fun j h1 h2 => ?_⟩
  rw [hQ]
  by_cases e : j = (vi V x 37).toNat
  · rw [e, updf_same]; exact Or.inl (pS_of (op := op) (by unfold UU; omega) ho)
  · rw [updf_ne e]; exact c j h1 (by omega)
theorem GM.fac (h : GM V0 V x) (g : GF V V1 x) : GM V0 V1 x := by
  obtain ⟨⟨a, b⟩, c⟩ := h
  obtain ⟨⟨d, e⟩, f⟩ := g
  refine ⟨⟨by omega, fun j hj => by rw [e j (by omega)]; exact b j hj⟩, fun j h1 h2 => ?_⟩
  by_cases q : j < (vi V x 37).toNat
  · rw [e j q]; exact c j h1 q
  · exact Or.inr (f j (by omega) h2)
/-- an open one is there: behind the sums it is the last -/
theorem GM.opn (h : GM V0 V x) (hn : NS V0 x) (hc : CS V V1 x 1) (h0 : 0 ≤ vi V0 x 37) {b : Int} (hb : b = vi V0 x 37) (ho : HO V x b X) (hX : X ≠ 0) : GM V0 V1 x ∧ vi V0 x 37 < vi V1 x 37 ∧ topf V1 x = 14 := by
  have g := GM.clo h hn hc h0
  obtain ⟨k, k1, k2, k3⟩ := ho.1 hX
  obtain ⟨⟨c1, c2, c3, c4⟩, c5⟩ := hc
  have hk : k < (vi V1 x 37).toNat := by
    by_cases e : k < (vi V1 x 37).toNat
    · exact e
    · exfalso
      have q := c4 k (by omega) k2
      rw [c1, pS_no k3 (by omega)] at q
      exact Bool.noConfusion q
  refine ⟨g, by omega, ?_⟩
  have q := c5 (by decide) ((vi V1 x 37).toNat - 1) (by omega)
  have ew : (vi V1 x 37 - 1).toNat = (vi V1 x 37).toNat - 1 := by omega
  unfold topf
  rw [if_neg (by omega), ew]
  rcases g.2 ((vi V1 x 37).toNat - 1) (by omega) (by omega) with r | r
  · rw [q] at r; exact Bool.noConfusion r
  · exact r
theorem GM.pop (h : GM V0 V x) (hQ : wt V1 x = wt V x) (hw : vi V1 x 37 = vi V x 37 - 1) (hl : vi V0 x 37 < vi V x 37) : GM V0 V1 x := by
  obtain ⟨⟨a, b⟩, c⟩ := h
  exact ⟨⟨by omega, fun j hj => by rw [hQ]; exact b j hj⟩, fun j h1 h2 => by rw [hQ]; exact c j h1 (by omega)⟩
/-- none is open: all sums are said -/
theorem GM.fin (h : GM V0 V x) (hn : NS V0 x) (hc : CS V V1 x 1) (h0 : 0 ≤ vi V0 x 37) {b : Int} (hb : b = vi V0 x 37) (ho : HO V x b X) (hX : X = 0) : SQ V0 V1 x := by
  have g := GM.clo h hn hc h0
  obtain ⟨⟨c1, c2, c3, c4⟩, c5⟩ := hc
  have he : vi V1 x 37 = vi V0 x 37 := by
    by_cases e : vi V1 x 37 = vi V0 x 37
    · exact e
    · exfalso
      have g1 := g.1.1
      have q := c5 (by decide) ((vi V1 x 37).toNat - 1) (by omega)
      rcases g.2 ((vi V1 x 37).toNat - 1) (by omega) (by omega) with r | r
      · rw [q] at r; exact Bool.noConfusion r
      · rw [c1] at r
        exact ho.2 hX _ (by omega) (by omega) r
  exact ⟨he, fun j hj => g.1.2 j hj⟩
theorem NS.sq (h : NS V0 x) (g : SQ V0 V x) (hQ : wt V1 x = wt V x) (hw : vi V1 x 37 = vi V x 37) : NS V1 x := fun j hj => by
  rw [hQ, g.2 j (by have := g.1; omega)]; exact h j (by have := g.1; omega)
theorem NS.push {op : Int} (h : NS V x) (ho : op < 2 ∨ 6 < op) {v : Int} (hv : 0 ≤ v ∧ v < 1048576) (hQ : wt V1 x = updf (wt V x) (vi V x 37).toNat (1048576 * op + v)) (hw : vi V1 x 37 = vi V x 37 + 1) (h0 : 0 ≤ vi V x 37) : NS V1 x := fun j hj => by
  rw [hQ]
  by_cases e : j = (vi V x 37).toNat
  · rw [e, updf_same]; exact pS_no (op := op) (by unfold UU; omega) ho
  · rw [updf_ne e]; exact h j (by omega)
theorem NS.push0 {op : Int} (h : NS V x) (ho : op < 2 ∨ 6 < op) (hQ : wt V1 x = updf (wt V x) (vi V x 37).toNat (1048576 * op)) (hw : vi V1 x 37 = vi V x 37 + 1) (h0 : 0 ≤ vi V x 37) : NS V1 x := NS.push (v := 0) h ho (by decide) (by rw [Int.add_zero]; exact hQ) hw h0
theorem HOI.rf : HOI V x a a := ⟨Int.le_refl _, fun k h1 h2 => by omega⟩
theorem HOI.step {l : Int} {q : Nat} (h : HOI V x a l) (ha : 0 ≤ a) (hq : vq V x 40 = q) (hv : vi V q l.toNat / 1048576 ≠ 14) : HOI V x a (l + 1) := by
  refine ⟨by have := h.1; omega, fun k h1 h2 => ?_⟩
  have := h.1
  by_cases e : k = l.toNat
  · rw [e]; unfold wt; rw [hq]; exact hv
  · exact h.2 k h1 (by omega)
theorem HO.yes {l : Int} {q : Nat} (h : HOI V x a l) (hl : l < vi V x 37) (hl0 : 0 ≤ l) (hq : vq V x 40 = q) (hv : vi V q l.toNat / 1048576 = 14) (hX : X = 1) : HO V x a X := by
  have := h.1
  exact ⟨fun _ => ⟨l.toNat, by omega, by omega, by unfold wt; rw [hq]; exact hv⟩, fun h => absurd h (by omega)⟩
theorem HO.no {l : Int} (h : HOI V x a l) (hl : vi V x 37 ≤ l) (hX : X = 0) : HO V x a X := ⟨fun h => absurd hX h, fun _ k h1 h2 => h.2 k h1 (by omega)⟩
theorem RJ.two (h : RJ V x fr S0 s z) (ht : topf V x ≠ 13 ∧ topf V x ≠ -1) : 2 ≤ vi V x 37 := by
  obtain ⟨t1, t2⟩ := topf_is (V := V) (x := x) (by omega)
  obtain ⟨⟨a1, a2, a3, a4⟩, hR, hf⟩ := h
  by_cases e : vi V x 37 = 1
  · exfalso
    have q := hR.2.2.2.2.2 (by omega)
    rw [e] at t2
    have : (1 - 1 : Int).toNat = 0 := rfl
    rw [this] at t2
    omega
  · omega
theorem RJ.frm (h : RJ V x fr S0 s z) (ht : 11 ≤ topf V x ∧ topf V x ≤ 12) {m : Int} {q : Nat} (hq : vq V x 40 = q) (hm : m = vi V q (vi V x 37 - 1).toNat % 1048576) : (fr : Int) ≤ m ∧ m < vi V x 36 ∧ m = wt V x (vi V x 37 - 1).toNat % 1048576 := by
  obtain ⟨t1, t2⟩ := topf_is (V := V) (x := x) (by omega)
  obtain ⟨⟨a1, a2, a3, a4⟩, hR, hf⟩ := h
  have hm' : m = wt V x (vi V x 37 - 1).toNat % 1048576 := by unfold wt; rw [hq]; exact hm
  have g := hR.2.2.2.1 (vi V x 37 - 1).toNat (by omega) (by rw [← t2]; exact ht.1) (by rw [← t2]; exact ht.2)
  unfold UU at g
  rw [← hm'] at g
  exact ⟨g.1, by omega, hm'⟩
def SB (V : Vmap) (x fr : Nat) (S0 : Nat → Int) : Prop := (vi V x 36).toNat = fr ∧ ∀ j, j < fr → sd V x j = S0 j
theorem RJ.beg (h : SB V x fr S0) (hS : sd V1 x = sd V x) (hc : vi V1 x 36 = vi V x 36) (hw : vi V1 x 37 = 0) (hp : vi V1 x 36 ≤ vi V1 x 31) (h0 : 0 ≤ vi V1 x 36) (hp2 : vi V1 x 31 ≤ 200) : RJ V1 x fr S0 0 0 ∧ NS V1 x := by
  obtain ⟨h1, h2⟩ := h
  subst h1
  refine ⟨⟨⟨Int.le_refl _, by omega, h0, by omega⟩, ⟨⟨by omega, by omega, by omega⟩, ?_, ?_, ?_, ?_, ?_⟩, fun j hj => by rw [hS]; exact h2 j hj⟩, ?_⟩
  · rw [hw]; show ((vi V1 x 36).toNat : Int) + 0 ≤ _; omega
  · rw [hw, hS, hc]; show _ = (0 : Int) + 0; omega
  · rw [hw]; intro j hj; exact absurd hj (Nat.not_lt_zero _)
  · intro k h3 h4; omega
  · rw [hw]; intro h; exact absurd h (Nat.lt_irrefl _)
  · unfold NS; rw [hw]; intro j hj; exact absurd hj (Nat.not_lt_zero _)
def RF (V : Vmap) (x fr : Nat) (S0 : Nat → Int) : Prop := RJ V x fr S0 0 1 ∧ vi V x 37 = 0
end GF
theorem NS.top {V : Vmap} {x : Nat} (h : NS V x) (h0 : 1 ≤ vi V x 37) : topf V x < 2 ∨ 6 < topf V x := by
  have ew : (vi V x 37 - 1).toNat < (vi V x 37).toNat := by omega
  have g := h _ ew
  unfold topf
  rw [if_neg (by omega)]
  unfold pS at g
  have := of_decide_eq_false g
  omega
theorem upd_ix {f : Nat → Int} {i j : Nat} {v : Int} (h : i = j) : updf f i v = updf f j v := by rw [h]
