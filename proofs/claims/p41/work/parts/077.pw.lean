/-! ### works, told alike: work, tell, study, say, drill -/
section PW
variable {K K1 K2 Kp : Kmap} {V V0 V1 V2 V3 Vp : Vmap} {x m o q b : Nat} {i j n s d t w h X Y Z k c a p : Int}
def wkO (V : Vmap) (x k : Nat) : Nat := vq V (vq V x 7) k
def wkr (V : Vmap) (o : Nat) : Int × Int × Int × Int × Int := (vi V o 0, vi V o 2, vi V o 9, vi V o 10, vi V o 11)
def wkv (V : Vmap) (x k : Nat) : Int × Int × Int × Int × Int := wkr V (wkO V x k)
def mwr (V : Vmap) (m k : Nat) : Int × Int × Int × Int × Int := (ar 67 V m k, ar 69 V m k, ar 76 V m k, ar 77 V m k, ar 78 V m k)
def wset (f : Nat) (d : Int) (r : Int × Int × Int × Int × Int) : Int × Int × Int × Int × Int := (if f = 0 then d else r.1, if f = 2 then d else r.2.1, if f = 9 then d else r.2.2.1, if f = 10 then d else r.2.2.2.1, if f = 11 then d else r.2.2.2.2)
theorem w5 {a1 a2 a3 a4 a5 b1 b2 b3 b4 b5 : Int} (h1 : a1 = b1) (h2 : a2 = b2) (h3 : a3 = b3) (h4 : a4 = b4) (h5 : a5 = b5) : (a1, a2, a3, a4, a5) = (b1, b2, b3, b4, b5) := by
  subst h1 h2 h3 h4 h5
  rfl
theorem wk_at (hW : WT K V) (hx : K x = some (0, 10)) (hN : NN 8 7 V x) {k : Nat} (hk : (k : Int) < vi V x 8) : K (vq V x 7) = some (6 + 1, 100) ∧ V (vq V x 7) k = .ref (wkO V x k) ∧ K (wkO V x k) = some (0, 9) := by
  have hc := hW.int hx (j := 8) (Nat.le_of_ble_eq_true rfl) rfl
  obtain ⟨N, hn⟩ := (hW.ref hx (j := 7) (Nat.le_of_ble_eq_true rfl) rfl).2
  have hN1 : N = 100 := by
    rcases (hW.len hn).2.2 with h | h
    · exact absurd h (by decide)
    · exact h
  subst hN1
  rcases hW.nul (kd := (6 + 1, 100)) hn (j := k) (show k < 100 by omega) rfl with h | h
  · exact absurd h (hN k hk)
  · exact ⟨hn, h.1, h.2⟩
def WKI (V : Vmap) (x : Nat) : Prop := NN 8 7 V x ∧ ∀ i j : Nat, i < j → (j : Int) < vi V x 8 → wkO V x i ≠ wkO V x j
theorem WKI.ne (h : WKI V x) {i j : Nat} (hi : (i : Int) < vi V x 8) (hj : (j : Int) < vi V x 8) (hij : i ≠ j) : wkO V x i ≠ wkO V x j := by
  rcases Nat.lt_or_gt_of_ne hij with l | l
  · exact h.2 i j l hj
  · exact Ne.symm (h.2 j i l hi)
def WKS (V V1 : Vmap) (x : Nat) : Prop := vi V1 x 8 = vi V x 8 ∧ ∀ k : Nat, (k : Int) < vi V x 8 → V1 (vq V1 x 7) k = V (vq V x 7) k ∧ wkv V1 x k = wkv V x k
theorem WKS.rf : WKS V V x := ⟨rfl, fun _ _ => ⟨rfl, rfl⟩⟩
theorem WKS.tr (f : WKS V V1 x) (g : WKS V1 V2 x) : WKS V V2 x := ⟨g.1.trans f.1, fun k hk => by
  have h1 := f.2 k hk
  have h2 := g.2 k (by rw [f.1]; exact hk)
  exact ⟨h2.1.trans h1.1, h2.2.trans h1.2⟩⟩
theorem WKS.wko (f : WKS V V1 x) {k : Nat} (hk : (k : Int) < vi V x 8) : wkO V1 x k = wkO V x k := vq_eq2 (f.2 k hk).1
theorem WKI.same (h : WKI V x) (f : WKS V V1 x) : WKI V1 x := ⟨fun j hj => by
  rw [f.1] at hj
  rw [(f.2 j hj).1]
  exact h.1 j hj, fun i j hij hj => by
  rw [f.1] at hj
  rw [f.wko (by omega), f.wko hj]
  exact h.2 i j hij hj⟩
def wkbits (ws : Nat) : Bool := [keyK (0, 10) 7, keyK (0, 10) 8, abase + 7, keyK (0, 9) 0, keyK (0, 9) 2, keyK (0, 9) 9, keyK (0, 9) 10, keyK (0, 9) 11].all fun b => !ws.testBit b
theorem WKS.fr {ws : Nat} (hF : FR ws K V K1 V1) (hE : ext K K1) (hW : WT K V) (hx : K x = some (0, 10)) (hN : NN 8 7 V x) (hb : wkbits ws = true) : WKS V V1 x := by
  simp only [wkbits, List.all_cons, List.all_nil, Bool.and_true, Bool.and_eq_true, Bool.not_eq_true'] at hb
  obtain ⟨c7, c8, ca, d0, d2, d9, d10, d11⟩ := hb
  have hx1 := hE.obj (Or.inl (by decide)) hx
  refine ⟨vi_fr hF hx hx1 c8, fun k hk => ?_⟩
  obtain ⟨h1, h2, h3⟩ := wk_at hW hx hN hk
  have h4 := hE.obj (Or.inl (by decide)) h3
  have e7 : vq V1 x 7 = vq V x 7 := vq_eq (hF x _ 7 hx hx1 c7)
  have e : V1 (vq V1 x 7) k = V (vq V x 7) k := by rw [e7]; exact hF _ _ k h1 (hE.arr h1) ca
  have e2 : wkO V1 x k = wkO V x k := vq_eq2 e
  refine ⟨e, ?_⟩
  unfold wkv
  rw [e2]
  exact w5 (vi_fr hF h3 h4 d0) (vi_fr hF h3 h4 d2) (vi_fr hF h3 h4 d9) (vi_fr hF h3 h4 d10) (vi_fr hF h3 h4 d11)
/-- all works stay -/
def WKL (V V1 : Vmap) (x : Nat) : Prop := WKI V x → WKI V1 x ∧ WKS V V1 x
theorem WKL.rf : WKL V V x := fun h => ⟨h, WKS.rf⟩
theorem WKL.tr (f : WKL V V1 x) (g : WKL V1 V2 x) : WKL V V2 x := fun h => by
  obtain ⟨a1, a2⟩ := f h
  obtain ⟨b1, b2⟩ := g a1
  exact ⟨b1, a2.tr b2⟩
theorem WKL.fr {ws : Nat} (hF : FR ws K V K1 V1) (hE : ext K K1) (hW : WT K V) (hx : K x = some (0, 10)) (hb : wkbits ws = true) : WKL V V1 x := fun h => by
  have f := WKS.fr hF hE hW hx h.1 hb
  exact ⟨h.same f, f⟩
/-! the reference's -/
def MWS (V V1 : Vmap) (m : Nat) : Prop := vi V1 m 66 = vi V m 66 ∧ ∀ k : Nat, mwr V1 m k = mwr V m k
theorem MWS.rf : MWS V V m := ⟨rfl, fun _ => rfl⟩
def mwbits (ws : Nat) : Bool := [keyK (0, 11) 66, keyK (0, 11) 67, keyK (0, 11) 69, keyK (0, 11) 76, keyK (0, 11) 77, keyK (0, 11) 78, abase + 58, abase + 60, abase + 67, abase + 68, abase + 69].all fun b => !ws.testBit b
theorem MWS.fr {ws : Nat} (hF : FR ws K V K1 V1) (hE : ext K K1) (hW : WT K V) (hm : K m = some (0, 11)) (hb : mwbits ws = true) : MWS V V1 m := by
  simp only [mwbits, List.all_cons, List.all_nil, Bool.and_true, Bool.and_eq_true, Bool.not_eq_true'] at hb
  obtain ⟨c66, c67, c69, c76, c77, c78, a67, a69, a76, a77, a78⟩ := hb
  refine ⟨vi_fr hF hm (hE.obj (Or.inl (by decide)) hm) c66, fun k => ?_⟩
  exact w5 (congrFun (arq hF hE hm (hW.ref hm (j := 67) (Nat.le_of_ble_eq_true rfl) rfl).2 c67 a67) k) (congrFun (arq hF hE hm (hW.ref hm (j := 69) (Nat.le_of_ble_eq_true rfl) rfl).2 c69 a69) k) (congrFun (arq hF hE hm (hW.ref hm (j := 76) (Nat.le_of_ble_eq_true rfl) rfl).2 c76 a76) k) (congrFun (arq hF hE hm (hW.ref hm (j := 77) (Nat.le_of_ble_eq_true rfl) rfl).2 c77 a77) k) (congrFun (arq hF hE hm (hW.ref hm (j := 78) (Nat.le_of_ble_eq_true rfl) rfl).2 c78 a78) k)
/-! both sides -/
def WKE (V : Vmap) (x m : Nat) : Prop := WKI V x ∧ vi V x 8 = vi V m 66 ∧ ∀ k : Nat, (k : Int) < vi V x 8 → wkv V x k = mwr V m k
theorem WKE.nil (h8 : vi V x 8 = 0) (h66 : vi V m 66 = 0) : WKE V x m := ⟨⟨fun j hj => by omega, fun i j _ hj => by omega⟩, by omega, fun k hk => by omega⟩
theorem WKE.same (h : WKE V x m) (f : WKL V V1 x) (g : MWS V V1 m) : WKE V1 x m := by
  obtain ⟨hI, h1, h2⟩ := h
  obtain ⟨f1, f2⟩ := f hI
  refine ⟨f1, by rw [f2.1, g.1]; exact h1, fun k hk => ?_⟩
  rw [f2.1] at hk
  rw [(f2.2 k hk).2, g.2 k]
  exact h2 k hk
theorem WKE.frx {ws : Nat} (h : WKE V x m) (hF : FR ws K V K1 V1) (hE : ext K K1) (hW : WT K V) (hx : K x = some (0, 10)) (hm : K m = some (0, 11)) (b1 : wkbits ws = true) (b2 : mwbits ws = true) : WKE V1 x m := h.same (WKL.fr hF hE hW hx b1) (MWS.fr hF hE hW hm b2)
/-! one work's number is written -/
def WKP (V V1 : Vmap) (x : Nat) (w : Int) (r : Int × Int × Int × Int × Int) : Prop := vi V1 x 8 = vi V x 8 ∧ ∀ k : Nat, (k : Int) < vi V x 8 → V1 (vq V1 x 7) k = V (vq V x 7) k ∧ wkv V1 x k = if k = w.toNat then r else wkv V x k
def MWP (V V1 : Vmap) (m : Nat) (w : Int) (r : Int × Int × Int × Int × Int) : Prop := vi V1 m 66 = vi V m 66 ∧ ∀ k : Nat, mwr V1 m k = if k = w.toNat then r else mwr V m k
theorem WKP.put {f : Nat} (hI : WKI V x) (hW : WT K V) (hx : K x = some (0, 10)) (hq : o = wkO V x w.toNat) (h0 : 0 ≤ w) (h1 : w < vi V x 8) (e : V1 = upd2 V o f (ti d)) (hd : ir d) : WKP V V1 x w (wset f d (wkv V x w.toNat)) := by
  have hk : ((w.toNat : Nat) : Int) < vi V x 8 := by omega
  obtain ⟨a1, -, a3⟩ := wk_at hW hx hI.1 hk
  rw [← hq] at a3
  have nx : x ≠ o := K_ne hx a3 (by decide)
  have na : vq V x 7 ≠ o := K_ne a1 a3 (by decide)
  have s7 : vq V1 x 7 = vq V x 7 := vq_up e (Or.inl nx)
  have se : ∀ k, V1 (vq V1 x 7) k = V (vq V x 7) k := fun k => by rw [s7]; exact uq_ne e (Or.inl na)
  refine ⟨vi_up e (Or.inl nx), fun k hk' => ⟨se k, ?_⟩⟩
  have so : wkO V1 x k = wkO V x k := vq_eq2 (se k)
  unfold wkv
  rw [so]
  by_cases c : k = w.toNat
  · rw [if_pos c, c, ← hq]
    have key : ∀ g : Nat, vi V1 o g = if f = g then d else vi V o g := fun g => by
      by_cases c : f = g
      · rw [if_pos c, ← c]
        exact upd2_int e hd
      · rw [if_neg c]
        exact vi_up e (Or.inr (Ne.symm c))
    exact w5 (key 0) (key 2) (key 9) (key 10) (key 11)
  · rw [if_neg c]
    have nj : wkO V x k ≠ o := by
      rw [hq]
      exact hI.ne hk' hk c
    exact w5 (vi_up e (Or.inl nj)) (vi_up e (Or.inl nj)) (vi_up e (Or.inl nj)) (vi_up e (Or.inl nj)) (vi_up e (Or.inl nj))
theorem WKP.wki {r : Int × Int × Int × Int × Int} (h : WKP V V1 x w r) (hI : WKI V x) : WKI V1 x := ⟨fun j hj => by
  rw [h.1] at hj
  rw [(h.2 j hj).1]
  exact hI.1 j hj, fun i j hij hj => by
  rw [h.1] at hj
  have e1 : wkO V1 x i = wkO V x i := vq_eq2 (h.2 i (by omega)).1
  have e2 : wkO V1 x j = wkO V x j := vq_eq2 (h.2 j hj).1
  rw [e1, e2]
  exact hI.2 i j hij hj⟩
theorem WKP.then {r : Int × Int × Int × Int × Int} (h : WKP V V1 x w r) (g : WKS V1 V2 x) : WKP V V2 x w r := ⟨g.1.trans h.1, fun k hk => by
  have g1 := g.2 k (by rw [h.1]; exact hk)
  have h1 := h.2 k hk
  exact ⟨g1.1.trans h1.1, g1.2.trans h1.2⟩⟩
theorem MWP.m76 {c : Nat} (h66 : vi V1 m 66 = vi V m 66) (e67 : ar 67 V1 m = ar 67 V m) (e69 : ar 69 V1 m = ar 69 V m) (e76 : ar 76 V1 m = updf (ar 76 V m) c d) (e77 : ar 77 V1 m = ar 77 V m) (e78 : ar 78 V1 m = ar 78 V m) (hc : c = w.toNat) : MWP V V1 m w (wset 9 d (mwr V m w.toNat)) := ⟨h66, fun k => by
  subst hc
  unfold mwr
  rw [e67, e69, e76, e77, e78]
  by_cases q : k = w.toNat
  · rw [if_pos q, q, updf_at]
    rfl
  · rw [if_neg q, updf_of q]⟩
theorem MWP.m77 {c : Nat} (h66 : vi V1 m 66 = vi V m 66) (e67 : ar 67 V1 m = ar 67 V m) (e69 : ar 69 V1 m = ar 69 V m) (e76 : ar 76 V1 m = ar 76 V m) (e77 : ar 77 V1 m = updf (ar 77 V m) c d) (e78 : ar 78 V1 m = ar 78 V m) (hc : c = w.toNat) : MWP V V1 m w (wset 10 d (mwr V m w.toNat)) := ⟨h66, fun k => by
  subst hc
  unfold mwr
  rw [e67, e69, e76, e77, e78]
  by_cases q : k = w.toNat
  · rw [if_pos q, q, updf_at]
    rfl
  · rw [if_neg q, updf_of q]⟩
theorem MWP.m78 {c : Nat} (h66 : vi V1 m 66 = vi V m 66) (e67 : ar 67 V1 m = ar 67 V m) (e69 : ar 69 V1 m = ar 69 V m) (e76 : ar 76 V1 m = ar 76 V m) (e77 : ar 77 V1 m = ar 77 V m) (e78 : ar 78 V1 m = updf (ar 78 V m) c d) (hc : c = w.toNat) : MWP V V1 m w (wset 11 d (mwr V m w.toNat)) := ⟨h66, fun k => by
  subst hc
  unfold mwr
  rw [e67, e69, e76, e77, e78]
  by_cases q : k = w.toNat
  · rw [if_pos q, q, updf_at]
    rfl
  · rw [if_neg q, updf_of q]⟩
/-! tell(), study(): what both sides do -/
def WKC (D : Int × Int × Int × Int × Int → Prop) (R : Int × Int × Int × Int × Int → Int × Int × Int × Int × Int) (V V1 : Vmap) (x : Nat) (w X : Int) : Prop := WKI V x → (X = 0 ∧ ¬ (0 ≤ w ∧ w < vi V x 8 ∧ D (wkv V x w.toNat)) ∧ V1 = V) ∨ (X ≠ 0 ∧ (0 ≤ w ∧ w < vi V x 8 ∧ D (wkv V x w.toNat)) ∧ WKP V V1 x w (R (wkv V x w.toNat)))
def MWC (D : Int × Int × Int × Int × Int → Prop) (R : Int × Int × Int × Int × Int → Int × Int × Int × Int × Int) (V V1 : Vmap) (m : Nat) (w X : Int) : Prop := (X = 0 ∧ ¬ (0 ≤ w ∧ w < vi V m 66 ∧ D (mwr V m w.toNat)) ∧ V1 = V) ∨ (X ≠ 0 ∧ (0 ≤ w ∧ w < vi V m 66 ∧ D (mwr V m w.toNat)) ∧ MWP V V1 m w (R (mwr V m w.toNat)))
def TLq (t : Int) (r : Int × Int × Int × Int × Int) : Prop := (t = 0 ∧ r.2.2.1 = -1) ∨ (t = 1 ∧ r.2.2.2.1 = -1)
def TLr (t d : Int) (r : Int × Int × Int × Int × Int) : Int × Int × Int × Int × Int := if t = 0 then wset 9 d r else wset 10 d r
def SYq (h : Int) (r : Int × Int × Int × Int × Int) : Prop := 0 ≤ h ∧ h ≤ 1000 ∧ r.2.2.2.2 = -1
section
variable {D : Int × Int × Int × Int × Int → Prop} {R R' : Int × Int × Int × Int × Int → Int × Int × Int × Int × Int}
theorem WKC.nw (h : NN 8 7 V x → w < 0 ∨ vi V x 8 ≤ w) (hX : X = 0) : WKC D R V V x w X := fun hI => Or.inl ⟨hX, fun g => by
  have := h hI.1
  have := g.1
  have := g.2.1
  omega, rfl⟩
theorem WKC.nd (hq : o = wkO V x w.toNat) (h : ¬ D (wkr V o)) (hX : X = 0) : WKC D R V V x w X := fun _ => Or.inl ⟨hX, fun g => by
  subst hq
  exact h g.2.2, rfl⟩
theorem WKC.ok {f : Nat} (hW : WT K V) (hx : K x = some (0, 10)) (hq : o = wkO V x w.toNat) (h0 : 0 ≤ w) (h1 : w < vi V x 8) (hD : D (wkr V o)) (e : V1 = upd2 V o f (ti d)) (hd : ir d) (hR : R (wkr V o) = wset f d (wkr V o)) (hX : X ≠ 0) : WKC D R V V1 x w X := fun hI => Or.inr ⟨hX, ⟨h0, h1, by subst hq; exact hD⟩, by
  have g := WKP.put hI hW hx hq h0 h1 e hd
  have e1 : wkv V x w.toNat = wkr V o := by rw [hq]; rfl
  rw [e1] at g ⊢
  rw [hR]
  exact g⟩
theorem WKC.fr {ws : Nat} (h : WKC D R V V1 x w X) (hX : X ≠ 0) (hF : FR ws K V1 K1 V2) (hE : ext K K1) (hW : WT K V1) (hx : K x = some (0, 10)) (hb : wkbits ws = true) : WKC D R V V2 x w X := fun hI => by
  rcases h hI with ⟨a1, -⟩ | ⟨a1, a2, a3⟩
  · exact absurd a1 hX
  · exact Or.inr ⟨a1, a2, a3.then (WKS.fr hF hE hW hx (a3.wki hI).1 hb)⟩
theorem MWC.nw (h : w < 0 ∨ vi V m 66 ≤ w) (hX : X = 0) : MWC D R V V m w X := Or.inl ⟨hX, fun g => by
  have := g.1
  have := g.2.1
  omega, rfl⟩
theorem MWC.nd (h : ¬ D (mwr V m w.toNat)) (hX : X = 0) : MWC D R V V m w X := Or.inl ⟨hX, fun g => h g.2.2, rfl⟩
theorem MWC.ok {f : Nat} (h0 : 0 ≤ w) (h1 : w < vi V m 66) (hD : D (mwr V m w.toNat)) (g : MWP V V1 m w (wset f d (mwr V m w.toNat))) (hR : R (mwr V m w.toNat) = wset f d (mwr V m w.toNat)) (hX : X ≠ 0) : MWC D R V V1 m w X := Or.inr ⟨hX, ⟨h0, h1, hD⟩, by
  rw [hR]
  exact g⟩
theorem WKE.set {w1 w2 : Nat} (h : WKE V x m) (hx : K x = some (0, 10)) (hm : K m = some (0, 11)) (hW : WT K V) (hW1 : WT K1 V1) (hE1 : ext K K1) (hF1 : FR w1 K V K1 V1) (hE2 : ext K1 K2) (hF2 : FR w2 K1 V1 K2 V2) (hR : R = R') (f : WKC D R V V1 x w X) (f1 : MWC D R' V1 V2 m w Y) (b1 : mwbits w1 = true) (b2 : wkbits w2 = true) : (X ≠ 0 ↔ Y ≠ 0) ∧ WKE V2 x m := by
  subst hR
  have h' := h
  obtain ⟨hI, r1, r2⟩ := h
  have gm : MWS V V1 m := MWS.fr hF1 hE1 hW hm b1
  have gs : WKL V1 V2 x := WKL.fr hF2 hE2 hW1 (hE1.obj (Or.inl (by decide)) hx) b2
  have e1 := gm.1
  have ec : (0 ≤ w ∧ w < vi V x 8 ∧ D (wkv V x w.toNat)) ↔ (0 ≤ w ∧ w < vi V1 m 66 ∧ D (mwr V1 m w.toNat)) := by
    constructor
    · rintro ⟨c0, c1, c2⟩
      rw [r2 w.toNat (by omega)] at c2
      exact ⟨c0, by omega, by rw [gm.2]; exact c2⟩
    · rintro ⟨c0, c1, c2⟩
      rw [gm.2, ← r2 w.toNat (by omega)] at c2
      exact ⟨c0, by omega, c2⟩
  rcases f hI with ⟨a1, a2, a3⟩ | ⟨a1, a2, a3⟩
  · rcases f1 with ⟨d1, d2, d3⟩ | ⟨d1, d2, -⟩
    · subst a3 d3
      exact ⟨⟨fun c => absurd a1 c, fun c => absurd d1 c⟩, h'.same gs MWS.rf⟩
    · exact absurd (ec.mpr d2) a2
  · rcases f1 with ⟨d1, d2, -⟩ | ⟨d1, d2, d3⟩
    · exact absurd (ec.mp a2) d2
    · refine ⟨⟨fun _ => d1, fun _ => a1⟩, ?_⟩
      obtain ⟨g1, g2⟩ := gs (a3.wki hI)
      refine ⟨g1, by rw [g2.1, a3.1, d3.1, e1]; exact r1, fun k hk => ?_⟩
      rw [g2.1] at hk
      have hk1 : (k : Int) < vi V x 8 := by rw [← a3.1]; exact hk
      rw [(g2.2 k hk).2, (a3.2 k hk1).2, d3.2 k]
      by_cases c : k = w.toNat
      · have hkw : ((w.toNat : Nat) : Int) < vi V x 8 := by rw [← c]; exact hk1
        rw [if_pos c, if_pos c, r2 _ hkw, gm.2]
      · rw [if_neg c, if_neg c, gm.2]
        exact r2 k hk1
end
theorem TLC.nd {R : Int × Int × Int × Int × Int → Int × Int × Int × Int × Int} (hq : o = wkO V x w.toNat) (h : ¬ ((t = 0 ∧ vi V o 9 = -1) ∨ (t = 1 ∧ vi V o 10 = -1))) (hX : X = 0) : WKC (TLq t) R V V x w X := WKC.nd hq h hX
theorem TLC.o9 (hW : WT K V) (hx : K x = some (0, 10)) (hq : o = wkO V x w.toNat ∧ 0 ≤ w ∧ w < vi V x 8) (ht : t = 0) (hD : vi V o 9 = -1) (e : V1 = upd2 V o 9 (ti (tdy V x))) (hX : X ≠ 0) : WKC (TLq t) (TLr t (tdy V x)) V V1 x w X := WKC.ok (f := 9) hW hx hq.1 hq.2.1 hq.2.2 (Or.inl ⟨ht, hD⟩) e vi_ir (if_pos ht) hX
theorem TLC.o10 (hW : WT K V) (hx : K x = some (0, 10)) (hq : o = wkO V x w.toNat ∧ 0 ≤ w ∧ w < vi V x 8) (ht : t = 1) (hD : vi V o 10 = -1) (e : V1 = upd2 V o 10 (ti (tdy V x))) (hX : X ≠ 0) : WKC (TLq t) (TLr t (tdy V x)) V V1 x w X := WKC.ok (f := 10) hW hx hq.1 hq.2.1 hq.2.2 (Or.inr ⟨ht, hD⟩) e vi_ir (if_neg (by omega)) hX
theorem SYC.nd {R : Int × Int × Int × Int × Int → Int × Int × Int × Int × Int} (hq : o = wkO V x w.toNat) (h : ¬ (0 ≤ t ∧ t ≤ 1000 ∧ vi V o 11 = -1)) (hX : X = 0) : WKC (SYq t) R V V x w X := WKC.nd hq h hX
theorem SYC.ok (hW : WT K V) (hx : K x = some (0, 10)) (hq : o = wkO V x w.toNat ∧ 0 ≤ w ∧ w < vi V x 8) (h0 : 0 ≤ t) (h1 : t ≤ 1000) (hD : vi V o 11 = -1) (e : V1 = upd2 V o 11 (ti (tdy V x))) (hX : X ≠ 0) : WKC (SYq t) (wset 11 (tdy V x)) V V1 x w X := WKC.ok (f := 11) hW hx hq.1 hq.2.1 hq.2.2 ⟨h0, h1, hD⟩ e vi_ir rfl hX
theorem MTL.nd {R : Int × Int × Int × Int × Int → Int × Int × Int × Int × Int} (h : ¬ ((t = 0 ∧ vi V (vq V m 76) w.toNat = -1) ∨ (t = 1 ∧ vi V (vq V m 77) w.toNat = -1))) (hX : X = 0) : MWC (TLq t) R V V m w X := MWC.nd h hX
theorem MTL.o76 (h0 : 0 ≤ w) (h1 : w < vi V m 66) (ht : t = 0) (hD : vi V (vq V m 76) w.toNat = -1) (g : MWP V V1 m w (wset 9 (vi V m 2) (mwr V m w.toNat))) (hX : X ≠ 0) : MWC (TLq t) (TLr t (vi V m 2)) V V1 m w X := MWC.ok (f := 9) h0 h1 (Or.inl ⟨ht, hD⟩) g (if_pos ht) hX
theorem MTL.o77 (h0 : 0 ≤ w) (h1 : w < vi V m 66) (ht : t = 1) (hD : vi V (vq V m 77) w.toNat = -1) (g : MWP V V1 m w (wset 10 (vi V m 2) (mwr V m w.toNat))) (hX : X ≠ 0) : MWC (TLq t) (TLr t (vi V m 2)) V V1 m w X := MWC.ok (f := 10) h0 h1 (Or.inr ⟨ht, hD⟩) g (if_neg (by omega)) hX
theorem MSY.nd {R : Int × Int × Int × Int × Int → Int × Int × Int × Int × Int} (h : ¬ (0 ≤ t ∧ t ≤ 1000 ∧ vi V (vq V m 78) w.toNat = -1)) (hX : X = 0) : MWC (SYq t) R V V m w X := MWC.nd h hX
theorem MSY.ok (h0 : 0 ≤ w) (h1 : w < vi V m 66) (t0 : 0 ≤ t) (t1 : t ≤ 1000) (hD : vi V (vq V m 78) w.toNat = -1) (g : MWP V V1 m w (wset 11 (vi V m 2) (mwr V m w.toNat))) (hX : X ≠ 0) : MWC (SYq t) (wset 11 (vi V m 2)) V V1 m w X := MWC.ok (f := 11) h0 h1 ⟨t0, t1, hD⟩ g rfl hX
/-! a new work -/
def NEWW (K : Kmap) (V V1 : Vmap) (x : Nat) (X : Int) (r : Int × Int × Int × Int × Int) : Prop := WKI V x → X = vi V x 8 ∧ vi V1 x 8 = vi V x 8 + 1 ∧ (∀ k : Nat, (k : Int) < vi V x 8 → V1 (vq V1 x 7) k = V (vq V x 7) k ∧ wkv V1 x k = wkv V x k) ∧ V1 (vq V1 x 7) (vi V x 8).toNat ≠ .null ∧ K (wkO V1 x (vi V x 8).toNat) = none ∧ wkv V1 x (vi V x 8).toNat = r
theorem wkr_put {r : Int × Int × Int × Int × Int} {f : Nat} {v : Value} (h : wkr V q = r) (e : V1 = upd2 V q f v) (hf : f = 5 ∨ f = 6) : wkr V1 q = r := by
  rw [← h]
  exact w5 (vi_up e (Or.inr (by omega))) (vi_up e (Or.inr (by omega))) (vi_up e (Or.inr (by omega))) (vi_up e (Or.inr (by omega))) (vi_up e (Or.inr (by omega)))
theorem wkr_new {p0 p2 : Int} (f0 : V x 0 = ti p0) (f2 : V x 2 = ti p2) (f9 : V x 9 = ti (-1)) (f10 : V x 10 = ti (-1)) (f11 : V x 11 = ti (-1)) (r0 : ir p0) (r2 : ir p2) : wkr V x = (p0, p2, -1, -1, -1) := w5 (vi_at f0 r0) (vi_at f2 r2) (vi_at f9 (ir_c rfl)) (vi_at f10 (ir_c rfl)) (vi_at f11 (ir_c rfl))
theorem NEWW.mk {r : Int × Int × Int × Int × Int} {c : Nat} (g : WKL V Vp x) (hq : K q = none) (hW : WT K V) (hx : K x = some (0, 10)) (hqp : Kp q = some (0, 9)) (hWp : WT Kp Vp) (hxp : Kp x = some (0, 10)) (hn : wkr Vp q = r) (e1 : V1 = upd2 Vp (vq Vp x 7) c (.ref q)) (e2 : V2 = upd2 V1 x 8 (ti Y)) (hc : c = (vi V x 8).toNat) (hY : Y = vi V x 8 + 1) (hX : X = vi V x 8) : NEWW K V V2 x X r := fun hI => by
  subst hc hY
  obtain ⟨g1, g2⟩ := g hI
  have h8 := (hW.int hx (j := 8) (Nat.le_of_ble_eq_true rfl) rfl).2
  have h8' : 0 ≤ vi V x 8 ∧ vi V x 8 ≤ 100 := by
    have := (hW.int hx (j := 8) (Nat.le_of_ble_eq_true rfl) rfl).2
    exact ⟨by omega, by omega⟩
  have hA : Kp (vq Vp x 7) = some (6 + 1, 100) := by
    obtain ⟨N, hN⟩ := (hWp.ref hxp (j := 7) (Nat.le_of_ble_eq_true rfl) rfl).2
    rcases (hWp.len hN).2.2 with h | h
    · exact absurd h (by decide)
    · rw [hN, h]
      rfl
  have nxa : x ≠ vq Vp x 7 := K_ne hxp hA (by decide)
  have nqx : q ≠ x := K_ne hqp hxp (by decide)
  have nqa : q ≠ vq Vp x 7 := K_ne hqp hA (by decide)
  have h5 : vq V2 x 7 = vq Vp x 7 := (vq_up e2 (Or.inr (by decide))).trans (vq_up e1 (Or.inl nxa))
  have hn8 : vi V2 x 8 = vi V x 8 + 1 := upd2_int e2 ⟨by omega, by omega⟩
  have hrow : ∀ j, j ≠ (vi V x 8).toNat → V2 (vq V2 x 7) j = Vp (vq Vp x 7) j := fun j hj => by
    rw [h5, uq_ne e2 (Or.inl (Ne.symm nxa)), uq_ne e1 (Or.inr hj)]
  have hnew : V2 (vq V2 x 7) (vi V x 8).toNat = .ref q := by
    rw [h5, uq_ne e2 (Or.inl (Ne.symm nxa)), uq_same e1]
  have hob : ∀ b, b ≠ x → b ≠ vq Vp x 7 → ∀ f, vi V2 b f = vi Vp b f := fun b n1 n2 f => (vi_up e2 (Or.inl n1)).trans (vi_up e1 (Or.inl n2))
  have hqn : wkO V2 x (vi V x 8).toNat = q := vq_of hnew
  refine ⟨hX, hn8, fun k hk => ?_, ?_, by rw [hqn]; exact hq, ?_⟩
  · have er := hrow k (by omega)
    have eo : wkO V2 x k = wkO Vp x k := vq_eq2 er
    have hkp : Kp (wkO Vp x k) = some (0, 9) := (wk_at hWp hxp g1.1 (k := k) (by rw [g2.1]; exact hk)).2.2
    have n1 : wkO Vp x k ≠ x := K_ne hkp hxp (by decide)
    have n2 : wkO Vp x k ≠ vq Vp x 7 := K_ne hkp hA (by decide)
    refine ⟨er.trans (g2.2 k hk).1, Eq.trans ?_ (g2.2 k hk).2⟩
    unfold wkv
    rw [eo]
    exact w5 (hob _ n1 n2 _) (hob _ n1 n2 _) (hob _ n1 n2 _) (hob _ n1 n2 _) (hob _ n1 n2 _)
  · rw [hnew]
    exact fun e => by cases e
  · rw [← hn]
    unfold wkv
    rw [hqn]
    exact w5 (hob _ nqx nqa _) (hob _ nqx nqa _) (hob _ nqx nqa _) (hob _ nqx nqa _) (hob _ nqx nqa _)
def NWK (K : Kmap) (V V1 : Vmap) (x : Nat) (a c X : Int) : Prop := (X = -1 ∧ V1 = V) ∨ (X ≠ -1 ∧ NEWW K V V1 x X (a, c, -1, -1, -1))
theorem NWK.no (hX : X = -1) : NWK K V V x a c X := Or.inl ⟨hX, rfl⟩
theorem NWK.ok (hX : X ≠ -1) (g : NEWW K V V1 x X (a, c, -1, -1, -1)) : NWK K V V1 x a c X := Or.inr ⟨hX, g⟩
def MNW (V V1 : Vmap) (m : Nat) (a c X : Int) : Prop := (X = -1 ∧ V1 = V) ∨ (X = vi V m 66 ∧ 0 ≤ vi V m 66 ∧ vi V1 m 66 = vi V m 66 + 1 ∧ ∀ k : Nat, mwr V1 m k = if k = (vi V m 66).toNat then (a, c, -1, -1, -1) else mwr V m k)
theorem MNW.no (hX : X = -1) : MNW V V m a c X := Or.inl ⟨hX, rfl⟩
theorem MNW.ok {c67 c69 c76 c77 c78 : Nat} (h0 : 0 ≤ vi V m 66) (hX : X = vi V m 66) (h66 : vi V1 m 66 = vi V m 66 + 1) (e67 : ar 67 V1 m = updf (ar 67 V m) c67 a) (e69 : ar 69 V1 m = updf (ar 69 V m) c69 c) (e76 : ar 76 V1 m = updf (ar 76 V m) c76 (-1)) (e77 : ar 77 V1 m = updf (ar 77 V m) c77 (-1)) (e78 : ar 78 V1 m = updf (ar 78 V m) c78 (-1)) (h67 : c67 = (vi V m 66).toNat) (h69 : c69 = (vi V m 66).toNat) (h76 : c76 = (vi V m 66).toNat) (h77 : c77 = (vi V m 66).toNat) (h78 : c78 = (vi V m 66).toNat) : MNW V V1 m a c X := Or.inr ⟨hX, h0, h66, fun k => by
  subst h67 h69 h76 h77 h78
  unfold mwr
  rw [e67, e69, e76, e77, e78]
  by_cases q : k = (vi V m 66).toNat
  · rw [if_pos q, q, updf_at, updf_at, updf_at, updf_at, updf_at]
  · rw [if_neg q, updf_of q, updf_of q, updf_of q, updf_of q, updf_of q]⟩
theorem WKE.work {w1 w2 : Nat} (h : WKE V x m) (hx : K x = some (0, 10)) (hm : K m = some (0, 11)) (hW : WT K V) (hW1 : WT K1 V1) (hE1 : ext K K1) (hF1 : FR w1 K V K1 V1) (hE2 : ext K1 K2) (hF2 : FR w2 K1 V1 K2 V2) (hXY : X = Y) (hY0 : Y = -1 ∨ 0 ≤ Y) (f : NWK K V V1 x a c X) (f1 : MNW V1 V2 m a c Y) (b1 : mwbits w1 = true) (b2 : wkbits w2 = true) : WKE V2 x m := by
  have h' := h
  obtain ⟨hI, r1, r2⟩ := h
  have gm : MWS V V1 m := MWS.fr hF1 hE1 hW hm b1
  have gs : WKL V1 V2 x := WKL.fr hF2 hE2 hW1 (hE1.obj (Or.inl (by decide)) hx) b2
  have e1 := gm.1
  rcases f with ⟨a1, a2⟩ | ⟨a1, a2⟩
  · rcases f1 with ⟨d1, d2⟩ | ⟨d1, d2, -⟩
    · subst a2 d2
      exact h'.same gs MWS.rf
    · omega
  · rcases f1 with ⟨d1, -⟩ | ⟨d1, d2, d3, d4⟩
    · omega
    · obtain ⟨n1, n2, n3, n4, n5, n6⟩ := a2 hI
      have hwo : ∀ k : Nat, (k : Int) < vi V x 8 → wkO V1 x k = wkO V x k := fun k hk => vq_eq2 (n3 k hk).1
      have hI1 : WKI V1 x := by
        refine ⟨fun j hj => ?_, fun i j hij hj => ?_⟩
        · by_cases q : (j : Int) < vi V x 8
          · rw [(n3 j q).1]
            exact hI.1 j q
          · rw [show j = (vi V x 8).toNat by omega]
            exact n4
        · by_cases q : (j : Int) < vi V x 8
          · rw [hwo i (by omega), hwo j q]
            exact hI.2 i j hij q
          · rw [show j = (vi V x 8).toNat by omega, hwo i (by omega)]
            exact K_old (wk_at hW hx hI.1 (k := i) (by omega)).2.2 n5
      obtain ⟨g1, g2⟩ := gs hI1
      have en : (vi V1 m 66).toNat = (vi V x 8).toNat := by rw [e1, r1]
      refine ⟨g1, by rw [g2.1]; omega, fun k hk => ?_⟩
      rw [g2.1] at hk
      rw [(g2.2 k hk).2, d4 k, en]
      by_cases q : (k : Int) < vi V x 8
      · rw [if_neg (by omega), (n3 k q).2, gm.2]
        exact r2 k q
      · have ek : k = (vi V x 8).toNat := by omega
        rw [if_pos ek, ek]
        exact n6
/-! say() -/
theorem SAY.both {q1 q2 : Prop} (hX : X ≠ 0 ↔ q1) (hY : Y ≠ 0 ↔ q2) (h : q1 ↔ q2) : X ≠ 0 ↔ Y ≠ 0 := hX.trans (h.trans hY.symm)
/-! drill() -/
def dsz (V : Vmap) (x : Nat) : Int := vi V (vq V x 13) 3
theorem dsz_fr {ws : Nat} (hF : FR ws K V K1 V1) (hE : ext K K1) (hW : WT K V) (hx : K x = some (0, 10)) (hb : ws.testBit (keyK (0, 10) 13) = false) (hb2 : ws.testBit (keyK (0, 29) 3) = false) : dsz V1 x = dsz V x := by
  have hy : K (vq V x 13) = some (0, 29) := (hW.ref hx (j := 13) (Nat.le_of_ble_eq_true rfl) rfl).2
  have hq : vq V1 x 13 = vq V x 13 := by unfold vq; rw [hF x _ 13 hx (hE.obj (by decide) hx) hb]
  unfold dsz
  rw [hq]
  exact vi_fr hF hy (hE.obj (by decide) hy) hb2
theorem dsz_at (h : V x 13 = .ref o) (hc : V o 3 = V0 o 3) (h0 : vi V0 o 3 = 0) : dsz V x = 0 := by
  have hq : vq V x 13 = o := by unfold vq; rw [h]
  have hv : vi V o 3 = vi V0 o 3 := by unfold vi; rw [hc]
  unfold dsz
  rw [hq, hv, h0]
theorem dsz_nw (hW : WT K V) (hx : K x = some (0, 10)) (hq : K q = none) (hV : ∀ b, b ≠ q → V1 b = V b) : dsz V1 x = dsz V x := by
  have hy : K (vq V x 13) = some (0, 29) := (hW.ref hx (j := 13) (Nat.le_of_ble_eq_true rfl) rfl).2
  have h1 : vq V1 x 13 = vq V x 13 := by unfold vq; rw [hV x (K_old hx hq)]
  unfold dsz
  rw [h1]
  exact vi_nw hV (K_old hy hq)
/-- what a drill may be at -/
def DRD (V : Vmap) (x : Nat) (k w : Int) : Prop := PK V x k 4 ∧ 0 ≤ w ∧ w < vi V x 8 ∧ (wkv V x w.toNat).1 = 2 ∧ (wkv V x w.toNat).2.1 = (plv V x k.toNat).1
def MDD (V : Vmap) (m : Nat) (k w : Int) : Prop := MPK V m k 4 ∧ 0 ≤ w ∧ w < vi V m 66 ∧ (mwr V m w.toNat).1 = 2 ∧ (mwr V m w.toNat).2.1 = (mlv V m k.toNat).1
def DRC (V V1 : Vmap) (x : Nat) (k w X : Int) : Prop := NN 6 5 V x → NN 8 7 V x → (X = -1 ∧ dsz V1 x = dsz V x ∧ ¬ (DRD V x k w ∧ dsz V x < 10)) ∨ (X = dsz V x ∧ dsz V1 x = dsz V x + 1 ∧ DRD V x k w ∧ dsz V x < 10)
def MDR (V V1 : Vmap) (m : Nat) (k w X : Int) : Prop := (X = -1 ∧ vi V1 m 118 = vi V m 118 ∧ ¬ (MDD V m k w ∧ vi V m 118 < 10)) ∨ (X = vi V m 118 ∧ vi V1 m 118 = vi V m 118 + 1 ∧ MDD V m k w ∧ vi V m 118 < 10)
theorem DRC.np (h : NN 6 5 V x → ¬ PK V x k 4) (hX : X = -1) : DRC V V x k w X := fun hn _ => Or.inl ⟨hX, rfl, fun g => h hn g.1.1⟩
theorem DRC.nw (h : NN 8 7 V x → w < 0 ∨ vi V x 8 ≤ w) (hX : X = -1) : DRC V V x k w X := fun _ hn => Or.inl ⟨hX, rfl, fun g => by
  have := h hn
  have := g.1.2.1
  have := g.1.2.2.1
  omega⟩
theorem DRC.nk (hw : o = wkO V x w.toNat ∧ 0 ≤ w ∧ w < vi V x 8) (h : vi V o 0 ≠ 2) (hX : X = -1) : DRC V V x k w X := fun _ _ => Or.inl ⟨hX, rfl, fun g => by
  obtain ⟨rfl, -, -⟩ := hw
  exact h g.1.2.2.2.1⟩
theorem DRC.nc (hp : q = plO V x k.toNat ∧ PK V x k 4) (hw : o = wkO V x w.toNat ∧ 0 ≤ w ∧ w < vi V x 8) (h : vi V o 2 ≠ vi V q 2) (hX : X = -1) : DRC V V x k w X := fun _ _ => Or.inl ⟨hX, rfl, fun g => by
  obtain ⟨rfl, -, -⟩ := hw
  obtain ⟨rfl, -⟩ := hp
  exact h g.1.2.2.2.2⟩
theorem DRC.ok {ws : Nat} (hp : q = plO V x k.toNat ∧ PK V x k 4) (hw : o = wkO V x w.toNat ∧ 0 ≤ w ∧ w < vi V x 8) (h0 : vi V o 0 = 2) (h : vi V o 2 = vi V q 2) (hF : FR ws K V K V1) (hx : K x = some (0, 10)) (hb : ws.testBit (keyK (0, 10) 13) = false) (ha : (X = -1 ∧ vi V1 (vq V x 13) 3 = vi V (vq V x 13) 3 ∧ vi V (vq V x 13) 3 ≥ 10) ∨ (X = vi V (vq V x 13) 3 ∧ vi V1 (vq V x 13) 3 = vi V (vq V x 13) 3 + 1 ∧ vi V (vq V x 13) 3 < 10)) : DRC V V1 x k w X := fun _ _ => by
  have hq : vq V1 x 13 = vq V x 13 := by unfold vq; rw [hF x _ 13 hx hx hb]
  have hD : DRD V x k w := by
    obtain ⟨rfl, w0, w1⟩ := hw
    obtain ⟨rfl, p0⟩ := hp
    exact ⟨p0, w0, w1, h0, h⟩
  unfold dsz
  rw [hq]
  rcases ha with ⟨a1, a2, a3⟩ | ⟨a1, a2, a3⟩
  · exact Or.inl ⟨a1, a2, fun g => by have := g.2; omega⟩
  · exact Or.inr ⟨a1, a2, hD, a3⟩
theorem MDR.no (h : ¬ (MDD V m k w ∧ vi V m 118 < 10)) (hX : X = -1) : MDR V V m k w X := Or.inl ⟨hX, rfl, h⟩
theorem MDR.ok (h : MDD V m k w) (h1 : vi V m 118 < 10) (hX : X = vi V m 118) (h2 : vi V1 m 118 = vi V m 118 + 1) : MDR V V1 m k w X := Or.inr ⟨hX, h2, h, h1⟩
theorem DRC.both {ws : Nat} (hP : PLE V x m) (hK : WKE V x m) (hx : K x = some (0, 10)) (hm : K m = some (0, 11)) (hW : WT K V) (hE : ext K K1) (hF : FR ws K V K1 V1) (hd : dsz V x = vi V m 118) (h118 : vi V1 m 118 = vi V m 118) (f : DRC V V1 x k w X) (f1 : MDR V1 V2 m k w Y) (b1 : mpbits ws = true) (b2 : mvbits ws = true) (b3 : mlbits ws = true) (b4 : mwbits ws = true) : X = Y ∧ dsz V1 x = vi V2 m 118 := by
  have gm : MSM V V1 m := MSM.fr hF hE hW hm b1 b2 b3
  have gw : MWS V V1 m := MWS.fr hF hE hW hm b4
  obtain ⟨hI, -, hr⟩ := hP
  obtain ⟨kI, k1, k2⟩ := hK
  have r4 := hr.2.2.2.1
  have ed : DRD V x k w ↔ MDD V1 m k w := by
    have key : ∀ (k0 : 0 ≤ k) (kl : k < vi V x 6) (w0 : 0 ≤ w) (wl : w < vi V x 8), ((wkv V x w.toNat).1 = 2 ∧ (wkv V x w.toNat).2.1 = (plv V x k.toNat).1) ↔ ((mwr V1 m w.toNat).1 = 2 ∧ (mwr V1 m w.toNat).2.1 = (mlv V1 m k.toNat).1) := fun k0 kl w0 wl => by
      rw [k2 w.toNat (by omega), gw.2, gm.2.1.mv gm.1, (hr.2.2.2.2.1 k.toNat (by omega)).2]
    unfold DRD MDD
    constructor
    · rintro ⟨⟨q0, q1, q2⟩, c0, c1, c2⟩
      have e := (key q0 q1 c0 c1).mp c2
      refine ⟨⟨q0, by rw [gm.1.1, ← r4]; exact q1, ?_⟩, c0, by rw [gw.1, ← k1]; exact c1, e⟩
      rw [gm.1.2.2.1, ← hr.kd (by omega)]
      exact q2
    · rintro ⟨⟨q0, q1, q2⟩, c0, c1, c2⟩
      rw [gm.1.1, ← r4] at q1
      rw [gw.1, ← k1] at c1
      rw [gm.1.2.2.1, ← hr.kd (by omega)] at q2
      exact ⟨⟨q0, q1, q2⟩, c0, c1, (key q0 q1 c0 c1).mpr c2⟩
  unfold MDR at f1
  rw [← ed, h118, ← hd] at f1
  rcases f hI.1 kI.1 with ⟨a1, a2, a3⟩ | ⟨a1, a2, a3, a4⟩
  · rcases f1 with ⟨d1, d2, d3⟩ | ⟨d1, d2, d3⟩
    · exact ⟨by omega, by omega⟩
    · exact absurd d3 a3
  · rcases f1 with ⟨d1, d2, d3⟩ | ⟨d1, d2, d3⟩
    · exact absurd ⟨a3, a4⟩ d3
    · exact ⟨by omega, by omega⟩
end PW
