theorem vi_at {V : Vmap} {a j : Nat} {X : Int} (h : V a j = ti X) (hX : ir X) : vi V a j = X := (vi_of h).trans (ti_int hX)
/-! rows of the reference, along its memories -/
section TK
variable {K : Kmap} {V V1 : Vmap} {x s t n : Nat} {F : Nat → Int}
theorem tk_fld {k : Nat} {v : Value} (e : V1 = upd2 V x k v) (hk : K (vq V x s) = some (t + 1, n)) (hx : K x = some (0, 11)) (h : s ≠ k) (p : ar s V x = F) : K (vq V1 x s) = some (t + 1, n) ∧ ar s V1 x = F := by
  have q : vq V1 x s = vq V x s := vq_up e (Or.inr h)
  refine ⟨by rw [q]; exact hk, ?_⟩
  rw [← p]
  funext j
  unfold ar
  rw [q, vi_up e (Or.inl (K_ne hk hx (by simp)))]
theorem tk_oth {q j : Nat} {kd : Nat × Nat} {v : Value} (e : V1 = upd2 V q j v) (hk : K (vq V x s) = some (t + 1, n)) (hx : K x = some (0, 11)) (hq : K q = some kd) (h1 : kd ≠ (0, 11)) (h2 : kd ≠ (t + 1, n)) (p : ar s V x = F) : K (vq V1 x s) = some (t + 1, n) ∧ ar s V1 x = F := by
  have q1 : vq V1 x s = vq V x s := vq_up e (Or.inl (K_ne hx hq (Ne.symm h1)))
  refine ⟨by rw [q1]; exact hk, ?_⟩
  rw [← p]
  funext i
  unfold ar
  rw [q1, vi_up e (Or.inl (K_ne hk hq (Ne.symm h2)))]
theorem tk_put {q i : Nat} {a : Int} (e : V1 = upd2 V q i (ti a)) (hk : K (vq V x s) = some (t + 1, n)) (hx : K x = some (0, 11)) (hq : vq V x s = q) (ha : ir a) (p : ar s V x = F) : K (vq V1 x s) = some (t + 1, n) ∧ ar s V1 x = updf F i a := by
  subst hq
  have q1 : vq V1 x s = vq V x s := vq_up e (Or.inl (K_ne hx hk (by simp)))
  refine ⟨by rw [q1]; exact hk, ?_⟩
  rw [← p]
  funext j
  unfold ar updf
  rw [q1]
  by_cases hj : j = i
  · rw [if_pos hj, hj, upd2_int e ha]
  · rw [if_neg hj, vi_up e (Or.inr hj)]
theorem tk_fr {ws : Nat} (h : FR ws K V K V1) (hk : K (vq V x s) = some (t + 1, n)) (hx : K x = some (0, 11)) (b1 : ws.testBit (keyK (0, 11) s) = false) (b2 : ws.testBit (abase + (t + 1)) = false) (p : ar s V x = F) : K (vq V1 x s) = some (t + 1, n) ∧ ar s V1 x = F := by
  have g := ar_fr h hx hk b1 b2
  exact ⟨by rw [g.1]; exact hk, g.2.trans p⟩
end TK
theorem WT.cnt {K : Kmap} {V : Vmap} {x : Nat} (hW : WT K V) (hx : K x = some (0, 11)) : (0 ≤ vi V x 38 ∧ vi V x 38 ≤ 12) ∧ (0 ≤ vi V x 47 ∧ vi V x 47 ≤ 20) ∧ (0 ≤ vi V x 48 ∧ vi V x 48 ≤ 20) ∧ (0 ≤ vi V x 10 ∧ vi V x 10 ≤ 60) := ⟨(hW.int hx (j := 38) (Nat.le_of_ble_eq_true rfl) rfl).2, (hW.int hx (j := 47) (Nat.le_of_ble_eq_true rfl) rfl).2, (hW.int hx (j := 48) (Nat.le_of_ble_eq_true rfl) rfl).2, (hW.int hx (j := 10) (Nat.le_of_ble_eq_true rfl) rfl).2⟩
/-! clauses said so far -/
def TCf (L F T S : Nat → Int) (m c : Int) : Prop := ∀ j : Nat, (j : Int) < m → ASK (L j) → 0 ≤ F j ∧ T j ≤ c ∧ GSq S (F j).toNat (T j).toNat ∧ 0 ≤ T j
def TC (V : Vmap) (x : Nat) : Prop := TCf (ar 41 V x) (ar 42 V x) (ar 43 V x) (ar 39 V x) (vi V x 38) (vi V x 36)
theorem TCf.step {L F T S S1 : Nat → Int} {m c c1 a : Int} (h : TCf L F T S m c) (hm : 0 ≤ m) (h0 : 0 ≤ c) (hc : c ≤ c1) (hS : ∀ j, j < c.toNat → S1 j = S j) (hg : ASK a → GSq S1 c.toNat c1.toNat) : TCf (updf L m.toNat a) (updf F m.toNat c) (updf T m.toNat c1) S1 (m + 1) c1 := by
  intro j hj ha
  by_cases e : j = m.toNat
  · rw [e, updf_same] at ha
    rw [e, updf_same, updf_same]
    exact ⟨h0, Int.le_refl _, hg ha, by omega⟩
  · rw [updf_ne e] at ha
    rw [updf_ne e, updf_ne e]
    obtain ⟨a1, a2, a3, a4⟩ := h j (by omega) ha
    exact ⟨a1, by omega, a3.cong (fun i h1 h2 => (hS i (by omega)).symm), a4⟩
theorem GSq.eq {S : Nat → Int} {a b a1 b1 : Nat} (h : GSq S a b) (e1 : a1 = a) (e2 : b1 = b) : GSq S a1 b1 := by subst e1 e2; exact h
section TC
variable {V V1 M : Vmap} {x : Nat}
theorem TC.nil (h : vi V x 38 = 0) : TC V x := fun j hj => by rw [h] at hj; omega
theorem TC.eq (h : TC V x) (e1 : ar 41 V1 x = ar 41 V x) (e2 : ar 42 V1 x = ar 42 V x) (e3 : ar 43 V1 x = ar 43 V x) (e4 : ar 39 V1 x = ar 39 V x) (e5 : vi V1 x 38 = vi V x 38) (e6 : vi V1 x 36 = vi V x 36) : TC V1 x := by
  unfold TC; rw [e1, e2, e3, e4, e5, e6]; exact h
theorem TC.mk {i : Nat} {a f g : Int} (h : TC V x) (eL : ar 41 V1 x = updf (ar 41 V x) i a) (eF : ar 42 V1 x = updf (ar 42 V x) i f) (eT : ar 43 V1 x = updf (ar 43 V x) i g) (hi : i = (vi V x 38).toNat) (h38 : 0 ≤ vi V x 38) (e38 : vi V1 x 38 = vi V x 38 + 1) (hf : f = vi V x 36) (hg : g = vi V1 x 36) (h0 : 0 ≤ vi V x 36) (hc : vi V x 36 ≤ vi V1 x 36) (hS : ∀ j, j < (vi V x 36).toNat → ar 39 V1 x j = ar 39 V x j) (hG : ASK a → GSq (ar 39 V1 x) (vi V x 36).toNat (vi V1 x 36).toNat) : TC V1 x := by
  unfold TC
  rw [eL, eF, eT, e38, hf, hg, hi]
  exact TCf.step h h38 h0 hc hS hG
end TC
/-! rows copied -/
def CPf (C0 S C1 : Nat → Int) (b o k : Int) : Prop := (∀ i : Nat, (i : Int) < b → C1 i = C0 i) ∧ ∀ j : Nat, (j : Int) < k → C1 (b.toNat + j) = o + S j
section CP
variable {C0 S C1 C2 : Nat → Int} {b o k : Int}
theorem CPf.rf : CPf C0 S C0 b o 0 := ⟨fun _ _ => rfl, fun j hj => by omega⟩
theorem CPf.at (h : CPf C0 S C1 b o k) (e : C2 = C1) : CPf C0 S C2 b o k := e ▸ h
theorem CPf.put {i : Nat} {a k1 : Int} (h : CPf C0 S C1 b o k) (hb : 0 ≤ b) (hk : 0 ≤ k) (hC : C2 = updf C1 i a) (hi : (i : Int) = b + k) (ha : a = o + S k.toNat) (hk1 : k1 = k + 1) : CPf C0 S C2 b o k1 := by
  subst hC hk1
  refine ⟨fun j hj => ?_, fun j hj => ?_⟩
  · rw [updf_ne (by omega)]; exact h.1 j hj
  · by_cases e : j = k.toNat
    · have e2 : b.toNat + j = i := by omega
      rw [e2, updf_same, ha, e]
    · rw [updf_ne (by omega)]; exact h.2 j (by omega)
theorem CPf.of {i : Nat} {z : Int} (h : CPf C0 S C1 b o k) (hz : k = z) : CPf C0 S C1 b o z := hz ▸ h
end CP
def HGf (C : Nat → Int) (n : Nat) (b f t : Int) : Prop := (0 ≤ b ∧ b ≤ f ∧ f ≤ t ∧ t ≤ n ∧ t - b ≤ 220) ∧ GSq (fun j => C (b.toNat + j)) (f - b).toNat (t - b).toNat
def GTf (m : Int) (N L F T C : Nat → Int) : Prop := ∀ i j : Int, 0 ≤ i → i < m → 0 ≤ j → j < N i.toNat → ASK (L (12 * i + j).toNat) → HGf C 4400 (220 * i) (F (12 * i + j).toNat) (T (12 * i + j).toNat)
def GRf (m : Int) (M C : Nat → Int) : Prop := ∀ r : Int, 0 ≤ r → r < m → HGf C 2200 (110 * r) (110 * r) (110 * r + M r.toNat)
theorem GX.iff {V : Vmap} {x : Nat} : GX V x ↔ GTf (vi V x 47) (ar 50 V x) (ar 53 V x) (ar 54 V x) (ar 55 V x) (ar 49 V x) ∧ GRf (vi V x 48) (ar 61 V x) (ar 60 V x) := Iff.rfl
theorem HGf.cong {C C1 : Nat → Int} {n : Nat} {b f t : Int} (h : HGf C n b f t) (e : ∀ i : Nat, (i : Int) < t → C1 i = C i) : HGf C1 n b f t := by
  obtain ⟨h1, h2⟩ := h
  exact ⟨h1, h2.cong fun j a c => (e _ (by omega)).symm⟩
theorem GTf.step {m k c n n2 : Int} {N N1 L L1 F F1 T T1 C C1 l f t S : Nat → Int} {i : Nat} (h : GTf m N L F T C) (hT : TCf l f t S k c) (hm : 0 ≤ m ∧ m < 20) (hk : k ≤ 12) (hc : c ≤ 220) (hNb : ∀ i : Nat, (i : Int) < m → N i ≤ 12) (eN : N1 = updf N i k) (hi : (i : Int) = m) (cL : CPf L l L1 (12 * m) 0 n) (cF : CPf F f F1 (12 * m) (220 * m) n) (cT : CPf T t T1 (12 * m) (220 * m) n) (hn : k ≤ n) (cC : CPf C S C1 (220 * m) 0 n2) (hn2 : c ≤ n2) : GTf (m + 1) N1 L1 F1 T1 C1 := by
  subst eN
  intro a j ha ha1 hj hj1 hA
  by_cases e : a = m
  · subst e
    rw [show i = a.toNat by omega, updf_same] at hj1
    have q : (12 * a + j).toNat = (12 * a).toNat + j.toNat := by omega
    rw [q] at hA ⊢
    have eL := cL.2 j.toNat (by omega)
    have eF := cF.2 j.toNat (by omega)
    have eT := cT.2 j.toNat (by omega)
    rw [eL, Int.zero_add] at hA
    rw [eF, eT]
    obtain ⟨a1, a2, a3, a4⟩ := hT j.toNat (by omega) hA
    have a5 := a3.1.2
    refine ⟨⟨by omega, by omega, by omega, by omega, by omega⟩, ?_⟩
    rw [show (220 * a + f j.toNat - 220 * a) = f j.toNat by omega, show (220 * a + t j.toNat - 220 * a) = t j.toNat by omega]
    refine a3.cong fun i2 b1 b2 => ?_
    have := cC.2 i2 (by omega)
    rw [Int.zero_add] at this
    exact this.symm
  · rw [updf_ne (by omega)] at hj1
    have hb := hNb a.toNat (by omega)
    rw [cL.1 _ (by omega)] at hA
    rw [cF.1 _ (by omega), cT.1 _ (by omega)]
    have g := h a j ha (by omega) hj hj1 hA
    refine g.cong fun i2 b1 => cC.1 i2 ?_
    obtain ⟨⟨g1, g2, g3, g4, g5⟩, g6⟩ := g
    omega
theorem GRf.step {m k n2 : Int} {M M1 C C1 S : Nat → Int} {i : Nat} (h : GRf m M C) (hg : GSq S 0 k.toNat) (hm : 0 ≤ m ∧ m < 20) (hk : 0 ≤ k ∧ k ≤ 110) (hMb : ∀ i : Nat, (i : Int) < m → M i ≤ 110) (eM : M1 = updf M i k) (hi : (i : Int) = m) (cC : CPf C S C1 (110 * m) 0 n2) (hn2 : k ≤ n2) : GRf (m + 1) M1 C1 := by
  subst eM
  intro r h0 h1
  by_cases e : r = m
  · subst e
    rw [show i = r.toNat by omega, updf_same]
    refine ⟨⟨by omega, by omega, by omega, by omega, by omega⟩, ?_⟩
    rw [show (110 * r - 110 * r).toNat = 0 by omega, show (110 * r + k - 110 * r) = k by omega]
    refine hg.cong fun j a b => ?_
    have := cC.2 j (by omega)
    rw [Int.zero_add] at this
    exact this.symm
  · rw [updf_ne (by omega)]
    have hb := hMb r.toNat (by omega)
    exact (h r h0 (by omega)).cong fun j hj => cC.1 j (by omega)
theorem GX.mk {V V1 : Vmap} {x : Nat} (h : GX V x) (e47 : vi V1 x 47 = vi V x 47) (e48 : vi V1 x 48 = vi V x 48) (e49 : ar 49 V1 x = ar 49 V x) (e50 : ar 50 V1 x = ar 50 V x) (e53 : ar 53 V1 x = ar 53 V x) (e54 : ar 54 V1 x = ar 54 V x) (e55 : ar 55 V1 x = ar 55 V x) (e60 : ar 60 V1 x = ar 60 V x) (e61 : ar 61 V1 x = ar 61 V x) : GX V1 x := by
  rw [GX.iff] at h ⊢
  rw [e47, e48, e49, e50, e53, e54, e55, e60, e61]; exact h
theorem WT.ar_rng {K : Kmap} {V : Vmap} (hW : WT K V) {x : Nat} (hx : K x = some (0, 11)) (s t : Nat) (hs : s < 151) (h : fT (0, 11) s = (1, t + 1, 0, 0, 0)) (hl : lentab.getD t 0 ≠ 0) {lo up : Int} (he : eltab.getD t (3, 0, 0, 0, 0) = (0, 0, 0, lo, up)) {i : Nat} (hi : i < lentab.getD t 0) : lo ≤ ar s V x i ∧ ar s V x i ≤ up :=
  (hW.int (hW.arr hx s t hs h hl) (j := i) hi he).2
theorem GX.text {K : Kmap} {V V1 M : Vmap} {x i : Nat} {k n n2 : Int} {C49 C53 C54 C55 : Nat → Int} (hW : WT K V) (hM : WT K M) (hx : K x = some (0, 11)) (h : GX V x) (htc : TC M x) (e47 : vi V1 x 47 = vi V x 47 + 1) (h47 : vi V x 47 < 20) (e48 : vi V1 x 48 = vi V x 48) (e50 : ar 50 V1 x = updf (ar 50 V x) i k) (hi : (i : Int) = vi V x 47) (hk : k = vi M x 38) (a53 : ar 53 V1 x = C53) (a54 : ar 54 V1 x = C54) (a55 : ar 55 V1 x = C55) (a49 : ar 49 V1 x = C49)
    (c53 : CPf (ar 53 V x) (ar 41 M x) C53 (12 * vi V x 47) 0 n) (c54 : CPf (ar 54 V x) (ar 42 M x) C54 (12 * vi V x 47) (220 * vi V x 47) n) (c55 : CPf (ar 55 V x) (ar 43 M x) C55 (12 * vi V x 47) (220 * vi V x 47) n) (hn : vi M x 38 ≤ n) (c49 : CPf (ar 49 V x) (ar 39 M x) C49 (220 * vi V x 47) 0 n2) (hn2 : vi M x 36 ≤ n2) (e60 : ar 60 V1 x = ar 60 V x) (e61 : ar 61 V1 x = ar 61 V x) : GX V1 x := by
  have q0 := hW.cnt hx
  have q1 := hM.cnt hx
  have q2 := hM.rd hx
  rw [GX.iff] at h ⊢
  rw [e47, e48, e50, a53, a54, a55, a49, e60, e61, hk]
  refine ⟨GTf.step h.1 htc (by omega) (by omega) (by omega) (fun i hi => ?_) rfl hi c53 c54 c55 hn c49 hn2, h.2⟩
  exact (hW.ar_rng hx 50 41 (by decide) rfl (by decide) (lo := 0) (up := 12) rfl (i := i) (by show i < 20; omega)).2
theorem GX.reading {K : Kmap} {V V1 M : Vmap} {x i : Nat} {k n2 : Int} {C60 : Nat → Int} (hW : WT K V) (hx : K x = some (0, 11)) (h : GX V x) (hg : GSq (ar 39 M x) 0 k.toNat) (hk : 0 ≤ k ∧ k ≤ 110) (e48 : vi V1 x 48 = vi V x 48 + 1) (h48 : vi V x 48 < 20) (e47 : vi V1 x 47 = vi V x 47) (e61 : ar 61 V1 x = updf (ar 61 V x) i k) (hi : (i : Int) = vi V x 48) (a60 : ar 60 V1 x = C60) (c60 : CPf (ar 60 V x) (ar 39 M x) C60 (110 * vi V x 48) 0 n2) (hn2 : k ≤ n2) (e49 : ar 49 V1 x = ar 49 V x) (e50 : ar 50 V1 x = ar 50 V x) (e53 : ar 53 V1 x = ar 53 V x) (e54 : ar 54 V1 x = ar 54 V x) (e55 : ar 55 V1 x = ar 55 V x) : GX V1 x := by
  have q0 := hW.cnt hx
  rw [GX.iff] at h ⊢
  rw [e47, e48, e49, e50, e53, e54, e55, e61, a60]
  refine ⟨h.1, GRf.step h.2 hg (by omega) hk (fun i hi => ?_) rfl hi c60 hn2⟩
  exact (hW.ar_rng hx 61 52 (by decide) rfl (by decide) (lo := 0) (up := 110) rfl (i := i) (by show i < 20; omega)).2
/-! a claim has a party -/
def PXf (m : Int) (k p : Nat → Int) : Prop := ∀ j : Nat, (j : Int) < m → k j = 0 → 0 ≤ p j
def PX0 (V : Vmap) (x : Nat) : Prop := PXf (vi V x 10) (ar 13 V x) (ar 14 V x)
theorem PX0.mk {V V1 : Vmap} {x : Nat} (h : PX0 V x) (e10 : vi V1 x 10 = vi V x 10) (e13 : ar 13 V1 x = ar 13 V x) (e14 : ar 14 V1 x = ar 14 V x) : PX0 V1 x := by
  unfold PX0; rw [e10, e13, e14]; exact h
theorem PX0.step {V V1 : Vmap} {x i j : Nat} {k p : Int} (h : PX0 V x) (e10 : vi V1 x 10 = vi V x 10 + 1) (e13 : ar 13 V1 x = updf (ar 13 V x) i k) (e14 : ar 14 V1 x = updf (ar 14 V x) j p) (hi : (i : Int) = vi V x 10) (hj : (j : Int) = vi V x 10) (hp : k = 0 → 0 ≤ p) : PX0 V1 x := by
  have e : j = i := by omega
  subst e
  unfold PX0; rw [e10, e13, e14]
  intro a ha hk
  by_cases e : a = j
  · rw [e, updf_same] at hk ⊢; exact hp hk
  · rw [updf_ne e] at hk ⊢; exact h a (by omega) hk
theorem PX0.at {V : Vmap} {x : Nat} {k : Int} (h : PX0 V x) (h0 : 0 ≤ k) (h1 : k < vi V x 10) (h2 : ar 13 V x k.toNat = 0) : 0 ≤ vi V (vq V x 14) k.toNat := h k.toNat (by omega) h2
def pxbits (ws : Nat) : Bool := [10, 13, 14].all (fun s => !ws.testBit (keyK (0, 11) s)) && [15, 16].all (fun t => !ws.testBit (abase + (t + 1)))
theorem PX0.fr {K : Kmap} {V V1 : Vmap} {x ws : Nat} (hF : FR ws K V K V1) (h : PX0 V x) (hW : WT K V) (hx : K x = some (0, 11)) (hb : pxbits ws = true) : PX0 V1 x := by
  simp only [pxbits, List.all_cons, List.all_nil, Bool.and_true, Bool.and_eq_true, Bool.not_eq_true'] at hb
  obtain ⟨⟨f1, f2, f3⟩, t1, t2⟩ := hb
  have a13 := ar_fr hF hx (hW.arr hx 13 15 (by decide) rfl (by decide)) f2 t1
  have a14 := ar_fr hF hx (hW.arr hx 14 16 (by decide) rfl (by decide)) f3 t2
  exact h.mk (vi_fr hF hx hx f1) a13.2 a14.2
