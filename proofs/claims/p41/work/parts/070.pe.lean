/-! ### the ice carries, on the class's side -/
section PE
variable {K K1 K2 : Kmap} {V V0 V1 V2 V3 V4 W W1 W2 : Vmap} {x m o q b l : Nat} {i j n s d t w h z X Y Z k u nx isl c : Int}
def nxt (w h c t : Int) : Int := if t < 0 then -1 else bsd w h c t
theorem BES.is (g : BES V l c t X) (hc : (0 ≤ c ∧ c < (vi V l 3) * (vi V l 4))) (h7 : t ≤ 7) : X = nxt (vi V l 3) (vi V l 4) c t := by
  unfold nxt
  by_cases q : t < 0
  · rw [if_pos q]
    exact g.2 q
  · rw [if_neg q]
    exact g.1 hc (by omega) h7
theorem nxt_rg (hw : 0 < w) : nxt w h c t = -1 ∨ (0 ≤ (nxt w h c t) ∧ (nxt w h c t) < w * h) := by
  unfold nxt
  split
  · exact Or.inl rfl
  · exact bsd_rg hw
/-- a field is carried -/
def fdv (G : Int → Int) (w h t isl : Int) (v : Int × Int × Int) : Int × Int × Int := (if nxt w h v.1 t = -1 then v.1 else nxt w h v.1 t, if isl ≠ 0 ∨ nxt w h v.1 t = -1 ∨ ¬ (G (nxt w h v.1 t) = 0 ∨ G (nxt w h v.1 t) = 1) then 1 else v.2.1, v.2.2)
def tri (V : Vmap) (o : Nat) : Int × Int × Int := (vi V o 2, vi V o 5, vi V o 10)
def CFD (V V1 : Vmap) (x o : Nat) (t isl : Int) : Prop := (0 ≤ (vi V o 2) ∧ (vi V o 2) < ((vi V (vq V x 0) 3)) * ((vi V (vq V x 0) 4))) → t ≤ 7 → 0 < (vi V (vq V x 0) 3) → tri V1 o = fdv ((rgv V (vq V ((vq V x 0)) 6) 144)) ((vi V (vq V x 0) 3)) ((vi V (vq V x 0) 4)) t isl (tri V o) ∧ ∀ b, b ≠ o → V1 b = V b
def LFm (isl Y : Int) (G : Int → Int) (w h X : Int) : Prop := isl ≠ 0 ∨ (Y = 0 ∧ (Y ≠ 0 ↔ (0 ≤ X ∧ X < w * h) ∧ (G X = 0 ∨ G X = 1)))
theorem lfm_is {G : Int → Int} (g : LFm isl Y G w h X) (hw : 0 < w) (hX : X = -1 ∨ (0 ≤ X ∧ X < w * h)) : isl ≠ 0 ∨ X = -1 ∨ ¬ (G X = 0 ∨ G X = 1) := by
  rcases g with g | ⟨g1, g2⟩
  · exact Or.inl g
  · rcases hX with e | e
    · exact Or.inr (Or.inl e)
    · exact Or.inr (Or.inr fun q => absurd g1 (g2.mpr ⟨e, q⟩))
theorem CFD.la (g : BES V (vq V x 0) (vi V o 2) t X) (hl : LFm isl Y ((rgv V (vq V (vq V x 0) 6) 144)) (vi V (vq V x 0) 3) (vi V (vq V x 0) 4) X) (e1 : V1 = upd2 V o 5 (ti 1)) (hX : X = -1) : CFD V V1 x o t isl := fun hc h7 hw => by
  have hx := g.is hc h7
  have hb := lfm_is hl hw (by rw [hx]; exact nxt_rg hw)
  refine ⟨?_, fun b hb => funext fun j => uq_ne e1 (Or.inl hb)⟩
  unfold fdv tri
  rw [← hx, if_pos hX, if_pos hb, vi_up (j := 2) e1 (Or.inr (by decide)), vi_up (j := 10) e1 (Or.inr (by decide)), upd2_int e1 (ir_c rfl)]
theorem CFD.lf (g : BES V (vq V x 0) (vi V o 2) t X) (hl : LFm isl Y ((rgv V (vq V (vq V x 0) 6) 144)) (vi V (vq V x 0) 3) (vi V (vq V x 0) 4) X) (e1 : V1 = upd2 V o 5 (ti 1)) (hX : X ≠ -1) (e2 : V2 = upd2 V1 o 2 (ti X)) (rX : ir X) : CFD V V2 x o t isl := fun hc h7 hw => by
  have hx := g.is hc h7
  have hb := lfm_is hl hw (by rw [hx]; exact nxt_rg hw)
  refine ⟨?_, fun b hb => funext fun j => (uq_ne e2 (Or.inl hb)).trans (uq_ne e1 (Or.inl hb))⟩
  unfold fdv tri
  rw [← hx, if_neg hX, if_pos hb, upd2_int e2 rX, vi_up (j := 5) e2 (Or.inr (by decide)), vi_up (j := 10) e2 (Or.inr (by decide)), vi_up (j := 10) e1 (Or.inr (by decide)), upd2_int e1 (ir_c rfl)]
theorem CFD.f (g : BES V (vq V x 0) (vi V o 2) t X) (hi : isl = 0) (hf : Y ≠ 0 ↔ (0 ≤ X ∧ X < (vi V (vq V x 0) 3) * (vi V (vq V x 0) 4)) ∧ (((rgv V (vq V (vq V x 0) 6) 144)) X = 0 ∨ ((rgv V (vq V (vq V x 0) 6) 144)) X = 1)) (hY : Y ≠ 0) (hX : X ≠ -1) (e2 : V2 = upd2 V o 2 (ti X)) (rX : ir X) : CFD V V2 x o t isl := fun hc h7 hw => by
  have hx := g.is hc h7
  have hb : ¬ (isl ≠ 0 ∨ X = -1 ∨ ¬ (((rgv V (vq V (vq V x 0) 6) 144)) X = 0 ∨ ((rgv V (vq V (vq V x 0) 6) 144)) X = 1)) := fun q => by
    rcases q with q | q | q
    · exact q hi
    · exact hX q
    · exact q (hf.mp hY).2
  refine ⟨?_, fun b hb => funext fun j => uq_ne e2 (Or.inl hb)⟩
  unfold fdv tri
  rw [← hx, if_neg hX, if_neg hb, upd2_int e2 rX, vi_up e2 (Or.inr (by decide)), vi_up e2 (Or.inr (by decide))]
theorem CFD.nb (hf : Y ≠ 0 ↔ (0 ≤ X ∧ X < (vi V (vq V x 0) 3) * (vi V (vq V x 0) 4)) ∧ (((rgv V (vq V (vq V x 0) 6) 144)) X = 0 ∨ ((rgv V (vq V (vq V x 0) 6) 144)) X = 1)) (hY : Y ≠ 0) (hX : X = -1) : CFD V V x o t isl := by
  have h1 := (hf.mp hY).1.1
  omega
/-! loseStation() -/
def LSN (K : Kmap) (V V1 : Vmap) (o : Nat) : Prop := vi V1 o 5 = 1 ∧ ∀ b, K b = some (0, 3) → vi V1 b 2 = vi V b 2 ∧ vi V1 b 10 = vi V b 10 ∧ (b ≠ o → vi V1 b 5 = vi V b 5)
theorem LSN.mk (e : V1 = upd2 V o 5 (ti 1)) : LSN K V V1 o := ⟨upd2_int e (ir_c rfl), fun b _ => ⟨vi_up e (Or.inr (by decide)), vi_up e (Or.inr (by decide)), fun hb => vi_up e (Or.inl hb)⟩⟩
def lsbits (ws : Nat) : Bool := [keyK (0, 3) 2, keyK (0, 3) 5, keyK (0, 3) 10].all fun b => !ws.testBit b
theorem LSN.fr {ws : Nat} (h : LSN K V V1 o) (hF : FR ws K V1 K V2) (ho : K o = some (0, 3)) (hb : lsbits ws = true) : LSN K V V2 o := by
  simp only [lsbits, List.all_cons, List.all_nil, Bool.and_true, Bool.and_eq_true, Bool.not_eq_true'] at hb
  obtain ⟨d2, d5, d10⟩ := hb
  obtain ⟨h1, h2⟩ := h
  refine ⟨(vi_fr hF ho ho d5).trans h1, fun b hb => ?_⟩
  obtain ⟨a1, a2, a3⟩ := h2 b hb
  exact ⟨(vi_fr hF hb hb d2).trans a1, (vi_fr hF hb hb d10).trans a2, fun q => (vi_fr hF hb hb d5).trans (a3 q)⟩
theorem LSN.put {f : Nat} {v : Value} (h : LSN K V V1 o) (e : V2 = upd2 V1 o f v) (hf : f = 7 ∨ f = 8) : LSN K V V2 o := by
  obtain ⟨h1, h2⟩ := h
  refine ⟨(vi_up e (Or.inr (by omega))).trans h1, fun b hb => ?_⟩
  obtain ⟨a1, a2, a3⟩ := h2 b hb
  exact ⟨(vi_up e (Or.inr (by omega))).trans a1, (vi_up e (Or.inr (by omega))).trans a2, fun q => (vi_up e (Or.inr (by omega))).trans (a3 q)⟩
/-! carry() -/
/-- the fields below i are carried -/
def CRI (V W : Vmap) (x : Nat) (k t nx isl i : Int) : Prop := PLI V x → 0 ≤ k → ∀ j : Nat, (j : Int) < vi V x 6 → tri W (plO V x j) = if (j : Int) < i ∧ pfo V x j = k ∧ vi V (plO V x j) 5 = 0 then fdv ((rgv V (vq V ((vq V x 0)) 6) 144)) ((vi V (vq V x 0) 3)) ((vi V (vq V x 0) 4)) (if nx = -1 then -1 else t) isl (tri V (plO V x j)) else tri V (plO V x j)
theorem CRI.beg : CRI V V x k t nx isl 0 := fun _ _ j _ => by rw [if_neg (fun q => by have := q.1; omega)]
theorem CRI.skip (h : CRI V W x k t nx isl i) (h0 : 0 ≤ i) (g : PLI V x → 0 ≤ k → i < vi V x 6 → ¬ (pfo V x i.toNat = k ∧ vi V (plO V x i.toNat) 5 = 0)) (hn : n = i + 1) : CRI V W x k t nx isl n := fun hI k0 j hj => by
  rw [h hI k0 j hj]
  by_cases q : (j : Int) < i
  · by_cases q2 : pfo V x j = k ∧ vi V (plO V x j) 5 = 0
    · rw [if_pos ⟨q, q2⟩, if_pos (show (j : Int) < n ∧ pfo V x j = k ∧ vi V (plO V x j) 5 = 0 from ⟨by omega, q2⟩)]
    · rw [if_neg (fun e => q2 e.2), if_neg (fun e => q2 e.2)]
  · rw [if_neg (fun e => q e.1)]
    by_cases e : j = i.toNat
    · subst e
      rw [if_neg (fun e => g hI k0 (by omega) e.2)]
    · rw [if_neg (fun e2 => by have := e2.1; omega)]
theorem pfo_is (h : PK W x i 2) : pfo W x i.toNat = vi W (plO W x i.toNat) 4 := by
  have h0 := h.1
  have h1 := h.2.1
  unfold pfo
  rw [if_pos ⟨by omega, h.2.2⟩]
theorem pfo_no (h0 : 0 ≤ i) (h : ¬ PK W x i 2) : pfo W x i.toNat = -1 := by
  unfold pfo
  rw [if_neg (fun q => h ⟨h0, by have := q.1; omega, q.2⟩)]
theorem CRI.nul (h : CRI V W x k t nx isl i) (h0 : 0 ≤ i) (f : PLI V x → PLS V W x) (g : NN 6 5 W x → ¬ PK W x i 2) (hn : n = i + 1) : CRI V W x k t nx isl n := h.skip h0 (fun hI k0 _ q => by
  have f1 := f hI
  have h1 := pfo_no h0 (g (f1.nn hI.1))
  rw [f1.fo] at h1
  have := q.1
  omega) hn
theorem CRI.nr (h : CRI V W x k t nx isl i) (h0 : 0 ≤ i) (f : PLI V x → PLS V W x) (g : o = plO W x i.toNat ∧ PK W x i 2) (hr : vi W o 4 ≠ k) (hn : n = i + 1) : CRI V W x k t nx isl n := h.skip h0 (fun hI _ _ q => by
  have h1 := pfo_is g.2
  rw [(f hI).fo, ← g.1] at h1
  exact hr (h1.symm.trans q.1)) hn
theorem CRI.nl (h : CRI V W x k t nx isl i) (h0 : 0 ≤ i) (f : PLI V x → PLS V W x) (g : o = plO W x i.toNat ∧ PK W x i 2) (hr : vi W o 5 ≠ 0) (hn : n = i + 1) : CRI V W x k t nx isl n := h.skip h0 (fun hI k0 hi q => by
  have hi' : ((i.toNat : Nat) : Int) < vi V x 6 := by omega
  have h1 := h hI k0 i.toNat hi'
  rw [if_neg (fun e => by have := e.1; omega)] at h1
  have h2 : vi W (plO V x i.toNat) 5 = vi V (plO V x i.toNat) 5 := congrArg (fun r => r.2.1) h1
  have ho : o = plO V x i.toNat := g.1.trans ((f hI).plo hi')
  rw [← ho] at h2
  rw [h2, ho] at hr
  exact hr q.2) hn
theorem CRI.hit {tt u0 : Int} (h : CRI V W x k t nx isl i) (h0 : 0 ≤ i) (f : PLI V x → PLS V W x) (fl : LDS V W x) (hw : 0 < (vi V (vq V x 0) 3)) (g : o = plO W x i.toNat ∧ PK W x i 2) (hr : vi W o 4 = k) (hl : vi W o 5 = 0) (ht : (nx ≠ -1 ∧ tt = t) ∨ (nx = -1 ∧ tt = -1)) (h7 : t = (rgv V (vq V ((vq V x 0)) 7) 144) u0) (c : CFD W W1 x o tt isl) (hn : n = i + 1) : CRI V W1 x k t nx isl n := fun hI k0 j hj => by
  have ht7 := hI.2.2.2 u0
  rw [← h7] at ht7
  have f1 := f hI
  have hi : ((i.toNat : Nat) : Int) < vi V x 6 := by
    have := g.2.2.1
    rw [f1.1] at this
    omega
  have ho : o = plO V x i.toNat := by rw [g.1, f1.plo hi]
  have e0 := h hI k0 i.toNat hi
  rw [if_neg (fun e => by have := e.1; omega), ← ho] at e0
  have hcell : vi W o 2 = vi V o 2 := congrArg (fun r => r.1) e0
  have hin : (0 ≤ (vi W o 2) ∧ (vi W o 2) < ((vi W (vq W x 0) 3)) * ((vi W (vq W x 0) 4))) := by
    rw [fl.1, fl.2.1, hcell, ho]
    exact (hI.2.2.1 _ hi).1
  have htt : tt = if nx = -1 then -1 else t := by
    rcases ht with ⟨q1, q2⟩ | ⟨q1, q2⟩
    · rw [if_neg q1, q2]
    · rw [if_pos q1, q2]
  obtain ⟨c1, c2⟩ := c hin (by omega) (by rw [fl.1]; exact hw)
  rw [fl.1, fl.2.1, fl.2.2 6 (by decide) (by decide), e0, htt] at c1
  have hpf : pfo V x i.toNat = k := by
    rw [← f1.fo, pfo_is g.2, ← g.1]
    exact hr
  by_cases e : j = i.toNat
  · subst e
    have hl2 : vi V o 5 = 0 := by
      have : vi W o 5 = vi V o 5 := congrArg (fun r => r.2.1) e0
      omega
    rw [← ho, if_pos ⟨by omega, hpf, hl2⟩]
    exact c1
  · have nj : plO V x j ≠ o := by rw [ho]; exact hI.ne hj hi e
    have e1 : tri W1 (plO V x j) = tri W (plO V x j) := by
      unfold tri vi
      rw [c2 _ nj]
    rw [e1, h hI k0 j hj]
    by_cases q : (j : Int) < i
    · by_cases q2 : pfo V x j = k ∧ vi V (plO V x j) 5 = 0
      · rw [if_pos ⟨q, q2⟩, if_pos (show (j : Int) < n ∧ pfo V x j = k ∧ vi V (plO V x j) 5 = 0 from ⟨by omega, q2⟩)]
      · rw [if_neg (fun e => q2 e.2), if_neg (fun e => q2 e.2)]
    · rw [if_neg (fun e => q e.1), if_neg (fun e2 => by have := e2.1; omega)]
/-- what carry() does to the places -/
def CAR (V V1 : Vmap) (x : Nat) (k : Int) (o : Nat) : Prop := PLI V x → 0 ≤ k → k < vi V x 6 → o = plO V x k.toNat → pkd V x k.toNat = 1 → vi V o 5 = 0 → (rgv V (vq V ((vq V x 0)) 7) 144) (vi V o 2) ≠ -1 → ∀ j : Nat, (j : Int) < vi V x 6 → plv V1 x j = cry ((rgv V (vq V ((vq V x 0)) 6) 144)) ((vi V (vq V x 0) 3)) ((vi V (vq V x 0) 4)) (tdy V x) (vi V o 2) ((rgv V (vq V ((vq V x 0)) 7) 144) (vi V o 2)) k.toNat j (pfo V x j) (plv V x j)
theorem plv_tri {j : Nat} (f : PLS V V1 x) (hj : (j : Int) < vi V x 6) : plv V1 x j = ((tri V1 (plO V x j)).1, (tri V1 (plO V x j)).2.1, if pkd V x j = 1 then (tri V1 (plO V x j)).2.2 else 0) := by
  have h1 := f.kd hj
  have h2 := f.plo hj
  unfold pkd at h1
  unfold plv tri pkd
  rw [h1, h2]
theorem CAR.mk (hc : CRI V W x k t nx isl i) (hi : vi V x 6 ≤ i) (f : PLI V x → PLS V V1 x) (hw : 0 < (vi V (vq V x 0) 3)) (g : BES V (vq V x 0) (vi V o 2) t nx) (ht : t = (rgv V (vq V ((vq V x 0)) 7) 144) (vi V o 2)) (hY : Y ≠ 0 ↔ (0 ≤ nx ∧ nx < ((vi V (vq V x 0) 3)) * ((vi V (vq V x 0) 4))) ∧ (((rgv V (vq V ((vq V x 0)) 6) 144)) nx = 0 ∨ ((rgv V (vq V ((vq V x 0)) 6) 144)) nx = 1)) (his : (Y = 0 ∧ isl = 1) ∨ (Y ≠ 0 ∧ isl = 0))
    (ho : PLI V x → ∀ b, (∃ j : Nat, (j : Int) < vi V x 6 ∧ b = plO V x j) → tri V1 b = if b = o then (if nx = -1 then vi W o 2 else nx, if isl = 0 then vi W o 5 else 1, if nx = -1 then vi W o 10 else tdy V x) else tri W b) : CAR V V1 x k o := fun hI k0 k1 hok hkd hl0 hne j hj => by
  have f1 := f hI
  have hk : ((k.toNat : Nat) : Int) < vi V x 6 := by omega
  have hin := (hI.2.2.1 _ hk).1
  have hin' : (0 ≤ (vi V o 2) ∧ (vi V o 2) < ((vi V (vq V x 0) 3)) * ((vi V (vq V x 0) 4))) := by rw [hok]; exact hin
  have h7 := hI.2.2.2 (vi V o 2)
  rw [← ht] at h7 hne ⊢
  have hnx := g.1 hin' (by omega) h7.2
  have hb : bsd ((vi V (vq V x 0) 3)) ((vi V (vq V x 0) 4)) (vi V o 2) t = nx := hnx.symm
  have hrg := bsd_rg (w := (vi V (vq V x 0) 3)) (h := (vi V (vq V x 0) 4)) (c := vi V o 2) (t := t) hw
  have hpk : pfo V x k.toNat = -1 := by
    unfold pfo
    rw [if_neg (fun q => by have h9 := q.2; unfold pkd at hkd; omega)]
  have hfk : ¬ (pfo V x k.toNat = k) := by omega
  have hko := hc hI k0 k.toNat hk
  rw [if_neg (fun q => hfk q.2.1), ← hok] at hko
  have w2 : vi W o 2 = vi V o 2 := congrArg (fun r => r.1) hko
  have w5 : vi W o 5 = vi V o 5 := congrArg (fun r => r.2.1) hko
  have w10 : vi W o 10 = vi V o 10 := congrArg (fun r => r.2.2) hko
  have h1 := ho hI (plO V x j) ⟨j, hj, rfl⟩
  rw [plv_tri f1 hj, h1]
  have e2 : plv V x j = ((tri V (plO V x j)).1, (tri V (plO V x j)).2.1, if pkd V x j = 1 then (tri V (plO V x j)).2.2 else 0) := plv_tri PLS.rf hj
  by_cases ejk : j = k.toNat
  · subst ejk
    rw [if_pos hok.symm, w2, w5, w10, e2, ← hok, hkd, if_pos rfl, if_pos rfl]
    unfold cry
    rw [hb]
    by_cases q : nx = -1
    · rw [if_pos q, if_pos q, if_pos q, if_pos (Or.inl rfl)]
      have hY0 : Y = 0 := Classical.byContradiction fun h => by
        have := (hY.mp h).1.1
        omega
      have : ¬ isl = 0 := by omega
      rw [if_neg this]
      rfl
    · rw [if_neg q, if_neg q, if_neg q, if_pos rfl]
      have hnxc : (0 ≤ nx ∧ nx < ((vi V (vq V x 0) 3)) * ((vi V (vq V x 0) 4))) := by
        rcases hrg with e | e
        · exact absurd (hb.symm.trans e) q
        · rw [hb] at e
          exact e
      by_cases q2 : (((rgv V (vq V ((vq V x 0)) 6) 144)) nx = 0 ∨ ((rgv V (vq V ((vq V x 0)) 6) 144)) nx = 1)
      · have hYn := hY.mpr ⟨hnxc, q2⟩
        rw [if_pos (show isl = 0 by omega), if_pos q2]
        rfl
      · have hY0 : Y = 0 := Classical.byContradiction fun h => q2 (hY.mp h).2
        rw [if_neg (show ¬ isl = 0 by omega), if_neg q2]
  · have hjo : plO V x j ≠ o := by rw [hok]; exact hI.ne hj hk ejk
    rw [if_neg hjo, hc hI k0 j hj, e2]
    have ek : ((k.toNat : Nat) : Int) = k := Int.toNat_of_nonneg k0
    unfold cry
    rw [hb, ek]
    by_cases q : nx = -1
    · rw [if_pos q, if_pos q]
      have hY0 : Y = 0 := Classical.byContradiction fun h => by
        have := (hY.mp h).1.1
        omega
      have his1 : isl ≠ 0 := by omega
      by_cases q2 : pfo V x j = k
      · rw [if_pos (Or.inr q2)]
        by_cases q3 : vi V (plO V x j) 5 = 0
        · rw [if_pos ⟨by omega, q2, q3⟩]
          unfold fdv nxt
          rw [if_pos (show (-1 : Int) < 0 by decide), if_pos rfl, if_pos (Or.inl his1)]
        · rw [if_neg (fun e => q3 e.2.2)]
          have h01 : vi V (plO V x j) 5 = 1 := hI.lost01 j hj q3
          unfold tri
          rw [h01]
      · rw [if_neg (fun e => q2 e.2.1), if_neg (show ¬ (j = k.toNat ∨ pfo V x j = k) from fun e => by rcases e with e | e; exact ejk e; exact q2 e)]
    · rw [if_neg q, if_neg q, if_neg ejk]
      by_cases q2 : pfo V x j = k ∧ vi V (plO V x j) 5 = 0
      · have q2' : pfo V x j = k ∧ (tri V (plO V x j)).2.1 = 0 := q2
        rw [if_pos ⟨by omega, q2⟩, if_pos q2']
        have hnn : ¬ t < 0 := by omega
        unfold fdv nxt
        rw [if_neg hnn]
        have hiff : (isl ≠ 0 ∨ bsd ((vi V (vq V x 0) 3)) ((vi V (vq V x 0) 4)) (tri V (plO V x j)).1 t = -1 ∨ ¬ (((rgv V (vq V ((vq V x 0)) 6) 144)) (bsd ((vi V (vq V x 0) 3)) ((vi V (vq V x 0) 4)) (tri V (plO V x j)).1 t) = 0 ∨ ((rgv V (vq V ((vq V x 0)) 6) 144)) (bsd ((vi V (vq V x 0) 3)) ((vi V (vq V x 0) 4)) (tri V (plO V x j)).1 t) = 1)) ↔ (¬ (((rgv V (vq V ((vq V x 0)) 6) 144)) nx = 0 ∨ ((rgv V (vq V ((vq V x 0)) 6) 144)) nx = 1) ∨ bsd ((vi V (vq V x 0) 3)) ((vi V (vq V x 0) 4)) (tri V (plO V x j)).1 t = -1 ∨ ¬ (((rgv V (vq V ((vq V x 0)) 6) 144)) (bsd ((vi V (vq V x 0) 3)) ((vi V (vq V x 0) 4)) (tri V (plO V x j)).1 t) = 0 ∨ ((rgv V (vq V ((vq V x 0)) 6) 144)) (bsd ((vi V (vq V x 0) 3)) ((vi V (vq V x 0) 4)) (tri V (plO V x j)).1 t) = 1)) := by
          have hnxc : (0 ≤ nx ∧ nx < ((vi V (vq V x 0) 3)) * ((vi V (vq V x 0) 4))) := by
            rcases hrg with e | e
            · exact absurd (hb.symm.trans e) q
            · rw [hb] at e
              exact e
          have h9 : isl ≠ 0 ↔ ¬ (((rgv V (vq V ((vq V x 0)) 6) 144)) nx = 0 ∨ ((rgv V (vq V ((vq V x 0)) 6) 144)) nx = 1) := by
            constructor
            · intro a b
              have := hY.mpr ⟨hnxc, b⟩
              omega
            · intro a
              have hY0 : Y = 0 := Classical.byContradiction fun h => a (hY.mp h).2
              omega
          rw [h9]
        by_cases q4 : isl ≠ 0 ∨ bsd ((vi V (vq V x 0) 3)) ((vi V (vq V x 0) 4)) (tri V (plO V x j)).1 t = -1 ∨ ¬ (((rgv V (vq V ((vq V x 0)) 6) 144)) (bsd ((vi V (vq V x 0) 3)) ((vi V (vq V x 0) 4)) (tri V (plO V x j)).1 t) = 0 ∨ ((rgv V (vq V ((vq V x 0)) 6) 144)) (bsd ((vi V (vq V x 0) 3)) ((vi V (vq V x 0) 4)) (tri V (plO V x j)).1 t) = 1)
        · rw [if_pos q4, if_pos (hiff.mp q4)]
        · rw [if_neg q4, if_neg (fun e => q4 (hiff.mpr e)), q2'.2]
      · have q2' : ¬ (pfo V x j = k ∧ (tri V (plO V x j)).2.1 = 0) := q2
        rw [if_neg (fun e => q2 e.2), if_neg q2']
theorem CAR.h1 (hW : WT K V) (hx : K x = some (0, 10)) (hl : LSN K W V1 o) (hq : nx = -1) (hi : isl ≠ 0) : PLI V x → ∀ b, (∃ j : Nat, (j : Int) < vi V x 6 ∧ b = plO V x j) → tri V1 b = if b = o then (if nx = -1 then vi W o 2 else nx, if isl = 0 then vi W o 5 else 1, if nx = -1 then vi W o 10 else tdy V x) else tri W b := fun hI b ⟨j, hj, e⟩ => by
  have hb : K b = some (0, 3) := by rw [e]; exact (pl_at hW hx hI.1 hj).2.2
  obtain ⟨a1, a2⟩ := hl
  obtain ⟨b1, b2, b3⟩ := a2 b hb
  by_cases q : b = o
  · rw [if_pos q, if_pos hq, if_neg hi, if_pos hq]
    subst q
    unfold tri
    rw [a1, b1, b2]
  · rw [if_neg q]
    unfold tri
    rw [b1, b2, b3 q]
theorem CAR.h3 (e2 : W1 = upd2 W o 2 (ti nx)) (rn : ir nx) (e3 : W2 = upd2 W1 o 10 (ti d)) (hd : d = tdy V x) (rd : ir d) (hq : nx ≠ -1) (hi : isl = 0) : PLI V x → ∀ b, (∃ j : Nat, (j : Int) < vi V x 6 ∧ b = plO V x j) → tri W2 b = if b = o then (if nx = -1 then vi W o 2 else nx, if isl = 0 then vi W o 5 else 1, if nx = -1 then vi W o 10 else tdy V x) else tri W b := fun _ b _ => by
  by_cases q : b = o
  · rw [if_pos q, if_neg hq, if_pos hi, if_neg hq]
    subst q
    unfold tri
    rw [vi_up e3 (Or.inr (by decide)), upd2_int e2 rn, vi_up e3 (Or.inr (by decide)), vi_up e2 (Or.inr (by decide)), upd2_int e3 rd, hd]
  · rw [if_neg q]
    unfold tri
    rw [vi_up e3 (Or.inl q), vi_up e3 (Or.inl q), vi_up e3 (Or.inl q), vi_up e2 (Or.inl q), vi_up e2 (Or.inl q), vi_up e2 (Or.inl q)]
theorem CAR.h2 (hW : WT K V) (hx : K x = some (0, 10)) (e2 : W1 = upd2 W o 2 (ti nx)) (rn : ir nx) (e3 : W2 = upd2 W1 o 10 (ti d)) (hd : d = tdy V x) (rd : ir d) (hl : LSN K W2 V1 o) (hq : nx ≠ -1) (hi : isl ≠ 0) : PLI V x → ∀ b, (∃ j : Nat, (j : Int) < vi V x 6 ∧ b = plO V x j) → tri V1 b = if b = o then (if nx = -1 then vi W o 2 else nx, if isl = 0 then vi W o 5 else 1, if nx = -1 then vi W o 10 else tdy V x) else tri W b := fun hI b ⟨j, hj, e⟩ => by
  have hb : K b = some (0, 3) := by rw [e]; exact (pl_at hW hx hI.1 hj).2.2
  obtain ⟨a1, a2⟩ := hl
  obtain ⟨b1, b2, b3⟩ := a2 b hb
  by_cases q : b = o
  · rw [if_pos q, if_neg hq, if_neg hi, if_neg hq]
    subst q
    unfold tri
    rw [a1, b1, b2, vi_up e3 (Or.inr (by decide)), upd2_int e2 rn, upd2_int e3 rd, hd]
  · rw [if_neg q]
    unfold tri
    rw [b1, b2, b3 q, vi_up e3 (Or.inl q), vi_up e3 (Or.inl q), vi_up e3 (Or.inl q), vi_up e2 (Or.inl q), vi_up e2 (Or.inl q), vi_up e2 (Or.inl q)]
theorem car_today {ws f : Nat} {v : Value} (hF : FR ws K V K W) (hW : WT K V) (hx : K x = some (0, 10)) (b : (!ws.testBit (keyK (0, 10) 0) && !ws.testBit (keyK (0, 0) 0)) = true) (e : W1 = upd2 W o f v) (ho : K o = some (0, 3)) : vi W1 (vq W1 x 0) 0 = tdy V x := by
  rw [Bool.and_eq_true, Bool.not_eq_true', Bool.not_eq_true'] at b
  have h1 := tdy_fr hF ext.rf hW hx b.1 b.2
  have hl := (ld_at hW hx).1
  have e0 : vq W x 0 = vq V x 0 := vq_eq (hF x _ 0 hx hx b.1)
  rw [← h1]
  unfold tdy
  have e1 : vq W1 x 0 = vq W x 0 := vq_up e (Or.inl (K_ne hx ho (by decide)))
  rw [e1]
  exact vi_up e (Or.inl (by rw [e0]; exact K_ne hl ho (by decide)))
theorem std_today {Kn Ki : Kmap} {Vn Vi Va Vb : Vmap} {ws f f' : Nat} {v v' : Value} (hW : WT K V) (hx : K x = some (0, 10)) (hq : K q = none) (hV : ∀ b, b ≠ q → Vn b = V b) (hxn : Kn x = some (0, 10)) (hF : FR ws Kn Vn Ki Vi) (hE2 : ext Kn Ki) (hWn : WT Kn Vn) (b : (!ws.testBit (keyK (0, 10) 0) && !ws.testBit (keyK (0, 0) 0)) = true) (e1 : Va = upd2 Vi q f v) (e2 : Vb = upd2 Va q f' v') (hqi : Ki q = some (0, 3)) (hWi : WT Ki Vi) : vi Vb (vq Vb x 0) 0 = tdy V x := by
  rw [Bool.and_eq_true, Bool.not_eq_true', Bool.not_eq_true'] at b
  have h1 := (tdy_fr hF hE2 hWn hxn b.1 b.2).trans (tdy_nw hW hx hq hV)
  have hxi := hE2.obj (Or.inl (by decide)) hxn
  have hl := (ld_at hWi hxi).1
  have nx : x ≠ q := K_ne hxi hqi (by decide)
  have nl : vq Vi x 0 ≠ q := K_ne hl hqi (by decide)
  have a1 : vq Vb x 0 = vq Vi x 0 := (vq_up e2 (Or.inl nx)).trans (vq_up e1 (Or.inl nx))
  rw [a1, vi_up e2 (Or.inl nl), vi_up e1 (Or.inl nl)]
  exact h1
/-! passStation(), day() -/
def PSC (V V1 : Vmap) (x : Nat) (k : Int) : Prop := PLI V x → 0 ≤ k → k < vi V x 6 → ∀ j : Nat, (j : Int) < vi V x 6 → plv V1 x j = pas ((rgv V (vq V ((vq V x 0)) 6) 144)) ((rgv V (vq V ((vq V x 0)) 7) 144)) ((rgv V (vq V ((vq V x 0)) 8) 144)) ((vi V (vq V x 0) 3)) ((vi V (vq V x 0) 4)) (tdy V x) (pkd V x) (pfo V x) k.toNat (plv V x) j
theorem PSC.no (h : NN 6 5 V x → ¬ STN V x k) : PSC V V x k := fun hI k0 k1 j hj => by
  unfold pas
  rw [if_neg (fun q => h hI.1 ⟨⟨k0, k1, q.1⟩, q.2.1⟩)]
theorem plv_st {j : Nat} (h : pkd V x j = 1) : plv V x j = tri V (plO V x j) := by
  unfold pkd at h
  unfold plv tri
  rw [h, if_pos rfl]
theorem PSC.nc (g : o = plO V x k.toNat ∧ STN V x k) (sm : SMC V V1 x) (hl : l = vq V1 x 0) (c : CRS V1 l (vi V1 o 2) (vi V1 l 0 - vi V1 o 10) X) (hX : X = 0) (ht : tdy V1 x = tdy V x) : PSC V V1 x k := fun hI k0 k1 j hj => by
  subst hl
  obtain ⟨g1, g2, g3, g4⟩ := sm hI
  have hk : ((k.toNat : Nat) : Int) < vi V x 6 := by omega
  have hkd := g.2.1.2.2
  have e1 : tri V1 o = tri V o := by
    have h1 := g3 _ hk
    rw [plv_st hkd, plv_st ((g2.kd hk).trans hkd), g2.plo hk, ← g.1] at h1
    exact h1
  have c2 : vi V1 o 2 = vi V o 2 := congrArg (fun r => r.1) e1
  have c10 : vi V1 o 10 = vi V o 10 := congrArg (fun r => r.2.2) e1
  have ht' : vi V1 (vq V1 x 0) 0 = tdy V x := ht
  unfold CRS at c
  rw [c2, c10, ht', g4.2.2 6 (by decide) (by decide), g4.2.2 7 (by decide) (by decide), g4.2.2 8 (by decide) (by decide)] at c
  rw [g3 j hj]
  unfold pas
  rw [if_neg (fun q => by
    have q3 := q.2.2
    rw [plv_st hkd, ← g.1] at q3
    exact absurd hX (c.mpr q3))]
theorem PSC.go (g : o = plO V x k.toNat ∧ STN V x k) (sm : SMC V V1 x) (hl : l = vq V1 x 0) (c : CRS V1 l (vi V1 o 2) (vi V1 l 0 - vi V1 o 10) X) (hX : X ≠ 0) (ht : tdy V1 x = tdy V x) (r : CAR V1 V2 x k o) : PSC V V2 x k := fun hI k0 k1 j hj => by
  subst hl
  obtain ⟨g1, g2, g3, g4⟩ := sm hI
  have hk : ((k.toNat : Nat) : Int) < vi V x 6 := by omega
  have hkd := g.2.1.2.2
  have e1 : tri V1 o = tri V o := by
    have h1 := g3 _ hk
    rw [plv_st hkd, plv_st ((g2.kd hk).trans hkd), g2.plo hk, ← g.1] at h1
    exact h1
  have c2 : vi V1 o 2 = vi V o 2 := congrArg (fun r => r.1) e1
  have c5 : vi V1 o 5 = vi V o 5 := congrArg (fun r => r.2.1) e1
  have c10 : vi V1 o 10 = vi V o 10 := congrArg (fun r => r.2.2) e1
  have ht' : vi V1 (vq V1 x 0) 0 = tdy V x := ht
  unfold CRS at c
  rw [c2, c10, ht', g4.2.2 6 (by decide) (by decide), g4.2.2 7 (by decide) (by decide), g4.2.2 8 (by decide) (by decide)] at c
  have hc := c.mp hX
  have hl0 : vi V o 5 = 0 := by rw [g.1]; exact g.2.2
  have r1 := r g1 k0 (by rw [g2.1]; exact k1) (by rw [g2.plo hk]; exact g.1) ((g2.kd hk).trans hkd) (c5.trans hl0) (by rw [c2, g4.2.2 7 (by decide) (by decide)]; exact hc.2.1) j (by rw [g2.1]; exact hj)
  rw [c2, ht, g4.1, g4.2.1, g4.2.2 6 (by decide) (by decide), g4.2.2 7 (by decide) (by decide), g2.fo, g3 j hj] at r1
  rw [r1]
  unfold pas
  have ek : plv V x k.toNat = tri V o := by rw [plv_st hkd, ← g.1]
  rw [if_pos (by rw [ek]; exact ⟨hkd, hl0, hc⟩), ek]
  rfl
def PSI (V W : Vmap) (x : Nat) (i : Int) : Prop := PLI V x → PLI W x ∧ PLS V W x ∧ LDS V W x ∧ ∀ j : Nat, (j : Int) < vi V x 6 → plv W x j = pan ((rgv V (vq V ((vq V x 0)) 6) 144)) ((rgv V (vq V ((vq V x 0)) 7) 144)) ((rgv V (vq V ((vq V x 0)) 8) 144)) ((vi V (vq V x 0) 3)) ((vi V (vq V x 0) 4)) (tdy V x + 1) (pkd V x) (pfo V x) (plv V x) i.toNat j
theorem PSI.beg (sm : SMC V W x) : PSI V W x 0 := fun hI => by
  obtain ⟨g1, g2, g3, g4⟩ := sm hI
  exact ⟨g1, g2, g4, fun j hj => g3 j hj⟩
theorem PSI.fr {ws : Nat} (h : PSI V W x i) (hF : FR ws K W K W1) (hW : WT K W) (hx : K x = some (0, 10)) (b1 : psbits ws = true) (b2 : pvbits ws = true) (b3 : ldbits ws = true) : PSI V W1 x i := fun hI => by
  obtain ⟨g1, g2, g3, g4⟩ := h hI
  obtain ⟨k1, k2, k3, k4⟩ := SMC.fr hF ext.rf hW hx b1 b2 b3 g1
  exact ⟨k1, g2.tr k2, g3.tr k4, fun j hj => (k3 j (by rw [g2.1]; exact hj)).trans (g4 j hj)⟩
theorem PSI.step {ws : Nat} (h : PSI V W x i) (g : PSC W W1 x i) (hF : FR ws K W K W1) (hW : WT K W) (hx : K x = some (0, 10)) (b1 : psbits ws = true) (b3 : ldbits ws = true) (hd : tdy W x = tdy V x + 1) (h0 : 0 ≤ i) (hi : i < vi W x 6) (hn : n = i + 1) : PSI V W1 x n := fun hI => by
  obtain ⟨g1, g2, g3, g4⟩ := h hI
  have f1 := PLS.fr hF ext.rf hW hx g1.1 b1
  have f3 := LDS.fr hF ext.rf hW hx b3
  have g' := g g1 h0 hi
  have hw : 0 < (vi W (vq W x 0) 3) := by
    have := (hW.int (ld_at hW hx).1 (j := 3) (Nat.le_of_ble_eq_true rfl) rfl).2
    omega
  have hN : (((vi W x 6).toNat : Nat) : Int) = vi W x 6 := by omega
  refine ⟨g1.same f1 f3 (fun q hq => ?_), g2.tr f1, g3.tr f3, fun j hj => ?_⟩
  · rw [g' q hq]
    exact pas_rg (n := (vi W x 6).toNat) hw (fun u hu => g1.2.2.1 u (by omega)) q (by omega)
  · have hj' : (j : Int) < vi W x 6 := by rw [g2.1]; exact hj
    rw [g' j hj', hn, show (i + 1).toNat = i.toNat + 1 by omega]
    show _ = pas _ _ _ _ _ _ _ _ i.toNat (pan _ _ _ _ _ _ _ _ _ i.toNat) j
    rw [hd, g3.1, g3.2.1, g3.2.2 6 (by decide) (by decide), g3.2.2 7 (by decide) (by decide), g3.2.2 8 (by decide) (by decide)]
    refine pas_cong (n := (vi V x 6).toNat) (by have := g2.1; omega) (fun u hu => g2.kd (by omega)) (fun u _ => g2.fo u) (fun u hu => g4 u (by omega)) j (by omega)
theorem PSI.at (h : PSI V W x i) (hi : vi W x 6 ≤ i) (h2 : i ≤ vi W x 6) : PSI V W x (vi V x 6) := fun hI => by
  have h1 := h hI
  have e := h1.2.1.1
  have ei : i = vi V x 6 := by omega
  subst ei
  exact h1
def DYP (V V1 : Vmap) (x : Nat) (X : Int) : Prop := (X = -1 ∧ V1 = V) ∨ (X ≠ -1 ∧ PSI V V1 x (vi V x 6))
end PE
