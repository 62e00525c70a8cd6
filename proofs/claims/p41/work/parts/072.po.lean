/-! ### the ice carries, on the reference's side -/
section PO
variable {K K1 K2 : Kmap} {V V0 V1 V2 V3 V4 W W1 W2 : Vmap} {m : Nat} {i j n s d t w h z X Y Z k u c p a nx : Int}
/-! loses() -/
def MLO (V V1 : Vmap) (m : Nat) (k : Int) : Prop := 0 ≤ k → ∀ j : Nat, ar 28 V1 m j = if j = k.toNat ∨ mfo V m j = k then 1 else ar 28 V m j
def MLL (V W : Vmap) (m : Nat) (k i : Int) : Prop := 0 ≤ k → ∀ j : Nat, ar 28 W m j = if j = k.toNat ∨ ((j : Int) < i ∧ mfo V m j = k) then 1 else ar 28 V m j
theorem MLL.beg {q : Nat} (e : ar 28 W m = updf (ar 28 V m) q 1) (hq : 0 ≤ k → q = k.toNat) : MLL V W m k 0 := fun k0 j => by
  rw [e]
  by_cases e2 : j = k.toNat
  · rw [if_pos (Or.inl e2), e2, hq k0, updf_at]
  · rw [if_neg (fun q => by rcases q with q | q; exact e2 q; have := q.1; omega), updf_of (by rw [hq k0]; exact e2)]
theorem mfo_no (h : ar 13 V m i.toNat ≠ 2 ∨ ar 17 V m i.toNat ≠ k) (h0 : 0 ≤ i) (k0 : 0 ≤ k) : ¬ mfo V m i.toNat = k := fun q => by
  unfold mfo at q
  by_cases e : ((i.toNat : Nat) : Int) < vi V m 10 ∧ ar 13 V m i.toNat = 2
  · rw [if_pos e] at q
    rcases h with h | h
    · exact h e.2
    · exact h q
  · rw [if_neg e] at q
    omega
theorem mfo_ok (h0 : 0 ≤ i) (h1 : i < vi V m 10) (h : ar 13 V m i.toNat = 2) : mfo V m i.toNat = ar 17 V m i.toNat := by
  unfold mfo
  rw [if_pos ⟨by omega, h⟩]
theorem MLL.skip (g : MLL V W m k i) (h0 : 0 ≤ i) (f : MPS V W m) (h : vi W (vq W m 13) i.toNat ≠ 2 ∨ vi W (vq W m 17) i.toNat ≠ k) (e : ar 28 W1 m = ar 28 W m) (hn : n = i + 1) : MLL V W1 m k n := fun k0 j => by
  have hno : ¬ mfo V m i.toNat = k := mfo_no (by rw [← f.2.2.1, ← f.2.2.2.2.2]; exact h) h0 k0
  rw [e, g k0 j]
  by_cases q : j = i.toNat
  · subst q
    by_cases q1 : i.toNat = k.toNat
    · rw [if_pos (Or.inl q1), if_pos (Or.inl q1)]
    · rw [if_neg (fun e => by rcases e with e | e; exact q1 e; exact hno e.2), if_neg (fun e => by rcases e with e | e; exact q1 e; exact hno e.2)]
  · by_cases q1 : j = k.toNat ∨ ((j : Int) < i ∧ mfo V m j = k)
    · rw [if_pos q1, if_pos (q1.imp id (fun e => ⟨by omega, e.2⟩))]
    · rw [if_neg q1, if_neg (fun e => q1 (e.imp id (fun e => ⟨by omega, e.2⟩)))]
theorem MLL.hit {q : Nat} (g : MLL V W m k i) (h0 : 0 ≤ i) (f : MPS V W m) (hi : i < vi W m 10) (h : vi W (vq W m 13) i.toNat = 2) (h' : vi W (vq W m 17) i.toNat = k) (e : ar 28 W1 m = updf (ar 28 W m) q 1) (hq : q = i.toNat) (hn : n = i + 1) : MLL V W1 m k n := fun k0 j => by
  have hok : mfo V m i.toNat = k := by
    rw [mfo_ok h0 (by rw [← f.1]; exact hi) (by rw [← f.2.2.1]; exact h), ← f.2.2.2.2.2]
    exact h'
  rw [e]
  by_cases q1 : j = i.toNat
  · subst hq
    rw [q1, updf_at, if_pos (Or.inr ⟨by omega, hok⟩)]
  · rw [updf_of (by rw [hq]; exact q1), g k0 j]
    by_cases q2 : j = k.toNat ∨ ((j : Int) < i ∧ mfo V m j = k)
    · rw [if_pos q2, if_pos (q2.imp id (fun e => ⟨by omega, e.2⟩))]
    · rw [if_neg q2, if_neg (fun e => q2 (e.imp id (fun e => ⟨by omega, e.2⟩)))]
theorem MLL.end (g : MLL V W m k i) (f : MPS V W m) (hi : vi W m 10 ≤ i) : MLO V W m k := fun k0 j => by
  rw [g k0 j]
  by_cases q : j = k.toNat ∨ mfo V m j = k
  · have : j = k.toNat ∨ ((j : Int) < i ∧ mfo V m j = k) := by
      rcases q with q | q
      · exact Or.inl q
      · refine Or.inr ⟨?_, q⟩
        refine Classical.byContradiction fun e => ?_
        unfold mfo at q
        rw [if_neg (fun e2 => by have := e2.1; have := f.1; omega)] at q
        omega
    rw [if_pos q, if_pos this]
  · rw [if_neg q, if_neg (fun e => q (e.imp id (fun e => e.2)))]
/-! flows() -/
def mtr (V : Vmap) (m j : Nat) : Int × Int × Int := (ar 15 V m j, ar 28 V m j, ar 18 V m j)
/-- a field, as the reference carries it -/
def fmw (G : Int → Int) (w h t : Int) (v : Int × Int × Int) : Int × Int × Int := (if bsd w h v.1 t = -1 then v.1 else bsd w h v.1 t, if bsd w h v.1 t = -1 ∨ ¬ (G (bsd w h v.1 t) = 0 ∨ G (bsd w h v.1 t) = 1) then 1 else 0, v.2.2)
def FLI' (V W : Vmap) (m : Nat) (k t nx i : Int) : Prop := 0 ≤ k → mfo V m k.toNat ≠ k → ∀ j : Nat, mtr W m j = if j = k.toNat then (nx, ar 28 V m j, vi V m 2) else if (j : Int) < i ∧ mfo V m j = k ∧ ar 28 V m j = 0 then fmw ((rgv V (vq V m 6) 144)) (vi V m 0) (vi V m 1) t (mtr V m j) else mtr V m j
theorem FLI'.beg {q r : Nat} (e15 : ar 15 W m = updf (ar 15 V m) q nx) (e18 : ar 18 W m = updf (ar 18 V m) r d) (e28 : ar 28 W m = ar 28 V m) (hq : 0 ≤ k → q = k.toNat) (hr : 0 ≤ k → r = k.toNat) (hd : d = vi V m 2) : FLI' V W m k t nx 0 := fun k0 _ j => by
  unfold mtr
  rw [e15, e18, e28, hq k0, hr k0, hd]
  by_cases e2 : j = k.toNat
  · rw [if_pos e2, e2, updf_at, updf_at]
  · rw [if_neg e2, if_neg (fun e => by have := e.1; omega), updf_of e2, updf_of e2]
theorem mtr_eq (e15 : ar 15 W1 m = ar 15 W m) (e18 : ar 18 W1 m = ar 18 W m) (e28 : ar 28 W1 m = ar 28 W m) (j : Nat) : mtr W1 m j = mtr W m j := by
  unfold mtr
  rw [e15, e18, e28]
theorem FLI'.skip (g : FLI' V W m k t nx i) (h0 : 0 ≤ i) (f : MPS V W m) (h : vi W (vq W m 13) i.toNat ≠ 2 ∨ vi W (vq W m 17) i.toNat ≠ k ∨ vi W (vq W m 28) i.toNat ≠ 0) (e15 : ar 15 W1 m = ar 15 W m) (e18 : ar 18 W1 m = ar 18 W m) (e28 : ar 28 W1 m = ar 28 W m) (hn : n = i + 1) : FLI' V W1 m k t nx n := fun k0 kf j => by
  rw [mtr_eq e15 e18 e28, g k0 kf j]
  by_cases q : j = k.toNat
  · rw [if_pos q, if_pos q]
  · rw [if_neg q, if_neg q]
    by_cases q1 : j = i.toNat
    · have hno : ¬ (mfo V m j = k ∧ ar 28 V m j = 0) := fun e => by
        rcases h with h | h | h
        · exact mfo_no (Or.inl (by rw [← f.2.2.1]; exact h)) h0 k0 (by rw [← q1]; exact e.1)
        · exact mfo_no (Or.inr (by rw [← f.2.2.2.2.2]; exact h)) h0 k0 (by rw [← q1]; exact e.1)
        · have h1 := g k0 kf j
          rw [if_neg q, if_neg (fun e => by have := e.1; omega)] at h1
          have h2 : ar 28 W m j = ar 28 V m j := congrArg (fun r => r.2.1) h1
          have h3 : ar 28 W m i.toNat ≠ 0 := h
          rw [← q1, h2] at h3
          exact h3 e.2
      rw [if_neg (fun e => hno e.2), if_neg (fun e => hno e.2)]
    · by_cases q2 : (j : Int) < i ∧ mfo V m j = k ∧ ar 28 V m j = 0
      · rw [if_pos q2, if_pos ⟨by omega, q2.2⟩]
      · rw [if_neg q2, if_neg (fun e => q2 ⟨by omega, e.2⟩)]
theorem FLI'.hit {q r : Nat} {l y e : Int} (g : FLI' V W m k t nx i) (h0 : 0 ≤ i) (f : MPS V W m) (fl : MLD V W m) (hi : i < vi W m 10) (h : vi W (vq W m 13) i.toNat = 2) (h' : vi W (vq W m 17) i.toNat = k) (h3 : vi W (vq W m 28) i.toNat = 0) (hb : l = bsd (vi W m 0) (vi W m 1) (vi W (vq W m 15) i.toNat) t) (hy : (y = 1 ∧ (l = -1 ∨ ¬ (((rgv W (vq W m 6) 144)) l = 0 ∨ ((rgv W (vq W m 6) 144)) l = 1))) ∨ (y = 0 ∧ l ≠ -1 ∧ (((rgv W (vq W m 6) 144)) l = 0 ∨ ((rgv W (vq W m 6) 144)) l = 1))) (he : (l = -1 ∧ e = vi W (vq W m 15) i.toNat) ∨ (l ≠ -1 ∧ e = l)) (e15 : ar 15 W1 m = updf (ar 15 W m) q e) (e18 : ar 18 W1 m = ar 18 W m) (e28 : ar 28 W1 m = updf (ar 28 W m) r y) (hq : q = i.toNat) (hr : r = i.toNat) (hn : n = i + 1) : FLI' V W1 m k t nx n := fun k0 kf j => by
  have hok : mfo V m i.toNat = k := by
    rw [mfo_ok h0 (by rw [← f.1]; exact hi) (by rw [← f.2.2.1]; exact h), ← f.2.2.2.2.2]
    exact h'
  have hik : i.toNat ≠ k.toNat := fun q => kf (by rw [← q]; exact hok)
  have h1 := g k0 kf i.toNat
  rw [if_neg hik, if_neg (fun e => by have := e.1; omega)] at h1
  have a15 : ar 15 W m i.toNat = ar 15 V m i.toNat := congrArg (fun r => r.1) h1
  have a28 : ar 28 W m i.toNat = ar 28 V m i.toNat := congrArg (fun r => r.2.1) h1
  have a18 : ar 18 W m i.toNat = ar 18 V m i.toNat := congrArg (fun r => r.2.2) h1
  have c15 : vi W (vq W m 15) i.toNat = ar 15 V m i.toNat := a15
  have c28 : vi W (vq W m 28) i.toNat = ar 28 V m i.toNat := a28
  rw [c15, fl.1, fl.2.1] at hb
  rw [fl.2.2 6 (by decide) (by decide)] at hy
  rw [c15] at he
  rw [c28] at h3
  by_cases q1 : j = i.toNat
  · subst hq hr
    rw [q1, if_neg hik, if_pos ⟨by omega, hok, h3⟩]
    unfold mtr fmw
    rw [e15, e18, e28, updf_at, updf_at, a18]
    show (e, y, _) = (if bsd (vi V m 0) (vi V m 1) (ar 15 V m i.toNat) t = -1 then _ else _, _, _)
    rw [← hb]
    have p1 : e = if l = -1 then ar 15 V m i.toNat else l := by
      rcases he with ⟨b1, b2⟩ | ⟨b1, b2⟩
      · rw [if_pos b1, b2]
      · rw [if_neg b1, b2]
    have p2 : y = if l = -1 ∨ ¬ (((rgv V (vq V m 6) 144)) l = 0 ∨ ((rgv V (vq V m 6) 144)) l = 1) then 1 else 0 := by
      rcases hy with ⟨b1, b2⟩ | ⟨b1, b2, b3⟩
      · rw [if_pos b2, b1]
      · rw [if_neg (fun q => by rcases q with q | q; exact b2 q; exact q b3), b1]
    rw [← p1, ← p2]
  · have em : mtr W1 m j = mtr W m j := by
      unfold mtr
      rw [e15, e18, e28, updf_of (by rw [hq]; exact q1), updf_of (by rw [hr]; exact q1)]
    rw [em, g k0 kf j]
    by_cases q : j = k.toNat
    · rw [if_pos q, if_pos q]
    · rw [if_neg q, if_neg q]
      by_cases q2 : (j : Int) < i ∧ mfo V m j = k ∧ ar 28 V m j = 0
      · rw [if_pos q2, if_pos ⟨by omega, q2.2⟩]
      · rw [if_neg q2, if_neg (fun e => q2 ⟨by omega, e.2⟩)]
def FLO (V V1 : Vmap) (m : Nat) (k : Int) : Prop := 0 ≤ k → k < vi V m 10 → ar 13 V m k.toNat = 1 → ar 28 V m k.toNat = 0 → (∀ j : Nat, 0 ≤ ar 28 V m j ∧ ar 28 V m j ≤ 1 ∨ mfo V m j ≠ k) → ∀ j : Nat, mlv V1 m j = if (((rgv V (vq V m 6) 144)) (mlv V m k.toNat).1 = 0 ∧ ((rgv V (vq V m 7) 144)) (mlv V m k.toNat).1 ≠ -1 ∧ ((rgv V (vq V m 8) 144)) (mlv V m k.toNat).1 ≤ (vi V m 2) - (mlv V m k.toNat).2.2) then cry ((rgv V (vq V m 6) 144)) (vi V m 0) (vi V m 1) (vi V m 2) (ar 15 V m k.toNat) ((rgv V (vq V m 7) 144) (ar 15 V m k.toNat)) k.toNat j (mfo V m j) (mlv V m j) else mlv V m j
theorem mlv_tr (f : MPS V V1 m) (j : Nat) : mlv V1 m j = ((mtr V1 m j).1, (mtr V1 m j).2.1, if ar 13 V m j = 1 then (mtr V1 m j).2.2 else 0) := by
  unfold mlv mtr
  rw [f.2.2.1]
theorem FLO.no (h0 : 0 ≤ c ∧ c ≤ 143) (hc : c = vi V (vq V m 15) k.toNat) (h : vi V (vq V m 6) c.toNat ≠ 0 ∨ vi V (vq V m 7) c.toNat = -1 ∨ vi V m 2 - vi V (vq V m 18) k.toNat < vi V (vq V m 8) c.toNat) : FLO V V m k := fun k0 k1 hk hl _ j => by
  have e : mlv V m k.toNat = (c, 0, ar 18 V m k.toNat) := by
    unfold mlv
    rw [hk, if_pos rfl, hl, hc]
    rfl
  have e6 : (rgv V (vq V m 6) 144) c = vi V (vq V m 6) c.toNat := rwI_in h0.1 h0.2
  have e7 : (rgv V (vq V m 7) 144) c = vi V (vq V m 7) c.toNat := rwI_in h0.1 h0.2
  have e8 : (rgv V (vq V m 8) 144) c = vi V (vq V m 8) c.toNat := rwI_in h0.1 h0.2
  have e18 : ar 18 V m k.toNat = vi V (vq V m 18) k.toNat := rfl
  rw [if_neg (fun q => by
    rw [e] at q
    obtain ⟨q1, q2, q3⟩ := q
    simp only at q1 q2 q3
    rw [e6] at q1
    rw [e7] at q2
    rw [e8, e18] at q3
    omega)]
theorem flo_cnd (h0 : 0 ≤ c ∧ c ≤ 143) (hc : c = vi V (vq V m 15) k.toNat) (h : vi V (vq V m 6) c.toNat = 0 ∧ vi V (vq V m 7) c.toNat ≠ -1 ∧ vi V (vq V m 8) c.toNat ≤ vi V m 2 - vi V (vq V m 18) k.toNat) (hk : ar 13 V m k.toNat = 1) : (((rgv V (vq V m 6) 144)) (mlv V m k.toNat).1 = 0 ∧ ((rgv V (vq V m 7) 144)) (mlv V m k.toNat).1 ≠ -1 ∧ ((rgv V (vq V m 8) 144)) (mlv V m k.toNat).1 ≤ (vi V m 2) - (mlv V m k.toNat).2.2) := by
  have e : mlv V m k.toNat = (c, ar 28 V m k.toNat, ar 18 V m k.toNat) := by
    unfold mlv
    rw [hk, if_pos rfl, hc]
    rfl
  have e6 : (rgv V (vq V m 6) 144) c = vi V (vq V m 6) c.toNat := rwI_in h0.1 h0.2
  have e7 : (rgv V (vq V m 7) 144) c = vi V (vq V m 7) c.toNat := rwI_in h0.1 h0.2
  have e8 : (rgv V (vq V m 8) 144) c = vi V (vq V m 8) c.toNat := rwI_in h0.1 h0.2
  rw [e]
  exact ⟨by simp only; rw [e6]; exact h.1, by simp only; rw [e7]; exact h.2.1, by simp only; rw [e8]; exact h.2.2⟩
/-- it leaves the ice -/
theorem FLO.out (h0 : 0 ≤ c ∧ c ≤ 143) (hc : c = vi V (vq V m 15) k.toNat) (h : vi V (vq V m 6) c.toNat = 0 ∧ vi V (vq V m 7) c.toNat ≠ -1 ∧ vi V (vq V m 8) c.toNat ≤ vi V m 2 - vi V (vq V m 18) k.toNat) (hm : X = bsd (vi V m 0) (vi V m 1) c (vi V (vq V m 7) c.toNat)) (hX : X = -1) (f : MPS V V1 m) (g : MLO V V1 m k) (e15 : ar 15 V1 m = ar 15 V m) (e18 : ar 18 V1 m = ar 18 V m) : FLO V V1 m k := fun k0 k1 hk hl hb j => by
  have e7 : (rgv V (vq V m 7) 144) c = vi V (vq V m 7) c.toNat := rwI_in h0.1 h0.2
  have ec : ar 15 V m k.toNat = c := hc.symm
  rw [if_pos (flo_cnd h0 hc h hk), ec, e7]
  unfold cry
  rw [← hm, if_pos hX, mlv_tr f j]
  unfold mtr
  rw [e15, e18, g k0 j]
  have ek : ((k.toNat : Nat) : Int) = k := Int.toNat_of_nonneg k0
  rw [ek]
  by_cases q : j = k.toNat ∨ mfo V m j = k
  · rw [if_pos q, if_pos q]
    rfl
  · rw [if_neg q, if_neg q]
    rfl
/-- it goes to another cell -/
theorem FLO.go (h0 : 0 ≤ c ∧ c ≤ 143) (hc : c = vi V (vq V m 15) k.toNat) (h : vi V (vq V m 6) c.toNat = 0 ∧ vi V (vq V m 7) c.toNat ≠ -1 ∧ vi V (vq V m 8) c.toNat ≤ vi V m 2 - vi V (vq V m 18) k.toNat) (hm : X = bsd (vi V m 0) (vi V m 1) c (vi V (vq V m 7) c.toNat)) (hX : X ≠ -1) (f : MPS V V1 m) (g : FLI' V W m k (vi V (vq V m 7) c.toNat) X i) (hi : vi V m 10 ≤ i) (e15 : ar 15 V1 m = ar 15 W m) (e18 : ar 18 V1 m = ar 18 W m) (hY : Y ≠ 0 ↔ (((rgv V (vq V m 6) 144)) X = 0 ∨ ((rgv V (vq V m 6) 144)) X = 1)) (hl2 : (Y ≠ 0 ∧ ar 28 V1 m = ar 28 W m) ∨ (Y = 0 ∧ MPS V W m ∧ MLO W V1 m k)) : FLO V V1 m k := fun k0 k1 hk hl hb j => by
  have e7 : (rgv V (vq V m 7) 144) c = vi V (vq V m 7) c.toNat := rwI_in h0.1 h0.2
  have ec : ar 15 V m k.toNat = c := hc.symm
  have ek : ((k.toNat : Nat) : Int) = k := Int.toNat_of_nonneg k0
  have kf : mfo V m k.toNat ≠ k := fun q => by
    unfold mfo at q
    rw [if_neg (fun e => by have := e.2; omega)] at q
    omega
  have hj := g k0 kf j
  rw [if_pos (flo_cnd h0 hc h hk), ec, e7]
  unfold cry
  rw [← hm, if_neg hX, ek, mlv_tr f j]
  have m1 : (mtr V1 m j).1 = (mtr W m j).1 := congrFun e15 j
  have m3 : (mtr V1 m j).2.2 = (mtr W m j).2.2 := congrFun e18 j
  have m2 : (mtr V1 m j).2.1 = if Y ≠ 0 then (mtr W m j).2.1 else if j = k.toNat ∨ mfo V m j = k then 1 else (mtr W m j).2.1 := by
    rcases hl2 with ⟨a1, a2⟩ | ⟨a1, a2, a3⟩
    · rw [if_pos a1]
      exact congrFun a2 j
    · rw [if_neg (fun q => q a1)]
      have h9 := a3 k0 j
      rw [a2.fo] at h9
      exact h9
  rw [m1, m2, m3, hj]
  by_cases q : j = k.toNat
  · rw [if_pos q, if_pos q, if_pos (show ar 13 V m j = 1 by rw [q]; exact hk)]
    by_cases q2 : (((rgv V (vq V m 6) 144)) X = 0 ∨ ((rgv V (vq V m 6) 144)) X = 1)
    · rw [if_pos (hY.mpr q2), if_pos q2]
      rfl
    · have hY0 : Y = 0 := Classical.byContradiction fun e => q2 (hY.mp e)
      rw [if_neg (fun e => e hY0), if_neg q2, if_pos (Or.inl q)]
  · rw [if_neg q, if_neg q]
    by_cases q2 : mfo V m j = k ∧ ar 28 V m j = 0
    · have hji : (j : Int) < i := by
        refine Classical.byContradiction fun e => ?_
        have q3 := q2.1
        unfold mfo at q3
        rw [if_neg (fun e2 => by have := e2.1; omega)] at q3
        omega
      have q2' : mfo V m j = k ∧ (mlv V m j).2.1 = 0 := q2
      rw [if_pos ⟨hji, q2⟩, if_pos q2']
      have e3 : mlv V m j = ((mtr V m j).1, (mtr V m j).2.1, if ar 13 V m j = 1 then (mtr V m j).2.2 else 0) := rfl
      have hl3 : (if Y ≠ 0 then (fmw ((rgv V (vq V m 6) 144)) (vi V m 0) (vi V m 1) (vi V (vq V m 7) c.toNat) (mtr V m j)).2.1 else if j = k.toNat ∨ mfo V m j = k then 1 else (fmw ((rgv V (vq V m 6) 144)) (vi V m 0) (vi V m 1) (vi V (vq V m 7) c.toNat) (mtr V m j)).2.1) = if ¬ (((rgv V (vq V m 6) 144)) X = 0 ∨ ((rgv V (vq V m 6) 144)) X = 1) ∨ bsd (vi V m 0) (vi V m 1) (mtr V m j).1 (vi V (vq V m 7) c.toNat) = -1 ∨ ¬ (((rgv V (vq V m 6) 144)) (bsd (vi V m 0) (vi V m 1) (mtr V m j).1 (vi V (vq V m 7) c.toNat)) = 0 ∨ ((rgv V (vq V m 6) 144)) (bsd (vi V m 0) (vi V m 1) (mtr V m j).1 (vi V (vq V m 7) c.toNat)) = 1) then 1 else 0 := by
        by_cases q4 : (((rgv V (vq V m 6) 144)) X = 0 ∨ ((rgv V (vq V m 6) 144)) X = 1)
        · rw [if_pos (hY.mpr q4)]
          unfold fmw
          by_cases q5 : bsd (vi V m 0) (vi V m 1) (mtr V m j).1 (vi V (vq V m 7) c.toNat) = -1 ∨ ¬ (((rgv V (vq V m 6) 144)) (bsd (vi V m 0) (vi V m 1) (mtr V m j).1 (vi V (vq V m 7) c.toNat)) = 0 ∨ ((rgv V (vq V m 6) 144)) (bsd (vi V m 0) (vi V m 1) (mtr V m j).1 (vi V (vq V m 7) c.toNat)) = 1)
          · rw [if_pos (Or.inr q5)]
            show (if _ then (1 : Int) else 0) = 1
            rw [if_pos q5]
          · have q6 : ¬ (¬ (((rgv V (vq V m 6) 144)) X = 0 ∨ ((rgv V (vq V m 6) 144)) X = 1) ∨ bsd (vi V m 0) (vi V m 1) (mtr V m j).1 (vi V (vq V m 7) c.toNat) = -1 ∨ ¬ (((rgv V (vq V m 6) 144)) (bsd (vi V m 0) (vi V m 1) (mtr V m j).1 (vi V (vq V m 7) c.toNat)) = 0 ∨ ((rgv V (vq V m 6) 144)) (bsd (vi V m 0) (vi V m 1) (mtr V m j).1 (vi V (vq V m 7) c.toNat)) = 1)) := fun e => by rcases e with e | e; exact e q4; exact q5 e
            rw [if_neg q6]
            show (if _ then (1 : Int) else 0) = 0
            rw [if_neg q5]
        · have hY0 : Y = 0 := Classical.byContradiction fun e => q4 (hY.mp e)
          rw [if_neg (fun e => e hY0), if_pos (Or.inr q2.1), if_pos (Or.inl q4)]
      rw [hl3]
      rfl
    · have q2' : ¬ (mfo V m j = k ∧ (mlv V m j).2.1 = 0) := q2
      rw [if_neg (fun e => q2 e.2), if_neg q2']
      show ((mtr V m j).1, _, _) = ((mtr V m j).1, (mtr V m j).2.1, _)
      have e5 : (if Y ≠ 0 then (mtr V m j).2.1 else if j = k.toNat ∨ mfo V m j = k then 1 else (mtr V m j).2.1) = (mtr V m j).2.1 := by
        by_cases q5 : Y ≠ 0
        · rw [if_pos q5]
        · rw [if_neg q5]
          by_cases q6 : j = k.toNat ∨ mfo V m j = k
          · rw [if_pos q6]
            have q7 := q6.resolve_left q
            have q8 : (mtr V m j).2.1 ≠ 0 := fun e => q2 ⟨q7, e⟩
            rcases hb j with hb | hb
            · have hb' : 0 ≤ (mtr V m j).2.1 ∧ (mtr V m j).2.1 ≤ 1 := hb
              omega
            · exact absurd q7 hb
          · rw [if_neg q6]
      rw [e5]
      rfl
/-! day() -/
def MDI (V W : Vmap) (m : Nat) (i : Int) : Prop := MPS V W m ∧ MLD V W m ∧ ∀ j : Nat, mlv W m j = pan ((rgv V (vq V m 6) 144)) ((rgv V (vq V m 7) 144)) ((rgv V (vq V m 8) 144)) (vi V m 0) (vi V m 1) (vi V m 2 + 1) (ar 13 V m) (mfo V m) (mlv V m) i.toNat j
theorem MDI.beg (g : MSM V W m) : MDI V W m 0 := ⟨g.1, g.2.2, fun j => g.2.1.mv g.1 j⟩
theorem MDI.fr {ws : Nat} (h : MDI V W m i) (hF : FR ws K W K W1) (hW : WT K W) (hm : K m = some (0, 11)) (b1 : mpbits ws = true) (b2 : mvbits ws = true) (b3 : mlbits ws = true) : MDI V W1 m i := by
  obtain ⟨g1, g2, g3⟩ := h
  obtain ⟨k1, k2, k3⟩ := MSM.fr hF ext.rf hW hm b1 b2 b3
  exact ⟨g1.tr k1, g2.tr k3, fun j => (k2.mv k1 j).trans (g3 j)⟩
theorem MDI.skip (h : MDI V W m i) (g : Y ≠ 0 ↔ MSN W m i) (hY : Y = 0) (h0 : 0 ≤ i) (hi : i < vi W m 10) (hn : n = i + 1) : MDI V W m n := by
  obtain ⟨g1, g2, g3⟩ := h
  refine ⟨g1, g2, fun j => ?_⟩
  rw [g3 j, hn, show (i + 1).toNat = i.toNat + 1 by omega]
  show _ = pas _ _ _ _ _ _ _ _ i.toNat (pan _ _ _ _ _ _ _ _ _ i.toNat) j
  unfold pas
  rw [if_neg (fun q => by
    have q1 := q.1
    have q2 := q.2.1
    rw [← g3 i.toNat] at q2
    rw [← g1.2.2.1] at q1
    exact absurd hY (g.mpr ⟨⟨h0, hi, q1⟩, q2⟩))]
theorem MDI.step {ws : Nat} (h : MDI V W m i) (g : Y ≠ 0 ↔ MSN W m i) (hY : Y ≠ 0) (h0 : 0 ≤ i) (sm : MSM W W1 m) (hd : vi W1 m 2 = vi V m 2 + 1) (hl : FLO W1 W2 m i) (hF : FR ws K W1 K W2) (hW1 : WT K W1) (hm : K m = some (0, 11)) (b1 : mpbits ws = true) (b3 : mlbits ws = true) (hn : n = i + 1) : MDI V W2 m n := by
  obtain ⟨g1, g2, g3⟩ := h
  obtain ⟨s1, s2, s3⟩ := sm
  have f1 := MPS.fr hF ext.rf hW1 hm b1
  have f3 := MLD.fr hF ext.rf hW1 hm b3
  obtain ⟨⟨p1, p2, p3⟩, p4⟩ := g.mp hY
  have t1 := g1.tr s1
  have t3 := g2.tr s3
  have hl' := hl h0 (by rw [s1.1]; exact p2) (by rw [s1.2.2.1]; exact p3) (by rw [s2.2.2]; exact p4) (fun j => by
    by_cases q : j < 60
    · refine Or.inl ?_
      obtain ⟨N, hN⟩ := (hW1.ref hm (j := 28) (Nat.le_of_ble_eq_true rfl) rfl).2
      have e : N = 60 := by
        rcases (hW1.len hN).2.2 with e | e
        · exact absurd e (by decide)
        · exact e
      subst e
      exact (hW1.int hN (j := j) (show j < 60 from q) rfl).2
    · refine Or.inr fun e => ?_
      have h10 := (hW1.int hm (j := 10) (Nat.le_of_ble_eq_true rfl) rfl).2
      unfold mfo at e
      rw [if_neg (fun e2 => by have := e2.1; omega)] at e
      omega)
  refine ⟨t1.tr f1, t3.tr f3, fun j => ?_⟩
  have hv : ∀ q, mlv W1 m q = pan ((rgv V (vq V m 6) 144)) ((rgv V (vq V m 7) 144)) ((rgv V (vq V m 8) 144)) (vi V m 0) (vi V m 1) (vi V m 2 + 1) (ar 13 V m) (mfo V m) (mlv V m) i.toNat q := fun q => (s2.mv s1 q).trans (g3 q)
  have e15 : ar 15 W1 m i.toNat = (mlv W1 m i.toNat).1 := rfl
  rw [hl' j, hd, t3.1, t3.2.1, t3.2.2 6 (by decide) (by decide), t3.2.2 7 (by decide) (by decide), t3.2.2 8 (by decide) (by decide), t1.fo, e15, hv i.toNat, hv j, hn, show (i + 1).toNat = i.toNat + 1 by omega]
  show _ = pas _ _ _ _ _ _ _ _ i.toNat (pan _ _ _ _ _ _ _ _ _ i.toNat) j
  unfold pas
  have k1 : ar 13 V m i.toNat = 1 := by rw [← g1.2.2.1]; exact p3
  have k2 : (pan ((rgv V (vq V m 6) 144)) ((rgv V (vq V m 7) 144)) ((rgv V (vq V m 8) 144)) (vi V m 0) (vi V m 1) (vi V m 2 + 1) (ar 13 V m) (mfo V m) (mlv V m) i.toNat i.toNat).2.1 = 0 := by rw [← g3]; exact p4
  by_cases q : (((rgv V (vq V m 6) 144)) (pan ((rgv V (vq V m 6) 144)) ((rgv V (vq V m 7) 144)) ((rgv V (vq V m 8) 144)) (vi V m 0) (vi V m 1) (vi V m 2 + 1) (ar 13 V m) (mfo V m) (mlv V m) i.toNat i.toNat).1 = 0 ∧ ((rgv V (vq V m 7) 144)) (pan ((rgv V (vq V m 6) 144)) ((rgv V (vq V m 7) 144)) ((rgv V (vq V m 8) 144)) (vi V m 0) (vi V m 1) (vi V m 2 + 1) (ar 13 V m) (mfo V m) (mlv V m) i.toNat i.toNat).1 ≠ -1 ∧ ((rgv V (vq V m 8) 144)) (pan ((rgv V (vq V m 6) 144)) ((rgv V (vq V m 7) 144)) ((rgv V (vq V m 8) 144)) (vi V m 0) (vi V m 1) (vi V m 2 + 1) (ar 13 V m) (mfo V m) (mlv V m) i.toNat i.toNat).1 ≤ (vi V m 2 + 1) - (pan ((rgv V (vq V m 6) 144)) ((rgv V (vq V m 7) 144)) ((rgv V (vq V m 8) 144)) (vi V m 0) (vi V m 1) (vi V m 2 + 1) (ar 13 V m) (mfo V m) (mlv V m) i.toNat i.toNat).2.2)
  · rw [if_pos q, if_pos ⟨k1, k2, q⟩]
  · rw [if_neg q, if_neg (fun e => q e.2.2)]
theorem MDI.at (h : MDI V W m i) (hi : vi W m 10 ≤ i) (h2 : i ≤ vi W m 10) : MDI V W m (vi V m 10) := by
  have e := h.1.1
  have ei : i = vi V m 10 := by omega
  rw [← ei]
  exact h
def MDY (V V1 : Vmap) (m : Nat) (X : Int) : Prop := (X = -1 ∧ V1 = V) ∨ (X ≠ -1 ∧ MDI V V1 m (vi V m 10))
end PO
