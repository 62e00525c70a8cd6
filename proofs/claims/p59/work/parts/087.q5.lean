/-! ### stations and ships: the reference's -/
section Q5
variable {K K0 K1 K2 : Kmap} {V V0 V1 V2 V3 W W1 W2 : Vmap} {x m o t q f N s l : Nat} {i j n k e d p a b w z y v X Y Z Q R P D room cov need u : Int} {r g c c' : Nat → Int} {A B : Nat → Int} {pr : Int × (Nat → Int)}
theorem as_s {k : Nat} (e : B = A) (hv : v = A k) (j : Nat) : B j = if j = k then v else A j := by
  rw [e]
  split
  · rename_i g
    rw [g, hv]
  · rfl
theorem as_u {k k' : Nat} {v' : Int} (e : B = updf A k' v') (hk : k' = k) (hv : v = v') (j : Nat) : B j = if j = k then v else A j := by
  rw [e, hk, hv]
  rfl
/-- six rows of arrays: one station's store becomes c -/
theorem rst_up {k : Nat} (h19 : ∀ j, ar 19 V1 m j = if j = k then c 6 else ar 19 V m j) (h20 : ∀ j, ar 20 V1 m j = if j = k then c 7 else ar 20 V m j) (h21 : ∀ j, ar 21 V1 m j = if j = k then c 8 else ar 21 V m j) (h22 : ∀ j, ar 22 V1 m j = if j = k then c 9 else ar 22 V m j) (h28 : ∀ j, ar 28 V1 m j = if j = k then c 5 else ar 28 V m j) (h23 : ∀ j r, r < 4 → ar 23 V1 m (4 * j + r) = if j = k then c (10 + r) else ar 23 V m (4 * j + r)) (hc : ∀ f, f < 5 ∨ 14 ≤ f → c f = 0) : rst V1 m = upg (rst V m) k c := by
  funext j f
  unfold upg
  by_cases q : j = k
  · rw [if_pos q]
    unfold rst
    by_cases g : 10 ≤ f
    · rw [if_pos g]
      by_cases g2 : f < 14
      · rw [if_pos g2, h23 j (f - 10) (by omega), if_pos q, show 10 + (f - 10) = f by omega]
      · rw [if_neg g2, hc f (Or.inr (by omega))]
    · rw [if_neg g]
      by_cases g5 : f = 5
      · rw [if_pos g5, h28, if_pos q, g5]
      · rw [if_neg g5]
        by_cases g6 : f = 6
        · rw [if_pos g6, h19, if_pos q, g6]
        · rw [if_neg g6]
          by_cases g7 : f = 7
          · rw [if_pos g7, h20, if_pos q, g7]
          · rw [if_neg g7]
            by_cases g8 : f = 8
            · rw [if_pos g8, h21, if_pos q, g8]
            · rw [if_neg g8]
              by_cases g9 : f = 9
              · rw [if_pos g9, h22, if_pos q, g9]
              · rw [if_neg g9, hc f (Or.inl (by omega))]
  · rw [if_neg q]
    unfold rst
    split
    · split
      · rw [h23 j (f - 10) (by omega), if_neg q]
      · rfl
    · rw [h28, h19, h20, h21, h22, if_neg q, if_neg q, if_neg q, if_neg q, if_neg q]
theorem rst_at {k : Nat} : rst V m k 5 = ar 28 V m k ∧ rst V m k 6 = ar 19 V m k ∧ rst V m k 7 = ar 20 V m k ∧ rst V m k 8 = ar 21 V m k ∧ rst V m k 9 = ar 22 V m k ∧ ∀ r, r < 4 → rst V m k (10 + r) = ar 23 V m (4 * k + r) := by
  refine ⟨rfl, rfl, rfl, rfl, rfl, fun r hr => ?_⟩
  unfold rst
  rw [if_pos (by omega), if_pos (by omega), show 10 + r - 10 = r by omega]
theorem rst_0 {k : Nat} (h : f < 5 ∨ 14 ≤ f) : rst V m k f = 0 := by
  unfold rst
  split
  · rw [if_neg (by omega)]
  · rw [if_neg (by omega), if_neg (by omega), if_neg (by omega), if_neg (by omega), if_neg (by omega)]
/-- the rows of waste: one number changes -/
theorem as_w {k r t : Nat} (e : ar 23 V1 m = updf (ar 23 V m) t w) (ht : t = 4 * k + r) (hr : r < 4) (hc : c (10 + r) = w) (hs : ∀ r', r' < 4 → r' ≠ r → c (10 + r') = ar 23 V m (4 * k + r')) (j r' : Nat) (h' : r' < 4) : ar 23 V1 m (4 * j + r') = if j = k then c (10 + r') else ar 23 V m (4 * j + r') := by
  rw [e]
  by_cases q : j = k
  · rw [if_pos q]
    by_cases g : r' = r
    · rw [g, hc, q, ← ht, updf_at]
    · rw [updf_of (by omega), hs r' h' g, q]
  · rw [if_neg q, updf_of (by omega)]
/-! a station's day -/
def DKM (V : Vmap) (m : Nat) (d : Int) : Prop := d ≠ 0 ↔ vi V m 3 ≤ wrem (vi V m 2) 360 ∧ wrem (vi V m 2) 360 ≤ vi V m 4
def MBU (V V1 : Vmap) (m : Nat) (k : Int) : Prop := ∃ d, DKM V m d ∧ rst V1 m = upg (rst V m) k.toNat (pss d (rst V m k.toNat))
theorem ned_rg (h0 : 0 ≤ p) (h5 : p ≤ 500) : (d ≠ 0 → ned d p = (p + 9) / 10 * 2) ∧ (d = 0 → ned d p = (p + 9) / 10) := by
  have e1 : wr (p + 9) = p + 9 := wr_id ⟨by omega, by omega⟩
  have e2 : wdiv (p + 9) 10 = (p + 9) / 10 := wdiv_p ⟨by omega, by omega⟩ (ir_c rfl) (by omega) (by decide)
  unfold ned
  rw [e1, e2]
  refine ⟨fun g => ?_, fun g => ?_⟩
  · rw [if_pos g]
    exact wr_id ⟨by omega, by omega⟩
  · rw [if_neg (fun h => h g)]
theorem wst_rg (h0 : 0 ≤ p) (h5 : p ≤ 500) : wst p = (p + 49) / 50 := by
  have e1 : wr (p + 49) = p + 49 := wr_id ⟨by omega, by omega⟩
  unfold wst
  rw [e1]
  exact wdiv_p ⟨by omega, by omega⟩ (ir_c rfl) (by omega) (by decide)
theorem MBU.mk {t k2 k3 : Nat} (_ : need = need) (_ : n = n) (hd : DKM V m d) (hp : 0 ≤ vi V (vq V m 19) k.toNat ∧ vi V (vq V m 19) k.toNat ≤ 500) (hneed : (d ≠ 0 ∧ need = (vi V (vq V m 19) k.toNat + 9) / 10 * 2) ∨ (d = 0 ∧ need = (vi V (vq V m 19) k.toNat + 9) / 10)) (hn : (n = need ∧ need ≤ vi V (vq V m 20) k.toNat) ∨ (n = vi V (vq V m 20) k.toNat ∧ vi V (vq V m 20) k.toNat ≤ need)) (hz : z = wr (vi V (vq V m 20) k.toNat - n)) (hy : (n < need ∧ Q = vi V (vq V m 22) k.toNat ∧ y = wr (Q + 1)) ∨ (need ≤ n ∧ y = 0)) (hP : (y ≠ 10 ∧ P = vi V (vq V m 19) k.toNat ∧ ar 19 V1 m = ar 19 V m) ∨ (y = 10 ∧ P = 0 ∧ ar 19 V1 m = updf (ar 19 V m) k.toNat 0)) (a20 : ar 20 V1 m = updf (ar 20 V m) k2 z) (a22 : ar 22 V1 m = updf (ar 22 V m) k3 y) (q2 : k2 = k.toNat) (q3 : k3 = k.toNat) (hw : w = wr (R + u)) (hu : u = (P + 49) / 50) (hR : R = vi V (vq V m 23) t) (ht : (d ≠ 0 ∧ t = 4 * k.toNat + 3) ∨ (d = 0 ∧ t = 4 * k.toNat)) (a23 : ar 23 V1 m = updf (ar 23 V m) t w) (a21 : ar 21 V1 m = ar 21 V m) (a28 : ar 28 V1 m = ar 28 V m) : MBU V V1 m k := by
  obtain ⟨r5, r6, r7, r8, r9, rw_⟩ := rst_at (V := V) (m := m) (k := k.toNat)
  have v19 : vi V (vq V m 19) k.toNat = rst V m k.toNat 6 := r6.symm
  have v20 : vi V (vq V m 20) k.toNat = rst V m k.toNat 7 := r7.symm
  have v22 : vi V (vq V m 22) k.toNat = rst V m k.toNat 9 := r9.symm
  rw [v19] at hp hneed hP
  rw [v20] at hn hz
  have hy : (n < need ∧ y = wr (rst V m k.toNat 9 + 1)) ∨ (need ≤ n ∧ y = 0) := by
    rcases hy with ⟨g1, g2, g3⟩ | g
    · exact Or.inl ⟨g1, by rw [g3, g2, v22]⟩
    · exact Or.inr g
  obtain ⟨n1, n2⟩ := ned_rg (d := d) hp.1 hp.2
  have en : need = ned d (rst V m k.toNat 6) := by
    rcases hneed with ⟨g1, g2⟩ | ⟨g1, g2⟩
    · rw [n1 g1]
      exact g2
    · rw [n2 g1]
      exact g2
  have eb : psb d (rst V m k.toNat) = updf (updf (updf (rst V m k.toNat) 7 z) 9 y) 6 P := by
    unfold psb
    rw [← en]
    rcases hP with ⟨g1, g2, -⟩ | ⟨g1, g2, -⟩
    · rw [← brn_n hn hz hy g1, g2]
      refine (updf_self ?_).symm
      rw [updf_of (by decide), updf_of (by decide)]
    · rw [← brn_h hn hz hy g1, g2]
      rfl
  have bP : 0 ≤ P ∧ P ≤ 500 := by
    rcases hP with ⟨-, g2, -⟩ | ⟨-, g2, -⟩ <;> omega
  have hk : ∃ ρ : Nat, ρ < 4 ∧ rkw d = 10 + ρ ∧ t = 4 * k.toNat + ρ := by
    unfold rkw
    rcases ht with ⟨g1, g2⟩ | ⟨g1, g2⟩
    · exact ⟨3, by decide, by rw [if_pos g1], g2⟩
    · exact ⟨0, by decide, by rw [if_neg (fun h => h g1)], g2⟩
  obtain ⟨ρ, hρ, e1, e2⟩ := hk
  have ep : pss d (rst V m k.toNat) = updf (updf (updf (updf (rst V m k.toNat) 7 z) 9 y) 6 P) (10 + ρ) w := by
    unfold pss
    rw [eb, e1, updf_at, wst_rg bP.1 bP.2, updf_of (by omega), updf_of (by omega), updf_of (by omega), rw_ ρ hρ, ← e2]
    have : R = ar 23 V m t := hR
    rw [← this, ← hu, ← hw]
  refine ⟨d, hd, ?_⟩
  rw [ep]
  refine rst_up ?_ ?_ ?_ ?_ ?_ ?_ ?_
  · rw [updf_of (by omega), updf_at]
    rcases hP with ⟨-, g2, g3⟩ | ⟨-, g2, g3⟩
    · exact as_s g3 (g2.trans r6)
    · exact as_u g3 rfl g2
  · rw [updf_of (by omega), updf_of (by decide), updf_of (by decide), updf_at]
    exact as_u a20 q2 rfl
  · rw [updf_of (by omega), updf_of (by decide), updf_of (by decide), updf_of (by decide)]
    exact as_s a21 r8
  · rw [updf_of (by omega), updf_of (by decide), updf_at]
    exact as_u a22 q3 rfl
  · rw [updf_of (by omega), updf_of (by decide), updf_of (by decide), updf_of (by decide)]
    exact as_s a28 r5
  · exact as_w a23 e2 hρ updf_at (fun r' h1 h2 => by rw [updf_of (by omega), updf_of (by omega), updf_of (by omega), updf_of (by omega), rw_ r' h1])
  · intro f hf
    rw [updf_of (by omega), updf_of (by omega), updf_of (by omega), updf_of (by omega), rst_0 hf]
/-! a station that is lost -/
def MWZ (V W : Vmap) (m : Nat) (k i : Int) : Prop := ∀ j : Nat, ar 23 W m j = if 4 * k ≤ (j : Int) ∧ (j : Int) < 4 * k + i then 0 else ar 23 V m j
theorem MWZ.beg (h : ar 23 W m = ar 23 V m) : MWZ V W m k 0 := fun j => by rw [h, if_neg (by omega)]
theorem MWZ.step {t : Nat} (h : MWZ V W m k i) (i0 : 0 ≤ i) (k0 : 0 ≤ k) (e : ar 23 W1 m = updf (ar 23 W m) t 0) (ht : (t : Int) = 4 * k + i) (hn : n = i + 1) : MWZ V W1 m k n := fun j => by
  rw [e]
  by_cases q : j = t
  · rw [q, updf_at, if_pos (by omega)]
  · rw [updf_of q, h j]
    by_cases g : 4 * k ≤ (j : Int) ∧ (j : Int) < 4 * k + i
    · rw [if_pos g, if_pos (by omega)]
    · rw [if_neg g, if_neg (by omega)]
theorem MWZ.to (h : MWZ V W m k i) (e : ar 23 V1 m = ar 23 W m) : MWZ V V1 m k i := fun j => by rw [e]; exact h j
/-- a station, or no place yet -/
def stx (V : Vmap) (m j : Nat) : Prop := ar 13 V m j = 1 ∨ vi V m 10 ≤ (j : Int)
theorem stx_fo {j : Nat} (h : stx V m j) : mfo V m j = -1 := by
  unfold stx at h
  unfold mfo
  rw [if_neg (by omega)]
theorem stx_s {j : Nat} (h : MPS V W m) : stx W m j ↔ stx V m j := by
  unfold stx
  rw [h.1, h.2.2.1]
def MLS (V V1 : Vmap) (m : Nat) (k : Int) : Prop := 0 ≤ k → ∀ j : Nat, stx V m j → rst V1 m j = if j = k.toNat then zst (rst V m j) else rst V m j
theorem MLS.mk {k1 k2 k3 : Nat} (hl : MLO V V1 m k) (a19 : ar 19 V1 m = updf (ar 19 V m) k1 0) (a20 : ar 20 V1 m = updf (ar 20 V m) k2 0) (a21 : ar 21 V1 m = updf (ar 21 V m) k3 0) (a22 : ar 22 V1 m = ar 22 V m) (hw : MWZ V V1 m k i) (hi : i = 4) (q1 : k1 = k.toNat) (q2 : k2 = k.toNat) (q3 : k3 = k.toNat) : MLS V V1 m k := fun k0 j h1 => by
  subst q1 q2 q3 hi
  have e28 : ar 28 V1 m j = if j = k.toNat then 1 else ar 28 V m j := by
    have hf : mfo V m j ≠ k := by
      rw [stx_fo h1]
      omega
    rw [hl k0 j]
    by_cases q : j = k.toNat
    · rw [if_pos q, if_pos (Or.inl q)]
    · rw [if_neg q, if_neg (by rintro (g | g); exact q g; exact hf g)]
  funext f
  by_cases q : j = k.toNat
  · rw [if_pos q]
    rw [if_pos q] at e28
    unfold zst rst
    by_cases g : 10 ≤ f
    · rw [if_pos g, if_neg (show ¬ f = 5 by omega)]
      by_cases g2 : f < 14
      · rw [if_pos g2, hw (4 * j + (f - 10)), if_pos (by omega), if_pos (Or.inr (by omega))]
      · rw [if_neg g2, if_neg (show ¬ ((6 ≤ f ∧ f ≤ 8) ∨ (10 ≤ f ∧ f < 14)) by omega), if_pos g, if_neg g2]
    · rw [if_neg g]
      by_cases g5 : f = 5
      · rw [if_pos g5, if_pos g5, e28]
      · rw [if_neg g5, if_neg g5]
        by_cases g6 : f = 6
        · rw [if_pos g6, if_pos (Or.inl (by omega)), a19, q, updf_at]
        · rw [if_neg g6]
          by_cases g7 : f = 7
          · rw [if_pos g7, if_pos (Or.inl (by omega)), a20, q, updf_at]
          · rw [if_neg g7]
            by_cases g8 : f = 8
            · rw [if_pos g8, if_pos (Or.inl (by omega)), a21, q, updf_at]
            · rw [if_neg g8, if_neg (show ¬ ((6 ≤ f ∧ f ≤ 8) ∨ (10 ≤ f ∧ f < 14)) by omega), a22, if_neg g, if_neg g5, if_neg g6, if_neg g7, if_neg g8]
  · rw [if_neg q]
    rw [if_neg q] at e28
    unfold rst
    rw [a19, a20, a21, a22, e28, updf_of q, updf_of q, updf_of q]
    by_cases g : 10 ≤ f
    · rw [if_pos g, if_pos g]
      split
      · rw [hw (4 * j + (f - 10)), if_neg (by omega)]
      · rfl
    · rw [if_neg g, if_neg g]
/-- the ice carries a station, or not -/
def FLS (V V1 : Vmap) (m : Nat) (k : Int) : Prop := 0 ≤ k → ar 13 V m k.toNat = 1 → ar 28 V m k.toNat = 0 → ∀ j : Nat, stx V m j → rst V1 m j = if j = k.toNat ∧ ar 28 V1 m j ≠ 0 then zst (rst V m j) else rst V m j
theorem FLS.no : FLS V V m k := fun k0 _ h0 j h1 => by
  by_cases q : j = k.toNat
  · rw [q, h0, if_neg (fun g => g.2 rfl)]
  · rw [if_neg (fun g => q g.1)]
theorem FLS.out (h : MLS V V1 m k) (e28 : MLO V V1 m k) : FLS V V1 m k := fun k0 _ h0 j h1 => by
  rw [h k0 j h1]
  by_cases q : j = k.toNat
  · have : ar 28 V1 m j = 1 := by rw [e28 k0 j, if_pos (Or.inl q)]
    rw [if_pos q, if_pos ⟨q, by omega⟩]
  · rw [if_neg q, if_neg (fun g => q g.1)]
/-- what stands in the stores but for what is lost -/
def SMR (V W : Vmap) (m : Nat) : Prop := ar 19 W m = ar 19 V m ∧ ar 20 W m = ar 20 V m ∧ ar 21 W m = ar 21 V m ∧ ar 22 W m = ar 22 V m ∧ ar 23 W m = ar 23 V m
def smbits (ws : Nat) : Bool := [keyK (0, 11) 19, keyK (0, 11) 20, keyK (0, 11) 21, keyK (0, 11) 22, keyK (0, 11) 23, abase + 22, abase + 23, abase + 24, abase + 25, abase + 26].all fun b => !ws.testBit b
theorem SMR.fr {ws : Nat} (hF : FR ws K V K1 V1) (hE : ext K K1) (hW : WT K V) (hm : K m = some (0, 11)) (hb : smbits ws = true) : SMR V V1 m := by
  simp only [smbits, List.all_cons, List.all_nil, Bool.and_true, Bool.and_eq_true, Bool.not_eq_true'] at hb
  obtain ⟨c0, c1, c2, c3, c4, b0, b1, b2, b3, b4⟩ := hb
  exact ⟨arq hF hE hm (hW.ref hm (j := 19) (Nat.le_of_ble_eq_true rfl) rfl).2 c0 b0, arq hF hE hm (hW.ref hm (j := 20) (Nat.le_of_ble_eq_true rfl) rfl).2 c1 b1, arq hF hE hm (hW.ref hm (j := 21) (Nat.le_of_ble_eq_true rfl) rfl).2 c2 b2, arq hF hE hm (hW.ref hm (j := 22) (Nat.le_of_ble_eq_true rfl) rfl).2 c3 b3, arq hF hE hm (hW.ref hm (j := 23) (Nat.le_of_ble_eq_true rfl) rfl).2 c4 b4⟩
theorem SMR.tr (h : SMR V W m) (g : SMR W W1 m) : SMR V W1 m := ⟨g.1.trans h.1, g.2.1.trans h.2.1, g.2.2.1.trans h.2.2.1, g.2.2.2.1.trans h.2.2.2.1, g.2.2.2.2.trans h.2.2.2.2⟩
theorem SMR.eq (h : SMR V W m) {j : Nat} (e : ar 28 W m j = ar 28 V m j) : rst W m j = rst V m j := by
  obtain ⟨h1, h2, h3, h4, h5⟩ := h
  funext f
  unfold rst
  rw [h1, h2, h3, h4, h5, e]
theorem fli_28 {nx z : Int} (h : FLI' V W m k z nx i) (k0 : 0 ≤ k) (hk : ar 13 V m k.toNat = 1) (j : Nat) (hj : stx V m j) : ar 28 W m j = ar 28 V m j := by
  have nf : ∀ j, stx V m j → mfo V m j ≠ k := fun j hj => by
    rw [stx_fo hj]
    omega
  have e := h k0 (nf _ (Or.inl hk)) j
  by_cases q : j = k.toNat
  · rw [if_pos q] at e
    exact congrArg (fun v : Int × Int × Int => v.2.1) e
  · rw [if_neg q, if_neg (fun g => nf j hj g.2.1)] at e
    exact congrArg (fun v : Int × Int × Int => v.2.1) e
theorem FLS.go {nx z : Int} (h : FLI' V W m k z nx i) (hs : SMR V V1 m) (a28 : ar 28 V1 m = ar 28 W m) : FLS V V1 m k := fun k0 hk h0 j h1 => by
  have e28 : ar 28 V1 m j = ar 28 V m j := by
    rw [a28]
    exact fli_28 h k0 hk j h1
  rw [hs.eq e28]
  by_cases q : j = k.toNat
  · rw [if_neg (fun g => g.2 (by rw [e28, q]; exact h0))]
  · rw [if_neg (fun g => q g.1)]
theorem FLS.ls {nx z : Int} (h : FLI' V W m k z nx i) (hs : SMR V W m) (hm : MPS V W m) (hl : MLS W V1 m k) (e28 : MLO W V1 m k) : FLS V V1 m k := fun k0 hk h0 j h1 => by
  have h1' : stx W m j := (stx_s hm).mpr h1
  rw [hl k0 j h1', hs.eq (fli_28 h k0 hk j h1)]
  by_cases q : j = k.toNat
  · have : ar 28 V1 m j = 1 := by rw [e28 k0 j, if_pos (Or.inl q)]
    rw [if_pos q, if_pos ⟨q, by omega⟩]
  · rw [if_neg q, if_neg (fun g => q g.1)]
/-! all stations of a day -/
theorem pss_cong {d' : Int} (h : d ≠ 0 ↔ d' ≠ 0) : pss d r = pss d' r := by
  unfold pss rkw psb ned
  by_cases g : d ≠ 0
  · rw [if_pos g, if_pos g, if_pos (h.mp g), if_pos (h.mp g)]
  · rw [if_neg g, if_neg g, if_neg (fun e => g (h.mpr e)), if_neg (fun e => g (h.mpr e))]
def DKT (V : Vmap) (m : Nat) (d : Int) : Prop := d ≠ 0 ↔ vi V m 3 ≤ wrem (vi V m 2 + 1) 360 ∧ wrem (vi V m 2 + 1) 360 ≤ vi V m 4
def MDS (V W : Vmap) (m : Nat) (i : Int) : Prop := ∃ d, DKT V m d ∧ (vi W m 2 = vi V m 2 + 1 ∧ vi W m 3 = vi V m 3 ∧ vi W m 4 = vi V m 4) ∧ ∀ j : Nat, stx V m j → rst W m j = if (j : Int) < i ∧ ar 28 V m j = 0 then pst d (ar 28 W m j) (rst V m j) else rst V m j
theorem MDS.beg (h2 : vi W m 2 = vi V m 2 + 1) (h3 : vi W m 3 = vi V m 3) (h4 : vi W m 4 = vi V m 4) (hs : SMR V W m) (a28 : ar 28 W m = ar 28 V m) : MDS V W m 0 := by
  refine ⟨if vi V m 3 ≤ wrem (vi V m 2 + 1) 360 ∧ wrem (vi V m 2 + 1) 360 ≤ vi V m 4 then 1 else 0, ?_, ⟨h2, h3, h4⟩, fun j h1 => ?_⟩
  · unfold DKT
    split
    · rename_i g
      exact ⟨fun _ => g, fun _ => by decide⟩
    · rename_i g
      exact ⟨fun e => absurd rfl e, fun e => absurd e g⟩
  · rw [if_neg (by omega)]
    exact hs.eq (by rw [a28])
theorem MDS.skip (h : MDS V W m i) (hm : MPS V W m) (hx : X ≠ 0 ↔ MSN W m i) (hX : X = 0) (i0 : 0 ≤ i) (hi : i < vi W m 10) (hn : n = i + 1) : MDS V W m n := by
  obtain ⟨d, h1, h2, h3⟩ := h
  refine ⟨d, h1, h2, fun j hj => ?_⟩
  rw [h3 j hj]
  have h10 := hm.1
  by_cases q : (j : Int) = i
  · have e28 : ar 28 W m j = ar 28 V m j := by
      have e := congrFun (h3 j hj) 5
      rw [if_neg (by omega)] at e
      exact e
    have k1 : ar 13 V m j = 1 := by
      rcases hj with g | g
      · exact g
      · omega
    have : ar 28 V m j ≠ 0 := fun g => by
      refine absurd hX (hx.mpr ⟨⟨i0, hi, ?_⟩, ?_⟩)
      · rw [hm.2.2.1, show i.toNat = j by omega]
        exact k1
      · rw [show i.toNat = j by omega, e28]
        exact g
    rw [if_neg (fun g => this g.2), if_neg (fun g => this g.2)]
  · by_cases g : (j : Int) < i ∧ ar 28 V m j = 0
    · rw [if_pos g, if_pos ⟨by omega, g.2⟩]
    · rw [if_neg g, if_neg (fun e => g ⟨by omega, e.2⟩)]
theorem MDS.step (h : MDS V W m i) (hm : MPS V W m) (hm1 : MPS W W1 m) (hx : X ≠ 0 ↔ MSN W m i) (hX : X ≠ 0) (hb : MBU W W1 m i) (hf : FLS W1 W2 m i) (e2 : vi W2 m 2 = vi W m 2 ∧ vi W2 m 3 = vi W m 3 ∧ vi W2 m 4 = vi W m 4) (hn : n = i + 1) : MDS V W2 m n := by
  obtain ⟨d, h1, h2, h3⟩ := h
  obtain ⟨⟨i0, -, hk⟩, hl⟩ := hx.mp hX
  obtain ⟨d', b1, b2⟩ := hb
  have hk' : ar 13 V m i.toNat = 1 := by rw [← hm.2.2.1]; exact hk
  have ed : d' ≠ 0 ↔ d ≠ 0 := by
    unfold DKM at b1
    unfold DKT at h1
    rw [h2.1, h2.2.1, h2.2.2] at b1
    rw [b1, h1]
  have l1 : ar 28 W1 m i.toNat = 0 := by
    have e := congrFun (congrFun b2 i.toNat) 5
    rw [upg_at, pss_5] at e
    exact Eq.trans e hl
  have k1 : ar 13 W1 m i.toNat = 1 := by rw [hm1.2.2.1]; exact hk
  refine ⟨d, h1, ⟨e2.1.trans h2.1, e2.2.1.trans h2.2.1, e2.2.2.trans h2.2.2⟩, fun j hj => ?_⟩
  have hj1 : stx W1 m j := (stx_s hm1).mpr ((stx_s hm).mpr hj)
  have f := hf i0 k1 l1 j hj1
  rw [b2] at f
  by_cases q : j = i.toNat
  · subst q
    have r0 : rst W m i.toNat = rst V m i.toNat := by rw [h3 _ hj, if_neg (by omega)]
    rw [upg_at, r0] at f
    have lV : ar 28 V m i.toNat = 0 := by
      have e := congrFun (h3 _ hj) 5
      rw [if_neg (by omega)] at e
      have e' : ar 28 W m i.toNat = ar 28 V m i.toNat := e
      rw [← e']
      exact hl
    have c2 : ((i.toNat : Nat) : Int) < n ∧ ar 28 V m i.toNat = 0 := ⟨by omega, lV⟩
    rw [if_pos c2, f]
    unfold pst
    rw [pss_cong ed]
    by_cases g : ar 28 W2 m i.toNat = 0
    · rw [if_pos g, if_neg (fun e => e.2 g)]
    · rw [if_neg g, if_pos ⟨rfl, g⟩]
  · rw [if_neg (fun g => q g.1), upg_of q, h3 j hj] at f
    rw [f]
    have e28 : ar 28 W2 m j = ar 28 W m j := by
      have e : rst W2 m j 5 = rst W m j 5 := by rw [f, h3 j hj]
      exact e
    rw [e28]
    by_cases g : (j : Int) < i ∧ ar 28 V m j = 0
    · rw [if_pos g, if_pos ⟨by omega, g.2⟩]
    · rw [if_neg g, if_neg (fun e => g ⟨by omega, e.2⟩)]
end Q5
