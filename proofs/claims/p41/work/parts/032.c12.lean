/-! ### rows read and written -/
def rgv (V : Vmap) (a n : Nat) (i : Int) : Int := if 0 ≤ i ∧ i < n then vi V a i.toNat else 0
theorem rgv_in {V : Vmap} {a n : Nat} {i : Int} (h0 : 0 ≤ i) (h1 : i < n) : vi V a i.toNat = rgv V a n i := by unfold rgv; rw [if_pos ⟨h0, h1⟩]
theorem rgv_out {V : Vmap} {a n : Nat} {i : Int} (h : i < 0 ∨ n ≤ i) : 0 = rgv V a n i := by unfold rgv; rw [if_neg (by omega)]
def rpv (V : Vmap) (a n : Nat) (i v : Int) : Vmap := if 0 ≤ i ∧ i < n then upd2 V a i.toNat (ti v) else V
theorem rpv_in {V V1 : Vmap} {a n : Nat} {i v : Int} (e : V1 = upd2 V a i.toNat (ti v)) (h0 : 0 ≤ i) (h1 : i < n) : V1 = rpv V a n i v := by unfold rpv; rw [if_pos ⟨h0, h1⟩]; exact e
theorem rpv_out {V : Vmap} {a n : Nat} {i v : Int} (h : i < 0 ∨ n ≤ i) : V = rpv V a n i v := by unfold rpv; rw [if_neg (by omega)]
theorem rpv_put {V V1 : Vmap} {a n : Nat} {i v : Int} (e : V1 = rpv V a n i v) (h0 : 0 ≤ i) (h1 : i < n) : V1 = upd2 V a i.toNat (ti v) := by rw [e]; unfold rpv; rw [if_pos ⟨h0, h1⟩]
/-! ### words: who blocks -/
/-- whether the party at a blocks a set of words -/
def BWp (V : Vmap) (a : Nat) (s : Int) : Prop := wand (vi V a 2) s ≠ 0 ∨ ∃ w : Nat, w < 7 ∧ wand (wshr s (w : Int)) 1 ≠ 0 ∧ wand (vi V (vq V a 4) w) (wxor s (-1)) ≠ 0
def BWn (V : Vmap) (a : Nat) (s i : Int) : Prop := wand (vi V a 2) s = 0 ∧ ∀ w : Nat, (w : Int) < i → ¬ (wand (wshr s (w : Int)) 1 ≠ 0 ∧ wand (vi V (vq V a 4) w) (wxor s (-1)) ≠ 0)
theorem BWn.nil {V : Vmap} {a : Nat} {s : Int} (h : wand (vi V a 2) s = 0) : BWn V a s 0 := ⟨h, fun w hw => by omega⟩
theorem BWn.step {V : Vmap} {a : Nat} {s i : Int} (h : BWn V a s i) (h0 : 0 ≤ i) (hc : ¬ (wand (wshr s i) 1 ≠ 0 ∧ wand (vi V (vq V a 4) i.toNat) (wxor s (-1)) ≠ 0)) : BWn V a s (i + 1) := ⟨h.1, fun w hw => by
  by_cases e : (w : Int) < i
  · exact h.2 w e
  · have e1 : i = (w : Int) := by omega
    subst e1
    exact hc⟩
theorem BWn.no {V : Vmap} {a : Nat} {s i : Int} (h : BWn V a s i) (h0 : 0 ≤ i) (hc : wand (wshr s i) 1 = 0) : BWn V a s (i + 1) := h.step h0 (fun q => q.1 hc)
theorem BWn.less {V : Vmap} {a : Nat} {s i X : Int} (h : BWn V a s i) (h0 : 0 ≤ i) (h7 : i < 7) (hX : X = rgv V (vq V a 4) 7 i) (hc : wand X (wxor s (-1)) = 0) : BWn V a s (i + 1) := h.step h0 (fun q => q.2 (by rw [rgv_in (n := 7) h0 (by omega), ← hX]; exact hc))
theorem BWn.end {V : Vmap} {a : Nat} {s i : Int} (h : BWn V a s i) (h7 : 7 ≤ i) : ¬ BWp V a s := fun q => by
  rcases q with q | ⟨w, hw, q⟩
  · exact q h.1
  · exact h.2 w (by omega) q
theorem BWp.hit {V : Vmap} {a : Nat} {s i X : Int} (hX : X = rgv V (vq V a 4) 7 i) (h1 : wand (wshr s i) 1 ≠ 0) (hc : wand X (wxor s (-1)) ≠ 0) (h0 : 0 ≤ i) (h7 : i < 7) : BWp V a s := by
  refine Or.inr ⟨i.toNat, by omega, ?_, ?_⟩
  · rw [Int.toNat_of_nonneg h0]; exact h1
  · rw [rgv_in (n := 7) h0 (by omega), ← hX]; exact hc
/-- the party of a number -/
def pty (V : Vmap) (x p : Nat) : Nat := vq V (vq V x 3) p
noncomputable def blk (V : Vmap) (x : Nat) (s : Int) : Nat → Int
  | 0 => 0
  | k + 1 => @ite _ (BWp V (pty V x k) s) (Classical.propDecidable _) (wor (blk V x s k) (wshl 1 (k : Int))) (blk V x s k)
theorem blk_yes {V : Vmap} {x k : Nat} {s : Int} (h : BWp V (pty V x k) s) : blk V x s (k + 1) = wor (blk V x s k) (wshl 1 (k : Int)) := @if_pos (BWp V (pty V x k) s) (Classical.propDecidable _) h Int _ _
theorem blk_no {V : Vmap} {x k : Nat} {s : Int} (h : ¬ BWp V (pty V x k) s) : blk V x s (k + 1) = blk V x s k := @if_neg (BWp V (pty V x k) s) (Classical.propDecidable _) h Int _ _
def BKn (V : Vmap) (x : Nat) (s b i : Int) : Prop := b = blk V x s i.toNat
theorem BKn.nil {V : Vmap} {x : Nat} {s : Int} : BKn V x s 0 0 := rfl
theorem BKn.yes {V : Vmap} {x o : Nat} {s b i X z : Int} (h : BKn V x s b i) (hX : X ≠ 0 ↔ BWp V o s) (hc : X ≠ 0) (hz : z = wor b (wshl 1 i)) (h0 : 0 ≤ i) (ho : o = vq V (vq V x 3) i.toNat) : BKn V x s z (i + 1) := by
  subst hz
  unfold BKn at h ⊢
  rw [show (i + 1).toNat = i.toNat + 1 by omega, blk_yes (by have := hX.mp hc; rw [ho] at this; exact this), ← h, Int.toNat_of_nonneg h0]
theorem BKn.no {V : Vmap} {x o : Nat} {s b i X : Int} (h : BKn V x s b i) (hX : X ≠ 0 ↔ BWp V o s) (hc : X = 0) (h0 : 0 ≤ i) (ho : o = vq V (vq V x 3) i.toNat) : BKn V x s b (i + 1) := by
  unfold BKn at h ⊢
  rw [show (i + 1).toNat = i.toNat + 1 by omega, blk_no (fun q => by have := hX.mpr (by rw [ho]; exact q); exact this hc), ← h]
/-- what blocks() answers -/
def BKS (V : Vmap) (x : Nat) (s X : Int) : Prop := (0 ≤ s ∧ s < wshl 1 (wsz V x) ∧ X = blk V x s (vi V x 4).toNat) ∨ ((s < 0 ∨ wshl 1 (wsz V x) ≤ s) ∧ X = -1)
theorem bks_rng {Y : Int} (h0 : 0 ≤ Y) (h7 : Y ≤ 7) : 1 ≤ wshl 1 Y ∧ wshl 1 Y ≤ 128 := by
  obtain ⟨n, rfl⟩ := Int.eq_ofNat_of_zero_le h0
  exact (by decide +kernel : ∀ n : Nat, n < 8 → 1 ≤ wshl 1 (n : Int) ∧ wshl 1 (n : Int) ≤ 128) n (by omega)
theorem BKS.in {V : Vmap} {x : Nat} {s X Y Z : Int} (hY : Y = wsz V x) (h0 : 0 ≤ Y) (h7 : Y ≤ 7) (hn : ir (wshl 1 Y - 1) → Z = wshl 1 Y - 1) (hs : 0 ≤ s) (hs1 : s ≤ Z) (hX : X = blk V x s (vi V x 4).toNat) : BKS V x s X := by
  have hr := bks_rng h0 h7
  have hz := hn ⟨by omega, by omega⟩
  subst hY
  exact Or.inl ⟨hs, by omega, hX⟩
theorem BKS.out {V : Vmap} {x : Nat} {s Y Z : Int} (hY : Y = wsz V x) (h0 : 0 ≤ Y) (h7 : Y ≤ 7) (hn : ir (wshl 1 Y - 1) → Z = wshl 1 Y - 1) (hs : s < 0 ∨ s > Z) : BKS V x s (-1) := by
  have hr := bks_rng h0 h7
  have hz := hn ⟨by omega, by omega⟩
  subst hY
  exact Or.inr ⟨by omega, rfl⟩
/-! ### the reference's: who blocks -/
def BRq (V : Vmap) (x : Nat) (p s : Int) (w : Int) : Prop := (wand (wshr s w) 1 = 1 ∧ vi V (vq V x 135) (7 * p + w).toNat ≠ 0) ∨ ∃ o : Nat, (o : Int) < vi V x 133 ∧ wand (wshr s w) 1 = 0 ∧ wand (wshr s (o : Int)) 1 = 1 ∧ vi V (vq V x 136) (7 * (7 * p + w) + o).toNat ≠ 0
def BRp (V : Vmap) (x : Nat) (p s : Int) : Prop := ∃ w : Nat, (w : Int) < vi V x 133 ∧ BRq V x p s w
def BRn (V : Vmap) (x : Nat) (p s i : Int) : Prop := ∀ w : Nat, (w : Int) < i → ¬ BRq V x p s w
def BRm (V : Vmap) (x : Nat) (p s i j : Int) : Prop := ¬ (wand (wshr s i) 1 = 1 ∧ vi V (vq V x 135) (7 * p + i).toNat ≠ 0) ∧ ∀ o : Nat, (o : Int) < j → ¬ (wand (wshr s i) 1 = 0 ∧ wand (wshr s (o : Int)) 1 = 1 ∧ vi V (vq V x 136) (7 * (7 * p + i) + o).toNat ≠ 0)
section BR
variable {V : Vmap} {x : Nat} {p s i j : Int}
theorem BRn.nil : BRn V x p s 0 := fun w hw => by omega
theorem BRn.step (h : BRn V x p s i) (h0 : 0 ≤ i) (hm : BRm V x p s i j) (hj : vi V x 133 ≤ j) : BRn V x p s (i + 1) := fun w hw => by
  by_cases e : (w : Int) < i
  · exact h w e
  · have e1 : i = (w : Int) := by omega
    subst e1
    rintro (q | ⟨o, ho, q⟩)
    · exact hm.1 q
    · exact hm.2 o (by omega) q
theorem BRn.end (h : BRn V x p s i) (hi : vi V x 133 ≤ i) : ¬ BRp V x p s := fun ⟨w, hw, q⟩ => h w (by omega) q
theorem BRp.bar (hb : vi V (vq V x 135) (7 * p + i).toNat ≠ 0) (hc : wand (wshr s i) 1 = 1) (h0 : 0 ≤ i) (h1 : i < vi V x 133) : BRp V x p s := ⟨i.toNat, by omega, by rw [Int.toNat_of_nonneg h0]; exact Or.inl ⟨hc, hb⟩⟩
theorem BRp.want (hb : vi V (vq V x 136) (7 * (7 * p + i) + j).toNat ≠ 0) (hc : wand (wshr s i) 1 = 0) (hd : wand (wshr s j) 1 = 1) (h0 : 0 ≤ i) (h1 : i < vi V x 133) (j0 : 0 ≤ j) (j1 : j < vi V x 133) : BRp V x p s := ⟨i.toNat, by omega, by rw [Int.toNat_of_nonneg h0]; exact Or.inr ⟨j.toNat, by omega, hc, by rw [Int.toNat_of_nonneg j0]; exact hd, by rw [Int.toNat_of_nonneg j0]; exact hb⟩⟩
theorem BRm.n1 (hc : wand (wshr s i) 1 ≠ 1) : BRm V x p s i 0 := ⟨fun q => hc q.1, fun o ho => by omega⟩
theorem BRm.n2 (hb : vi V (vq V x 135) (7 * p + i).toNat = 0) : BRm V x p s i 0 := ⟨fun q => q.2 hb, fun o ho => by omega⟩
theorem BRm.step (h : BRm V x p s i j) (j0 : 0 ≤ j) (hc : ¬ (wand (wshr s i) 1 = 0 ∧ wand (wshr s j) 1 = 1 ∧ vi V (vq V x 136) (7 * (7 * p + i) + j).toNat ≠ 0)) : BRm V x p s i (j + 1) := ⟨h.1, fun o ho => by
  by_cases e : (o : Int) < j
  · exact h.2 o e
  · have e1 : j = (o : Int) := by omega
    subst e1; exact hc⟩
theorem BRm.s1 (h : BRm V x p s i j) (j0 : 0 ≤ j) (hc : wand (wshr s i) 1 ≠ 0) : BRm V x p s i (j + 1) := h.step j0 (fun q => hc q.1)
theorem BRm.s2 (h : BRm V x p s i j) (j0 : 0 ≤ j) (hc : wand (wshr s j) 1 ≠ 1) : BRm V x p s i (j + 1) := h.step j0 (fun q => hc q.2.1)
theorem BRm.s3 (h : BRm V x p s i j) (j0 : 0 ≤ j) (hc : vi V (vq V x 136) (7 * (7 * p + i) + j).toNat = 0) : BRm V x p s i (j + 1) := h.step j0 (fun q => q.2.2 hc)
end BR
noncomputable def blr (V : Vmap) (x : Nat) (s : Int) : Nat → Int
  | 0 => 0
  | k + 1 => @ite _ (BRp V x (k : Int) s) (Classical.propDecidable _) (wor (blr V x s k) (wshl 1 (k : Int))) (blr V x s k)
theorem blr_yes {V : Vmap} {x k : Nat} {s : Int} (h : BRp V x (k : Int) s) : blr V x s (k + 1) = wor (blr V x s k) (wshl 1 (k : Int)) := @if_pos (BRp V x (k : Int) s) (Classical.propDecidable _) h Int _ _
theorem blr_no {V : Vmap} {x k : Nat} {s : Int} (h : ¬ BRp V x (k : Int) s) : blr V x s (k + 1) = blr V x s k := @if_neg (BRp V x (k : Int) s) (Classical.propDecidable _) h Int _ _
def BKr (V : Vmap) (x : Nat) (s b i : Int) : Prop := b = blr V x s i.toNat
theorem BKr.nil {V : Vmap} {x : Nat} {s : Int} : BKr V x s 0 0 := rfl
theorem BKr.yes {V : Vmap} {x : Nat} {s b i X z : Int} (h : BKr V x s b i) (hX : X ≠ 0 ↔ BRp V x i s) (hc : X ≠ 0) (hz : z = wor b (wshl 1 i)) (h0 : 0 ≤ i) : BKr V x s z (i + 1) := by
  subst hz
  unfold BKr at h ⊢
  obtain ⟨n, rfl⟩ := Int.eq_ofNat_of_zero_le h0
  rw [show ((n : Int) + 1).toNat = n + 1 by omega, blr_yes (hX.mp hc), h]
  rfl
theorem wor_0 {b : Int} (h : ir b) : wor b 0 = b := by
  unfold wor
  rw [show Int32.ofInt 0 = 0 from rfl, Int32.or_zero, ti_int h]
theorem BKr.no {V : Vmap} {x : Nat} {s b i X z : Int} (h : BKr V x s b i) (hX : X ≠ 0 ↔ BRp V x i s) (hc : X = 0) (hz : z = wor b 0) (rb : ir b) (h0 : 0 ≤ i) : BKr V x s z (i + 1) := by
  subst hz
  unfold BKr at h ⊢
  obtain ⟨n, rfl⟩ := Int.eq_ofNat_of_zero_le h0
  rw [show ((n : Int) + 1).toNat = n + 1 by omega, blr_no (fun q => hX.mpr q hc), wor_0 rb, h]
  rfl
/-- what the reference's blocks() answers -/
def BRS (V : Vmap) (x : Nat) (s X : Int) : Prop := (0 ≤ s ∧ s < wshl 1 (vi V x 133) ∧ X = blr V x s (vi V x 9).toNat) ∨ ((s < 0 ∨ wshl 1 (vi V x 133) ≤ s) ∧ X = -1)
theorem BRS.in {V : Vmap} {x : Nat} {s X Z i : Int} (h0 : 0 ≤ vi V x 133) (h7 : vi V x 133 ≤ 7) (hn : ir (wshl 1 (vi V x 133) - 1) → Z = wshl 1 (vi V x 133) - 1) (hs : 0 ≤ s) (hs1 : s ≤ Z) (hX : BKr V x s X i) (hi : i = vi V x 9) : BRS V x s X := by
  have hr := bks_rng h0 h7
  have hz := hn ⟨by omega, by omega⟩
  subst hi
  exact Or.inl ⟨hs, by omega, hX⟩
theorem BRS.out {V : Vmap} {x : Nat} {s Z : Int} (h0 : 0 ≤ vi V x 133) (h7 : vi V x 133 ≤ 7) (hn : ir (wshl 1 (vi V x 133) - 1) → Z = wshl 1 (vi V x 133) - 1) (hs : s < 0 ∨ s > Z) : BRS V x s (-1) := by
  have hr := bks_rng h0 h7
  have hz := hn ⟨by omega, by omega⟩
  exact Or.inr ⟨by omega, rfl⟩
theorem BKn.end {V : Vmap} {x : Nat} {s b i : Int} (h : BKn V x s b i) (hi : i = vi V x 4) : b = blk V x s (vi V x 4).toNat := by
  subst hi; exact h
/-! ### what is asked of words -/
def AOK (V : Vmap) (x : Nat) (p w o : Int) : Prop := 0 ≤ p ∧ p < vi V x 4 ∧ 0 ≤ w ∧ w < wsz V x ∧ o ≠ w ∧ (o = -1 ∨ (0 ≤ o ∧ o < wsz V x))
/-- what asks() answers, and what it leaves -/
def ASC (V V1 : Vmap) (x : Nat) (p w o X : Int) : Prop := (X = 0 ∧ V1 = V ∧ ¬ AOK V x p w o) ∨ (AOK V x p w o ∧ o = -1 ∧ ((X = 1 ∧ wand (vi V (pty V x p.toNat) 2) (wshl 1 w) = 0) ∨ (X = 0 ∧ wand (vi V (pty V x p.toNat) 2) (wshl 1 w) ≠ 0)) ∧ V1 = upd2 V (pty V x p.toNat) 2 (ti (wor (vi V (pty V x p.toNat) 2) (wshl 1 w)))) ∨ (AOK V x p w o ∧ o ≠ -1 ∧ ((X = 1 ∧ wand (vi V (vq V (pty V x p.toNat) 4) o.toNat) (wshl 1 w) = 0) ∨ (X = 0 ∧ wand (vi V (vq V (pty V x p.toNat) 4) o.toNat) (wshl 1 w) ≠ 0)) ∧ V1 = upd2 V (vq V (pty V x p.toNat) 4) o.toNat (ti (wor (vi V (vq V (pty V x p.toNat) 4) o.toNat) (wshl 1 w))))
theorem ASC.no {V : Vmap} {x : Nat} {p w o : Int} (h : p < 0 ∨ vi V x 4 ≤ p ∨ w < 0 ∨ vi V (vq V x 16) 3 ≤ w ∨ o = w ∨ (o ≠ -1 ∧ (o < 0 ∨ vi V (vq V x 16) 3 ≤ o))) : ASC V V x p w o 0 := Or.inl ⟨rfl, rfl, by unfold AOK wsz; omega⟩
theorem ASC.bar {V V1 : Vmap} {x a : Nat} {p w o z X : Int} (ha : a = vq V (vq V x 3) p.toNat) (hz : z = wshl 1 w) (e : V1 = upd2 V a 2 (ti (wor (vi V a 2) z))) (ho : o = -1) (hg : 0 ≤ p ∧ p < vi V x 4 ∧ 0 ≤ w ∧ w < vi V (vq V x 16) 3) (hx : (X = 1 ∧ wand (vi V a 2) z = 0) ∨ (X = 0 ∧ wand (vi V a 2) z ≠ 0)) : ASC V V1 x p w o X := by
  subst hz
  have ha2 : a = pty V x p.toNat := ha
  subst ha2
  exact Or.inr (Or.inl ⟨by unfold AOK wsz; omega, ho, hx, e⟩)
theorem ASC.wnt {V V1 : Vmap} {x a : Nat} {p w o z X R : Int} (ha : a = vq V (vq V x 3) p.toNat) (hz : z = wshl 1 w) (hX : X = rgv V (vq V a 4) 7 o) (hV : V1 = rpv V (vq V a 4) 7 o (wor X z)) (ho : o ≠ -1) (hg : 0 ≤ p ∧ p < vi V x 4 ∧ 0 ≤ w ∧ w < vi V (vq V x 16) 3 ∧ o ≠ w ∧ 0 ≤ o ∧ o < vi V (vq V x 16) 3 ∧ vi V (vq V x 16) 3 ≤ 7) (hr : (R = 1 ∧ wand X z = 0) ∨ (R = 0 ∧ wand X z ≠ 0)) : ASC V V1 x p w o R := by
  subst hz
  have ha2 : a = pty V x p.toNat := ha
  subst ha2
  rw [← rgv_in (n := 7) (by omega) (by omega)] at hX
  subst hX
  exact Or.inr (Or.inr ⟨by unfold AOK wsz; omega, ho, hr, rpv_put hV (by omega) (by omega)⟩)
def AOR (V : Vmap) (x : Nat) (p w o : Int) : Prop := 0 ≤ p ∧ p < vi V x 9 ∧ 0 ≤ w ∧ w < vi V x 133 ∧ o ≠ w ∧ (o = -1 ∨ (0 ≤ o ∧ o < vi V x 133))
/-- the reference's asks() -/
def ASR (V V1 : Vmap) (x : Nat) (p w o X : Int) : Prop := (X = 0 ∧ V1 = V ∧ ¬ AOR V x p w o) ∨ (AOR V x p w o ∧ o = -1 ∧ ((X = 0 ∧ vi V (vq V x 135) (7 * p + w).toNat ≠ 0 ∧ V1 = V) ∨ (X = 1 ∧ vi V (vq V x 135) (7 * p + w).toNat = 0 ∧ V1 = upd2 V (vq V x 135) (7 * p + w).toNat (ti 1)))) ∨ (AOR V x p w o ∧ o ≠ -1 ∧ ((X = 0 ∧ vi V (vq V x 136) (7 * (7 * p + w) + o).toNat ≠ 0 ∧ V1 = V) ∨ (X = 1 ∧ vi V (vq V x 136) (7 * (7 * p + w) + o).toNat = 0 ∧ V1 = upd2 V (vq V x 136) (7 * (7 * p + w) + o).toNat (ti 1))))
theorem ASR.no {V : Vmap} {x : Nat} {p w o : Int} (h : p < 0 ∨ vi V x 9 ≤ p ∨ w < 0 ∨ vi V x 133 ≤ w ∨ o = w ∨ (o ≠ -1 ∧ (o < 0 ∨ vi V x 133 ≤ o))) : ASR V V x p w o 0 := Or.inl ⟨rfl, rfl, by unfold AOR; omega⟩
theorem ASR.b0 {V : Vmap} {x : Nat} {p w o z : Int} (hz : z = 7 * p + w) (hb : vi V (vq V x 135) z.toNat ≠ 0) (ho : o = -1) (hg : 0 ≤ p ∧ p < vi V x 9 ∧ 0 ≤ w ∧ w < vi V x 133) : ASR V V x p w o 0 := by
  subst hz
  exact Or.inr (Or.inl ⟨by unfold AOR; omega, ho, Or.inl ⟨rfl, hb, rfl⟩⟩)
theorem ASR.b1 {V V1 : Vmap} {x : Nat} {p w o z : Int} (hz : z = 7 * p + w) (hb : vi V (vq V x 135) z.toNat = 0) (e : V1 = upd2 V (vq V x 135) z.toNat (ti 1)) (ho : o = -1) (hg : 0 ≤ p ∧ p < vi V x 9 ∧ 0 ≤ w ∧ w < vi V x 133) : ASR V V1 x p w o 1 := by
  subst hz
  exact Or.inr (Or.inl ⟨by unfold AOR; omega, ho, Or.inr ⟨rfl, hb, e⟩⟩)
theorem ASR.w0 {V : Vmap} {x : Nat} {p w o z : Int} (hz : z = 7 * p + w) (hb : vi V (vq V x 136) (7 * z + o).toNat ≠ 0) (ho : o ≠ -1) (hg : 0 ≤ p ∧ p < vi V x 9 ∧ 0 ≤ w ∧ w < vi V x 133 ∧ o ≠ w ∧ 0 ≤ o ∧ o < vi V x 133) : ASR V V x p w o 0 := by
  subst hz
  exact Or.inr (Or.inr ⟨by unfold AOR; omega, ho, Or.inl ⟨rfl, hb, rfl⟩⟩)
theorem ASR.w1 {V V1 : Vmap} {x : Nat} {p w o z : Int} (hz : z = 7 * p + w) (hb : vi V (vq V x 136) (7 * z + o).toNat = 0) (e : V1 = upd2 V (vq V x 136) (7 * z + o).toNat (ti 1)) (ho : o ≠ -1) (hg : 0 ≤ p ∧ p < vi V x 9 ∧ 0 ≤ w ∧ w < vi V x 133 ∧ o ≠ w ∧ 0 ≤ o ∧ o < vi V x 133) : ASR V V1 x p w o 1 := by
  subst hz
  exact Or.inr (Or.inr ⟨by unfold AOR; omega, ho, Or.inr ⟨rfl, hb, e⟩⟩)
