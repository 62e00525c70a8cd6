/-! ### a station's day -/
section Q2
variable {K K0 K1 K2 : Kmap} {V V0 V1 V2 V3 W W1 W2 Va Vb Vc : Vmap} {x m o t q f N : Nat} {i j n k s e d p a b w z y l u v X Y Z Q P D need : Int} {c c' r : Nat → Int} {S : Nat → Prop}
theorem updf_self {g : Nat → Int} {f : Nat} {a : Int} (h : a = g f) : updf g f a = g := by
  funext j
  by_cases q : j = f
  · rw [q, updf_at, h]
  · rw [updf_of q]
def mnv (a b : Int) : Int := if a ≤ b then a else b
def cldv (need : Int) (r : Nat → Int) : Int := if mnv need (r 7) < need then wr (r 9 + 1) else 0
def hom (r : Nat → Int) : Nat → Int := updf r 6 0
/-- the fuel of a day -/
def brn (need : Int) (r : Nat → Int) : Nat → Int := updf (updf (updf r 7 (wr (r 7 - mnv need (r 7)))) 9 (cldv need r)) 6 (if cldv need r = 10 then 0 else r 6)
theorem brn_eq (hn : (n = need ∧ need ≤ r 7) ∨ (n = r 7 ∧ r 7 ≤ need)) (hy : (n < need ∧ y = wr (r 9 + 1)) ∨ (need ≤ n ∧ y = 0)) : mnv need (r 7) = n ∧ cldv need r = y := by
  have em : mnv need (r 7) = n := by
    unfold mnv
    by_cases g : need ≤ r 7
    · rw [if_pos g]
      omega
    · rw [if_neg g]
      omega
  refine ⟨em, ?_⟩
  unfold cldv
  rw [em]
  rcases hy with ⟨g1, g2⟩ | ⟨g1, g2⟩
  · rw [if_pos g1, g2]
  · rw [if_neg (by omega), g2]
theorem brn_n (hn : (n = need ∧ need ≤ r 7) ∨ (n = r 7 ∧ r 7 ≤ need)) (hz : z = wr (r 7 - n)) (hy : (n < need ∧ y = wr (r 9 + 1)) ∨ (need ≤ n ∧ y = 0)) (hp : y ≠ 10) : updf (updf r 7 z) 9 y = brn need r := by
  obtain ⟨e1, e2⟩ := brn_eq hn hy
  unfold brn
  rw [e1, e2, ← hz, if_neg hp]
  refine (updf_self ?_).symm
  rw [updf_of (by decide), updf_of (by decide)]
theorem brn_h (hn : (n = need ∧ need ≤ r 7) ∨ (n = r 7 ∧ r 7 ≤ need)) (hz : z = wr (r 7 - n)) (hy : (n < need ∧ y = wr (r 9 + 1)) ∨ (need ≤ n ∧ y = 0)) (hp : y = 10) : hom (updf (updf r 7 z) 9 y) = brn need r := by
  obtain ⟨e1, e2⟩ := brn_eq hn hy
  unfold brn hom
  rw [e1, e2, ← hz, if_pos hp]
theorem BRU.no (h : NUF K V W o (updf (updf (stv V o) 7 z) 9 y)) (hz : z = wr (vi V o 7 - n)) (hn : (n = need ∧ need ≤ vi V o 7) ∨ (n = vi V o 7 ∧ vi V o 7 ≤ need)) (h9 : Q = vi V o 9) (hy : (n < need ∧ y = wr (Q + 1)) ∨ (need ≤ n ∧ y = 0)) (hp : y ≠ 10) : NUF K V W o (brn need (stv V o)) := by
  have e7 : stv V o 7 = vi V o 7 := stv_f (by decide) (by decide)
  have e9 : stv V o 9 = vi V o 9 := stv_f (by decide) (by decide)
  rw [← e7] at hn hz
  rw [h9, ← e9] at hy
  exact h.to (brn_n hn hz hy hp)
theorem BRU.hs (h : NUF K V W o (hom (updf (updf (stv V o) 7 z) 9 y))) (hz : z = wr (vi V o 7 - n)) (hn : (n = need ∧ need ≤ vi V o 7) ∨ (n = vi V o 7 ∧ vi V o 7 ≤ need)) (h9 : Q = vi V o 9) (hy : (n < need ∧ y = wr (Q + 1)) ∨ (need ≤ n ∧ y = 0)) (hp : y = 10) : NUF K V W o (brn need (stv V o)) := by
  have e7 : stv V o 7 = vi V o 7 := stv_f (by decide) (by decide)
  have e9 : stv V o 9 = vi V o 9 := stv_f (by decide) (by decide)
  rw [← e7] at hn hz
  rw [h9, ← e9] at hy
  exact h.to (brn_h hn hz hy hp)
/-! what a day needs, and its waste -/
def ned (d : Int) (p : Int) : Int := if d ≠ 0 then wr (wdiv (wr (p + 9)) 10 * 2) else wdiv (wr (p + 9)) 10
def wst (p : Int) : Int := wdiv (wr (p + 49)) 50
def rkw (d : Int) : Nat := if d ≠ 0 then 13 else 10
def psb (d : Int) (r : Nat → Int) : Nat → Int := brn (ned d (r 6)) r
/-- a day at a station that the ice doesn't take -/
def pss (d : Int) (r : Nat → Int) : Nat → Int := updf (psb d r) (rkw d) (wr (psb d r (rkw d) + wst (psb d r 6)))
def zst (r : Nat → Int) : Nat → Int := fun f => if f = 5 then 1 else if (6 ≤ f ∧ f ≤ 8) ∨ (10 ≤ f ∧ f < 14) then 0 else r f
def pst (d l : Int) (r : Nat → Int) : Nat → Int := if l = 0 then pss d r else zst (pss d r)
theorem NED.dk (hd : d ≠ 0) (h1 : v = wr (p + 9)) (h2 : z = wr (wdiv v 10 * 2)) : z = ned d p := by
  unfold ned
  rw [if_pos hd, ← h1, h2]
theorem NED.lt (hd : d = 0) (h1 : v = wr (p + 9)) : wdiv v 10 * 1 = ned d p := by
  unfold ned
  rw [if_neg (fun g => g hd), ← h1, Int.mul_one]
theorem PSS.mk (hb : NUF K V Vb o (brn z (stv V o))) (hv : Vb o 13 = .ref q) (hq : K q = some (158 + 1, N)) (e : Va = rad Vb q N i w) (hi : (d ≠ 0 ∧ i = 3) ∨ (d = 0 ∧ i = 0)) (hz : z = ned d (vi V o 6)) (h1 : u = wr (vi Vb o 6 + 49)) (h2 : w = wdiv u 50) : NUF K V Va o (pss d (stv V o)) := by
  have e6 : stv V o 6 = vi V o 6 := stv_f (by decide) (by decide)
  have ez : brn z (stv V o) = psb d (stv V o) := by
    unfold psb
    rw [hz, e6]
  rw [ez] at hb
  refine (hb.rad hv hq e (by omega) (by omega)).cong fun S hS ho h1' => ?_
  have e6b : vi Vb o 6 = psb d (stv V o) 6 := by
    rw [← (hb S hS ho h1').2.2.1]
    exact (stv_f (by decide) (by decide)).symm
  have ew : w = wst (psb d (stv V o) 6) := by
    unfold wst
    rw [h2, h1, e6b]
  unfold pss rkw
  rcases hi with ⟨g1, g2⟩ | ⟨g1, g2⟩
  · rw [if_pos g1, g2, ew]
    rfl
  · rw [if_neg (fun g => g g1), g2, ew]
    rfl
/-! a station that is lost -/
def zs0 (r : Nat → Int) : Nat → Int := updf (updf (updf r 5 1) 7 0) 8 0
def zsi (i : Int) (r : Nat → Int) : Nat → Int := fun f => if 10 ≤ f ∧ (f : Int) < 10 + i then 0 else zs0 r f
theorem zsi_0 : zs0 r = zsi 0 r := by
  funext f
  unfold zsi
  rw [if_neg (by omega)]
theorem zsi_s (i0 : 0 ≤ i) (hn : n = i + 1) : updf (zsi i r) (10 + i.toNat) 0 = zsi n r := by
  funext f
  unfold zsi
  by_cases q : f = 10 + i.toNat
  · rw [q, updf_at, if_pos (by omega)]
  · rw [updf_of q]
    by_cases g : 10 ≤ f ∧ (f : Int) < 10 + i
    · rw [if_pos g, if_pos (by omega)]
    · rw [if_neg g, if_neg (by omega)]
theorem zsi_4 : hom (zsi 4 r) = zst r := by
  funext f
  unfold hom zst
  by_cases q6 : f = 6
  · rw [q6, updf_at]
    rfl
  · rw [updf_of q6]
    unfold zsi zs0
    by_cases q : 10 ≤ f ∧ (f : Int) < 10 + 4
    · rw [if_pos q, if_neg (by omega), if_pos (Or.inr (by omega))]
    · rw [if_neg q]
      by_cases q8 : f = 8
      · rw [q8]
        rfl
      · rw [updf_of q8]
        by_cases q7 : f = 7
        · rw [q7]
          rfl
        · rw [updf_of q7]
          by_cases q5 : f = 5
          · rw [q5]
            rfl
          · rw [updf_of q5, if_neg q5, if_neg (by omega)]
/-- the loop over its waste -/
def LSW (K : Kmap) (V W : Vmap) (o : Nat) (i : Int) : Prop := NUF K V W o (zsi i (stv V o))
theorem LSW.step (h : LSW K V W o i) (hw : NUF K V W1 o (zsi i (stv V o))) (hv : W1 o 13 = .ref q) (hq : K q = some (158 + 1, N)) (e : W2 = rpv W1 q N i 0) (i0 : 0 ≤ i) (i4 : i < 4) (hn : n = i + 1) : LSW K V W2 o n := (hw.rpv hv hq e (ir_c rfl) i0 i4).to (zsi_s i0 hn)
theorem LSW.end (h : LSW K V W o i) (hi : i = 4) (g : NUF K W W1 o (hom (stv W o))) : NUF K V W1 o (zst (stv V o)) := by
  subst hi
  exact (NUF.app hom h g).to zsi_4
/-! carried by the ice -/
def CFN (K : Kmap) (V V1 : Vmap) (q : Nat) : Prop := vi V q 0 = 2 → NUN K V V1
theorem CFN.rf : CFN K V V q := fun _ => NUN.rf
theorem CFN.wa {v : Value} {f : Nat} (e : V1 = upd2 V q f v) (hq : K q = some (0, 3)) (hf : f ≠ 0) : CFN K V V1 q := fun h => NUN.putk e hq hf (by unfold KS; omega)
theorem CFN.wb {v v' : Value} {f f' : Nat} (e1 : W = upd2 V q f v) (e2 : V1 = upd2 W q f' v') (hq : K q = some (0, 3)) (hf : f ≠ 0) (hf' : f' ≠ 0) : CFN K V V1 q := fun h => (NUN.putk e1 hq hf (by unfold KS; omega)).tr (NUN.putk e2 hq hf' (by
  have e0 : vi W q 0 = vi V q 0 := vi_up e1 (Or.inr (Ne.symm hf))
  unfold KS
  omega))
theorem NUN.putf {v : Value} (e : V1 = upd2 V q f v) (hq : K q = some (0, 3)) (hf : (1 ≤ f ∧ f ≤ 4) ∨ (10 ≤ f ∧ f ≠ 13)) : NUN K V V1 := NUN.mk fun S hS => ⟨fun b _ => vi_up e (Or.inr (by omega)), fun b h hb => by
  obtain ⟨-, N, hN⟩ := ks_row hS h hb
  exact ⟨uq_ne e (Or.inr (by omega)), fun g _ _ => vi_up e (Or.inr (by omega)), fun r => vi_up e (Or.inl (K_ne hN hq (by simp)))⟩⟩
theorem pk_2 (g : o = plO W x i.toNat ∧ PK W x i 2) : vi W o 0 = 2 := by
  obtain ⟨g1, g2⟩ := g
  rw [g1]
  exact g2.2.2
/-- as the station's own flag tells at the end -/
def CRN (K : Kmap) (V V1 : Vmap) (o : Nat) : Prop := vi V o 5 = 0 → NUF K V V1 o (if vi V1 o 5 = 0 then stv V o else zst (stv V o))
theorem CRN.kp (h : NUN K V V1) : CRN K V V1 o := fun hl => (NUF.rf.nn h).cong fun S hS ho h1 => by
  obtain ⟨-, -, a3⟩ := h S hS
  have g := congrFun (a3 o ho (Or.inl h1)) 5
  rw [stv_f (by decide) (by decide), stv_f (by decide) (by decide)] at g
  rw [if_pos (by omega)]
theorem CRN.ls (h : NUN K V W) (g : NUF K W V1 o (zst (stv W o))) : CRN K V V1 o := fun hl => (NUN.nf (φ := zst) h g).cong fun S hS ho h1 => by
  obtain ⟨-, -, a3, -⟩ := (NUN.nf (φ := zst) h g) S hS ho h1
  have e5 : vi V1 o 5 = 1 := by
    rw [← stv_f (V := V1) (o := o) (f := 5) (by decide) (by decide), a3]
    rfl
  rw [if_neg (by omega)]
/-! the pass of a station -/
def DKC (V : Vmap) (x : Nat) (d : Int) : Prop := d ≠ 0 ↔ vi V (vq V x 0) 1 ≤ wrem (tdy V x) 360 ∧ wrem (tdy V x) 360 ≤ vi V (vq V x 0) 2
def PSN (K : Kmap) (V V1 : Vmap) (x : Nat) (k : Int) : Prop := ((NN 6 5 V x → ¬ STN V x k) ∧ NUN K V V1) ∨ (STN V x k ∧ ∃ d, DKC V x d ∧ NUF K V V1 (plO V x k.toNat) (pst d (vi V1 (plO V x k.toNat) 5) (stv V (plO V x k.toNat))))
theorem PSN.no (h : NN 6 5 V x → ¬ STN V x k) : PSN K V V x k := Or.inl ⟨h, NUN.rf⟩
theorem pss_5 : pss d r 5 = r 5 := by
  have h : 5 ≠ rkw d := by
    unfold rkw
    split <;> decide
  unfold pss psb brn
  rw [updf_of h, updf_of (by decide), updf_of (by decide), updf_of (by decide)]
theorem pss_cong' {d' : Int} (h : d' ≠ 0 ↔ d ≠ 0) : pss d' r = pss d r := by
  unfold pss rkw psb ned
  by_cases g : d ≠ 0
  · rw [if_pos g, if_pos g, if_pos (h.mpr g), if_pos (h.mpr g)]
  · rw [if_neg g, if_neg g, if_neg (fun e => g (h.mp e)), if_neg (fun e => g (h.mp e))]
theorem PSN.st (g : o = plO V x k.toNat ∧ STN V x k) (hd : DKC V x d) (h : NUF K V V1 o (pss d (stv V o))) : PSN K V V1 x k := Or.inr ⟨g.2, d, hd, by
  obtain ⟨g1, g2⟩ := g
  subst g1
  refine h.cong fun S hS ho h1 => ?_
  have e5 : vi V1 (plO V x k.toNat) 5 = 0 := by
    rw [← stv_f (V := V1) (o := plO V x k.toNat) (f := 5) (by decide) (by decide), (h S hS ho h1).2.2.1, pss_5, stv_f (by decide) (by decide)]
    exact g2.2
  unfold pst
  rw [if_pos e5]⟩
theorem PSN.go (g : o = plO V x k.toNat ∧ STN V x k) (hd : DKC V x d) (h : NUF K V W o (pss d (stv V o))) (hc : CRN K W V1 o) : PSN K V V1 x k := Or.inr ⟨g.2, d, hd, by
  obtain ⟨g1, g2⟩ := g
  subst g1
  intro S hS ho h1
  obtain ⟨a1, a2, a3, a4⟩ := h S hS ho h1
  have e5 : vi W (plO V x k.toNat) 5 = 0 := by
    rw [← stv_f (V := W) (o := plO V x k.toNat) (f := 5) (by decide) (by decide), a3, pss_5, stv_f (by decide) (by decide)]
    exact g2.2
  obtain ⟨b1, b2, b3, b4⟩ := hc e5 S a1 ho ((a2 _ ho).trans h1)
  refine ⟨b1, fun b hb => (b2 b hb).trans (a2 b hb), ?_, fun b hb n hk => (b4 b hb n (hk.to (a2 b hb))).trans (a4 b hb n hk)⟩
  rw [b3, a3]
  rfl⟩
end Q2
