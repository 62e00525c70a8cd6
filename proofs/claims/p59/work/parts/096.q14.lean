/-! ### what a call does to one store: people, hide; nests' counts, loss; covers; how ships stand -/
section Q14
variable {K K0 K1 K2 : Kmap} {V V0 V1 V2 V3 W W0 W1 W2 : Vmap} {x m o q f N l : Nat} {k i j n e d p a b w y z u v t s r X Y Z A B E T : Int} {ρ : Nat → Int} {Q : (Nat → Int) → Prop} {φ : (Nat → Int) → Nat → Int}
def CST (K : Kmap) (V V1 : Vmap) (x : Nat) (k X : Int) (Q : (Nat → Int) → Prop) (φ : (Nat → Int) → Nat → Int) : Prop := NN 6 5 V x → (X = 0 ∧ V1 = V ∧ ¬ (STN V x k ∧ Q (stv V (plO V x k.toNat)))) ∨ (X = 1 ∧ (STN V x k ∧ Q (stv V (plO V x k.toNat))) ∧ NUF K V V1 (plO V x k.toNat) (φ (stv V (plO V x k.toNat))))
theorem CST.ns (h : NN 6 5 V x → ¬ STN V x k) (hX : X = 0) : CST K V V x k X Q φ := fun hN => Or.inl ⟨hX, rfl, fun g => h hN g.1⟩
theorem CST.np (g : o = plO V x k.toNat ∧ STN V x k) (hq : ¬ Q (stv V o)) (hX : X = 0) : CST K V V x k X Q φ := fun _ => Or.inl ⟨hX, rfl, fun h => hq (by rw [g.1]; exact h.2)⟩
theorem CST.ok (g : o = plO V x k.toNat ∧ STN V x k) (hq : Q (stv V o)) (hX : X = 1) (h : NUF K V V1 o (φ (stv V o))) : CST K V V1 x k X Q φ := fun _ => by
  obtain ⟨g1, g2⟩ := g
  subst g1
  exact Or.inr ⟨hX, ⟨g2, hq⟩, h⟩
def MCS (V V1 : Vmap) (m : Nat) (k X : Int) (Q : (Nat → Int) → Prop) (φ : (Nat → Int) → Nat → Int) : Prop := (X = 0 ∧ V1 = V ∧ ¬ (MSN V m k ∧ Q (rst V m k.toNat))) ∨ (X = 1 ∧ (MSN V m k ∧ Q (rst V m k.toNat)) ∧ rst V1 m = upg (rst V m) k.toNat (φ (rst V m k.toNat)))
theorem MCS.ns (h : Y ≠ 0 ↔ MSN V m k) (hY : Y = 0) (hX : X = 0) : MCS V V m k X Q φ := Or.inl ⟨hX, rfl, fun g => absurd hY (h.mpr g.1)⟩
theorem MCS.np (hq : ¬ Q (rst V m k.toNat)) (hX : X = 0) : MCS V V m k X Q φ := Or.inl ⟨hX, rfl, fun g => hq g.2⟩
theorem MCS.ok (h : Y ≠ 0 ↔ MSN V m k) (hY : Y ≠ 0) (hq : Q (rst V m k.toNat)) (hX : X = 1) (e : rst V1 m = upg (rst V m) k.toNat (φ (rst V m k.toNat))) : MCS V V1 m k X Q φ := Or.inr ⟨hX, ⟨h.mp hY, hq⟩, e⟩
/-! people -/
def ped (n : Int) (ρ : Nat → Int) : Prop := (-500 ≤ n ∧ n ≤ 500) ∧ 0 ≤ wr (ρ 6 + n) ∧ wr (ρ 6 + n) ≤ 500
def pef (n : Int) (ρ : Nat → Int) : Nat → Int := updf ρ 6 (wr (ρ 6 + n))
theorem PED.n1 (h : ¬ (-500 ≤ n ∧ n ≤ 500)) : ¬ ped n ρ := fun g => h g.1
theorem PED.n2 (hz : z = wr (vi V o 6 + n)) (h : ¬ (0 ≤ z ∧ z ≤ 500)) : ¬ ped n (stv V o) := fun g => by
  have g2 := g.2
  rw [stv_f (by decide) (by decide), ← hz] at g2
  exact h g2
theorem PED.ys (hz : z = wr (vi V o 6 + n)) (h1 : -500 ≤ n ∧ n ≤ 500) (h2 : 0 ≤ z ∧ z ≤ 500) : ped n (stv V o) := ⟨h1, by rw [stv_f (by decide) (by decide), ← hz]; exact h2⟩
theorem PEF.mk (e : V1 = upd2 V o 6 (ti z)) (rz : ir z) (hz : z = wr (vi V o 6 + n)) : NUF K V V1 o (pef n (stv V o)) := (NUF.rf.put e rz (by decide) (by decide)).to (by
  unfold pef
  rw [hz, stv_f (by decide) (by decide)])
theorem PED.m2 (b : 0 ≤ vi V (vq V m 19) k.toNat ∧ vi V (vq V m 19) k.toNat ≤ 500) (hn : -500 ≤ n ∧ n ≤ 500) (h : ¬ (0 ≤ vi V (vq V m 19) k.toNat + n ∧ vi V (vq V m 19) k.toNat + n ≤ 500)) : ¬ ped n (rst V m k.toNat) := fun g => by
  have g2 := g.2
  have e : rst V m k.toNat 6 = vi V (vq V m 19) k.toNat := rfl
  rw [e, wr_id ⟨by omega, by omega⟩] at g2
  exact h g2
theorem PED.my (b : 0 ≤ vi V (vq V m 19) k.toNat ∧ vi V (vq V m 19) k.toNat ≤ 500) (hn : -500 ≤ n ∧ n ≤ 500) (h : 0 ≤ vi V (vq V m 19) k.toNat + n ∧ vi V (vq V m 19) k.toNat + n ≤ 500) : ped n (rst V m k.toNat) := ⟨hn, by
  have e : rst V m k.toNat 6 = vi V (vq V m 19) k.toNat := rfl
  rw [e, wr_id ⟨by omega, by omega⟩]
  exact h⟩
theorem PEM.mk {k1 : Nat} (a19 : ar 19 V1 m = updf (ar 19 V m) k1 z) (q1 : k1 = k.toNat) (hz : z = vi V (vq V m 19) k.toNat + n) (b : 0 ≤ vi V (vq V m 19) k.toNat ∧ vi V (vq V m 19) k.toNat ≤ 500) (hn : -500 ≤ n ∧ n ≤ 500) (a20 : ar 20 V1 m = ar 20 V m) (a21 : ar 21 V1 m = ar 21 V m) (a22 : ar 22 V1 m = ar 22 V m) (a23 : ar 23 V1 m = ar 23 V m) (a28 : ar 28 V1 m = ar 28 V m) : rst V1 m = upg (rst V m) k.toNat (pef n (rst V m k.toNat)) := by
  obtain ⟨r5, r6, r7, r8, r9, rr⟩ := rst_at (V := V) (m := m) (k := k.toNat)
  unfold pef
  have e6 : rst V m k.toNat 6 = vi V (vq V m 19) k.toNat := rfl
  rw [e6, wr_id ⟨by omega, by omega⟩, ← hz]
  exact rst_up (as_u a19 q1 updf_at) (as_s a20 (by rw [updf_of (by decide)]; exact r7)) (as_s a21 (by rw [updf_of (by decide)]; exact r8)) (as_s a22 (by rw [updf_of (by decide)]; exact r9)) (as_s a28 (by rw [updf_of (by decide)]; exact r5)) (fun j r hr => by
    rw [a23]
    split
    · rename_i h
      rw [h, updf_of (by omega), rr r hr]
    · rfl) (fun f hf => by rw [updf_of (by omega), rst_0 hf])
/-! hide -/
def hid (n : Int) (ρ : Nat → Int) : Prop := n ≤ ρ 7 ∧ wr (-(ρ 8)) ≤ n
def hif (n : Int) (ρ : Nat → Int) : Nat → Int := updf (updf ρ 7 (wr (ρ 7 - n))) 8 (wr (ρ 8 + n))
theorem HID.n1 (h : vi V o 7 < n) : ¬ hid n (stv V o) := fun g => by
  have g1 := g.1
  rw [stv_f (by decide) (by decide)] at g1
  omega
theorem HID.n2 (hz : z = wr (-(vi V o 8))) (h : n < z) : ¬ hid n (stv V o) := fun g => by
  have g2 := g.2
  rw [stv_f (by decide) (by decide), ← hz] at g2
  omega
theorem HID.ys (h : n ≤ vi V o 7) (hz : z = wr (-(vi V o 8))) (h2 : z ≤ n) : hid n (stv V o) := ⟨by rw [stv_f (by decide) (by decide)]; exact h, by rw [stv_f (by decide) (by decide), ← hz]; exact h2⟩
theorem HIF.mk (e1 : W = upd2 V o 7 (ti y)) (ry : ir y) (hy : y = wr (vi V o 7 - n)) (e2 : V1 = upd2 W o 8 (ti z)) (rz : ir z) (hz : z = wr (vi W o 8 + n)) : NUF K V V1 o (hif n (stv V o)) := ((NUF.rf.put e1 ry (by decide) (by decide)).put e2 rz (by decide) (by decide)).to (by
  have e8 : vi W o 8 = vi V o 8 := vi_up e1 (Or.inr (by decide))
  unfold hif
  rw [hz, hy, e8, stv_f (by decide) (by decide), stv_f (by decide) (by decide)])
theorem HID.m1 (h : vi V (vq V m 20) k.toNat < n) : ¬ hid n (rst V m k.toNat) := fun g => by
  have g1 : n ≤ vi V (vq V m 20) k.toNat := g.1
  omega
theorem HID.m2 (hz : z = wr (-(vi V (vq V m 21) k.toNat))) (h : n < z) : ¬ hid n (rst V m k.toNat) := fun g => by
  have g2 : wr (-(vi V (vq V m 21) k.toNat)) ≤ n := g.2
  omega
theorem HID.my (h : n ≤ vi V (vq V m 20) k.toNat) (hz : z = wr (-(vi V (vq V m 21) k.toNat))) (h2 : z ≤ n) : hid n (rst V m k.toNat) := ⟨h, by
  show wr (-(vi V (vq V m 21) k.toNat)) ≤ n
  omega⟩
theorem HIM.mk {k1 k2 : Nat} (a20 : ar 20 V1 m = updf (ar 20 V m) k1 y) (q1 : k1 = k.toNat) (hy : y = wr (vi V (vq V m 20) k.toNat - n)) (a21 : ar 21 V1 m = updf (ar 21 V m) k2 z) (q2 : k2 = k.toNat) (hz : z = wr (Z + n)) (hZ : Z = vi V (vq V m 21) k.toNat) (a19 : ar 19 V1 m = ar 19 V m) (a22 : ar 22 V1 m = ar 22 V m) (a23 : ar 23 V1 m = ar 23 V m) (a28 : ar 28 V1 m = ar 28 V m) : rst V1 m = upg (rst V m) k.toNat (hif n (rst V m k.toNat)) := by
  obtain ⟨r5, r6, r7, r8, r9, rr⟩ := rst_at (V := V) (m := m) (k := k.toNat)
  unfold hif
  have e7 : rst V m k.toNat 7 = vi V (vq V m 20) k.toNat := rfl
  have e8 : rst V m k.toNat 8 = vi V (vq V m 21) k.toNat := rfl
  rw [e7, e8, ← hZ, ← hy, ← hz]
  exact rst_up (as_s a19 (by rw [updf_of (by decide), updf_of (by decide)]; exact r6)) (as_u a20 q1 (by rw [updf_of (by decide), updf_at])) (as_u a21 q2 updf_at) (as_s a22 (by rw [updf_of (by decide), updf_of (by decide)]; exact r9)) (as_s a28 (by rw [updf_of (by decide), updf_of (by decide)]; exact r5)) (fun j r hr => by
    rw [a23]
    split
    · rename_i h
      rw [h, updf_of (by omega), updf_of (by omega), rr r hr]
    · rfl) (fun f hf => by rw [updf_of (by omega), updf_of (by omega), rst_0 hf])
/-! nests -/
/-- one nest's row changes at one year -/
def BIC (K : Kmap) (V V1 : Vmap) (x : Nat) (k y n X : Int) : Prop := NN 6 5 V x → (X = 0 ∧ V1 = V ∧ ¬ (PK V x k 5 ∧ (0 ≤ y ∧ y ≤ 9) ∧ 0 ≤ n ∧ n ≤ 100000)) ∨ (X = 1 ∧ (PK V x k 5 ∧ (0 ≤ y ∧ y ≤ 9) ∧ 0 ≤ n ∧ n ≤ 100000) ∧ ∀ S, RWS K S V → S (plO V x k.toNat) → RWS K S V1 ∧ (∀ b, S b → vi V1 b 0 = vi V b 0) ∧ stv V1 (plO V x k.toNat) = updf (stv V (plO V x k.toNat)) (10 + y.toNat) n ∧ ∀ b, S b → b ≠ plO V x k.toNat → KS V b → stv V1 b = stv V b)
theorem BIC.nk (h : NN 6 5 V x → ¬ PK V x k 5) (hX : X = 0) : BIC K V V x k y n X := fun hN => Or.inl ⟨hX, rfl, fun g => h hN g.1⟩
theorem BIC.nn (h : ¬ ((0 ≤ y ∧ y ≤ 9) ∧ 0 ≤ n ∧ n ≤ 100000)) (hX : X = 0) : BIC K V V x k y n X := fun _ => Or.inl ⟨hX, rfl, fun g => h g.2⟩
theorem BIC.abs (g : o = plO V x k.toNat ∧ PK V x k 5) (hX : X = 1) (hr : (0 ≤ y ∧ y ≤ 9) ∧ 0 ≤ n ∧ n ≤ 100000) (hv : V o 13 = .null) : BIC K V V1 x k y n X := fun _ => by
  obtain ⟨g1, g2⟩ := g
  subst g1
  refine Or.inr ⟨hX, ⟨g2, hr⟩, fun S hS ho => ?_⟩
  have r := ((hS _ ho).2.2.1 g2.2.2).1
  rw [hv] at r
  cases r
theorem BIC.ok (g : o = plO V x k.toNat ∧ PK V x k 5) (hX : X = 1) (hr : (0 ≤ y ∧ y ≤ 9) ∧ 0 ≤ n ∧ n ≤ 100000) (hv : V o 13 = .ref q) (hq : K q = some (158 + 1, N)) (e : V1 = rpv V q N y n) : BIC K V V1 x k y n X := fun _ => by
  obtain ⟨g1, g2⟩ := g
  subst g1
  refine Or.inr ⟨hX, ⟨g2, hr⟩, fun S hS ho => ?_⟩
  have k5 : vi V (plO V x k.toNat) 0 = 5 := g2.2.2
  have r2 := ((hS _ ho).2.2.1 k5).2
  rw [vq_of hv, hq] at r2
  have hn : N = 10 := (Prod.mk.inj (Option.some.inj r2)).2
  have e' := rpv_put e hr.1.1 (by omega)
  have sm : ∀ b g, b ≠ q → V1 b g = V b g := fun b g h => uq_ne e' (Or.inl h)
  have nq : ∀ b, S b → b ≠ q := fun b hb => K_ne (hS b hb).1 hq (by simp)
  have h0 : ∀ b, S b → vi V1 b 0 = vi V b 0 := fun b hb => vi_eq (sm b 0 (nq b hb))
  have h13 : ∀ b, S b → V1 b 13 = V b 13 := fun b hb => sm b 13 (nq b hb)
  refine ⟨hS.same h0 (fun b hb _ => h13 b hb), h0, ?_, fun b hb n' hk => ?_⟩
  · funext g
    unfold stv
    rw [h0 _ ho, vq_eq (h13 _ ho), vq_of hv]
    by_cases g1 : g = 10 + y.toNat
    · subst g1
      rw [updf_at, if_pos (by omega), if_pos (Or.inr ⟨k5, by omega⟩), show 10 + y.toNat - 10 = y.toNat by omega]
      exact upd2_int e' ⟨by omega, by omega⟩
    · rw [updf_of g1]
      split
      · split
        · exact vi_eq (uq_ne e' (Or.inr (by omega)))
        · rfl
      · split
        · exact vi_eq (sm _ g (nq _ ho))
        · rfl
  · have nr : vq V b 13 ≠ q := by
      have := (hS b hb).2.2.2 _ ho n' hk (Or.inr k5)
      rwa [vq_of hv] at this
    exact stv_eq (h0 b hb) (h13 b hb) (fun g _ _ => vi_eq (sm b g (nq b hb))) (fun r => vi_eq (sm _ r nr))
def MBI' (V V1 : Vmap) (m : Nat) (k y n X : Int) : Prop := (X = 0 ∧ V1 = V ∧ ¬ (MPK V m k 5 ∧ (0 ≤ y ∧ y ≤ 9) ∧ 0 ≤ n ∧ n ≤ 100000)) ∨ (X = 1 ∧ (MPK V m k 5 ∧ (0 ≤ y ∧ y ≤ 9) ∧ 0 ≤ n ∧ n ≤ 100000) ∧ ar 27 V1 m = updf (ar 27 V m) (10 * k.toNat + y.toNat) n)
theorem MBI'.nk (h : Y ≠ 0 ↔ MPK V m k 5) (hY : Y = 0) (hX : X = 0) : MBI' V V m k y n X := Or.inl ⟨hX, rfl, fun g => absurd hY (h.mpr g.1)⟩
theorem MBI'.nn (h : ¬ ((0 ≤ y ∧ y ≤ 9) ∧ 0 ≤ n ∧ n ≤ 100000)) (hX : X = 0) : MBI' V V m k y n X := Or.inl ⟨hX, rfl, fun g => h g.2⟩
theorem MBI'.ok {t1 : Nat} (h : Y ≠ 0 ↔ MPK V m k 5) (hY : Y ≠ 0) (hX : X = 1) (hr : (0 ≤ y ∧ y ≤ 9) ∧ 0 ≤ n ∧ n ≤ 100000) (a27 : ar 27 V1 m = updf (ar 27 V m) t1 n) (q1 : t1 = 10 * k.toNat + y.toNat) : MBI' V V1 m k y n X := by
  subst q1
  exact Or.inr ⟨hX, ⟨h.mp hY, hr⟩, a27⟩
/-! covers -/
def CVC (V V1 : Vmap) (l : Nat) (s y n X : Int) : Prop := (X = 0 ∧ V1 = V ∧ ¬ ((0 ≤ s ∧ s ≤ 3) ∧ (0 ≤ y ∧ y ≤ 11) ∧ 0 ≤ n ∧ n ≤ 100)) ∨ (X = 1 ∧ ((0 ≤ s ∧ s ≤ 3) ∧ (0 ≤ y ∧ y ≤ 11) ∧ 0 ≤ n ∧ n ≤ 100) ∧ V1 = rpv V (vq V l 9) 48 (s * 12 + y) n)
theorem CVC.no (h : ¬ ((0 ≤ s ∧ s ≤ 3) ∧ (0 ≤ y ∧ y ≤ 11) ∧ 0 ≤ n ∧ n ≤ 100)) (hX : X = 0) : CVC V V l s y n X := Or.inl ⟨hX, rfl, h⟩
theorem CVC.ok (h : (0 ≤ s ∧ s ≤ 3) ∧ (0 ≤ y ∧ y ≤ 11) ∧ 0 ≤ n ∧ n ≤ 100) (hX : X = 1) (e : V1 = rpv V (vq V l 9) 48 (s * 12 + y) n) : CVC V V1 l s y n X := Or.inr ⟨hX, h, e⟩
def MCV (V V1 : Vmap) (m : Nat) (s y n X : Int) : Prop := (X = 0 ∧ V1 = V ∧ ¬ ((0 ≤ s ∧ s ≤ 3) ∧ (0 ≤ y ∧ y ≤ 11) ∧ 0 ≤ n ∧ n ≤ 100)) ∨ (X = 1 ∧ ((0 ≤ s ∧ s ≤ 3) ∧ (0 ≤ y ∧ y ≤ 11) ∧ 0 ≤ n ∧ n ≤ 100) ∧ ar 105 V1 m = updf (ar 105 V m) (12 * s + y).toNat n)
theorem MCV.no (h : ¬ ((0 ≤ s ∧ s ≤ 3) ∧ (0 ≤ y ∧ y ≤ 11) ∧ 0 ≤ n ∧ n ≤ 100)) (hX : X = 0) : MCV V V m s y n X := Or.inl ⟨hX, rfl, h⟩
theorem MCV.ok {t1 : Nat} (h : (0 ≤ s ∧ s ≤ 3) ∧ (0 ≤ y ∧ y ≤ 11) ∧ 0 ≤ n ∧ n ≤ 100) (hX : X = 1) (e : ar 105 V1 m = updf (ar 105 V m) t1 n) (q : t1 = (12 * s + y).toNat) : MCV V V1 m s y n X := by
  subst q
  exact Or.inr ⟨hX, h, e⟩
/-! how a ship stands -/
def atv (w : Int) (ρ : Nat → Int) (X : Int) : Prop := (w = 0 → X = ρ 3) ∧ (w = 1 → X = ρ 6) ∧ (w = 2 → X = ρ 7) ∧ (w = 3 → X = if ρ 3 = 1 ∨ ρ 3 = 3 then ρ 8 else -1) ∧ (w = 4 → X = ρ 9) ∧ ((w < 0 ∨ 4 < w) → X = -1)
def ATC (V : Vmap) (x : Nat) (s w X : Int) : Prop := SN V x → ((s < 0 ∨ vi V x 10 ≤ s) ∧ X = -1) ∨ ((0 ≤ s ∧ s < vi V x 10) ∧ atv w (shv V (shO V x s.toNat)) X)
theorem ATC.no (h : SN V x → s < 0 ∨ vi V x 10 ≤ s) (hX : X = -1) : ATC V x s w X := fun hN => Or.inl ⟨h hN, hX⟩
theorem ATC.ys (g : o = vq V (vq V x 9) s.toNat) (h : 0 ≤ s ∧ s < vi V x 10) (h0 : w = 0 → X = vi V o 3) (h1 : w = 1 → X = vi V o 6) (h2 : w = 2 → X = vi V o 7) (h3 : w = 3 → (X = vi V o 8 ∧ (vi V o 3 = 1 ∨ vi V o 3 = 3)) ∨ (X = -1 ∧ ¬ (vi V o 3 = 1 ∨ vi V o 3 = 3))) (h4 : w = 4 → X = vi V o 9) (h5 : (w < 0 ∨ 4 < w) → X = -1) : ATC V x s w X := fun _ => by
  have g' : o = shO V x s.toNat := g
  subst g'
  have key : ∀ f, f < 11 → shv V (shO V x s.toNat) f = vi V (shO V x s.toNat) f := fun f hf => shv_f hf
  refine Or.inr ⟨h, fun e => ?_, fun e => ?_, fun e => ?_, fun e => ?_, fun e => ?_, h5⟩
  · rw [key 3 (by decide)]
    exact h0 e
  · rw [key 6 (by decide)]
    exact h1 e
  · rw [key 7 (by decide)]
    exact h2 e
  · rw [key 3 (by decide), key 8 (by decide)]
    rcases h3 e with ⟨a1, a2⟩ | ⟨a1, a2⟩
    · rw [if_pos a2]
      exact a1
    · rw [if_neg a2]
      exact a1
  · rw [key 9 (by decide)]
    exact h4 e
def ATM (V : Vmap) (m : Nat) (s w X : Int) : Prop := ((s < 0 ∨ vi V m 91 ≤ s) ∧ X = -1) ∨ ((0 ≤ s ∧ s < vi V m 91) ∧ (w = 0 → X = msv V m s.toNat 3) ∧ (w = 1 → X = msv V m s.toNat 6) ∧ (w = 2 → X = msv V m s.toNat 7) ∧ (w = 3 → X = msv V m s.toNat 8) ∧ (w = 4 → X = msv V m s.toNat 9) ∧ ((w < 0 ∨ 4 < w) → X = -1))
theorem ATM.no (h : s < 0 ∨ vi V m 91 ≤ s) (hX : X = -1) : ATM V m s w X := Or.inl ⟨h, hX⟩
theorem ATM.ys (h : 0 ≤ s ∧ s < vi V m 91) (h0 : w = 0 → X = vi V (vq V m 97) s.toNat) (h1 : w = 1 → X = vi V (vq V m 98) s.toNat) (h2 : w = 2 → X = vi V (vq V m 99) s.toNat) (h3 : w = 3 → X = vi V (vq V m 100) s.toNat) (h4 : w = 4 → X = vi V (vq V m 101) s.toNat) (h5 : (w < 0 ∨ 4 < w) → X = -1) : ATM V m s w X := Or.inr ⟨h, h0, h1, h2, h3, h4, h5⟩
end Q14
