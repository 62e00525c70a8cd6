/-! ### ships: the class's methods -/
section Q4
variable {K K0 K1 K2 : Kmap} {V V0 V1 V2 V3 W W1 W2 : Vmap} {x m o t q f N s l : Nat} {i j n k e d p a b w z y v X Y Z Q D room cov c : Int} {r u g : Nat → Int} {S : Nat → Prop} {pr : Int × (Nat → Int)}
def shv (V : Vmap) (s : Nat) : Nat → Int := fun f => if f < 11 then vi V s f else 0
theorem shv_f (h : f < 11) : shv V s f = vi V s f := if_pos h
/-- one ship becomes r, the others stay -/
def SHU (K : Kmap) (V V1 : Vmap) (s : Nat) (r : Nat → Int) : Prop := shv V1 s = r ∧ ∀ b, K b = some (0, 6) → b ≠ s → shv V1 b = shv V b
def SHX (K : Kmap) (V V1 : Vmap) : Prop := ∀ b, K b = some (0, 6) → shv V1 b = shv V b
theorem SHX.rf : SHX K V V := fun _ _ => rfl
theorem SHX.tr (h : SHX K V V1) (g : SHX K V1 V2) : SHX K V V2 := fun b hb => (g b hb).trans (h b hb)
theorem SHX.row (h : ∀ b, K b = some (0, 6) → V1 b = V b) : SHX K V V1 := fun b hb => by
  funext f
  unfold shv vi
  rw [h b hb]
def sxbits (ws : Nat) : Bool := [keyK (0, 6) 0, keyK (0, 6) 1, keyK (0, 6) 2, keyK (0, 6) 3, keyK (0, 6) 4, keyK (0, 6) 5, keyK (0, 6) 6, keyK (0, 6) 7, keyK (0, 6) 8, keyK (0, 6) 9, keyK (0, 6) 10].all fun b => !ws.testBit b
theorem sx_fr {ws : Nat} (hF : FR ws K V K1 V1) (hE : ext K K1) (hs : K s = some (0, 6)) (hb : sxbits ws = true) : shv V1 s = shv V s := by
  simp only [sxbits, List.all_cons, List.all_nil, Bool.and_true, Bool.and_eq_true, Bool.not_eq_true'] at hb
  obtain ⟨c0, c1, c2, c3, c4, c5, c6, c7, c8, c9, c10⟩ := hb
  have hs1 := hE.obj (Or.inl (by decide)) hs
  funext f
  unfold shv
  by_cases q : f < 11
  · rw [if_pos q, if_pos q]
    rcases (show f = 0 ∨ f = 1 ∨ f = 2 ∨ f = 3 ∨ f = 4 ∨ f = 5 ∨ f = 6 ∨ f = 7 ∨ f = 8 ∨ f = 9 ∨ f = 10 by omega) with rfl | rfl | rfl | rfl | rfl | rfl | rfl | rfl | rfl | rfl | rfl
    · exact vi_fr hF hs hs1 c0
    · exact vi_fr hF hs hs1 c1
    · exact vi_fr hF hs hs1 c2
    · exact vi_fr hF hs hs1 c3
    · exact vi_fr hF hs hs1 c4
    · exact vi_fr hF hs hs1 c5
    · exact vi_fr hF hs hs1 c6
    · exact vi_fr hF hs hs1 c7
    · exact vi_fr hF hs hs1 c8
    · exact vi_fr hF hs hs1 c9
    · exact vi_fr hF hs hs1 c10
  · rw [if_neg q, if_neg q]
theorem SHX.fr {ws : Nat} (hF : FR ws K V K V1) (hb : sxbits ws = true) : SHX K V V1 := fun _ hs => sx_fr hF ext.rf hs hb
theorem SHX.put {v : Value} {kd : Nat × Nat} (e : V1 = upd2 V q f v) (hq : K q = some kd) (hk : kd ≠ (0, 6)) : SHX K V V1 := SHX.row fun b hb => by
  funext g
  exact uq_ne e (Or.inl (K_ne hb hq (Ne.symm hk)))
theorem SHX.rpw (e : V1 = rpv V q N i d) (hq : K q = some (158 + 1, N)) : SHX K V V1 := by
  unfold rpv at e
  by_cases g : 0 ≤ i ∧ i < (N : Int)
  · rw [if_pos g] at e
    exact SHX.put e hq (by simp)
  · rw [if_neg g] at e
    rw [e]
    exact SHX.rf
theorem SHU.rf : SHU K V V s (shv V s) := ⟨rfl, fun _ _ _ => rfl⟩
theorem SHU.to (h : SHU K V W s r) (e : r = u) : SHU K V W s u := e ▸ h
theorem SHU.nn (h : SHU K V W s r) (g : SHX K W W1) (hs : K s = some (0, 6)) : SHU K V W1 s r := ⟨(g s hs).trans h.1, fun b hb n => (g b hb).trans (h.2 b hb n)⟩
theorem SHX.nf (g : SHX K V W) (h : SHU K W W1 s r) : SHU K V W1 s r := ⟨h.1, fun b hb n => (h.2 b hb n).trans (g b hb)⟩
theorem SHU.put (h : SHU K V W s r) (e : W1 = upd2 W s f (ti d)) (rd : ir d) (hf : f < 11) : SHU K V W1 s (updf r f d) := by
  refine ⟨?_, fun b hb n => ?_⟩
  · rw [← h.1]
    funext g
    by_cases q : g = f
    · rw [q, updf_at, shv_f hf]
      exact upd2_int e rd
    · rw [updf_of q]
      unfold shv
      split
      · exact vi_up e (Or.inr q)
      · rfl
  · refine Eq.trans ?_ (h.2 b hb n)
    funext g
    unfold shv
    split
    · exact vi_up e (Or.inl n)
    · rfl
theorem SHU.app (ψ : (Nat → Int) → Nat → Int) (h : SHU K V W s r) (g : SHU K W W1 s (ψ (shv W s))) : SHU K V W1 s (ψ r) := ⟨by rw [g.1, h.1], fun b hb n => (g.2 b hb n).trans (h.2 b hb n)⟩
theorem NUN.oth {v : Value} (e : V1 = upd2 V q f v) (hq : K q = some (0, N)) (hc : N ≠ 3) : NUN K V V1 := NUN.mk fun S hS => by
  have ne : ∀ b, S b → b ≠ q := fun b h => K_ne (hS b h).1 hq (fun g => hc (Prod.mk.inj g).2.symm)
  exact ⟨fun b h => vi_up e (Or.inl (ne b h)), fun b h hb => by
    obtain ⟨-, M, hM⟩ := ks_row hS h hb
    exact ⟨uq_ne e (Or.inl (ne b h)), fun g _ _ => vi_up e (Or.inl (ne b h)), fun r => vi_up e (Or.inl (K_ne hM hq (by simp)))⟩⟩
theorem updf_upd {g : Nat → Int} {f : Nat} {a b : Int} : updf (updf g f a) f b = updf g f b := by
  funext j
  by_cases q : j = f
  · rw [q, updf_at, updf_at]
  · rw [updf_of q, updf_of q, updf_of q]
/-! leaving, turning back, coming home -/
def lvs (sea st dr dy D : Int) (t : Nat → Int) : Nat → Int := updf (updf (updf (updf (updf (updf (updf t 3 1) 4 sea) 5 st) 6 dr) 10 dy) 8 (wr (D + dy))) 9 0
theorem LVS.mk (h : SHU K V W s (updf (updf (updf (updf (updf (shv V s) 3 1) 4 a) 5 b) 6 p) 10 w)) (e : W1 = upd2 W s 8 (ti z)) (rz : ir z) (hz : z = wr (D + w)) (e2 : W2 = upd2 W1 s 9 (ti 0)) : SHU K V W2 s (lvs a b p w D (shv V s)) := ((h.put e rz (by decide)).put e2 (ir_c rfl) (by decide)).to (by
  unfold lvs
  rw [hz])
theorem TBK.mk (h : SHU K V W s (updf (shv V s) 3 3)) (e : W1 = upd2 W s 8 (ti z)) (rz : ir z) (hz : z = wr (D + Q)) (hQ : Q = vi V s 10) : SHU K V W1 s (tb3 D (shv V s)) := (h.put e rz (by decide)).to (by
  unfold tb3
  rw [hz, hQ, shv_f (by decide)])
/-! unloading -/
def UCF (K : Kmap) (V V1 : Vmap) (s o : Nat) (p : Int × (Nat → Int)) : Prop := ∀ S, RWS K S V → S o → vi V o 0 = 1 → (RWS K S V1 ∧ (∀ b, S b → vi V1 b 0 = vi V b 0) ∧ stv V1 o = p.2 ∧ ∀ b, S b → b ≠ o → KS V b → stv V1 b = stv V b) ∧ vi V1 s 7 = p.1
theorem UCF.nuf (h : UCF K V V1 s o pr) : NUF K V V1 o pr.2 := fun S a b c => (h S a b c).1
theorem UCF.step (h : UCF K V W s o pr) (hv : W o 13 = .ref q) (hq : K q = some (158 + 1, N)) (hX : X = rgv W q N i) (hZ : Z = wr (vi W s 1 - vi W s 7)) (hd : d = wr (-n)) (hn : (n = Z ∧ Z ≤ X) ∨ (n = X ∧ X ≤ Z)) (e1 : W1 = rad W q N i d) (h7 : Q = vi W s 7) (hy : y = wr (Q + n)) (e2 : W2 = upd2 W1 s 7 (ti y)) (ry : ir y) (hs : K s = some (0, 6)) (i0 : 0 ≤ i) (i4 : i < 4) (hr : vi W s 1 = room) : UCF K V W2 s o (tkr i.toNat room pr) := fun S hS ho h1 => by
  obtain ⟨-, b7⟩ := h S hS ho h1
  have N2 := ((h.nuf.rad hv hq e1 i0 i4).nn (NUN.oth e2 hs (by decide))) S hS ho h1
  have ex : X = pr.2 (10 + i.toNat) := hX.trans ((h.nuf.rv hv hq hS ho h1).2 i i0 i4)
  have en : n = mnv (wr (room - pr.1)) (pr.2 (10 + i.toNat)) := by
    rw [← ex, ← b7, ← hr, ← hZ]
    unfold mnv
    by_cases g : Z ≤ X
    · rw [if_pos g]
      omega
    · rw [if_neg g]
      omega
  refine ⟨?_, ?_⟩
  · have ec : updf pr.2 (10 + i.toNat) (wr (pr.2 (10 + i.toNat) + d)) = (tkr i.toNat room pr).2 := by
      unfold tkr
      rw [hd, wr_add, ← en, ← Int.sub_eq_add_neg]
    rw [← ec]
    exact N2
  · rw [upd2_int e2 ry, hy, h7, b7]
    unfold tkr
    rw [← en]
/-- at the loop's head: i, the rank that comes -/
def USI (K : Kmap) (V W : Vmap) (s o : Nat) (i : Int) : Prop := SHU K V W s (updf (updf (shv V s) 6 0) 7 (vi W s 7)) ∧ UCF K V W s o (uni (shv V s 1) (shv V s 7, updf (stv V o) 7 (wr (stv V o 7 + shv V s 6))) (3 - i).toNat)
theorem USI.beg (hs : K s = some (0, 6)) (ho : K o = some (0, 3)) (hz : z = wr (vi V o 7 + vi V s 6)) (rz : ir z) (e1 : W = upd2 V o 7 (ti z)) (e2 : W1 = upd2 W s 6 (ti 0)) : USI K V W1 s o 3 := by
  have n1 : s ≠ o := K_ne hs ho (by decide)
  have h1 : SHU K V W1 s (updf (shv V s) 6 0) := SHX.nf (SHX.put e1 ho (by decide)) (by
    have e : shv V s = shv W s := ((SHX.put e1 ho (by decide) : SHX K V W) s hs).symm
    rw [e]
    exact SHU.rf.put e2 (ir_c rfl) (by decide))
  have h7 : vi W1 s 7 = vi V s 7 := (vi_up e2 (Or.inr (by decide))).trans (vi_up e1 (Or.inl n1))
  refine ⟨h1.to (updf_self ?_).symm, fun S hS ho' h1' => ?_⟩
  · rw [h7, updf_of (by decide), shv_f (by decide)]
  · have hN := ((NUF.rf.put e1 rz (by decide) (by decide)).nn (NUN.oth e2 hs (by decide))) S hS ho' h1'
    have k0 : ((3 : Int) - 3).toNat = 0 := by decide
    rw [k0]
    refine ⟨?_, h7.trans (shv_f (by decide)).symm⟩
    have ez : updf (stv V o) 7 z = updf (stv V o) 7 (wr (stv V o 7 + shv V s 6)) := by rw [hz, stv_f (by decide) (by decide), shv_f (by decide)]
    rw [ez] at hN
    exact hN
theorem USI.step (h : USI K V W s o i) (hv : W o 13 = .ref q) (hq : K q = some (158 + 1, N)) (hX : X = rgv W q N i) (hZ : Z = wr (vi W s 1 - vi W s 7)) (hd : d = wr (-n)) (hn : (n = Z ∧ Z ≤ X) ∨ (n = X ∧ X ≤ Z)) (e1 : W1 = rad W q N i d) (h7 : Q = vi W s 7) (hy : y = wr (Q + n)) (e2 : W2 = upd2 W1 s 7 (ti y)) (ry : ir y) (hs : K s = some (0, 6)) (i0 : 0 ≤ i) (i4 : i ≤ 3) (hk : k = i + -1) : USI K V W2 s o k := by
  obtain ⟨a1, a2⟩ := h
  have hr : vi W s 1 = shv V s 1 := by
    rw [← shv_f (V := W) (s := s) (f := 1) (by decide), a1.1, updf_of (by decide), updf_of (by decide)]
  refine ⟨?_, ?_⟩
  · have := (a1.nn (SHX.rpw e1 hq) hs).put e2 ry (by decide)
    rw [updf_upd] at this
    rw [upd2_int e2 ry]
    exact this
  · have := a2.step hv hq hX hZ hd hn e1 h7 hy e2 ry hs i0 (by omega) hr
    have ek : (3 - k).toNat = (3 - i).toNat + 1 := by omega
    rw [ek]
    show UCF K V W2 s o (tkr (3 - (3 - i).toNat) (shv V s 1) _)
    rw [show 3 - (3 - i).toNat = i.toNat by omega]
    exact this
theorem USI.nul {ws : Nat} (h : USI K V W s o i) (hn : W o 13 = .null) (hF : FR ws K W K W1) (hb : sxbits ws = true) (e2 : W2 = upd2 W1 s 7 (ti y)) (ry : ir y) (hs : K s = some (0, 6)) : USI K V W2 s o k := by
  obtain ⟨a1, a2⟩ := h
  refine ⟨?_, fun S hS ho h1 => ?_⟩
  · have := (a1.nn (SHX.fr hF hb) hs).put e2 ry (by decide)
    rw [updf_upd] at this
    rw [upd2_int e2 ry]
    exact this
  · obtain ⟨⟨b1, b2, -⟩, -⟩ := a2 S hS ho h1
    have r := ((b1 o ho).2.1 ((b2 o ho).trans h1)).1
    rw [hn] at r
    cases r
/-- from where a station reaches the sea -/
def nsp (G : Int → Int) (w h c : Int) : Prop := G c = 2 ∨ ∃ t : Int, 0 ≤ t ∧ t ≤ 7 ∧ bsd w h c t ≠ -1 ∧ G (bsd w h c t) = 2
def NSC (V : Vmap) (l : Nat) (c : Int) : Prop := nsp (rgv V (vq V l 6) 144) (vi V l 3) (vi V l 4) c
def NSX (V : Vmap) (l : Nat) (c X : Int) : Prop := (0 ≤ c ∧ c < vi V l 3 * vi V l 4) → (X ≠ 0 ↔ NSC V l c)
def NSI (V : Vmap) (l : Nat) (c i : Int) : Prop := (0 ≤ c ∧ c < vi V l 3 * vi V l 4) → rgv V (vq V l 6) 144 c ≠ 2 ∧ ∀ t : Int, 0 ≤ t → t < i → ¬ (bsd (vi V l 3) (vi V l 4) c t ≠ -1 ∧ rgv V (vq V l 6) 144 (bsd (vi V l 3) (vi V l 4) c t) = 2)
theorem NSI.beg1 (h : Y ≠ 0 ↔ (0 ≤ c ∧ c < vi V l 3 * vi V l 4)) (hY : Y = 0) : NSI V l c 0 := fun g => absurd hY (h.mpr g)
theorem NSI.beg2 (e : X = rgv V (vq V l 6) 144 c) (hX : X ≠ 2) : NSI V l c 0 := fun _ => ⟨by rw [← e]; exact hX, fun t t0 t1 => by omega⟩
theorem NSI.next (h : NSI V l c i) (hb : BES V l c i X) (i0 : 0 ≤ i) (i7 : i < 8) (hX : X = -1 ∨ (X ≠ -1 ∧ Y = rgv V (vq V l 6) 144 X ∧ Y ≠ 2)) (hn : n = i + 1) : NSI V l c n := fun g => by
  obtain ⟨h1, h2⟩ := h g
  refine ⟨h1, fun t t0 t1 => ?_⟩
  by_cases q : t = i
  · have e := hb.1 g i0 (by omega)
    rw [q, ← e]
    rintro ⟨g1, g2⟩
    rcases hX with g3 | ⟨-, g3, g4⟩
    · exact g1 g3
    · exact g4 (g3.trans g2)
  · exact h2 t t0 (by omega)
theorem NSX.no (h : NSI V l c i) (hi : 8 ≤ i) (hX : X = 0) : NSX V l c X := fun g => ⟨fun e => absurd hX e, fun e => by
  obtain ⟨h1, h2⟩ := h g
  rcases e with e | ⟨t, t0, t7, e1, e2⟩
  · exact absurd e h1
  · exact absurd ⟨e1, e2⟩ (h2 t t0 (by omega))⟩
theorem NSX.y1 (e : Y = rgv V (vq V l 6) 144 c) (hY : Y = 2) (hX : X ≠ 0) : NSX V l c X := fun _ => ⟨fun _ => Or.inl (e.symm.trans hY), fun _ => hX⟩
theorem NSX.y2 (hb : BES V l c i Z) (i0 : 0 ≤ i) (i7 : i < 8) (hZ : Z ≠ -1) (e : Y = rgv V (vq V l 6) 144 Z) (hY : Y = 2) (hX : X ≠ 0) : NSX V l c X := fun g => ⟨fun _ => Or.inr ⟨i, i0, by omega, by
  have e' := hb.1 g i0 (by omega)
  rw [← e']
  exact ⟨hZ, e.symm.trans hY⟩⟩, fun _ => hX⟩
def OKC (V : Vmap) (x : Nat) (k : Int) : Prop := STN V x k ∧ NSC V (vq V x 0) (vi V (plO V x k.toNat) 2)
def CLN (V : Vmap) (x : Nat) : Prop := ∀ k : Nat, (k : Int) < vi V x 6 → 0 ≤ vi V (plO V x k) 2 ∧ vi V (plO V x k) 2 < vi V (vq V x 0) 3 * vi V (vq V x 0) 4
def ULS (K : Kmap) (V V1 : Vmap) (x s : Nat) : Prop := NN 6 5 V x → CLN V x → (¬ OKC V x (vi V s 5) ∧ V1 = V) ∨ (OKC V x (vi V s 5) ∧ SHU K V V1 s (updf (updf (shv V s) 6 0) 7 (vi V1 s 7)) ∧ UCF K V V1 s (plO V x (vi V s 5).toNat) (arp (shv V s) (stv V (plO V x (vi V s 5).toNat))))
theorem ULS.ns (h : NN 6 5 V x → ¬ STN V x (vi V s 5)) : ULS K V V x s := fun hN _ => Or.inl ⟨fun g => h hN g.1, rfl⟩
theorem ULS.nb (g : o = plO V x (vi V s 5).toNat ∧ STN V x (vi V s 5)) (h : NSX V (vq V x 0) (vi V o 2) X) (hX : X = 0) : ULS K V V x s := fun _ hC => Or.inl ⟨fun e => by
  obtain ⟨g1, g2⟩ := g
  subst g1
  have e' := e.2
  have hc := hC (vi V s 5).toNat (by
    have := g2.1
    obtain ⟨q1, q2, -⟩ := this
    omega)
  exact absurd hX ((h hc).mpr e'), rfl⟩
theorem ULS.ok (g : o = plO V x (vi V s 5).toNat ∧ STN V x (vi V s 5)) (h : NSX V (vq V x 0) (vi V o 2) X) (hX : X ≠ 0) (u : USI K V V1 s o i) (hi : i < 0) (hi2 : -1 ≤ i) : ULS K V V1 x s := fun _ hC => by
  obtain ⟨g1, g2⟩ := g
  subst g1
  have hc := hC (vi V s 5).toNat (by
    have := g2.1
    obtain ⟨q1, q2, -⟩ := this
    omega)
  obtain ⟨u1, u2⟩ := u
  have e : (3 - i).toNat = 4 := by omega
  rw [e] at u2
  exact Or.inr ⟨⟨g2, (h hc).mp hX⟩, u1, u2⟩
/-! meeting the ice -/
def cvr (V : Vmap) (x : Nat) (z : Int) : Int := rgv V (vq V (vq V x 0) 9) 48 (z * 12 + tdy V x % 360 / 30)
def COV (V : Vmap) (l : Nat) (a d X : Int) : Prop := 0 ≤ a → a ≤ 3 → 0 ≤ d → d ≤ 3599 → X = rgv V (vq V l 9) 48 (a * 12 + d % 360 / 30)
theorem COV.mk (h1 : z = wr (a * 12)) (h2 : y = wr (z + wdiv (wrem d 360) 30)) (hX : X = rgv V (vq V l 9) 48 y) : COV V l a d X := fun a0 a3 d0 d9 => by
  have e1 : wrem d 360 = d % 360 := wrem_p ⟨by omega, by omega⟩ (ir_c rfl) d0 (by decide)
  have b1 : 0 ≤ d % 360 ∧ d % 360 < 360 := ⟨by omega, by omega⟩
  have e2 : wdiv (d % 360) 30 = d % 360 / 30 := wdiv_p ⟨by omega, by omega⟩ (ir_c rfl) b1.1 (by decide)
  have e3 : wr (a * 12) = a * 12 := wr_id ⟨by omega, by omega⟩
  rw [e1, e2, h1, e3] at h2
  have e4 : wr (a * 12 + d % 360 / 30) = a * 12 + d % 360 / 30 := wr_id ⟨by omega, by omega⟩
  rw [hX, h2, e4]
/-- a ship that comes to its station -/
def SHA (K : Kmap) (V V1 : Vmap) (D : Int) (s o : Nat) : Prop := (∀ S, RWS K S V → S o → vi V o 0 = 1 → (RWS K S V1 ∧ (∀ b, S b → vi V1 b 0 = vi V b 0) ∧ stv V1 o = (arp (shv V s) (stv V o)).2 ∧ ∀ b, S b → b ≠ o → KS V b → stv V1 b = stv V b) ∧ shv V1 s = arr D (shv V s) (stv V o)) ∧ ∀ b, K b = some (0, 6) → b ≠ s → shv V1 b = shv V b
def MEI (K : Kmap) (V V1 : Vmap) (x s : Nat) : Prop := NN 6 5 V x → CLN V x → 0 ≤ vi V s 4 → vi V s 4 ≤ 3 → 0 ≤ tdy V x → tdy V x ≤ 3599 →
  (cvr V x (shv V s 4) ≤ shv V s 2 ∧ OKC V x (shv V s 5) ∧ SHA K V V1 (tdy V x) s (plO V x (shv V s 5).toNat)) ∨ (cvr V x (shv V s 4) ≤ shv V s 2 ∧ ¬ OKC V x (shv V s 5) ∧ SHU K V V1 s (tb3 (tdy V x) (shv V s)) ∧ NUN K V V1) ∨ (shv V s 2 < cvr V x (shv V s 4) ∧ SHU K V V1 s (wtg (tdy V x) (shv V s)) ∧ NUN K V V1)
theorem MEI.in (hs : K s = some (0, 6)) (hc : COV V (vq V x 0) (vi V s 4) (tdy V x) X) (hX : X ≤ vi V s 2) (hu : ULS K V W x s) (ht : SHU K W V1 s (tb3 D (shv W s))) (hn : NUN K W V1) (hD : D = tdy V x) : MEI K V V1 x s := fun hN hC a0 a3 d0 d9 => by
  subst hD
  have ec : cvr V x (shv V s 4) ≤ shv V s 2 := by
    have := hc a0 a3 d0 d9
    unfold cvr
    rw [shv_f (by decide), shv_f (by decide), ← this]
    exact hX
  have e5 : shv V s 5 = vi V s 5 := shv_f (by decide)
  rw [e5]
  rcases hu hN hC with ⟨u1, u2⟩ | ⟨u1, u2, u3⟩
  · subst u2
    exact Or.inr (Or.inl ⟨ec, u1, ht, hn⟩)
  · refine Or.inl ⟨ec, u1, fun S hS ho h1 => ?_, fun b hb n => (ht.2 b hb n).trans (u2.2 b hb n)⟩
    obtain ⟨⟨b1, b2, b3, b4⟩, b7⟩ := u3 S hS ho h1
    obtain ⟨n1, n2, n3⟩ := hn S b1
    have ko : KS W (plO V x (vi V s 5).toNat) := Or.inl ((b2 _ ho).trans h1)
    refine ⟨⟨n1, fun b hb => (n2 b hb).trans (b2 b hb), (n3 _ ho ko).trans b3, fun b hb n hk => (n3 b hb (hk.to (b2 b hb))).trans (b4 b hb n hk)⟩, ?_⟩
    rw [ht.1, u2.1, b7]
    rfl
theorem MEI.wt (hc : COV V (vq V x 0) (vi V s 4) (tdy V x) X) (hX : vi V s 2 < X) (hw : SHU K V V1 s (updf (updf (shv V s) 3 2) 9 y)) (hy : y = wr (Q + 1)) (hQ : Q = vi V s 9) (hl : y < 60) (hn : NUN K V V1) : MEI K V V1 x s := fun hN hC a0 a3 d0 d9 => by
  have := hc a0 a3 d0 d9
  refine Or.inr (Or.inr ⟨?_, ?_, hn⟩)
  · unfold cvr
    rw [shv_f (by decide), shv_f (by decide), ← this]
    exact hX
  · refine hw.to ?_
    have e9 : shv V s 9 = vi V s 9 := shv_f (by decide)
    unfold wtg
    rw [hy, hQ] at hl ⊢
    rw [e9, if_neg (by omega)]
theorem MEI.wb (hc : COV V (vq V x 0) (vi V s 4) (tdy V x) X) (hX : vi V s 2 < X) (hw : SHU K V W s (updf (updf (shv V s) 3 2) 9 y)) (hy : y = wr (Q + 1)) (hQ : Q = vi V s 9) (hl : 60 ≤ y) (ht : SHU K W V1 s (tb3 D (shv W s))) (hD : D = tdy V x) (hn : NUN K V V1) : MEI K V V1 x s := fun hN hC a0 a3 d0 d9 => by
  have := hc a0 a3 d0 d9
  subst hD
  refine Or.inr (Or.inr ⟨?_, ?_, hn⟩)
  · unfold cvr
    rw [shv_f (by decide), shv_f (by decide), ← this]
    exact hX
  · refine (hw.app (tb3 (tdy V x)) ht).to ?_
    have e9 : shv V s 9 = vi V s 9 := shv_f (by decide)
    unfold wtg
    rw [hy, hQ] at hl ⊢
    rw [e9, if_pos (by omega)]
/-! the day of a ship -/
def PSH (K : Kmap) (V V1 : Vmap) (x s : Nat) : Prop := NN 6 5 V x → CLN V x → (shv V s 3 ≠ 0 → 0 ≤ shv V s 4 ∧ shv V s 4 ≤ 3) → 0 ≤ tdy V x → tdy V x ≤ 3599 →
  (mtc (tdy V x) (shv V s) ∧ cvr V x (shv V s 4) ≤ shv V s 2 ∧ OKC V x (shv V s 5) ∧ SHA K V V1 (tdy V x) s (plO V x (shv V s 5).toNat)) ∨ (mtc (tdy V x) (shv V s) ∧ cvr V x (shv V s 4) ≤ shv V s 2 ∧ ¬ OKC V x (shv V s 5) ∧ SHU K V V1 s (tb3 (tdy V x) (shv V s)) ∧ NUN K V V1) ∨ (mtc (tdy V x) (shv V s) ∧ shv V s 2 < cvr V x (shv V s 4) ∧ SHU K V V1 s (wtg (tdy V x) (shv V s)) ∧ NUN K V V1) ∨ (¬ mtc (tdy V x) (shv V s) ∧ shv V s 3 = 3 ∧ shv V s 8 = tdy V x ∧ SHU K V V1 s (hme (shv V s)) ∧ NUN K V V1) ∨ (¬ mtc (tdy V x) (shv V s) ∧ ¬ (shv V s 3 = 3 ∧ shv V s 8 = tdy V x) ∧ SHU K V V1 s (shv V s) ∧ NUN K V V1)
theorem PSH.ice (h : MEI K V V1 x s) (hm : vi V s 3 = 2 ∨ (vi V s 3 = 1 ∧ vi V s 8 = tdy V x)) : PSH K V V1 x s := fun hN hC h4 d0 d9 => by
  have e3 : shv V s 3 = vi V s 3 := shv_f (by decide)
  have e4 : shv V s 4 = vi V s 4 := shv_f (by decide)
  have e8 : shv V s 8 = vi V s 8 := shv_f (by decide)
  have m : mtc (tdy V x) (shv V s) := by
    unfold mtc
    rw [e3, e8]
    exact hm
  obtain ⟨g1, g2⟩ := h4 (by omega)
  rcases h hN hC (by omega) (by omega) d0 d9 with ⟨a1, a2, a3⟩ | ⟨a1, a2, a3, a4⟩ | ⟨a1, a2, a3⟩
  · exact Or.inl ⟨m, a1, a2, a3⟩
  · exact Or.inr (Or.inl ⟨m, a1, a2, a3, a4⟩)
  · exact Or.inr (Or.inr (Or.inl ⟨m, a1, a2, a3⟩))
theorem PSH.home (h : SHU K V V1 s (hme (shv V s))) (g : NUN K V V1) (h3 : vi V s 3 = 3) (h8 : vi V s 8 = tdy V x) : PSH K V V1 x s := fun _ _ _ _ _ => by
  have e3 : shv V s 3 = vi V s 3 := shv_f (by decide)
  have e8 : shv V s 8 = vi V s 8 := shv_f (by decide)
  refine Or.inr (Or.inr (Or.inr (Or.inl ⟨?_, by omega, by omega, h, g⟩)))
  unfold mtc
  omega
theorem PSH.not (h1 : ¬ (vi V s 3 = 2 ∨ (vi V s 3 = 1 ∧ vi V s 8 = tdy V x))) (h2 : ¬ (vi V s 3 = 3 ∧ vi V s 8 = tdy V x)) : PSH K V V x s := fun _ _ _ _ _ => by
  have e3 : shv V s 3 = vi V s 3 := shv_f (by decide)
  have e8 : shv V s 8 = vi V s 8 := shv_f (by decide)
  refine Or.inr (Or.inr (Or.inr (Or.inr ⟨?_, ?_, SHU.rf, NUN.rf⟩)))
  · unfold mtc
    rw [e3, e8]
    exact h1
  · rw [e3, e8]
    exact h2
end Q4
