/-! ### numbers too large for the machine, by what the machine makes of them -/
def wr (X : Int) : Int := (Int32.ofInt X).toInt
theorem wr_id {X : Int} (h : ir X) : wr X = X := ti_int h
theorem wr_ir {X : Int} : ir (wr X) := th_rng _
section Q1G
variable {M : MRec} {K0 : Kmap} {V0 : Vmap} {Φ : Option Value → Kmap → Vmap → Prop} {K : Kmap} {V : Vmap} {cells slots pc : Nat} {ls : List (Option Value)} {st : List Value}
theorem GO.norm2 {X : Int} (kk : ∀ Z, ir Z → (ir X → Z = X) → Z = wr X → GO M K0 V0 Φ K V cells slots pc ls (ti Z :: st)) : GO M K0 V0 Φ K V cells slots pc ls (ti X :: st) := by
  have h := kk (Int32.ofInt X).toInt (th_rng _) (fun h => ti_int h) rfl
  have e : ti (Int32.ofInt X).toInt = ti X := by rw [← ti_of]; rfl
  rwa [e] at h
end Q1G
/-! ### stores: a station's people, drums, hidden drums, days of cold, whether it is lost, its waste; a nest's counts -/
section Q1
variable {K K0 K1 K2 : Kmap} {V V0 V1 V2 V3 W W1 W2 : Vmap} {x m o t q f N : Nat} {i j n k s e d p a b w z y l u X Y Z : Int} {c c' : Nat → Int} {φ : (Nat → Int) → Nat → Int} {S : Nat → Prop}
def KS (V : Vmap) (b : Nat) : Prop := vi V b 0 = 1 ∨ vi V b 0 = 5
def stv (V : Vmap) (o : Nat) : Nat → Int := fun f => if 10 ≤ f then (if f < 14 ∨ (vi V o 0 = 5 ∧ f < 20) then vi V (vq V o 13) (f - 10) else 0) else if 5 ≤ f then vi V o f else 0
def RWS (K : Kmap) (S : Nat → Prop) (V : Vmap) : Prop := ∀ a, S a → K a = some (0, 3) ∧ (vi V a 0 = 1 → V a 13 = .ref (vq V a 13) ∧ K (vq V a 13) = some (158 + 1, 4)) ∧ (vi V a 0 = 5 → V a 13 = .ref (vq V a 13) ∧ K (vq V a 13) = some (158 + 1, 10)) ∧ ∀ b, S b → a ≠ b → KS V a → KS V b → vq V a 13 ≠ vq V b 13
theorem KS.to {o : Nat} (h : KS V o) (g : vi W o 0 = vi V o 0) : KS W o := by
  unfold KS at *
  rw [g]
  exact h
theorem stv_f (h : 5 ≤ f) (h2 : f < 10) : stv V o f = vi V o f := by
  unfold stv
  rw [if_neg (by omega), if_pos h]
theorem stv_r {r : Nat} (h : r < 4) : stv V o (10 + r) = vi V (vq V o 13) r := by
  unfold stv
  rw [if_pos (by omega), if_pos (Or.inl (by omega)), show 10 + r - 10 = r by omega]
theorem stv_b {r : Nat} (h5 : vi V o 0 = 5) (h : r < 10) : stv V o (10 + r) = vi V (vq V o 13) r := by
  unfold stv
  rw [if_pos (by omega), if_pos (Or.inr ⟨h5, by omega⟩), show 10 + r - 10 = r by omega]
theorem stv_eq (h0 : vi V1 o 0 = vi V o 0) (h13 : V1 o 13 = V o 13) (hf : ∀ f, 5 ≤ f → f < 10 → vi V1 o f = vi V o f) (hr : ∀ r, vi V1 (vq V o 13) r = vi V (vq V o 13) r) : stv V1 o = stv V o := by
  funext f
  unfold stv
  rw [h0, vq_eq h13]
  split
  · split
    · exact hr _
    · rfl
  · split
    · exact hf f (by assumption) (by omega)
    · rfl
theorem ks_row (h : RWS K S V) {a : Nat} (ha : S a) (hk : KS V a) : V a 13 = .ref (vq V a 13) ∧ ∃ N, K (vq V a 13) = some (158 + 1, N) := by
  obtain ⟨-, h1, h5, -⟩ := h a ha
  rcases hk with g | g
  · exact ⟨(h1 g).1, 4, (h1 g).2⟩
  · exact ⟨(h5 g).1, 10, (h5 g).2⟩
theorem RWS.same (h : RWS K S V) (hk : ∀ b, S b → vi V1 b 0 = vi V b 0) (h13 : ∀ b, S b → KS V b → V1 b 13 = V b 13) : RWS K S V1 := fun a ha => by
  obtain ⟨g0, g1, g5, gd⟩ := h a ha
  have ek := hk a ha
  refine ⟨g0, fun g => ?_, fun g => ?_, fun b hb hn ga gb => ?_⟩
  · rw [ek] at g
    have e := h13 a ha (Or.inl g)
    rw [e, vq_eq e]
    exact g1 g
  · rw [ek] at g
    have e := h13 a ha (Or.inr g)
    rw [e, vq_eq e]
    exact g5 g
  · have ga' := ga.to ek.symm
    have gb' := gb.to (hk b hb).symm
    rw [vq_eq (h13 a ha ga'), vq_eq (h13 b hb gb')]
    exact gd b hb hn ga' gb'
/-- all stores stay -/
def NUN (K : Kmap) (V V1 : Vmap) : Prop := ∀ S, RWS K S V → RWS K S V1 ∧ (∀ b, S b → vi V1 b 0 = vi V b 0) ∧ ∀ b, S b → KS V b → stv V1 b = stv V b
/-- one store becomes c, the others stay -/
def NUF (K : Kmap) (V V1 : Vmap) (o : Nat) (c : Nat → Int) : Prop := ∀ S, RWS K S V → S o → vi V o 0 = 1 → RWS K S V1 ∧ (∀ b, S b → vi V1 b 0 = vi V b 0) ∧ stv V1 o = c ∧ ∀ b, S b → b ≠ o → KS V b → stv V1 b = stv V b
theorem NUN.mk (h : ∀ S, RWS K S V → (∀ b, S b → vi V1 b 0 = vi V b 0) ∧ ∀ b, S b → KS V b → V1 b 13 = V b 13 ∧ (∀ f, 5 ≤ f → f < 10 → vi V1 b f = vi V b f) ∧ ∀ r, vi V1 (vq V b 13) r = vi V (vq V b 13) r) : NUN K V V1 := fun S hS => by
  obtain ⟨h1, h2⟩ := h S hS
  exact ⟨hS.same h1 (fun b hb hk => (h2 b hb hk).1), h1, fun b hb hk => stv_eq (h1 b hb) (h2 b hb hk).1 (h2 b hb hk).2.1 (h2 b hb hk).2.2⟩
theorem NUN.rf : NUN K V V := fun _ h => ⟨h, fun _ _ => rfl, fun _ _ _ => rfl⟩
theorem NUN.tr (f : NUN K V V1) (g : NUN K V1 V2) : NUN K V V2 := fun S hS => by
  obtain ⟨f1, f2, f3⟩ := f S hS
  obtain ⟨g1, g2, g3⟩ := g S f1
  exact ⟨g1, fun b hb => (g2 b hb).trans (f2 b hb), fun b hb hk => (g3 b hb (hk.to (f2 b hb))).trans (f3 b hb hk)⟩
def nubits (ws : Nat) : Bool := [keyK (0, 3) 0, keyK (0, 3) 5, keyK (0, 3) 6, keyK (0, 3) 7, keyK (0, 3) 8, keyK (0, 3) 9, keyK (0, 3) 13, abase + 159].all fun b => !ws.testBit b
theorem nu_fr {ws : Nat} (hF : FR ws K V K1 V1) (hE : ext K K1) (hb : nubits ws = true) (ho : K o = some (0, 3)) : vi V1 o 0 = vi V o 0 ∧ V1 o 13 = V o 13 ∧ (∀ f, 5 ≤ f → f < 10 → vi V1 o f = vi V o f) ∧ ∀ N, K (vq V o 13) = some (158 + 1, N) → ∀ r, vi V1 (vq V o 13) r = vi V (vq V o 13) r := by
  simp only [nubits, List.all_cons, List.all_nil, Bool.and_true, Bool.and_eq_true, Bool.not_eq_true'] at hb
  obtain ⟨c0, c5, c6, c7, c8, c9, c13, ca⟩ := hb
  have ho1 := hE.obj (Or.inl (by decide)) ho
  refine ⟨vi_fr hF ho ho1 c0, hF _ _ 13 ho ho1 c13, fun f h5 h9 => ?_, fun N hN r => vi_frA hF hN (hE.arr hN) ca⟩
  rcases (show f = 5 ∨ f = 6 ∨ f = 7 ∨ f = 8 ∨ f = 9 by omega) with rfl | rfl | rfl | rfl | rfl
  · exact vi_fr hF ho ho1 c5
  · exact vi_fr hF ho ho1 c6
  · exact vi_fr hF ho ho1 c7
  · exact vi_fr hF ho ho1 c8
  · exact vi_fr hF ho ho1 c9
theorem NUN.fr {ws : Nat} (hF : FR ws K V K V1) (hb : nubits ws = true) : NUN K V V1 := NUN.mk fun S hS => ⟨fun b h => (nu_fr hF ext.rf hb (hS b h).1).1, fun b h hk => by
  obtain ⟨-, h2, h3, h4⟩ := nu_fr hF ext.rf hb (hS b h).1
  obtain ⟨-, N, hN⟩ := ks_row hS h hk
  exact ⟨h2, h3, h4 N hN⟩⟩
/-- what is written in a place that is neither station nor nest -/
theorem NUN.putk {v : Value} (e : V1 = upd2 V q f v) (hq : K q = some (0, 3)) (hf : f ≠ 0) (hk : ¬ KS V q) : NUN K V V1 := NUN.mk fun S hS => ⟨fun b _ => vi_up e (Or.inr (Ne.symm hf)), fun b h hb => by
  have n : b ≠ q := fun g => hk (g ▸ hb)
  obtain ⟨-, N, hN⟩ := ks_row hS h hb
  exact ⟨uq_ne e (Or.inl n), fun g _ _ => vi_up e (Or.inl n), fun r => vi_up e (Or.inl (K_ne hN hq (by simp)))⟩⟩
theorem NUF.rf : NUF K V V o (stv V o) := fun _ h _ _ => ⟨h, fun _ _ => rfl, rfl, fun _ _ _ _ => rfl⟩
theorem NUF.to (h : NUF K V W o c) (e : c = c') : NUF K V W o c' := e ▸ h
theorem NUF.cong (h : NUF K V W o c) (e : ∀ S, RWS K S V → S o → vi V o 0 = 1 → c = c') : NUF K V W o c' := fun S hS ho h1 => by
  obtain ⟨a1, a2, a3, a4⟩ := h S hS ho h1
  exact ⟨a1, a2, a3.trans (e S hS ho h1), a4⟩
theorem NUF.nn (h : NUF K V W o c) (g : NUN K W W1) : NUF K V W1 o c := fun S hS ho h1 => by
  obtain ⟨a1, a2, a3, a4⟩ := h S hS ho h1
  obtain ⟨g1, g2, g3⟩ := g S a1
  exact ⟨g1, fun b hb => (g2 b hb).trans (a2 b hb), (g3 o ho (Or.inl ((a2 o ho).trans h1))).trans a3, fun b hb n hk => (g3 b hb (hk.to (a2 b hb))).trans (a4 b hb n hk)⟩
theorem NUF.fr {ws : Nat} (h : NUF K V W o c) (hF : FR ws K W K W1) (hb : nubits ws = true) : NUF K V W1 o c := h.nn (NUN.fr hF hb)
theorem NUN.nf (g : NUN K V W) (h : NUF K W W1 o (φ (stv W o))) : NUF K V W1 o (φ (stv V o)) := fun S hS ho h1 => by
  obtain ⟨g1, g2, g3⟩ := g S hS
  obtain ⟨a1, a2, a3, a4⟩ := h S g1 ho ((g2 o ho).trans h1)
  exact ⟨a1, fun b hb => (a2 b hb).trans (g2 b hb), by rw [a3, g3 o ho (Or.inl h1)], fun b hb n hk => (a4 b hb n (hk.to (g2 b hb))).trans (g3 b hb hk)⟩
theorem NUF.app (φ : (Nat → Int) → Nat → Int) (h : NUF K V W o c) (g : NUF K W W1 o (φ (stv W o))) : NUF K V W1 o (φ c) := fun S hS ho h1 => by
  obtain ⟨a1, a2, a3, a4⟩ := h S hS ho h1
  obtain ⟨g1, g2, g3, g4⟩ := g S a1 ho ((a2 o ho).trans h1)
  exact ⟨g1, fun b hb => (g2 b hb).trans (a2 b hb), by rw [g3, a3], fun b hb n hk => (g4 b hb n (hk.to (a2 b hb))).trans (a4 b hb n hk)⟩
/-- a station's row is there -/
theorem NUF.abs (h : NUF K V W o c) (hn : W o 13 = .null) : NUF K V W1 o c' := fun S hS ho h1 => by
  obtain ⟨a1, a2, -, -⟩ := h S hS ho h1
  have r := ((a1 o ho).2.1 ((a2 o ho).trans h1)).1
  rw [hn] at r
  cases r
theorem NUF.put (h : NUF K V W o c) (e : W1 = upd2 W o f (ti u)) (ru : ir u) (h5 : 5 ≤ f) (h9 : f < 10) : NUF K V W1 o (updf c f u) := fun S hS ho h1 => by
  obtain ⟨a1, a2, a3, a4⟩ := h S hS ho h1
  have ko := (hS o ho).1
  have sm : ∀ b g, (b ≠ o ∨ g ≠ f) → W1 b g = W b g := fun b g h => uq_ne e h
  have h13 : ∀ b, W1 b 13 = W b 13 := fun b => sm b 13 (Or.inr (by omega))
  have h0 : ∀ b, vi W1 b 0 = vi W b 0 := fun b => vi_eq (sm b 0 (Or.inr (by omega)))
  have hro : ∀ b, S b → KS W b → ∀ r, vi W1 (vq W b 13) r = vi W (vq W b 13) r := fun b hb hk r => by
    obtain ⟨-, N, hN⟩ := ks_row a1 hb hk
    exact vi_eq (sm _ r (Or.inl (K_ne hN ko (by simp))))
  have k1 : vi W o 0 = 1 := (a2 o ho).trans h1
  refine ⟨a1.same (fun b _ => h0 b) (fun b _ _ => h13 b), fun b hb => (h0 b).trans (a2 b hb), ?_, fun b hb n hk => ?_⟩
  · rw [← a3]
    funext g
    by_cases q : g = f
    · subst q
      rw [updf_at, stv_f h5 h9]
      exact upd2_int e ru
    · rw [updf_of q]
      unfold stv
      rw [h0, vq_eq (h13 o)]
      split
      · split
        · exact hro o ho (Or.inl k1) _
        · rfl
      · split
        · exact vi_eq (sm o g (Or.inr q))
        · rfl
  · have hk' := hk.to (a2 b hb)
    exact (stv_eq (h0 b) (h13 b) (fun g _ _ => vi_eq (sm b g (Or.inl n))) (hro b hb hk')).trans (a4 b hb n hk)
theorem NUF.rv (h : NUF K V W o c) (hv : W o 13 = .ref q) (hq : K q = some (158 + 1, N)) (hS : RWS K S V) (ho : S o) (h1 : vi V o 0 = 1) : N = 4 ∧ ∀ i : Int, 0 ≤ i → i < 4 → rgv W q N i = c (10 + i.toNat) := by
  obtain ⟨a1, a2, a3, -⟩ := h S hS ho h1
  have r2 := ((a1 o ho).2.1 ((a2 o ho).trans h1)).2
  rw [vq_of hv, hq] at r2
  have hn : N = 4 := (Prod.mk.inj (Option.some.inj r2)).2
  refine ⟨hn, fun i i0 i4 => ?_⟩
  rw [← rgv_in i0 (by omega), ← a3, stv_r (by omega), vq_of hv]
theorem NUF.rpv (h : NUF K V W o c) (hv : W o 13 = .ref q) (hq : K q = some (158 + 1, N)) (e : W1 = rpv W q N i u) (ru : ir u) (i0 : 0 ≤ i) (i4 : i < 4) : NUF K V W1 o (updf c (10 + i.toNat) u) := fun S hS ho h1 => by
  obtain ⟨hn, -⟩ := h.rv hv hq hS ho h1
  obtain ⟨a1, a2, a3, a4⟩ := h S hS ho h1
  have k1 : vi W o 0 = 1 := (a2 o ho).trans h1
  have e' := rpv_put e i0 (by omega)
  have sm : ∀ b g, b ≠ q → W1 b g = W b g := fun b g h => uq_ne e' (Or.inl h)
  have nq : ∀ b, S b → b ≠ q := fun b hb => K_ne (a1 b hb).1 hq (by simp)
  have h0 : ∀ b, S b → vi W1 b 0 = vi W b 0 := fun b hb => vi_eq (sm b 0 (nq b hb))
  have h13 : ∀ b, S b → W1 b 13 = W b 13 := fun b hb => sm b 13 (nq b hb)
  refine ⟨a1.same h0 (fun b hb _ => h13 b hb), fun b hb => (h0 b hb).trans (a2 b hb), ?_, fun b hb n hk => ?_⟩
  · rw [← a3]
    funext g
    unfold stv
    rw [h0 o ho, vq_eq (h13 o ho), vq_of hv]
    by_cases g1 : g = 10 + i.toNat
    · subst g1
      rw [updf_at, if_pos (by omega), if_pos (Or.inl (by omega)), show 10 + i.toNat - 10 = i.toNat by omega]
      exact upd2_int e' ru
    · rw [updf_of g1]
      split
      · split
        · exact vi_eq (uq_ne e' (Or.inr (by omega)))
        · rfl
      · split
        · exact vi_eq (sm o g (nq o ho))
        · rfl
  · have hk' := hk.to (a2 b hb)
    have nr : vq W b 13 ≠ q := by
      have := (a1 b hb).2.2.2 o ho n hk' (Or.inl k1)
      rwa [vq_of hv] at this
    exact (stv_eq (h0 b hb) (h13 b hb) (fun g _ _ => vi_eq (sm b g (nq b hb))) (fun r => vi_eq (sm _ r nr))).trans (a4 b hb n hk)
def rad (V : Vmap) (a N : Nat) (i d : Int) : Vmap := rpv V a N i (wr (rgv V a N i + d))
theorem RAD.mk (e : V1 = rpv V q N i z) (eX : X = rgv V q N i) (ez : z = wr (X + d)) : V1 = rad V q N i d := by
  unfold rad
  rw [e, ez, eX]
theorem NUF.rad (h : NUF K V W o c) (hv : W o 13 = .ref q) (hq : K q = some (158 + 1, N)) (e : W1 = rad W q N i d) (i0 : 0 ≤ i) (i4 : i < 4) : NUF K V W1 o (updf c (10 + i.toNat) (wr (c (10 + i.toNat) + d))) :=
  (h.rpv hv hq e wr_ir i0 i4).cong fun S hS ho h1 => by rw [(h.rv hv hq hS ho h1).2 i i0 i4]
/-- the places of an object of the class -/
def SX (V : Vmap) (x : Nat) : Nat → Prop := fun b => ∃ k : Nat, (k : Int) < vi V x 6 ∧ b = plO V x k
def RWX (K : Kmap) (V : Vmap) (x : Nat) : Prop := RWS K (SX V x) V
theorem SX.of {k : Nat} (h : (k : Int) < vi V x 6) : SX V x (plO V x k) := ⟨k, h, rfl⟩
theorem SX.to (h6 : vi V1 x 6 = vi V x 6) (hp : ∀ k : Nat, (k : Int) < vi V x 6 → plO V1 x k = plO V x k) : SX V1 x = SX V x := by
  funext b
  apply propext
  constructor
  · rintro ⟨k, h1, h2⟩
    rw [h6] at h1
    exact ⟨k, h1, h2.trans (hp k h1)⟩
  · rintro ⟨k, h1, h2⟩
    exact ⟨k, by rw [h6]; exact h1, h2.trans (hp k h1).symm⟩
/-! all stations of a side, and nothing elsewhere -/
def cN (V : Vmap) (x : Nat) : Nat → Nat → Int := fun k => if (k : Int) < vi V x 6 ∧ pkd V x k = 1 then stv V (plO V x k) else fun _ => 0
def rst (V : Vmap) (m k : Nat) : Nat → Int := fun f => if 10 ≤ f then (if f < 14 then ar 23 V m (4 * k + (f - 10)) else 0) else if f = 5 then ar 28 V m k else if f = 6 then ar 19 V m k else if f = 7 then ar 20 V m k else if f = 8 then ar 21 V m k else if f = 9 then ar 22 V m k else 0
def rN (V : Vmap) (m : Nat) : Nat → Nat → Int := fun k => if (k : Int) < vi V m 10 ∧ ar 13 V m k = 1 then rst V m k else fun _ => 0
def upg (g : Nat → Nat → Int) (k : Nat) (r : Nat → Int) : Nat → Nat → Int := fun j => if j = k then r else g j
theorem upg_at {g : Nat → Nat → Int} {k : Nat} : upg g k c k = c := if_pos rfl
theorem upg_of {g : Nat → Nat → Int} {k j : Nat} (h : j ≠ k) : upg g k c j = g j := if_neg h
theorem upg_id {g : Nat → Nat → Int} {k : Nat} (h : c = g k) : upg g k c = g := by
  funext j
  unfold upg
  split
  · subst k
    exact h
  · rfl
theorem cN_at {k : Nat} (hk : (k : Int) < vi V x 6) (h1 : pkd V x k = 1) : cN V x k = stv V (plO V x k) := if_pos ⟨hk, h1⟩
theorem rN_at {k : Nat} (hk : (k : Int) < vi V m 10) (h1 : ar 13 V m k = 1) : rN V m k = rst V m k := if_pos ⟨hk, h1⟩
theorem cNif {k : Nat} : cN V x k = if (k : Int) < vi V x 6 ∧ pkd V x k = 1 then stv V (plO V x k) else fun _ => 0 := rfl
/-- places stay: one store changes -/
theorem NUF.cn {k : Nat} (h : NUF K V V1 (plO V x k) c) (hR : RWX K V x) (hI : PLI V x) (hk : (k : Int) < vi V x 6) (h1 : pkd V x k = 1) (h6 : vi V1 x 6 = vi V x 6) (hp : ∀ u : Nat, (u : Int) < vi V x 6 → plO V1 x u = plO V x u) : RWX K V1 x ∧ cN V1 x = upg (cN V x) k c ∧ (∀ u : Nat, (u : Int) < vi V x 6 → pkd V x u = 5 → stv V1 (plO V x u) = stv V (plO V x u)) := by
  obtain ⟨a1, a2, a3, a4⟩ := h _ hR (SX.of hk) h1
  have ne : ∀ u : Nat, (u : Int) < vi V x 6 → u ≠ k → plO V x u ≠ plO V x k := fun u hu q => by
    rcases Nat.lt_or_gt_of_ne q with g | g
    · exact hI.2.1 u k g hk
    · exact (hI.2.1 k u g hu).symm
  refine ⟨by unfold RWX; rw [SX.to h6 hp]; exact a1, ?_, fun u hu h5 => ?_⟩
  · funext j
    unfold upg
    rw [cNif (V := V1), cNif (V := V), h6]
    by_cases hj : (j : Int) < vi V x 6
    · have ek : pkd V1 x j = pkd V x j := by
        unfold pkd
        rw [hp j hj]
        exact a2 _ (SX.of hj)
      rw [ek, hp j hj]
      by_cases q : j = k
      · subst q
        rw [if_pos rfl, if_pos ⟨hj, h1⟩]
        exact a3
      · rw [if_neg q]
        by_cases g : pkd V x j = 1
        · rw [if_pos ⟨hj, g⟩, if_pos ⟨hj, g⟩]
          exact a4 _ (SX.of hj) (ne j hj q) (Or.inl g)
        · rw [if_neg (fun e => g e.2), if_neg (fun e => g e.2)]
    · rw [if_neg (fun e => hj e.1), if_neg (show j ≠ k by omega), if_neg (fun e => hj e.1)]
  · by_cases q : u = k
    · subst q
      omega
    · exact a4 _ (SX.of hu) (ne u hu q) (Or.inr h5)
theorem NUN.cn (h : NUN K V V1) (hR : RWX K V x) (h6 : vi V1 x 6 = vi V x 6) (hp : ∀ u : Nat, (u : Int) < vi V x 6 → plO V1 x u = plO V x u) : RWX K V1 x ∧ cN V1 x = cN V x ∧ (∀ u : Nat, (u : Int) < vi V x 6 → pkd V x u = 5 → stv V1 (plO V x u) = stv V (plO V x u)) := by
  obtain ⟨a1, a2, a3⟩ := h _ hR
  refine ⟨by unfold RWX; rw [SX.to h6 hp]; exact a1, ?_, fun u hu h5 => a3 _ (SX.of hu) (Or.inr h5)⟩
  funext j
  unfold cN
  rw [h6]
  by_cases hj : (j : Int) < vi V x 6
  · have ek : pkd V1 x j = pkd V x j := by
      unfold pkd
      rw [hp j hj]
      exact a2 _ (SX.of hj)
    rw [ek, hp j hj]
    by_cases g : pkd V x j = 1
    · rw [if_pos ⟨hj, g⟩, if_pos ⟨hj, g⟩]
      exact a3 _ (SX.of hj) (Or.inl g)
    · rw [if_neg (fun e => g e.2), if_neg (fun e => g e.2)]
  · rw [if_neg (fun e => hj e.1), if_neg (fun e => hj e.1)]
/-- a call that writes nothing of them, new objects or not -/
theorem nu_frx {ws : Nat} (hF : FR ws K V K1 V1) (hE : ext K K1) (hR : RWX K V x) (h6 : vi V1 x 6 = vi V x 6) (hp : ∀ u : Nat, (u : Int) < vi V x 6 → plO V1 x u = plO V x u) (hb : nubits ws = true) : RWX K1 V1 x ∧ cN V1 x = cN V x ∧ (∀ u : Nat, (u : Int) < vi V x 6 → pkd V1 x u = pkd V x u ∧ (pkd V x u = 5 → stv V1 (plO V x u) = stv V (plO V x u))) := by
  have key : ∀ u : Nat, (u : Int) < vi V x 6 → vi V1 (plO V x u) 0 = vi V (plO V x u) 0 ∧ (KS V (plO V x u) → V1 (plO V x u) 13 = V (plO V x u) 13 ∧ stv V1 (plO V x u) = stv V (plO V x u)) := fun u hu => by
    obtain ⟨h1, h2, h3, h4⟩ := nu_fr hF hE hb (hR _ (SX.of hu)).1
    refine ⟨h1, fun hk => ⟨h2, ?_⟩⟩
    obtain ⟨-, N, hN⟩ := ks_row hR (SX.of hu) hk
    exact stv_eq h1 h2 h3 (h4 N hN)
  have ek : ∀ u : Nat, (u : Int) < vi V x 6 → pkd V1 x u = pkd V x u := fun u hu => by
    unfold pkd
    rw [hp u hu]
    exact (key u hu).1
  refine ⟨?_, ?_, fun u hu => ⟨ek u hu, fun h5 => ((key u hu).2 (Or.inr h5)).2⟩⟩
  · unfold RWX
    rw [SX.to h6 hp]
    have e1 := RWS.same (K := K) (V1 := V1) hR (fun b ⟨u, hu, eu⟩ => by rw [eu]; exact (key u hu).1) (fun b ⟨u, hu, eu⟩ hk => by rw [eu] at hk ⊢; exact ((key u hu).2 hk).1)
    exact fun a ha => by
      obtain ⟨g1, g2, g3, g4⟩ := e1 a ha
      exact ⟨hE.obj (Or.inl (by decide)) g1, fun g => ⟨(g2 g).1, hE.arr (g2 g).2⟩, fun g => ⟨(g3 g).1, hE.arr (g3 g).2⟩, g4⟩
  · funext j
    unfold cN
    rw [h6]
    by_cases hj : (j : Int) < vi V x 6
    · rw [ek j hj, hp j hj]
      by_cases g : pkd V x j = 1
      · rw [if_pos ⟨hj, g⟩, if_pos ⟨hj, g⟩]
        exact ((key j hj).2 (Or.inl g)).2
      · rw [if_neg (fun e => g e.2), if_neg (fun e => g e.2)]
    · rw [if_neg (fun e => hj e.1), if_neg (fun e => hj e.1)]
end Q1
