/-! ### what was lost of a nest; how a place stands -/
section Q21
variable {K K0 K1 K2 Kp : Kmap} {V V0 V1 V2 Vp Vs W : Vmap} {x m o q N : Nat} {k i j n e d p a b c w y z s t u A B X Y Z : Int} {pk pk' : Prop} {f f' : Nat → Int}
def prt (n e : Int) : Int := wdiv (wr (wr (n * e) + 99)) 100
theorem PRT.mk (h1 : s = wr (n * e)) (h2 : t = wr (s + 99)) : wdiv t 100 = prt n e := by
  unfold prt
  rw [h2, h1]
def lov (n k e w : Int) : Int := if w = 0 then wr (wr (n - k) - wr (prt n e + prt k e)) else wr (wr (n - k) + wr (prt n e + prt k e))
def LSD (pk : Prop) (f : Nat → Int) (a b e w : Int) : Prop := pk ∧ (0 ≤ a ∧ a ≤ 9) ∧ (a < b ∧ b ≤ 9) ∧ (0 ≤ e ∧ e ≤ 99) ∧ (0 ≤ w ∧ w ≤ 1) ∧ f a.toNat ≠ -1 ∧ f b.toNat ≠ -1
def LSV' (pk : Prop) (f : Nat → Int) (a b e w X : Int) : Prop := (X = -1000000 ∧ ¬ LSD pk f a b e w) ∨ (LSD pk f a b e w ∧ X = lov (f a.toNat) (f b.toNat) e w)
theorem LSV'.uniq (h : LSV' pk f a b e w X) (g : LSV' pk' f' a b e w Y) (hp : pk ↔ pk') (hf : pk → ∀ y, y < 10 → f y = f' y) : X = Y := by
  have hd : LSD pk f a b e w ↔ LSD pk' f' a b e w := by
    unfold LSD
    constructor
    · rintro ⟨h1, h2, h3, h4, h5, h6, h7⟩
      have g1 := hf h1 a.toNat (by omega)
      have g2 := hf h1 b.toNat (by omega)
      exact ⟨hp.mp h1, h2, h3, h4, h5, by rw [← g1]; exact h6, by rw [← g2]; exact h7⟩
    · rintro ⟨h1, h2, h3, h4, h5, h6, h7⟩
      have h1' := hp.mpr h1
      have g1 := hf h1' a.toNat (by omega)
      have g2 := hf h1' b.toNat (by omega)
      exact ⟨h1', h2, h3, h4, h5, by rw [g1]; exact h6, by rw [g2]; exact h7⟩
  rcases h with ⟨a1, a2⟩ | ⟨a1, a2⟩
  · rcases g with ⟨d1, -⟩ | ⟨d1, -⟩
    · rw [a1, d1]
    · exact absurd (hd.mpr d1) a2
  · rcases g with ⟨-, d2⟩ | ⟨-, d2⟩
    · exact absurd (hd.mp a1) d2
    · obtain ⟨h1, h2, h3, -⟩ := a1
      rw [a2, d2, hf h1 a.toNat (by omega), hf h1 b.toNat (by omega)]
def LOC (K : Kmap) (V : Vmap) (x : Nat) (k a b e w X : Int) : Prop := NN 6 5 V x → RWX K V x → LSV' (PK V x k 5) (fun y => stv V (plO V x k.toNat) (10 + y)) a b e w X
theorem LOC.nk (h : NN 6 5 V x → ¬ PK V x k 5) (hX : X = -1000000) : LOC K V x k a b e w X := fun hN _ => Or.inl ⟨hX, fun g => h hN g.1⟩
theorem LOC.no (h : ¬ ((0 ≤ a ∧ a ≤ 9) ∧ (a < b ∧ b ≤ 9) ∧ (0 ≤ e ∧ e ≤ 99) ∧ (0 ≤ w ∧ w ≤ 1))) (hX : X = -1000000) : LOC K V x k a b e w X := fun _ _ => Or.inl ⟨hX, fun g => h ⟨g.2.1, g.2.2.1, g.2.2.2.1, g.2.2.2.2.1⟩⟩
theorem LOC.abs (g : o = plO V x k.toNat ∧ PK V x k 5) (hv : V o 13 = .null) : LOC K V x k a b e w X := fun _ hR => by
  obtain ⟨g1, z0, z1, z2⟩ := g
  subst g1
  have r := ((hR _ (SX.of (k := k.toNat) (by omega))).2.2.1 z2).1
  rw [hv] at r
  cases r
theorem loc_rv (g : o = plO V x k.toNat ∧ PK V x k 5) (hR : RWX K V x) (hv : V o 13 = .ref q) (hq : K q = some (158 + 1, N)) (hA : A = rgv V q N a) (a0 : 0 ≤ a) (a9 : a ≤ 9) : stv V (plO V x k.toNat) (10 + a.toNat) = A := by
  obtain ⟨g1, z0, z1, z2⟩ := g
  subst g1
  have r2 := ((hR _ (SX.of (k := k.toNat) (by omega))).2.2.1 z2).2
  rw [vq_of hv, hq] at r2
  have hn : N = 10 := (Prod.mk.inj (Option.some.inj r2)).2
  subst hn
  have h5 : vi V (plO V x k.toNat) 0 = 5 := z2
  rw [stv_b h5 (by omega), vq_of hv, hA]
  exact rgv_in a0 (by show a < ((10 : Nat) : Int); omega)
theorem LOC.nr (g : o = plO V x k.toNat ∧ PK V x k 5) (hv : V o 13 = .ref q) (hq : K q = some (158 + 1, N)) (hA : A = rgv V q N a) (hB : B = rgv V q N b) (hr : (0 ≤ a ∧ a ≤ 9) ∧ (a < b ∧ b ≤ 9)) (h : A = -1 ∨ B = -1) (hX : X = -1000000) : LOC K V x k a b e w X := fun _ hR => Or.inl ⟨hX, fun f => by
  have e1 := loc_rv g hR hv hq hA (by omega) (by omega)
  have e2 := loc_rv g hR hv hq hB (by omega) (by omega)
  obtain ⟨-, -, -, -, -, f1, f2⟩ := f
  have f1' : stv V (plO V x k.toNat) (10 + a.toNat) ≠ -1 := f1
  have f2' : stv V (plO V x k.toNat) (10 + b.toNat) ≠ -1 := f2
  rw [e1] at f1'
  rw [e2] at f2'
  rcases h with h | h
  · exact f1' h
  · exact f2' h⟩
theorem LOC.ok {z1 z2 z3 z4 z5 z6 z7 : Int} (g : o = plO V x k.toNat ∧ PK V x k 5) (hA : A = rgv V q N a) (hB : B = rgv V q N b) (hv : V o 13 = .ref q) (hq : K q = some (158 + 1, N)) (hr : (0 ≤ a ∧ a ≤ 9) ∧ (a < b ∧ b ≤ 9)) (he : 0 ≤ e ∧ e ≤ 99) (hw : 0 ≤ w ∧ w ≤ 1) (nA : A ≠ -1) (nB : B ≠ -1) (h1 : z1 = wr (A * e)) (h2 : z2 = wr (z1 + 99)) (h3 : z3 = wr (B * e)) (h4 : z4 = wr (z3 + 99)) (h5 : z5 = wr (wdiv z2 100 + wdiv z4 100)) (h6 : z6 = wr (A - B)) (h7 : (w = 0 ∧ z7 = wr (-z5)) ∨ (w ≠ 0 ∧ z7 = z5)) (hX : X = wr (z6 + z7)) : LOC K V x k a b e w X := fun _ hR => by
  have e1 := loc_rv g hR hv hq hA (by omega) (by omega)
  have e2 := loc_rv g hR hv hq hB (by omega) (by omega)
  refine Or.inr ⟨⟨g.2, hr.1, hr.2, he, hw, ?_, ?_⟩, ?_⟩
  · show stv V (plO V x k.toNat) (10 + a.toNat) ≠ -1
    rw [e1]
    exact nA
  · show stv V (plO V x k.toNat) (10 + b.toNat) ≠ -1
    rw [e2]
    exact nB
  · show X = lov (stv V (plO V x k.toNat) (10 + a.toNat)) (stv V (plO V x k.toNat) (10 + b.toNat)) e w
    have p1 : wdiv z2 100 = prt A e := PRT.mk h1 h2
    have p2 : wdiv z4 100 = prt B e := PRT.mk h3 h4
    rw [e1, e2]
    unfold lov
    rw [hX, h6]
    rw [p1, p2] at h5
    rcases h7 with ⟨w0, h7⟩ | ⟨w0, h7⟩
    · rw [if_pos w0, h7, wr_add, ← Int.sub_eq_add_neg, h5]
    · rw [if_neg w0, h7, h5]
def MLC (V : Vmap) (m : Nat) (k a b e w X : Int) : Prop := LSV' (MPK V m k 5) (fun y => ar 27 V m (10 * k.toNat + y)) a b e w X
theorem MLC.nk (h : Y ≠ 0 ↔ MPK V m k 5) (hY : Y = 0) (hX : X = -1000000) : MLC V m k a b e w X := Or.inl ⟨hX, fun g => absurd hY (h.mpr g.1)⟩
theorem MLC.no (h : ¬ ((0 ≤ a ∧ a ≤ 9) ∧ (a < b ∧ b ≤ 9) ∧ (0 ≤ e ∧ e ≤ 99) ∧ (0 ≤ w ∧ w ≤ 1))) (hX : X = -1000000) : MLC V m k a b e w X := Or.inl ⟨hX, fun g => h ⟨g.2.1, g.2.2.1, g.2.2.2.1, g.2.2.2.2.1⟩⟩
theorem MLC.nr {s1 s2 : Nat} (_ : A = A) (_ : B = B) (hA : A = vi V (vq V m 27) s1) (hB : B = vi V (vq V m 27) s2) (h1 : s1 = 10 * k.toNat + a.toNat) (h2 : s2 = 10 * k.toNat + b.toNat) (h : A = -1 ∨ B = -1) (hX : X = -1000000) : MLC V m k a b e w X := Or.inl ⟨hX, fun f => by
  obtain ⟨-, -, -, -, -, f1, f2⟩ := f
  subst h1 h2
  rcases h with h | h
  · exact f1 (hA.symm.trans h)
  · exact f2 (hB.symm.trans h)⟩
theorem MLC.ok {s1 s2 : Nat} {z5 z6 : Int} (_ : A = A) (_ : B = B) (h0 : Y ≠ 0 ↔ MPK V m k 5) (hY : Y ≠ 0) (p1 : s = prt A e) (p2 : t = prt B e) (hA : A = vi V (vq V m 27) s1) (hB : B = vi V (vq V m 27) s2) (h1 : s1 = 10 * k.toNat + a.toNat) (h2 : s2 = 10 * k.toNat + b.toNat) (hr : (0 ≤ a ∧ a ≤ 9) ∧ (a < b ∧ b ≤ 9)) (he : 0 ≤ e ∧ e ≤ 99) (hw : 0 ≤ w ∧ w ≤ 1) (nA : A ≠ -1) (nB : B ≠ -1) (h5 : z5 = wr (s + t)) (h6 : z6 = wr (A - B)) (hX : (w = 0 ∧ X = wr (z6 - z5)) ∨ (w ≠ 0 ∧ X = wr (z6 + z5))) : MLC V m k a b e w X := by
  subst h1 h2
  have eA : ar 27 V m (10 * k.toNat + a.toNat) = A := hA.symm
  have eB : ar 27 V m (10 * k.toNat + b.toNat) = B := hB.symm
  refine Or.inr ⟨⟨h0.mp hY, hr.1, hr.2, he, hw, ?_, ?_⟩, ?_⟩
  · show ar 27 V m (10 * k.toNat + a.toNat) ≠ -1
    rw [eA]
    exact nA
  · show ar 27 V m (10 * k.toNat + b.toNat) ≠ -1
    rw [eB]
    exact nB
  · show X = lov (ar 27 V m (10 * k.toNat + a.toNat)) (ar 27 V m (10 * k.toNat + b.toNat)) e w
    rw [eA, eB]
    unfold lov
    rw [← p1, ← p2, ← h5, ← h6]
    rcases hX with ⟨w0, h7⟩ | ⟨w0, h7⟩
    · rw [if_pos w0, h7]
    · rw [if_neg w0, h7]
theorem STO.loss {w1 : Nat} (h : STO K V x m) (hP : PLE V x m) (hm : K m = some (0, 11)) (hW : WT K V) (hE1 : ext K K1) (hF1 : FR w1 K V K1 V1) (f : LOC K V x k a b e w X) (g : MLC V1 m k a b e w Y) (b1 : mpbits w1 = true) (b5 : nebits w1 = true) : X = Y := by
  have gm := MPS.fr hF1 hE1 hW hm b1
  have e27 := (ne_fr hF1 hE1 hW hm b5).2
  refine (f hP.1.1 h.1).uniq g (hP.pkk gm) (fun ⟨z0, z1, z2⟩ y hy => ?_)
  rw [e27]
  exact h.2.2.1 k.toNat (by omega) z2 y hy
/-! ranks: none at stations, sites, nests -/
def RKE (V : Vmap) (x : Nat) : Prop := ∀ k : Nat, (k : Int) < vi V x 6 → pkd V x k = 1 ∨ pkd V x k = 4 ∨ pkd V x k = 5 → vi V (plO V x k) 4 = -1
def rkbits (ws : Nat) : Bool := [keyK (0, 10) 5, keyK (0, 10) 6, abase + 6, keyK (0, 3) 0, keyK (0, 3) 4].all fun b => !ws.testBit b
theorem RKE.frx {ws : Nat} (h : RKE V x) (hF : FR ws K V K1 V1) (hE : ext K K1) (hW : WT K V) (hx : K x = some (0, 10)) (hN : NN 6 5 V x) (hb : rkbits ws = true) : RKE V1 x := by
  simp only [rkbits, List.all_cons, List.all_nil, Bool.and_true, Bool.and_eq_true, Bool.not_eq_true'] at hb
  obtain ⟨c5, c6, a6, k0, k4⟩ := hb
  obtain ⟨e6, ep⟩ := pp_fr hF hE hW hx (by simp only [ppbits, List.all_cons, List.all_nil, Bool.and_true, Bool.and_eq_true, Bool.not_eq_true']; exact ⟨c5, c6, a6⟩)
  intro k hk hd
  rw [e6] at hk
  have h1 := (pl_at hW hx hN hk).2.2
  have h2 := hE.obj (Or.inl (by decide)) h1
  have ek : pkd V1 x k = pkd V x k := by
    unfold pkd
    rw [ep]
    exact vi_fr hF h1 h2 k0
  rw [ek] at hd
  rw [ep, vi_fr hF h1 h2 k4]
  exact h k hk hd
/-- title() -/
def RKT (V V1 : Vmap) (x : Nat) : Prop := NN 6 5 V x → vi V1 x 6 = vi V x 6 ∧ ∀ k : Nat, (k : Int) < vi V x 6 → plO V1 x k = plO V x k ∧ pkd V1 x k = pkd V x k ∧ (pkd V x k ≠ 0 → vi V1 (plO V x k) 4 = vi V (plO V x k) 4)
theorem RKT.fr {ws : Nat} (hF : FR ws K V K1 V1) (hE : ext K K1) (hW : WT K V) (hx : K x = some (0, 10)) (hb : rkbits ws = true) : RKT V V1 x := fun hN => by
  simp only [rkbits, List.all_cons, List.all_nil, Bool.and_true, Bool.and_eq_true, Bool.not_eq_true'] at hb
  obtain ⟨c5, c6, a6, k0, k4⟩ := hb
  obtain ⟨e6, ep⟩ := pp_fr hF hE hW hx (by simp only [ppbits, List.all_cons, List.all_nil, Bool.and_true, Bool.and_eq_true, Bool.not_eq_true']; exact ⟨c5, c6, a6⟩)
  refine ⟨e6, fun k hk => ?_⟩
  have h1 := (pl_at hW hx hN hk).2.2
  have h2 := hE.obj (Or.inl (by decide)) h1
  refine ⟨ep k, ?_, fun _ => vi_fr hF h1 h2 k4⟩
  unfold pkd
  rw [ep]
  exact vi_fr hF h1 h2 k0
theorem RKT.rf : RKT V V x := fun _ => ⟨rfl, fun _ _ => ⟨rfl, rfl, fun _ => rfl⟩⟩
theorem RKT.put {v : Value} (g : RKT V W x) (hW : WT K W) (hx : K x = some (0, 10)) (hN : NN 6 5 V x → NN 6 5 W x) (ho : o = plO V x k.toNat ∧ PK V x k 0) (e : V1 = upd2 W o 4 v) (hq : K o = some (0, 3)) : RKT V V1 x := fun hN0 => by
  obtain ⟨g1, g2⟩ := g hN0
  obtain ⟨o1, z0, z1, z2⟩ := ho
  have nx : x ≠ o := K_ne hx hq (by decide)
  obtain ⟨N, hA⟩ := (hW.ref hx (j := 5) (Nat.le_of_ble_eq_true rfl) rfl).2
  have na : vq W x 5 ≠ o := K_ne hA hq (by simp)
  have e5 : vq V1 x 5 = vq W x 5 := vq_up e (Or.inl nx)
  have ep : ∀ k, plO V1 x k = plO W x k := fun k => by
    unfold plO
    rw [e5]
    exact vq_up e (Or.inl na)
  refine ⟨(vi_up e (Or.inl nx)).trans g1, fun u hu => ?_⟩
  obtain ⟨r1, r2, r3⟩ := g2 u hu
  refine ⟨(ep u).trans r1, ?_, fun hd => ?_⟩
  · rw [← r2]
    unfold pkd
    rw [ep]
    exact vi_up e (Or.inr (by decide))
  · have n : plO V x u ≠ o := fun c => hd (by
      unfold pkd at z2 ⊢
      rw [c, o1]
      exact z2)
    exact (vi_up e (Or.inl n)).trans (r3 hd)
theorem RKE.title (h : RKE V x) (f : RKT V V1 x) (hN : NN 6 5 V x) : RKE V1 x := by
  obtain ⟨g1, g2⟩ := f hN
  intro k hk hd
  rw [g1] at hk
  obtain ⟨r1, r2, r3⟩ := g2 k hk
  rw [r2] at hd
  rw [r1, r3 (by omega)]
  exact h k hk hd
/-- a new place's rank -/
def NRK (V V1 : Vmap) (x : Nat) (X : Int) : Prop := X ≠ -1 → vi V1 (plO V1 x (vi V x 6).toNat) 4 = -1
theorem NRK.no (hX : X = -1) : NRK V V1 x X := fun g => absurd hX g
theorem NRK.mk (h4 : vi W q 4 = -1) (hc : K q = some (0, 3)) (hx : K x = some (0, 10)) (hW : WT K W) (h6 : vi W x 6 = vi V x 6) (hs : SET W V1 x q X) : NRK V V1 x X := fun hX => by
  rcases hs with ⟨h1, -⟩ | ⟨h1, h2, V4, e1, e2⟩
  · exact absurd h1 hX
  · obtain ⟨M, hA⟩ := (hW.ref hx (j := 5) (Nat.le_of_ble_eq_true rfl) rfl).2
    have nxa : x ≠ vq W x 5 := K_ne hx hA (by simp)
    have nqx : q ≠ x := K_ne hc hx (by decide)
    have nqa : q ≠ vq W x 5 := K_ne hc hA (by simp)
    have h5 : vq V1 x 5 = vq W x 5 := (vq_up e2 (Or.inr (by decide))).trans (vq_up e1 (Or.inl nxa))
    have hnew : V1 (vq V1 x 5) (vi W x 6).toNat = .ref q := by rw [h5, uq_ne e2 (Or.inl (Ne.symm nxa)), uq_same e1]
    have eq : plO V1 x (vi V x 6).toNat = q := by
      rw [← h6]
      exact vq_of hnew
    rw [eq, vi_up e2 (Or.inl nqx), vi_up e1 (Or.inl nqa)]
    exact h4
theorem NRK.fr {ws : Nat} (h : NRK V V1 x X) (hF : FR ws K1 V1 K1 V2) (hW : WT K1 V1) (hx : K1 x = some (0, 10)) (ho : X ≠ -1 → K1 (plO V1 x (vi V x 6).toNat) = some (0, 3)) (b2 : ppbits ws = true) (b4 : ws.testBit (keyK (0, 3) 4) = false) : NRK V V2 x X := fun hX => by
  obtain ⟨-, ep⟩ := pp_fr hF ext.rf hW hx b2
  rw [ep, vi_fr hF (ho hX) (ho hX) b4]
  exact h hX
theorem RKE.new {kd : Int} (h : RKE V x) (hp : NPL K V V1 x X kd) (g : RSM K V V1) (hW : WT K V) (hx : K x = some (0, 10)) (hN : NN 6 5 V x) (hk : (kd = 1 ∨ kd = 4 ∨ kd = 5) → NRK V V1 x X) : RKE V1 x := fun k hk' hd => by
  by_cases c : (k : Int) < vi V x 6
  · have h1 := (pl_at hW hx hN c).2.2
    have ep := hp.1 k c
    have ek : pkd V1 x k = pkd V x k := by
      unfold pkd
      rw [ep]
      exact vi_eq (g.1 _ h1 0 (by decide))
    rw [ek] at hd
    rw [ep, vi_eq (g.1 _ h1 4 (by decide))]
    exact h k c hd
  · rcases hp.2.2 with ⟨-, e⟩ | ⟨n1, e, h0, -, n5, -⟩
    · omega
    · have en : k = (vi V x 6).toNat := by omega
      subst en
      rw [n5] at hd
      exact hk hd n1
theorem RKE.nil (h : vi V x 6 = 0) : RKE V x := fun k hk => by omega
/-! look() -/
def LKC (K : Kmap) (V : Vmap) (x : Nat) (k w X : Int) : Prop := NN 6 5 V x → RWX K V x → ((k < 0 ∨ vi V x 6 ≤ k) ∧ X = -1) ∨ ((0 ≤ k ∧ k < vi V x 6) ∧ (w = 0 → X = vi V (plO V x k.toNat) 0) ∧ (w = 1 → X = vi V (plO V x k.toNat) 1) ∧ (w = 2 → X = vi V (plO V x k.toNat) 2) ∧ (w = 3 → X = vi V (plO V x k.toNat) 3) ∧ (w = 4 → X = vi V (plO V x k.toNat) 4) ∧ (w = 5 → X = vi V (plO V x k.toNat) 5) ∧ (6 ≤ w → w ≤ 13 → pkd V x k.toNat = 1 → X = stv V (plO V x k.toNat) w.toNat) ∧ ((w < 0 ∨ 5 < w) → ¬ (w ≤ 13 ∧ 6 ≤ w ∧ pkd V x k.toNat = 1) → X = -1))
def LAS (K : Kmap) (V : Vmap) (o : Nat) (w X : Int) : Prop := (w = 6 → X = vi V o 6) ∧ (w = 7 → X = vi V o 7) ∧ (w = 8 → X = vi V o 8) ∧ (w = 9 → X = vi V o 9) ∧ (10 ≤ w → w ≤ 13 → V o 13 = .null ∨ ∃ q N, V o 13 = .ref q ∧ K q = some (158 + 1, N) ∧ X = rgv V q N (w - 10)) ∧ ((w < 6 ∨ 13 < w) → X = -1)
theorem LKC.no (h : NN 6 5 V x → k < 0 ∨ vi V x 6 ≤ k) (hX : X = -1) : LKC K V x k w X := fun hN _ => Or.inl ⟨h hN, hX⟩
theorem LKC.ys (g : o = plO V x k.toNat) (h : 0 ≤ k ∧ k < vi V x 6) (hw : 0 ≤ w ∧ w ≤ 5) (h0 : w = 0 → X = vi V o 0) (h1 : w = 1 → X = vi V o 1) (h2 : w = 2 → X = vi V o 2) (h3 : w = 3 → X = vi V o 3) (h4 : w = 4 → X = vi V o 4) (h5 : w = 5 → X = vi V o 5) : LKC K V x k w X := fun _ _ => by
  subst g
  exact Or.inr ⟨h, h0, h1, h2, h3, h4, h5, fun _ _ => by omega, fun _ => by omega⟩
theorem LKC.nst (g : o = plO V x k.toNat) (h : 0 ≤ k ∧ k < vi V x 6) (hw : w < 0 ∨ 5 < w) (hk : vi V o 0 ≠ 1) (hX : X = -1) : LKC K V x k w X := fun _ _ => by
  subst g
  have nk : pkd V x k.toNat ≠ 1 := hk
  exact Or.inr ⟨h, fun _ => by omega, fun _ => by omega, fun _ => by omega, fun _ => by omega, fun _ => by omega, fun _ => by omega, fun _ _ c => absurd c nk, fun _ _ => hX⟩
theorem LKC.st (g : o = plO V x k.toNat) (h : 0 ≤ k ∧ k < vi V x 6) (hw : w < 0 ∨ 5 < w) (hk : vi V o 0 = 1) (f : LAS K V o w X) : LKC K V x k w X := fun _ hR => by
  subst g
  obtain ⟨f6, f7, f8, f9, f10, f0⟩ := f
  refine Or.inr ⟨h, fun _ => by omega, fun _ => by omega, fun _ => by omega, fun _ => by omega, fun _ => by omega, fun _ => by omega, fun w6 w13 _ => ?_, fun c1 c2 => f0 ?_⟩
  · by_cases c : w ≤ 9
    · rcases (show w = 6 ∨ w = 7 ∨ w = 8 ∨ w = 9 by omega) with rfl | rfl | rfl | rfl
      · exact (f6 rfl).trans (stv_f (by decide) (by decide)).symm
      · exact (f7 rfl).trans (stv_f (by decide) (by decide)).symm
      · exact (f8 rfl).trans (stv_f (by decide) (by decide)).symm
      · exact (f9 rfl).trans (stv_f (by decide) (by decide)).symm
    · have hs := (hR _ (SX.of (k := k.toNat) (by omega))).2.1 hk
      rcases f10 (by omega) w13 with n | ⟨q, N, n1, n2, n3⟩
      · rw [n] at hs
        cases hs.1
      · have r2 := hs.2
        rw [vq_of n1, n2] at r2
        have hn : N = 4 := (Prod.mk.inj (Option.some.inj r2)).2
        subst hn
        have ew : w.toNat = 10 + (w - 10).toNat := by omega
        rw [ew, stv_r (by omega), vq_of n1, n3]
        exact (rgv_in (by omega) (by show w - 10 < ((4 : Nat) : Int); omega)).symm
  · have hk' : pkd V x k.toNat = 1 := hk
    by_cases c : 13 < w
    · exact Or.inr c
    · refine Or.inl ?_
      by_cases c3 : 6 ≤ w
      · exact absurd ⟨by omega, c3, hk'⟩ c2
      · omega
def MLK (V : Vmap) (m : Nat) (k w X : Int) : Prop := ((k < 0 ∨ vi V m 10 ≤ k) ∧ X = -1) ∨ ((0 ≤ k ∧ k < vi V m 10) ∧ (w = 0 → X = ar 13 V m k.toNat) ∧ (w = 1 → X = ar 14 V m k.toNat) ∧ (w = 2 → X = ar 15 V m k.toNat) ∧ (w = 3 → X = ar 16 V m k.toNat) ∧ (w = 4 → (ar 13 V m k.toNat = 0 ∨ ar 13 V m k.toNat = 2 ∨ ar 13 V m k.toNat = 3) → X = ar 17 V m k.toNat) ∧ (w = 4 → ¬ (ar 13 V m k.toNat = 0 ∨ ar 13 V m k.toNat = 2 ∨ ar 13 V m k.toNat = 3) → X = -1) ∧ (w = 5 → X = ar 28 V m k.toNat) ∧ (6 ≤ w → w ≤ 13 → ar 13 V m k.toNat = 1 → X = rst V m k.toNat w.toNat) ∧ ((w < 0 ∨ 5 < w) → ¬ (w ≤ 13 ∧ 6 ≤ w ∧ ar 13 V m k.toNat = 1) → X = -1))
def MLA (V : Vmap) (m : Nat) (k w X : Int) : Prop := (6 ≤ w → w ≤ 13 → X = rst V m k.toNat w.toNat) ∧ ((w < 6 ∨ 13 < w) → X = -1)
theorem MLA.lo (hw : ¬ (10 ≤ w ∧ w ≤ 13)) (h6 : w = 6 → X = vi V (vq V m 19) k.toNat) (h7 : w = 7 → X = vi V (vq V m 20) k.toNat) (h8 : w = 8 → X = vi V (vq V m 21) k.toNat) (h9 : w = 9 → X = vi V (vq V m 22) k.toNat) (h0 : (w < 6 ∨ 13 < w) → X = -1) : MLA V m k w X := by
  refine ⟨fun w6 w13 => ?_, h0⟩
  rcases (show w = 6 ∨ w = 7 ∨ w = 8 ∨ w = 9 by omega) with rfl | rfl | rfl | rfl
  · exact h6 rfl
  · exact h7 rfl
  · exact h8 rfl
  · exact h9 rfl
theorem MLA.ws {s1 : Nat} (hw : 10 ≤ w ∧ w ≤ 13) (hX : X = vi V (vq V m 23) s1) (hs : s1 = 4 * k.toNat + (w - 10).toNat) : MLA V m k w X := by
  refine ⟨fun w6 w13 => ?_, fun h => by omega⟩
  have ew : w.toNat = 10 + (w - 10).toNat := by omega
  rw [ew, rst_at.2.2.2.2.2 _ (by omega), ← hs]
  exact hX
theorem MLK.no (h : k < 0 ∨ vi V m 10 ≤ k) (hX : X = -1) : MLK V m k w X := Or.inl ⟨h, hX⟩
theorem MLK.ys (h : 0 ≤ k ∧ k < vi V m 10) (hw : 0 ≤ w ∧ w ≤ 5) (h0 : w = 0 → X = vi V (vq V m 13) k.toNat) (h1 : w = 1 → X = vi V (vq V m 14) k.toNat) (h2 : w = 2 → X = vi V (vq V m 15) k.toNat) (h3 : w = 3 → X = vi V (vq V m 16) k.toNat) (h4 : w = 4 → (vi V (vq V m 13) k.toNat = 0 ∨ vi V (vq V m 13) k.toNat = 2 ∨ vi V (vq V m 13) k.toNat = 3) → X = vi V (vq V m 17) k.toNat) (h4' : w = 4 → ¬ (vi V (vq V m 13) k.toNat = 0 ∨ vi V (vq V m 13) k.toNat = 2 ∨ vi V (vq V m 13) k.toNat = 3) → X = -1) (h5 : w = 5 → X = vi V (vq V m 28) k.toNat) : MLK V m k w X := Or.inr ⟨h, h0, h1, h2, h3, h4, h4', h5, fun _ _ => by omega, fun _ => by omega⟩
theorem MLK.nst (h : 0 ≤ k ∧ k < vi V m 10) (hw : w < 0 ∨ 5 < w) (hk : vi V (vq V m 13) k.toNat ≠ 1) (hX : X = -1) : MLK V m k w X := Or.inr ⟨h, fun _ => by omega, fun _ => by omega, fun _ => by omega, fun _ => by omega, fun _ => by omega, fun _ => by omega, fun _ => by omega, fun _ _ c => absurd c hk, fun _ _ => hX⟩
theorem MLK.st (h : 0 ≤ k ∧ k < vi V m 10) (hw : w < 0 ∨ 5 < w) (hk : vi V (vq V m 13) k.toNat = 1) (f : MLA V m k w X) : MLK V m k w X := Or.inr ⟨h, fun _ => by omega, fun _ => by omega, fun _ => by omega, fun _ => by omega, fun _ => by omega, fun _ => by omega, fun _ => by omega, fun w6 w13 _ => f.1 w6 w13, fun _ c2 => f.2 (by
  by_cases c : 13 < w
  · exact Or.inr c
  · refine Or.inl ?_
    by_cases c3 : 6 ≤ w
    · exact absurd ⟨by omega, c3, hk⟩ c2
    · omega)⟩
theorem mk_rg (hW : WT K V) (hm : K m = some (0, 11)) {i : Nat} (hi : i < 60) : 0 ≤ vi V (vq V m 13) i ∧ vi V (vq V m 13) i ≤ 5 := hW.ar_rng hm 13 15 (by decide) rfl (by decide) rfl (by show i < 60; exact hi)
theorem STO.look {w1 : Nat} (h : STO K V x m) (hP : PLE V x m) (hk : RKE V x) (hm : K m = some (0, 11)) (hW : WT K V) (hE1 : ext K K1) (hF1 : FR w1 K V K1 V1) (f : LKC K V x k w X) (g : MLK V1 m k w Y) (b1 : mpbits w1 = true) (b2 : mvbits w1 = true) (b3 : mlbits w1 = true) (b4 : smbits w1 = true) (b5 : nebits w1 = true) : X = Y := by
  have gm := MSM.fr hF1 hE1 hW hm b1 b2 b3
  obtain ⟨er, -⟩ := rs_same hF1 hE1 hW hm b4 b5
  have hr := hP.2.2
  have e10 : vi V1 m 10 = vi V x 6 := gm.1.1.trans hr.2.2.2.1.symm
  rcases f hP.1.1 h.1 with ⟨a1, a2⟩ | ⟨a0, a1, a2, a3, a4, a5, a6, a7, a8⟩
  · rcases g with ⟨d1, d2⟩ | ⟨d1, -⟩ <;> omega
  · rcases g with ⟨d1, d2⟩ | ⟨d0, d1, d2, d3, d4, d5, d5', d6, d7, d8⟩
    · omega
    · have hkk : ((k.toNat : Nat) : Int) < vi V x 6 := by omega
      obtain ⟨t1, t2⟩ := hr.2.2.2.2.1 k.toNat hkk
      have e13 : pkd V x k.toNat = ar 13 V1 m k.toNat := by rw [gm.1.2.2.1]; exact hr.kd hkk
      have e14 : vi V (plO V x k.toNat) 1 = ar 14 V1 m k.toNat := by rw [gm.1.2.2.2.1]; exact congrArg (fun v : Int × Int × Int × Int => v.2.1) t1
      have e16 : vi V (plO V x k.toNat) 3 = ar 16 V1 m k.toNat := by rw [gm.1.2.2.2.2.1]; exact congrArg (fun v : Int × Int × Int × Int => v.2.2.1) t1
      have e15 : vi V (plO V x k.toNat) 2 = ar 15 V1 m k.toNat := by rw [gm.2.1.1]; exact congrArg (fun v : Int × Int × Int => v.1) t2
      have e28 : vi V (plO V x k.toNat) 5 = ar 28 V1 m k.toNat := by rw [gm.2.1.2.2]; exact hr.lost hkk
      have e13' : vi V (plO V x k.toNat) 0 = ar 13 V1 m k.toNat := e13
      by_cases w0 : w = 0
      · rw [a1 w0, d1 w0, e13']
      · by_cases w1' : w = 1
        · rw [a2 w1', d2 w1', e14]
        · by_cases w2 : w = 2
          · rw [a3 w2, d3 w2, e15]
          · by_cases w3 : w = 3
            · rw [a4 w3, d4 w3, e16]
            · by_cases w4 : w = 4
              · rw [a5 w4]
                by_cases c : ar 13 V1 m k.toNat = 0 ∨ ar 13 V1 m k.toNat = 2 ∨ ar 13 V1 m k.toNat = 3
                · rw [d5 w4 c]
                  have t3 : (if vi V (plO V x k.toNat) 0 = 0 ∨ vi V (plO V x k.toNat) 0 = 2 ∨ vi V (plO V x k.toNat) 0 = 3 then vi V (plO V x k.toNat) 4 else 0) = if ar 13 V m k.toNat = 0 ∨ ar 13 V m k.toNat = 2 ∨ ar 13 V m k.toNat = 3 then ar 17 V m k.toNat else 0 := congrArg (fun v : Int × Int × Int × Int => v.2.2.2) t1
                  rw [e13', ← gm.1.2.2.1, if_pos c, if_pos c] at t3
                  rw [gm.1.2.2.2.2.2]
                  exact t3
                · rw [d5' w4 c]
                  refine hk k.toNat hkk ?_
                  rw [e13]
                  have b := (mk_rg hW hm (i := k.toNat) (by have := (hW.int hm (j := 10) (Nat.le_of_ble_eq_true rfl) rfl).2; have e := hr.2.2.2.1; omega))
                  have e' : ar 13 V1 m k.toNat = vi V (vq V m 13) k.toNat := congrFun gm.1.2.2.1 _
                  omega
              · by_cases w5 : w = 5
                · rw [a6 w5, d6 w5, e28]
                · by_cases c : w ≤ 13 ∧ 6 ≤ w ∧ pkd V x k.toNat = 1
                  · rw [a7 c.2.1 c.1 c.2.2, d7 c.2.1 c.1 (by rw [← e13]; exact c.2.2), er, h.2.1 _ hkk c.2.2]
                  · rw [a8 (by omega) c, d8 (by omega) (fun g => c ⟨g.1, g.2.1, by rw [e13]; exact g.2.2⟩)]
end Q21
