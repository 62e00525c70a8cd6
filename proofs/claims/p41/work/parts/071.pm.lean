/-! ### places and land on the reference's side -/
section PM
variable {K K1 K2 : Kmap} {V V0 V1 V2 V3 V4 Vp W W1 W2 : Vmap} {x m o q b l : Nat} {i j n s d t w h z X Y Z k u c p a : Int}
def mlT (V : Vmap) (m k : Nat) : Int × Int × Int × Int := (ar 13 V m k, ar 14 V m k, ar 16 V m k, if ar 13 V m k = 0 ∨ ar 13 V m k = 2 ∨ ar 13 V m k = 3 then ar 17 V m k else 0)
def mlv (V : Vmap) (m k : Nat) : Int × Int × Int := (ar 15 V m k, ar 28 V m k, if ar 13 V m k = 1 then ar 18 V m k else 0)
def mfo (V : Vmap) (m k : Nat) : Int := if (k : Int) < vi V m 10 ∧ ar 13 V m k = 2 then ar 17 V m k else -1
/-- what stays -/
def MPS (V V1 : Vmap) (m : Nat) : Prop := vi V1 m 10 = vi V m 10 ∧ True ∧ ar 13 V1 m = ar 13 V m ∧ ar 14 V1 m = ar 14 V m ∧ ar 16 V1 m = ar 16 V m ∧ ar 17 V1 m = ar 17 V m
def MVS (V V1 : Vmap) (m : Nat) : Prop := ar 15 V1 m = ar 15 V m ∧ ar 18 V1 m = ar 18 V m ∧ ar 28 V1 m = ar 28 V m
def MLD (V V1 : Vmap) (m : Nat) : Prop := vi V1 m 0 = vi V m 0 ∧ vi V1 m 1 = vi V m 1 ∧ ∀ s : Nat, 5 ≤ s → s ≤ 8 → (rgv V1 (vq V1 m s) 144) = (rgv V (vq V m s) 144)
def MSM (V V1 : Vmap) (m : Nat) : Prop := MPS V V1 m ∧ MVS V V1 m ∧ MLD V V1 m
theorem MPS.rf : MPS V V m := ⟨rfl, trivial, rfl, rfl, rfl, rfl⟩
theorem MVS.rf : MVS V V m := ⟨rfl, rfl, rfl⟩
theorem MLD.rf : MLD V V m := ⟨rfl, rfl, fun _ _ _ => rfl⟩
theorem MSM.rf : MSM V V m := ⟨MPS.rf, MVS.rf, MLD.rf⟩
theorem MPS.tr (f : MPS V V1 m) (g : MPS V1 V2 m) : MPS V V2 m := ⟨g.1.trans f.1, trivial, g.2.2.1.trans f.2.2.1, g.2.2.2.1.trans f.2.2.2.1, g.2.2.2.2.1.trans f.2.2.2.2.1, g.2.2.2.2.2.trans f.2.2.2.2.2⟩
theorem MVS.tr (f : MVS V V1 m) (g : MVS V1 V2 m) : MVS V V2 m := ⟨g.1.trans f.1, g.2.1.trans f.2.1, g.2.2.trans f.2.2⟩
theorem MLD.tr (f : MLD V V1 m) (g : MLD V1 V2 m) : MLD V V2 m := ⟨g.1.trans f.1, g.2.1.trans f.2.1, fun s h5 h8 => (g.2.2 s h5 h8).trans (f.2.2 s h5 h8)⟩
theorem MSM.tr (f : MSM V V1 m) (g : MSM V1 V2 m) : MSM V V2 m := ⟨f.1.tr g.1, f.2.1.tr g.2.1, f.2.2.tr g.2.2⟩
theorem MPS.mT (f : MPS V V1 m) (k : Nat) : mlT V1 m k = mlT V m k := by
  obtain ⟨-, -, a, b, c, d⟩ := f
  unfold mlT
  rw [a, b, c, d]
theorem MPS.fo (f : MPS V V1 m) (k : Nat) : mfo V1 m k = mfo V m k := by
  obtain ⟨n1, -, a, b, c, d⟩ := f
  unfold mfo
  rw [n1, a, d]
theorem MVS.mv (f : MVS V V1 m) (g : MPS V V1 m) (k : Nat) : mlv V1 m k = mlv V m k := by
  obtain ⟨a, b, c⟩ := f
  unfold mlv
  rw [a, b, c, g.2.2.1]
def mpbits (ws : Nat) : Bool := [keyK (0, 11) 10, keyK (0, 11) 13, keyK (0, 11) 14, keyK (0, 11) 16, keyK (0, 11) 17, abase + 16, abase + 17, abase + 19, abase + 20].all fun b => !ws.testBit b
def mvbits (ws : Nat) : Bool := [keyK (0, 11) 15, keyK (0, 11) 18, keyK (0, 11) 28, abase + 18, abase + 21, abase + 31].all fun b => !ws.testBit b
def mlbits (ws : Nat) : Bool := [keyK (0, 11) 0, keyK (0, 11) 1, keyK (0, 11) 5, keyK (0, 11) 6, keyK (0, 11) 7, keyK (0, 11) 8, abase + 10, abase + 11, abase + 12, abase + 13].all fun b => !ws.testBit b
theorem arq {ws s T : Nat} (hF : FR ws K V K1 V1) (hE : ext K K1) (hm : K m = some (0, 11)) (ha : ∃ N, K (vq V m s) = some (T + 1, N)) (c1 : ws.testBit (keyK (0, 11) s) = false) (c2 : ws.testBit (abase + (T + 1)) = false) : ar s V1 m = ar s V m := by
  obtain ⟨N, hN⟩ := ha
  funext j
  unfold ar
  rw [vq_eq (hF m _ s hm (hE.obj (Or.inl (by decide)) hm) c1)]
  exact vi_frA hF hN (hE.arr hN) c2
theorem MPS.fr {ws : Nat} (hF : FR ws K V K1 V1) (hE : ext K K1) (hW : WT K V) (hm : K m = some (0, 11)) (hb : mpbits ws = true) : MPS V V1 m := by
  simp only [mpbits, List.all_cons, List.all_nil, Bool.and_true, Bool.and_eq_true, Bool.not_eq_true'] at hb
  obtain ⟨c10, c13, c14, c16, c17, a13, a14, a16, a17⟩ := hb
  have hm1 := hE.obj (Or.inl (by decide)) hm
  exact ⟨vi_fr hF hm hm1 c10, trivial, arq hF hE hm (hW.ref hm (j := 13) (Nat.le_of_ble_eq_true rfl) rfl).2 c13 a13, arq hF hE hm (hW.ref hm (j := 14) (Nat.le_of_ble_eq_true rfl) rfl).2 c14 a14, arq hF hE hm (hW.ref hm (j := 16) (Nat.le_of_ble_eq_true rfl) rfl).2 c16 a16, arq hF hE hm (hW.ref hm (j := 17) (Nat.le_of_ble_eq_true rfl) rfl).2 c17 a17⟩
theorem MVS.fr {ws : Nat} (hF : FR ws K V K1 V1) (hE : ext K K1) (hW : WT K V) (hm : K m = some (0, 11)) (hb : mvbits ws = true) : MVS V V1 m := by
  simp only [mvbits, List.all_cons, List.all_nil, Bool.and_true, Bool.and_eq_true, Bool.not_eq_true'] at hb
  obtain ⟨c15, c18, c28, a15, a18, a28⟩ := hb
  exact ⟨arq hF hE hm (hW.ref hm (j := 15) (Nat.le_of_ble_eq_true rfl) rfl).2 c15 a15, arq hF hE hm (hW.ref hm (j := 18) (Nat.le_of_ble_eq_true rfl) rfl).2 c18 a18, arq hF hE hm (hW.ref hm (j := 28) (Nat.le_of_ble_eq_true rfl) rfl).2 c28 a28⟩
theorem mrI_at (hW : WT K V) (hm : K m = some (0, 11)) : K (vq V m 5) = some (9 + 1, 144) ∧ K (vq V m 6) = some (10 + 1, 144) ∧ K (vq V m 7) = some (11 + 1, 144) ∧ K (vq V m 8) = some (12 + 1, 144) := by
  have key : ∀ {u T : Nat}, (∃ N, K u = some (T + 1, N) ∧ (lentab.getD T 0 = 0 ∨ N = lentab.getD T 0)) → lentab.getD T 0 = 144 → K u = some (T + 1, 144) := fun h e => by
    obtain ⟨N, h1, h2⟩ := h
    have : N = 144 := by omega
    rw [← this]
    exact h1
  obtain ⟨n5, h5⟩ := (hW.ref hm (j := 5) (Nat.le_of_ble_eq_true rfl) rfl).2
  obtain ⟨n6, h6⟩ := (hW.ref hm (j := 6) (Nat.le_of_ble_eq_true rfl) rfl).2
  obtain ⟨n7, h7⟩ := (hW.ref hm (j := 7) (Nat.le_of_ble_eq_true rfl) rfl).2
  obtain ⟨n8, h8⟩ := (hW.ref hm (j := 8) (Nat.le_of_ble_eq_true rfl) rfl).2
  exact ⟨key ⟨_, h5, (hW.len h5).2.2⟩ rfl, key ⟨_, h6, (hW.len h6).2.2⟩ rfl, key ⟨_, h7, (hW.len h7).2.2⟩ rfl, key ⟨_, h8, (hW.len h8).2.2⟩ rfl⟩
theorem MLD.fr {ws : Nat} (hF : FR ws K V K1 V1) (hE : ext K K1) (hW : WT K V) (hm : K m = some (0, 11)) (hb : mlbits ws = true) : MLD V V1 m := by
  simp only [mlbits, List.all_cons, List.all_nil, Bool.and_true, Bool.and_eq_true, Bool.not_eq_true'] at hb
  obtain ⟨c0, c1, c5, c6, c7, c8, a5, a6, a7, a8⟩ := hb
  obtain ⟨h5, h6, h7, h8⟩ := mrI_at hW hm
  have hm1 := hE.obj (Or.inl (by decide)) hm
  refine ⟨vi_fr hF hm hm1 c0, vi_fr hF hm hm1 c1, fun s s5 s8 => ?_⟩
  have hs : s = 5 ∨ s = 6 ∨ s = 7 ∨ s = 8 := by omega
  rcases hs with rfl | rfl | rfl | rfl
  · exact rwI_fr hF hE hm hm1 h5 c5 a5
  · exact rwI_fr hF hE hm hm1 h6 c6 a6
  · exact rwI_fr hF hE hm hm1 h7 c7 a7
  · exact rwI_fr hF hE hm hm1 h8 c8 a8
theorem MSM.fr {ws : Nat} (hF : FR ws K V K1 V1) (hE : ext K K1) (hW : WT K V) (hm : K m = some (0, 11)) (b1 : mpbits ws = true) (b2 : mvbits ws = true) (b3 : mlbits ws = true) : MSM V V1 m := ⟨MPS.fr hF hE hW hm b1, MVS.fr hF hE hW hm b2, MLD.fr hF hE hW hm b3⟩
theorem MSM.put {f : Nat} {v : Value} {kd : Nat × Nat} (hb : K b = some kd) (e : V1 = upd2 V b f v) (hW : WT K V) (hm : K m = some (0, 11)) (h0 : Nat.testBit (2 ^ keyK kd f) (keyK kd f) = true) (b1 : mpbits (2 ^ keyK kd f) = true) (b2 : mvbits (2 ^ keyK kd f) = true) (b3 : mlbits (2 ^ keyK kd f) = true) : MSM V V1 m := MSM.fr (FR.put FR.rf hb h0 e) ext.rf hW hm b1 b2 b3
theorem rwI_in {s : Nat} (h0 : 0 ≤ c) (h1 : c ≤ 143) : (rgv V (vq V m s) 144) c = ar s V m c.toNat := (rgv_in h0 (by omega)).symm
/-! small ones -/
theorem cst_mk (h0 : 0 ≤ t) (h7 : t ≤ 7) (h : (1 ≤ t ∧ t ≤ 3 ∧ X = 1) ∨ (5 ≤ t ∧ X = -1) ∨ ((t < 1 ∨ 3 < t) ∧ t < 5 ∧ X = 0)) : X = csv t := by
  rw [csv_is h0 h7]
  repeat' split
  all_goals omega
theorem rst_mk (h0 : 0 ≤ t) (h7 : t ≤ 7) (h : ((t = 0 ∨ t = 1 ∨ t = 7) ∧ X = -1) ∨ (t ≠ 0 ∧ t ≠ 1 ∧ t ≠ 7 ∧ 3 ≤ t ∧ t ≤ 5 ∧ X = 1) ∨ (t ≠ 0 ∧ t ≠ 1 ∧ t ≠ 7 ∧ (t < 3 ∨ 5 < t) ∧ X = 0)) : X = rsv t := by
  rw [rsv_is h0 h7]
  repeat' split
  all_goals omega
def MOV (w h c p s X : Int) : Prop := X = if 0 ≤ c / w + s ∧ c / w + s < h ∧ 0 ≤ c % w + p ∧ c % w + p < w then w * (c / w + s) + (c % w + p) else -1
theorem MOV.is (g : MOV w h c p s X) (hp : p = csv t) (hs : s = rsv t) : X = bsd w h c t := by
  subst hp hs
  exact g
theorem MOV.in {y v : Int} (h1 : y = c / w + s) (h2 : v = c % w + p) (hc : 0 ≤ y ∧ y < h ∧ 0 ≤ v ∧ v < w) (hX : X = w * y + v) : MOV w h c p s X := by
  unfold MOV
  rw [if_pos (by omega), ← h1, ← h2]
  exact hX
theorem MOV.out {y v : Int} (h1 : y = c / w + s) (h2 : v = c % w + p) (hc : y < 0 ∨ h ≤ y ∨ v < 0 ∨ w ≤ v) (hX : X = -1) : MOV w h c p s X := by
  unfold MOV
  rw [if_neg (by omega)]
  exact hX
theorem ILD.mk (h0 : 0 ≤ c) (h1 : c ≤ 143) (g : X ≠ 0 ↔ vi V (vq V m 6) c.toNat = 0 ∨ vi V (vq V m 6) c.toNat = 1) : X ≠ 0 ↔ (((rgv V (vq V m 6) 144)) c = 0 ∨ ((rgv V (vq V m 6) 144)) c = 1) := by
  have e : (rgv V (vq V m 6) 144) c = vi V (vq V m 6) c.toNat := rwI_in h0 h1
  rw [e]
  exact g
def MPK (V : Vmap) (m : Nat) (k c : Int) : Prop := 0 ≤ k ∧ k < vi V m 10 ∧ ar 13 V m k.toNat = c
def MSN (V : Vmap) (m : Nat) (k : Int) : Prop := MPK V m k 1 ∧ ar 28 V m k.toNat = 0
theorem MPK.out (h : k < 0 ∨ vi V m 10 ≤ k) (hX : X = 0) : X ≠ 0 ↔ MPK V m k c := ⟨fun q => absurd hX q, fun q => by
  have := q.1
  have := q.2.1
  omega⟩
theorem MPK.nk (h : vi V (vq V m 13) k.toNat ≠ c) (hX : X = 0) : X ≠ 0 ↔ MPK V m k c := ⟨fun q => absurd hX q, fun q => absurd q.2.2 h⟩
theorem MPK.mk (h0 : 0 ≤ k) (h1 : k < vi V m 10) (h : vi V (vq V m 13) k.toNat = c) (hX : X ≠ 0) : X ≠ 0 ↔ MPK V m k c := ⟨fun _ => ⟨h0, h1, h⟩, fun _ => hX⟩
theorem MSN.no (g : Y ≠ 0 ↔ MPK V m k 1) (hY : Y = 0) (hX : X = 0) : X ≠ 0 ↔ MSN V m k := ⟨fun q => absurd hX q, fun q => absurd hY (g.mpr q.1)⟩
theorem MSN.nl (h : vi V (vq V m 28) k.toNat ≠ 0) (hX : X = 0) : X ≠ 0 ↔ MSN V m k := ⟨fun q => absurd hX q, fun q => absurd q.2 h⟩
theorem MSN.mk (g : Y ≠ 0 ↔ MPK V m k 1) (hY : Y ≠ 0) (h : vi V (vq V m 28) k.toNat = 0) (hX : X ≠ 0) : X ≠ 0 ↔ MSN V m k := ⟨fun _ => ⟨g.mp hY, h⟩, fun _ => hX⟩
/-! begins(), ice(), cell() -/
def MBI (V : Vmap) (m : Nat) (c v i : Int) (s : Nat) : Prop := ∀ j : Nat, (j : Int) < i → ar s V m j = v
def MBG (V1 : Vmap) (m : Nat) (p s : Int) : Prop := vi V1 m 0 = p ∧ vi V1 m 1 = s ∧ (∀ j : Nat, j < 144 → ar 5 V1 m j = 0) ∧ (∀ j : Nat, j < 144 → ar 6 V1 m j = 0) ∧ (∀ j : Nat, j < 144 → ar 7 V1 m j = -1) ∧ ∀ j : Nat, j < 144 → ar 8 V1 m j = 0
def MBL (V1 : Vmap) (m : Nat) (i : Int) : Prop := (∀ j : Nat, (j : Int) < i → ar 5 V1 m j = 0) ∧ (∀ j : Nat, (j : Int) < i → ar 6 V1 m j = 0) ∧ (∀ j : Nat, (j : Int) < i → ar 7 V1 m j = -1) ∧ ∀ j : Nat, (j : Int) < i → ar 8 V1 m j = 0
theorem MBL.beg : MBL V m 0 := ⟨fun j hj => by omega, fun j hj => by omega, fun j hj => by omega, fun j hj => by omega⟩
theorem upl {f g : Nat → Int} {v : Int} {q : Nat} (h : ∀ j : Nat, (j : Int) < i → f j = v) (e : g = updf f q v) (hq : (q : Int) = i) (hn : n = i + 1) : ∀ j : Nat, (j : Int) < n → g j = v := fun j hj => by
  rw [e]
  by_cases e2 : j = q
  · rw [e2, updf_at]
  · rw [updf_of e2]
    exact h j (by omega)
theorem MBL.step {q5 q6 q7 q8 : Nat} (h : MBL V m i) (e5 : ar 5 V1 m = updf (ar 5 V m) q5 0) (e6 : ar 6 V1 m = updf (ar 6 V m) q6 0) (e7 : ar 7 V1 m = updf (ar 7 V m) q7 (-1)) (e8 : ar 8 V1 m = updf (ar 8 V m) q8 0) (h5 : (q5 : Int) = i) (h6 : (q6 : Int) = i) (h7 : (q7 : Int) = i) (h8 : (q8 : Int) = i) (hn : n = i + 1) : MBL V1 m n := ⟨upl h.1 e5 h5 hn, upl h.2.1 e6 h6 hn, upl h.2.2.1 e7 h7 hn, upl h.2.2.2 e8 h8 hn⟩
theorem MBG.mk (h : MBL V m i) (hi : 144 ≤ i) (h0 : vi V m 0 = p) (h1 : vi V m 1 = s) : MBG V m p s := ⟨h0, h1, fun j hj => h.1 j (by omega), fun j hj => h.2.1 j (by omega), fun j hj => h.2.2.1 j (by omega), fun j hj => h.2.2.2 j (by omega)⟩
def MIC (V V1 : Vmap) (m : Nat) (p s X : Int) : Prop := (X = 0 ∧ ¬ ICD (vi V m 10) (vi V m 66) p s ∧ V1 = V) ∨ (X = 1 ∧ ICD (vi V m 10) (vi V m 66) p s ∧ MBG V1 m p s)
theorem MIC.no (h : ¬ ICD (vi V m 10) (vi V m 66) p s) (hX : X = 0) : MIC V V m p s X := Or.inl ⟨hX, h, rfl⟩
theorem MIC.ok (h : ICD (vi V m 10) (vi V m 66) p s) (hX : X = 1) (g : MBG V1 m p s) : MIC V V1 m p s X := Or.inr ⟨hX, h, g⟩
def MCE (V V1 : Vmap) (m : Nat) (c p s t d X : Int) : Prop := (X = 0 ∧ ¬ CED (vi V m 0) (vi V m 1) c p s t d ∧ V1 = V) ∨ (X = 1 ∧ CED (vi V m 0) (vi V m 1) c p s t d ∧ vi V1 m 0 = vi V m 0 ∧ vi V1 m 1 = vi V m 1 ∧ ar 5 V1 m = updf (ar 5 V m) c.toNat p ∧ ar 6 V1 m = updf (ar 6 V m) c.toNat s ∧ ar 7 V1 m = updf (ar 7 V m) c.toNat t ∧ ar 8 V1 m = updf (ar 8 V m) c.toNat d)
theorem MCE.no (h : ¬ CED (vi V m 0) (vi V m 1) c p s t d) (hX : X = 0) : MCE V V m c p s t d X := Or.inl ⟨hX, h, rfl⟩
theorem MCE.ok (h : CED (vi V m 0) (vi V m 1) c p s t d) (hX : X = 1) (h0 : vi V1 m 0 = vi V m 0) (h1 : vi V1 m 1 = vi V m 1) (e5 : ar 5 V1 m = updf (ar 5 V m) c.toNat p) (e6 : ar 6 V1 m = updf (ar 6 V m) c.toNat s) (e7 : ar 7 V1 m = updf (ar 7 V m) c.toNat t) (e8 : ar 8 V1 m = updf (ar 8 V m) c.toNat d) : MCE V V1 m c p s t d X := Or.inr ⟨hX, h, h0, h1, e5, e6, e7, e8⟩
/-! place() and what calls it -/
def MPL (V V1 : Vmap) (m : Nat) (kd p c b a X : Int) : Prop := X = vi V m 10 ∧ vi V1 m 10 = vi V m 10 + 1 ∧ 0 ≤ vi V m 10 ∧ ar 13 V1 m = updf (ar 13 V m) (vi V m 10).toNat kd ∧ ar 14 V1 m = updf (ar 14 V m) (vi V m 10).toNat p ∧ ar 15 V1 m = updf (ar 15 V m) (vi V m 10).toNat c ∧ ar 16 V1 m = updf (ar 16 V m) (vi V m 10).toNat b ∧ ar 17 V1 m = updf (ar 17 V m) (vi V m 10).toNat a ∧ ar 18 V1 m = updf (ar 18 V m) (vi V m 10).toNat (vi V m 2)
theorem MPL.mk {c13 c14 c15 c16 c17 c18 : Nat} {kd b d18 : Int} (h0 : 0 ≤ vi V m 10) (hX : X = vi V m 10) (h10 : vi V1 m 10 = vi V m 10 + 1) (e13 : ar 13 V1 m = updf (ar 13 V m) c13 kd) (e14 : ar 14 V1 m = updf (ar 14 V m) c14 p) (e15 : ar 15 V1 m = updf (ar 15 V m) c15 c) (e16 : ar 16 V1 m = updf (ar 16 V m) c16 b) (e17 : ar 17 V1 m = updf (ar 17 V m) c17 a) (e18 : ar 18 V1 m = updf (ar 18 V m) c18 d18) (h13 : c13 = (vi V m 10).toNat) (h14 : c14 = (vi V m 10).toNat) (h15 : c15 = (vi V m 10).toNat) (h16 : c16 = (vi V m 10).toNat) (h17 : c17 = (vi V m 10).toNat) (h18 : c18 = (vi V m 10).toNat) (hd : d18 = vi V m 2) : MPL V V1 m kd p c b a X := by
  subst h13 h14 h15 h16 h17 h18 hd
  exact ⟨hX, h10, h0, e13, e14, e15, e16, e17, e18⟩
def MNEW (V V1 : Vmap) (m : Nat) (X : Int) (T : Int × Int × Int × Int) (fi si : Int) : Prop := X = vi V m 10 ∧ 0 ≤ vi V m 10 ∧ vi V m 10 < 60 ∧ vi V1 m 10 = vi V m 10 + 1 ∧ True ∧ MLD V V1 m ∧ ∀ j : Nat, (mlT V1 m j = if j = (vi V m 10).toNat then T else mlT V m j) ∧ mlv V1 m j = if j = (vi V m 10).toNat then (fi, ar 28 V m j, si) else mlv V m j
theorem MNEW.mk {ws : Nat} {kd b : Int} (g : MSM V Vp m) (hn : vi V m 10 < 60) (hd : vi Vp m 2 = vi V m 2) (hp : MPL Vp V1 m kd p c b a X) (hF : FR ws K Vp K V1) (hW : WT K Vp) (hm : K m = some (0, 11)) (c28 : (!ws.testBit (keyK (0, 11) 28) && !ws.testBit (abase + 31)) = true) (b3 : mlbits ws = true) : MNEW V V1 m X (NEWT kd p b a) c (if kd = 1 then vi V m 2 else 0) := by
  obtain ⟨g1, g2, g3⟩ := g
  obtain ⟨hX, h10, h0, e13, e14, e15, e16, e17, e18⟩ := hp
  rw [Bool.and_eq_true, Bool.not_eq_true', Bool.not_eq_true'] at c28
  have n1 := g1.1
  have e28 : ar 28 V1 m = ar 28 V m := (arq hF ext.rf hm (hW.ref hm (j := 28) (Nat.le_of_ble_eq_true rfl) rfl).2 c28.1 c28.2).trans g2.2.2
  refine ⟨by omega, by omega, hn, by omega, trivial, g3.tr (MLD.fr hF ext.rf hW hm b3), fun j => ?_⟩
  rw [n1] at e13 e14 e15 e16 e17 e18
  rw [g1.2.2.1] at e13
  rw [g1.2.2.2.1] at e14
  rw [g2.1] at e15
  rw [g1.2.2.2.2.1] at e16
  rw [g1.2.2.2.2.2] at e17
  rw [g2.2.1, hd] at e18
  unfold mlT mlv NEWT
  rw [e13, e14, e15, e16, e17, e18, e28]
  by_cases q : j = (vi V m 10).toNat
  · rw [if_pos q, if_pos q, q, updf_at, updf_at, updf_at, updf_at, updf_at, updf_at]
    exact ⟨rfl, rfl⟩
  · rw [if_neg q, if_neg q, updf_of q, updf_of q, updf_of q, updf_of q, updf_of q, updf_of q]
    exact ⟨rfl, rfl⟩
/-- whether claims are asleep, as it was asked -/
def MAS (V : Vmap) (m : Nat) (p Y : Int) : Prop := ∃ V2, RSL V V2 m p (vi V m 2) Y
theorem MAS.mk (h : RSL V V2 m p d Y) (hd : d = vi V m 2) : MAS V m p Y := ⟨V2, by rw [← hd]; exact h⟩
def MCL (V V1 : Vmap) (m : Nat) (p a b t X : Int) : Prop := (X = -1 ∧ (¬ CLD (vi V m 9) (vi V m 0) (vi V m 1) p a b t ∨ 60 ≤ vi V m 10 ∨ ∃ Y, MAS V m p Y ∧ Y ≠ 0) ∧ MSM V V1 m) ∨ (CLD (vi V m 9) (vi V m 0) (vi V m 1) p a b t ∧ (∃ Y, MAS V m p Y ∧ Y = 0) ∧ MNEW V V1 m X (NEWT 0 p b t) a 0)
theorem MCL.no {b : Int} (h : ¬ CLD (vi V m 9) (vi V m 0) (vi V m 1) p a b t ∨ 60 ≤ vi V m 10) (hX : X = -1) : MCL V V m p a b t X := Or.inl ⟨hX, h.imp id Or.inl, MSM.rf⟩
theorem MCL.as {b : Int} (hX : X = -1) (h : RSL V V2 m p d Y) (hd : d = vi V m 2) (hY : Y ≠ 0) (g : MSM V V1 m) : MCL V V1 m p a b t X := Or.inl ⟨hX, Or.inr (Or.inr ⟨Y, MAS.mk h hd, hY⟩), g⟩
theorem MCL.ok {b : Int} (h : CLD (vi V m 9) (vi V m 0) (vi V m 1) p a b t) (h1 : RSL V V2 m p d Y) (hd : d = vi V m 2) (hY : Y = 0) (g : MNEW V V1 m X (NEWT 0 p b t) a (if (0 : Int) = 1 then vi V m 2 else 0)) : MCL V V1 m p a b t X := Or.inr ⟨h, ⟨Y, MAS.mk h1 hd, hY⟩, g⟩
def MTD (V : Vmap) (m : Nat) (k n : Int) : Prop := MPK V m k 0 ∧ 0 ≤ n ∧ n ≤ 999
def MTI (V V1 : Vmap) (m : Nat) (k n X : Int) : Prop := (X = 0 ∧ (¬ MTD V m k n ∨ (ar 17 V m k.toNat < n ∧ ∃ Y, MAS V m (ar 14 V m k.toNat) Y ∧ Y ≠ 0)) ∧ MSM V V1 m) ∨ (X = 1 ∧ MTD V m k n ∧ (n ≤ ar 17 V m k.toNat ∨ ∃ Y, MAS V m (ar 14 V m k.toNat) Y ∧ Y = 0) ∧ MLD V V1 m ∧ MVS V V1 m ∧ vi V1 m 10 = vi V m 10 ∧ True ∧ ∀ j : Nat, mlT V1 m j = if j = k.toNat then (0, (mlT V m j).2.1, (mlT V m j).2.2.1, n) else mlT V m j)
theorem MTI.no (h : ¬ MTD V m k n) (hX : X = 0) : MTI V V m k n X := Or.inl ⟨hX, Or.inl h, MSM.rf⟩
theorem MTD.ok (g : Y ≠ 0 ↔ MPK V m k 0) (hY : Y ≠ 0) (h : 0 ≤ n ∧ n ≤ 999) : MTD V m k n := ⟨g.mp hY, h⟩
theorem MTD.no1 (g : Y ≠ 0 ↔ MPK V m k 0) (hY : Y = 0) : ¬ MTD V m k n := fun q => absurd hY (g.mpr q.1)
theorem MTD.no2 (h : n < 0 ∨ 999 < n) : ¬ MTD V m k n := fun q => by
  have := q.2
  omega
theorem MTI.as (hX : X = 0) (hr : vi V (vq V m 17) k.toNat < n) (h : RSL V V2 m p d Y) (hp : p = vi V (vq V m 14) k.toNat) (hd : d = vi V m 2) (hY : Y ≠ 0) (g : MSM V V1 m) : MTI V V1 m k n X := Or.inl ⟨hX, Or.inr ⟨hr, Y, by
  subst hp
  exact ⟨MAS.mk h hd, hY⟩⟩, g⟩
theorem MTI.set {N : Nat} (hX : X = 1) (hT : MTD V m k n) (h : n ≤ vi V (vq V m 17) k.toNat ∨ ∃ Y, MAS V m (vi V (vq V m 14) k.toNat) Y ∧ Y = 0) (g : MSM V Vp m) (e : V1 = upd2 Vp (vq Vp m 17) k.toNat (ti n)) (hW : WT K Vp) (hm : K m = some (0, 11)) (hr : K (vq Vp m 17) = some (19 + 1, N)) : MTI V V1 m k n X := by
  obtain ⟨g1, g2, g3⟩ := g
  have f : FR (2 ^ (abase + 20)) K Vp K V1 := FR.put FR.rf hr (by show Nat.testBit (2 ^ (abase + 20)) (abase + 20) = true; decide +kernel) e
  have nm : m ≠ vq Vp m 17 := K_ne hm hr (fun q => absurd (congrArg Prod.fst q) (by show ¬ (0 = 19 + 1); decide))
  have f1 := MLD.fr f ext.rf hW hm (by decide +kernel)
  have f2 := MVS.fr f ext.rf hW hm (by decide +kernel)
  have e13 : ar 13 V1 m = ar 13 Vp m := arq f ext.rf hm (hW.ref hm (j := 13) (Nat.le_of_ble_eq_true rfl) rfl).2 (by decide +kernel) (by decide +kernel)
  have e14 : ar 14 V1 m = ar 14 Vp m := arq f ext.rf hm (hW.ref hm (j := 14) (Nat.le_of_ble_eq_true rfl) rfl).2 (by decide +kernel) (by decide +kernel)
  have e16 : ar 16 V1 m = ar 16 Vp m := arq f ext.rf hm (hW.ref hm (j := 16) (Nat.le_of_ble_eq_true rfl) rfl).2 (by decide +kernel) (by decide +kernel)
  have e17 : ar 17 V1 m = updf (ar 17 Vp m) k.toNat n := funext fun j => by
    unfold ar
    rw [vq_up e (Or.inl nm)]
    by_cases q : j = k.toNat
    · rw [q, updf_at]
      exact upd2_int e ⟨by have := hT.2; omega, by have := hT.2; omega⟩
    · rw [updf_of q]
      exact vi_up e (Or.inr q)
  refine Or.inr ⟨hX, hT, h, g3.tr f1, g2.tr f2, (vi_up e (Or.inl nm)).trans g1.1, trivial, fun j => ?_⟩
  obtain ⟨-, -, a1, a2, a3, a4⟩ := g1
  unfold mlT
  rw [e13, e14, e16, e17, a1, a2, a3, a4]
  by_cases q : j = k.toNat
  · subst q
    rw [if_pos rfl, updf_at, hT.1.2.2, if_pos (Or.inl rfl)]
  · rw [if_neg q, updf_of q]
def MST (V V1 : Vmap) (m : Nat) (p c a b X : Int) : Prop := (X = -1 ∧ (¬ STD (vi V m 9) (vi V m 0) (vi V m 1) ((rgv V (vq V m 6) 144)) p c a b ∨ 60 ≤ vi V m 10) ∧ V1 = V) ∨ (STD (vi V m 9) (vi V m 0) (vi V m 1) ((rgv V (vq V m 6) 144)) p c a b ∧ MNEW V V1 m X (NEWT 1 p (-1) 0) c (vi V m 2))
theorem MST.no {b : Int} (h : ¬ STD (vi V m 9) (vi V m 0) (vi V m 1) ((rgv V (vq V m 6) 144)) p c a b ∨ 60 ≤ vi V m 10) (hX : X = -1) : MST V V m p c a b X := Or.inl ⟨hX, h, rfl⟩
theorem MST.ok {b : Int} (h : STD (vi V m 9) (vi V m 0) (vi V m 1) ((rgv V (vq V m 6) 144)) p c a b) (g : MNEW V V1 m X (NEWT 1 p (-1) 0) c (if (1 : Int) = 1 then vi V m 2 else 0)) : MST V V1 m p c a b X := Or.inr ⟨h, by rw [if_pos rfl] at g; exact g⟩
def MFD' (V : Vmap) (m : Nat) (k c : Int) : Prop := MSN V m k ∧ (0 ≤ c ∧ c < (vi V m 0) * (vi V m 1)) ∧ (((rgv V (vq V m 6) 144)) c = 0 ∨ ((rgv V (vq V m 6) 144)) c = 1)
def MFL (V V1 : Vmap) (m : Nat) (k c X : Int) : Prop := (X = -1 ∧ (¬ MFD' V m k c ∨ 60 ≤ vi V m 10) ∧ V1 = V) ∨ (MFD' V m k c ∧ MNEW V V1 m X (NEWT 2 (ar 14 V m k.toNat) (-1) k) c 0)
theorem MFL.ns (g : Y ≠ 0 ↔ MSN V m k) (hY : Y = 0) (hX : X = -1) : MFL V V m k c X := Or.inl ⟨hX, Or.inl fun q => absurd hY (g.mpr q.1), rfl⟩
theorem MFL.nc (g : Y ≠ 0 ↔ (0 ≤ c ∧ c < (vi V m 0) * (vi V m 1))) (hY : Y = 0) (hX : X = -1) : MFL V V m k c X := Or.inl ⟨hX, Or.inl fun q => absurd hY (g.mpr q.2.1), rfl⟩
theorem MFL.nf (g : Y ≠ 0 ↔ (((rgv V (vq V m 6) 144)) c = 0 ∨ ((rgv V (vq V m 6) 144)) c = 1)) (hY : Y = 0) (hX : X = -1) : MFL V V m k c X := Or.inl ⟨hX, Or.inl fun q => absurd hY (g.mpr q.2.2), rfl⟩
theorem MFL.fu (h : 60 ≤ vi V m 10) (hX : X = -1) : MFL V V m k c X := Or.inl ⟨hX, Or.inr h, rfl⟩
theorem MFL.ok {Y1 Y2 : Int} (g : Y ≠ 0 ↔ MSN V m k) (hY : Y ≠ 0) (g1 : Y1 ≠ 0 ↔ (0 ≤ c ∧ c < (vi V m 0) * (vi V m 1))) (hY1 : Y1 ≠ 0) (g2 : Y2 ≠ 0 ↔ (((rgv V (vq V m 6) 144)) c = 0 ∨ ((rgv V (vq V m 6) 144)) c = 1)) (hY2 : Y2 ≠ 0) (h : MNEW V V1 m X (NEWT 2 (vi V (vq V m 14) k.toNat) (-1) k) c (if (2 : Int) = 1 then vi V m 2 else 0)) : MFL V V1 m k c X := Or.inr ⟨⟨g.mp hY, g1.mp hY1, g2.mp hY2⟩, h⟩
def MRV (V V1 : Vmap) (m : Nat) (a b t X : Int) : Prop := (X = -1 ∧ (¬ RVD (vi V m 0) (vi V m 1) a b t ∨ 60 ≤ vi V m 10) ∧ V1 = V) ∨ (RVD (vi V m 0) (vi V m 1) a b t ∧ MNEW V V1 m X (NEWT 3 (-1) b t) a 0)
theorem MRV.no {b : Int} (h : ¬ RVD (vi V m 0) (vi V m 1) a b t ∨ 60 ≤ vi V m 10) (hX : X = -1) : MRV V V m a b t X := Or.inl ⟨hX, h, rfl⟩
theorem MRV.ok {b : Int} (h : RVD (vi V m 0) (vi V m 1) a b t) (g : MNEW V V1 m X (NEWT 3 (-1) b t) a (if (3 : Int) = 1 then vi V m 2 else 0)) : MRV V V1 m a b t X := Or.inr ⟨h, g⟩
def MSI (V V1 : Vmap) (m : Nat) (c b X : Int) : Prop := (X = -1 ∧ (¬ (0 ≤ c ∧ c < (vi V m 0) * (vi V m 1)) ∨ 60 ≤ vi V m 10) ∧ V1 = V) ∨ ((0 ≤ c ∧ c < (vi V m 0) * (vi V m 1)) ∧ MNEW V V1 m X (NEWT (if b ≠ 0 then 5 else 4) (-1) (-1) 0) c 0)
theorem MSI.no {b : Int} (g : Y ≠ 0 ↔ (0 ≤ c ∧ c < (vi V m 0) * (vi V m 1))) (hY : Y = 0) (hX : X = -1) : MSI V V m c b X := Or.inl ⟨hX, Or.inl fun q => absurd hY (g.mpr q), rfl⟩
theorem MSI.fu {b : Int} (h : 60 ≤ vi V m 10) (hX : X = -1) : MSI V V m c b X := Or.inl ⟨hX, Or.inr h, rfl⟩
theorem MSI.ok {b kd : Int} (g : Y ≠ 0 ↔ (0 ≤ c ∧ c < (vi V m 0) * (vi V m 1))) (hY : Y ≠ 0) (hk : (b ≠ 0 ∧ kd = 5) ∨ (b = 0 ∧ kd = 4)) (h : MNEW V V1 m X (NEWT kd (-1) (-1) 0) c (if kd = 1 then vi V m 2 else 0)) : MSI V V1 m c b X := Or.inr ⟨g.mp hY, by
  rcases hk with ⟨h1, h2⟩ | ⟨h1, h2⟩
  · subst h2
    rw [if_pos h1]
    exact h
  · subst h2
    rw [if_neg (fun q => q h1)]
    exact h⟩
end PM
