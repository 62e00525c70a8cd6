/-! ### stops, told alike: stop, open -/
section PT
variable {K K1 K2 : Kmap} {V V0 V1 V2 : Vmap} {x m o s t q : Nat} {i n k c p a b X Y Z : Int}
def sto (V : Vmap) (x : Nat) : Nat := vq V (vq V x 2) 0
def ssz (V : Vmap) (x : Nat) : Int := vi V (sto V x) 3
def stg (V : Vmap) (x i : Nat) : Int := vi V (vq V (sto V x) 2) (2 * i)
theorem st_tab (hW : WT K V) (ht : K t = some (0, 24)) : K (vq V t 2) = some (146 + 1, 16) ∧ TRM K V t 2 8 ∧ vi V t 1 = ((8 : Nat) : Int) := by
  obtain ⟨N, hC⟩ := (hW.ref ht (j := 2) (Nat.le_of_ble_eq_true rfl) rfl).2
  have hN : N = 16 := by
    rcases (hW.len hC).2.2 with h | h
    · exact absurd h (by decide)
    · exact h
  subst hN
  have h0 := (hW.int ht (j := 0) (Nat.le_of_ble_eq_true rfl) rfl).2
  have h1 := (hW.int ht (j := 1) (Nat.le_of_ble_eq_true rfl) rfl).2
  have h3 := (hW.int ht (j := 3) (Nat.le_of_ble_eq_true rfl) rfl).2
  exact ⟨hC, ⟨by omega, by omega, by omega, 146, hC⟩, by omega⟩
theorem se_at (hW : WT K V) (hs : K s = some (0, 5)) : K (vq V s 0) = some (0, 24) := (hW.ref hs (j := 0) (Nat.le_of_ble_eq_true rfl) rfl).2
theorem st_at (hW : WT K V) (hx : K x = some (0, 10)) : K (vq V x 2) = some (0, 5) ∧ K (sto V x) = some (0, 24) := by
  have h := (hW.ref hx (j := 2) (Nat.le_of_ble_eq_true rfl) rfl).2
  exact ⟨h, se_at hW h⟩
theorem tgv_st (hW : WT K V) (ht : K t = some (0, 24)) (h0 : 0 ≤ i) (h1 : i < vi V t 3) (g : TG K V t i 0 X) : X = vi V (vq V t 2) (2 * i.toNat) := by
  obtain ⟨-, hT, -⟩ := st_tab hW ht
  have e := g 2 8 (by decide) (by decide) hT
  have w : vi V t 0 = 2 := hT.1
  unfold tgv at e
  rw [if_pos ⟨h0, h1, Int.le_refl 0, by rw [w]; decide⟩, w] at e
  rw [e]
  exact congrArg (vi V (vq V t 2)) (by omega)
/-! whether a station is a stop -/
def HST (V : Vmap) (s : Nat) (k : Int) : Prop := ∃ j : Nat, (j : Int) < vi V (vq V s 0) 3 ∧ vi V (vq V (vq V s 0) 2) (2 * j) = k
def HSL (V : Vmap) (s : Nat) (k i : Int) : Prop := ∀ j : Nat, (j : Int) < i → vi V (vq V (vq V s 0) 2) (2 * j) ≠ k
theorem HSL.beg : HSL V s k 0 := fun j hj => by omega
theorem HSL.step (h : HSL V s k i) (hW : WT K V) (hs : K s = some (0, 5)) (h0 : 0 ≤ i) (h1 : i < vi V (vq V s 0) 3) (g : TG K V (vq V s 0) i 0 X) (hX : X ≠ k) (hn : n = i + 1) : HSL V s k n := fun j hj => by
  by_cases q : (j : Int) = i
  · have e := tgv_st hW (se_at hW hs) h0 h1 g
    rw [show i.toNat = j by omega] at e
    rw [← e]
    exact hX
  · exact h j (by omega)
theorem HST.yes (hW : WT K V) (hs : K s = some (0, 5)) (h0 : 0 ≤ i) (h1 : i < vi V (vq V s 0) 3) (g : TG K V (vq V s 0) i 0 X) (hX : X = k) (hY : Y ≠ 0) : Y ≠ 0 ↔ HST V s k := ⟨fun _ => ⟨i.toNat, by omega, by rw [← tgv_st hW (se_at hW hs) h0 h1 g]; exact hX⟩, fun _ => hY⟩
theorem HST.no (h : HSL V s k i) (hi : vi V (vq V s 0) 3 ≤ i) (hY : Y = 0) : Y ≠ 0 ↔ HST V s k := ⟨fun q => absurd hY q, fun g => by
  obtain ⟨j, h1, h2⟩ := g
  exact absurd h2 (h j (by omega))⟩
/-! all stops stay -/
def SSM (V V1 : Vmap) (x : Nat) : Prop := ssz V1 x = ssz V x ∧ ∀ i : Nat, stg V1 x i = stg V x i
theorem SSM.rf : SSM V V x := ⟨rfl, fun _ => rfl⟩
def stbits (ws : Nat) : Bool := [keyK (0, 10) 2, keyK (0, 5) 0, keyK (0, 24) 2, keyK (0, 24) 3, abase + 147].all fun b => !ws.testBit b
theorem SSM.fr {ws : Nat} (hF : FR ws K V K1 V1) (hE : ext K K1) (hW : WT K V) (hx : K x = some (0, 10)) (hb : stbits ws = true) : SSM V V1 x := by
  simp only [stbits, List.all_cons, List.all_nil, Bool.and_true, Bool.and_eq_true, Bool.not_eq_true'] at hb
  obtain ⟨c2, c0, t2, t3, a⟩ := hb
  obtain ⟨h1, h2⟩ := st_at hW hx
  have h3 := (st_tab hW h2).1
  have hx1 := hE.obj (Or.inl (by decide)) hx
  have g1 := hE.obj (Or.inl (by decide)) h1
  have g2 := hE.obj (Or.inr (by decide)) h2
  have e1 : vq V1 x 2 = vq V x 2 := vq_eq (hF x _ 2 hx hx1 c2)
  have e2 : sto V1 x = sto V x := by
    unfold sto
    rw [e1]
    exact vq_eq (hF _ _ 0 h1 g1 c0)
  have e3 : vq V1 (sto V x) 2 = vq V (sto V x) 2 := vq_eq (hF _ _ 2 h2 g2 t2)
  refine ⟨?_, fun i => ?_⟩
  · unfold ssz
    rw [e2]
    exact vi_fr hF h2 g2 t3
  · unfold stg
    rw [e2, e3]
    exact vi_frA hF h3 (hE.arr h3) a
/-! stop() -/
def SPD (V : Vmap) (x : Nat) (k n : Int) : Prop := STN V x k ∧ 0 ≤ n ∧ n ≤ 10000 ∧ (∀ j : Nat, (j : Int) < ssz V x → stg V x j ≠ k) ∧ ssz V x < 8
def SPC (V V1 : Vmap) (x : Nat) (k n X : Int) : Prop := NN 6 5 V x → (X = -1 ∧ ¬ SPD V x k n ∧ SSM V V1 x) ∨ (X = ssz V x ∧ SPD V x k n ∧ ssz V1 x = ssz V x + 1 ∧ ∀ j : Nat, (j : Int) < ssz V x + 1 → stg V1 x j = if (j : Int) = ssz V x then k else stg V x j)
theorem SPC.nt (h : NN 6 5 V x → ¬ STN V x k) (hX : X = -1) : SPC V V x k n X := fun hn => Or.inl ⟨hX, fun g => h hn g.1, SSM.rf⟩
theorem SPC.nn (h : n < 0 ∨ 10000 < n) (hX : X = -1) : SPC V V x k n X := fun _ => Or.inl ⟨hX, fun g => by
  have := g.2.1
  have := g.2.2.1
  omega, SSM.rf⟩
theorem SPC.hs (g : Y ≠ 0 ↔ HST V (vq V x 2) k) (hY : Y ≠ 0) (hX : X = -1) : SPC V V x k n X := fun _ => Or.inl ⟨hX, fun h => by
  obtain ⟨j, h1, h2⟩ := g.mp hY
  exact h.2.2.2.1 j h1 h2, SSM.rf⟩
theorem SPC.ap {ws : Nat} (hq : o = plO V x k.toNat ∧ STN V x k) (h0 : 0 ≤ n) (h1 : n ≤ 10000) (rk : ir k) (g : Y ≠ 0 ↔ HST V (vq V x 2) k) (hY : Y = 0) (hF : FR ws K V K V1) (hW : WT K V) (hW1 : WT K V1) (hx : K x = some (0, 10)) (hb : stbits ws = true) (ha : APP K V1 V2 (sto V1 x) k n 0 0 0 X) : SPC V V2 x k n X := fun _ => by
  have f := SSM.fr hF ext.rf hW hx hb
  obtain ⟨a1, a2⟩ := st_at hW1 hx
  obtain ⟨a3, a4, a5⟩ := st_tab hW1 a2
  have hz : vi V1 (sto V1 x) 3 = ssz V x := f.1
  have hno : ∀ j : Nat, (j : Int) < ssz V x → stg V x j ≠ k := fun j hj e => absurd hY (g.mpr ⟨j, hj, e⟩)
  rcases ha 2 8 (by decide) (by decide) a4 a5 with ⟨b1, b2, b3⟩ | ⟨b1, b2, b3⟩
  · subst b3
    rw [hz] at b1
    exact Or.inl ⟨b2, fun h => by have := h.2.2.2.2; omega, f⟩
  · rw [hz] at b2
    obtain ⟨c1, c2, c3, c4⟩ := apv_all (a := k) (b := n) (c := 0) (d := 0) (e := 0) a4 a2 b1 (by decide) rk ⟨by omega, by omega⟩ (ir_c rfl) (ir_c rfl) (ir_c rfl)
    rw [← b3] at c1 c2 c3 c4
    have n1 : x ≠ sto V1 x := K_ne hx a2 (by decide)
    have n2 : x ≠ vq V1 (sto V1 x) 2 := K_ne hx a3 (by decide)
    have n3 : vq V1 x 2 ≠ sto V1 x := K_ne a1 a2 (by decide)
    have n4 : vq V1 x 2 ≠ vq V1 (sto V1 x) 2 := K_ne a1 a3 (by decide)
    have e1 : vq V2 x 2 = vq V1 x 2 := by unfold vq; rw [c3 x n1 n2]
    have e2 : sto V2 x = sto V1 x := by
      unfold sto at n3 n4 c3⊢
      rw [e1]
      unfold vq at n3 n4 c3⊢
      rw [c3 _ n3 n4]
    have e3 : vq V2 (sto V1 x) 2 = vq V1 (sto V1 x) 2 := vq_eq (c2 2 (by decide))
    refine Or.inr ⟨b2, ⟨hq.2, h0, h1, hno, by omega⟩, ?_, fun j hj => ?_⟩
    · unfold ssz
      rw [e2, c1, hz]
      rfl
    · have e4 : stg V2 x j = vi V2 (vq V1 (sto V1 x) 2) (2 * j) := by
        unfold stg
        rw [e2, e3]
      rw [e4, c4, hz]
      by_cases q : (j : Int) = ssz V x
      · rw [if_pos q, if_neg (by omega), if_pos (by omega)]
      · rw [if_neg q, if_pos (by omega)]
        exact f.2 j
/-! the reference's -/
def MSS (V V1 : Vmap) (m : Nat) : Prop := vi V1 m 137 = vi V m 137 ∧ ar 139 V1 m = ar 139 V m
theorem MSS.rf : MSS V V m := ⟨rfl, rfl⟩
def msbits (ws : Nat) : Bool := [keyK (0, 11) 137, keyK (0, 11) 139, abase + 112].all fun b => !ws.testBit b
theorem MSS.fr {ws : Nat} (hF : FR ws K V K1 V1) (hE : ext K K1) (hW : WT K V) (hm : K m = some (0, 11)) (hb : msbits ws = true) : MSS V V1 m := by
  simp only [msbits, List.all_cons, List.all_nil, Bool.and_true, Bool.and_eq_true, Bool.not_eq_true'] at hb
  obtain ⟨c1, c2, a⟩ := hb
  exact ⟨vi_fr hF hm (hE.obj (Or.inl (by decide)) hm) c1, arq hF hE hm (hW.ref hm (j := 139) (Nat.le_of_ble_eq_true rfl) rfl).2 c2 a⟩
def MHL (V : Vmap) (m : Nat) (k i : Int) : Prop := ∀ j : Nat, (j : Int) < i → ar 139 V m j ≠ k
theorem MHL.beg : MHL V m k 0 := fun j hj => by omega
theorem MHL.step (h : MHL V m k i) (h0 : 0 ≤ i) (hX : vi V (vq V m 139) i.toNat ≠ k) (hn : n = i + 1) : MHL V m k n := fun j hj => by
  by_cases q : (j : Int) = i
  · rw [show i.toNat = j by omega] at hX
    exact hX
  · exact h j (by omega)
def MPD (V : Vmap) (m : Nat) (k n : Int) : Prop := MSN V m k ∧ 0 ≤ n ∧ n ≤ 10000 ∧ (∀ j : Nat, (j : Int) < vi V m 137 → ar 139 V m j ≠ k) ∧ vi V m 137 < 8
def MSP (V V1 : Vmap) (m : Nat) (k n X : Int) : Prop := (X = -1 ∧ ¬ MPD V m k n ∧ V1 = V) ∨ (X = vi V m 137 ∧ MPD V m k n ∧ vi V1 m 137 = vi V m 137 + 1 ∧ ar 139 V1 m = updf (ar 139 V m) (vi V m 137).toNat k)
theorem MSP.nt (g : Y ≠ 0 ↔ MSN V m k) (hY : Y = 0) (hX : X = -1) : MSP V V m k n X := Or.inl ⟨hX, fun h => absurd hY (g.mpr h.1), rfl⟩
theorem MSP.nn (h : n < 0 ∨ 10000 < n ∨ 8 ≤ vi V m 137) (hX : X = -1) : MSP V V m k n X := Or.inl ⟨hX, fun g => by
  have := g.2.1
  have := g.2.2.1
  have := g.2.2.2.2
  omega, rfl⟩
theorem MSP.hs (hk : vi V (vq V m 139) i.toNat = k) (h0 : 0 ≤ i) (h1 : i < vi V m 137) (hX : X = -1) : MSP V V m k n X := Or.inl ⟨hX, fun g => g.2.2.2.1 i.toNat (by omega) hk, rfl⟩
theorem MSP.ok {d : Nat} (g : Y ≠ 0 ↔ MSN V m k) (hY : Y ≠ 0) (h0 : 0 ≤ n) (h1 : n ≤ 10000) (h : MHL V m k i) (hi : vi V m 137 ≤ i) (h8 : vi V m 137 < 8) (hX : X = vi V m 137) (h2 : vi V1 m 137 = vi V m 137 + 1) (e : ar 139 V1 m = updf (ar 139 V m) d k) (hd : d = (vi V m 137).toNat) : MSP V V1 m k n X := Or.inr ⟨hX, ⟨g.mp hY, h0, h1, fun j hj => h j (by omega), h8⟩, h2, by rw [← hd]; exact e⟩
/-! both sides -/
def STE (V : Vmap) (x m : Nat) : Prop := ssz V x = vi V m 137 ∧ ∀ i : Nat, (i : Int) < ssz V x → stg V x i = ar 139 V m i
theorem STE.nil (h : ssz V x = 0) (h1 : vi V m 137 = 0) : STE V x m := ⟨by omega, fun i hi => by omega⟩
theorem STE.same (h : STE V x m) (f : SSM V V1 x) (g : MSS V V1 m) : STE V1 x m := by
  refine ⟨by rw [f.1, g.1]; exact h.1, fun i hi => ?_⟩
  rw [f.1] at hi
  rw [f.2, g.2]
  exact h.2 i hi
theorem STE.frx {ws : Nat} (h : STE V x m) (hF : FR ws K V K1 V1) (hE : ext K K1) (hW : WT K V) (hx : K x = some (0, 10)) (hm : K m = some (0, 11)) (b1 : stbits ws = true) (b2 : msbits ws = true) : STE V1 x m := h.same (SSM.fr hF hE hW hx b1) (MSS.fr hF hE hW hm b2)
theorem PLE.stn {ws : Nat} (h : PLE V x m) (hF : FR ws K V K1 V1) (hE : ext K K1) (hW : WT K V) (hm : K m = some (0, 11)) (b1 : mpbits ws = true) (b2 : mvbits ws = true) : STN V x k ↔ MSN V1 m k := by
  obtain ⟨-, -, hr⟩ := h
  have g := MPS.fr hF hE hW hm b1
  have g2 := MVS.fr hF hE hW hm b2
  have r4 := hr.2.2.2.1
  have key : ∀ (k0 : 0 ≤ k) (kl : k < vi V x 6), (pkd V x k.toNat = 1 ∧ vi V (plO V x k.toNat) 5 = 0) ↔ (ar 13 V1 m k.toNat = 1 ∧ ar 28 V1 m k.toNat = 0) := fun k0 kl => by
    rw [g.2.2.1, g2.2.2, hr.kd (by omega), hr.lost (by omega)]
  unfold STN MSN PK MPK
  constructor
  · rintro ⟨⟨q0, q1, q2⟩, q3⟩
    have e := (key q0 q1).mp ⟨q2, q3⟩
    exact ⟨⟨q0, by rw [g.1, ← r4]; exact q1, e.1⟩, e.2⟩
  · rintro ⟨⟨q0, q1, q2⟩, q3⟩
    rw [g.1, ← r4] at q1
    have e := (key q0 q1).mpr ⟨q2, q3⟩
    exact ⟨⟨q0, q1, e.1⟩, e.2⟩
theorem STE.stop {w1 w2 : Nat} (hS : STE V x m) (hP : PLE V x m) (hx : K x = some (0, 10)) (hm : K m = some (0, 11)) (hW : WT K V) (hW1 : WT K1 V1) (hE1 : ext K K1) (hF1 : FR w1 K V K1 V1) (hE2 : ext K1 K2) (hF2 : FR w2 K1 V1 K2 V2) (f : SPC V V1 x k n X) (f1 : MSP V1 V2 m k n Y) (b1 : mpbits w1 = true) (b2 : mvbits w1 = true) (b3 : msbits w1 = true) (b4 : stbits w2 = true) : X = Y ∧ STE V2 x m := by
  have gm : MSS V V1 m := MSS.fr hF1 hE1 hW hm b3
  have gs : SSM V1 V2 x := SSM.fr hF2 hE2 hW1 (hE1.obj (Or.inl (by decide)) hx) b4
  have es := hP.stn (k := k) hF1 hE1 hW hm b1 b2
  have hd : 0 ≤ ssz V x := ((hW.int (st_at hW hx).2 (j := 3) (Nat.le_of_ble_eq_true rfl) rfl).2).1
  have ed : SPD V x k n ↔ MPD V1 m k n := by
    unfold SPD MPD
    rw [es, gm.1, gm.2, hS.1]
    have key : (∀ j : Nat, (j : Int) < vi V m 137 → stg V x j ≠ k) ↔ (∀ j : Nat, (j : Int) < vi V m 137 → ar 139 V m j ≠ k) := by
      constructor
      · intro h j hj
        rw [← hS.2 j (by rw [hS.1]; exact hj)]
        exact h j hj
      · intro h j hj
        rw [hS.2 j (by rw [hS.1]; exact hj)]
        exact h j hj
    rw [key]
  rcases f hP.1.1 with ⟨a1, a2, a3⟩ | ⟨a1, a2, a3, a4⟩
  · rcases f1 with ⟨d1, d2, d3⟩ | ⟨d1, d2, -⟩
    · subst d3
      exact ⟨by omega, (hS.same a3 gm).same gs MSS.rf⟩
    · exact absurd (ed.mpr d2) a2
  · rcases f1 with ⟨d1, d2, -⟩ | ⟨d1, d2, d3, d4⟩
    · exact absurd (ed.mp a2) d2
    · have h1 := hS.1
      have m1 := gm.1
      refine ⟨by omega, by rw [gs.1, a3, d3, m1, h1], fun i hi => ?_⟩
      rw [gs.1, a3] at hi
      rw [gs.2, a4 i hi, d4]
      by_cases q : (i : Int) = ssz V x
      · rw [if_pos q, show i = (vi V1 m 137).toNat by omega, updf_at]
      · rw [if_neg q, updf_of (by omega), gm.2]
        exact hS.2 i (by omega)
/-! open() -/
theorem STE.sz {ws : Nat} (h : STE V x m) (hF : FR ws K V K1 V1) (hE : ext K K1) (hW : WT K V) (hm : K m = some (0, 11)) (b : msbits ws = true) : ssz V x = vi V1 m 137 := h.1.trans (MSS.fr hF hE hW hm b).1.symm
/-! the start -/
def ssq (V : Vmap) (s : Nat) : Int := vi V (vq V s 0) 3
theorem ssq_at (h : V s 0 = .ref o) (hc : V o 3 = V0 o 3) (h0 : vi V0 o 3 = 0) : ssq V s = 0 := by
  unfold ssq
  rw [vq_of h, vi_eq hc, h0]
def SSZ (K : Kmap) (V : Vmap) (s : Nat) : Prop := K (vq V s 0) = some (0, 24) ∧ ssq V s = 0
theorem SSZ.mk (h : V s 0 = .ref o) (hk : K o = some (0, 24)) (hz : ssq V s = 0) : SSZ K V s := ⟨by rw [vq_of h]; exact hk, hz⟩
theorem ssz_at (h : V x 2 = .ref o) (h2 : V o 0 = V0 o 0) (h3 : V (vq V0 o 0) 3 = V0 (vq V0 o 0) 3) (h0 : ssq V0 o = 0) : ssz V x = 0 := by
  unfold ssz sto
  rw [vq_of h, vq_eq h2, vi_eq h3]
  exact h0
end PT
