/-! ### doubt(), the class's and the reference's -/
section PQ2
variable {K K1 K2 : Kmap} {V V0 V1 V2 : Vmap} {x m o t : Nat} {i j n k c s e d w a b z X Y Z : Int}
def ABS (p X : Int) : Prop := (0 ≤ p → X = p) ∧ (p < 0 → -2147483648 < p → X = -p)
theorem ABS.pos (h : 0 ≤ a) (hX : X = a) : ABS a X := ⟨fun _ => hX, fun q => by omega⟩
theorem ABS.neg (h : a < 0) (hX : ir (-a) → X = -a) : ABS a X := ⟨fun q => by omega, fun _ q => hX ⟨by omega, by omega⟩⟩
theorem APP.cnt26 (hW : WT K V) (hx : K x = some (0, 10)) (ha : APP K V V1 (vq V x 14) s k e n d X) (rs : ir s) (rk : ir k) (re : ir e) (rn : ir n) (rd : ir d) : (X = -1 ∧ vi V1 (vq V x 14) 3 = vi V (vq V x 14) 3 ∧ vi V (vq V x 14) 3 ≥ 200) ∨ (X = vi V (vq V x 14) 3 ∧ vi V1 (vq V x 14) 3 = vi V (vq V x 14) 3 + 1 ∧ vi V (vq V x 14) 3 < 200) := by
  have a2 := ct_at hW hx
  obtain ⟨-, a4, a5⟩ := ct_tab hW a2
  rcases ha 5 200 (by decide) (by decide) a4 a5 with ⟨b1, b2, b3⟩ | ⟨b1, b2, b3⟩
  · subst b3
    have k2 : ((200 : Nat) : Int) = 200 := rfl
    exact Or.inl ⟨b2, rfl, by omega⟩
  · obtain ⟨c1, -, -, -⟩ := apv_all (a := s) (b := k) (c := e) (d := n) (e := d) a4 a2 b1 (by decide) rs rk re rn rd
    have k2 : ((200 : Nat) : Int) = 200 := rfl
    refine Or.inr ⟨b2, ?_, by omega⟩
    rw [b3]
    exact c1
def sdr (V : Vmap) (x : Nat) : Prop := ∀ i : Nat, (i : Int) < csz V x → (0 ≤ ctg V x i 2 ∧ ctg V x i 2 ≤ 3) ∧ 0 ≤ ctg V x i 4 ∧ ctg V x i 4 ≤ 3599
def DBD (V : Vmap) (x : Nat) (i j : Nat) : Prop := DBX (sdy V x) (ctr V x i) (ctr V x j)
def DBM (V : Vmap) (m : Nat) (i j : Nat) : Prop := DBX (msd V m) (mcr V m i) (mcr V m j)
theorem sdy_rng (hW : WT K V) (hx : K x = some (0, 10)) : 0 ≤ sdy V x c ∧ sdy V x c ≤ 90 := by
  have hl := (hW.ref hx (j := 0) (Nat.le_of_ble_eq_true rfl) rfl).2
  obtain ⟨N, hC⟩ := (hW.ref hl (j := 10) (Nat.le_of_ble_eq_true rfl) rfl).2
  have hN : N = 4 := by
    rcases (hW.len hC).2.2 with h | h
    · exact absurd h (by decide)
    · exact h
  subst hN
  unfold sdy rgv
  by_cases q : 0 ≤ c ∧ c < ((4 : Nat) : Int)
  · rw [if_pos q]
    exact (hW.int hC (j := c.toNat) (show c.toNat < 4 by omega) rfl).2
  · rw [if_neg q]
    omega
def DBC (V : Vmap) (x : Nat) (i j X : Int) : Prop := sdr V x → 0 ≤ i → i < csz V x → 0 ≤ j → j < csz V x → (X ≠ 0 ↔ DBD V x i.toNat j.toNat)
theorem DBC.n1 (hW : WT K V) (hx : K x = some (0, 10)) (g1 : TG K V (vq V x 14) i 0 a) (g2 : TG K V (vq V x 14) j 0 b) (h : a ≠ b) (hX : X = 0) : DBC V x i j X := fun _ h0 h1 h2 h3 => ⟨fun q => absurd hX q, fun q => by
  have e1 := tgv_ct hW hx (by decide) (by decide) h0 h1 g1
  have e2 := tgv_ct hW hx (by decide) (by decide) h2 h3 g2
  have e3 : ctg V x i.toNat 0 = ctg V x j.toNat 0 := q.1
  exact absurd (e1.trans (e3.trans e2.symm)) h⟩
theorem DBC.n2 (hW : WT K V) (hx : K x = some (0, 10)) (g1 : TG K V (vq V x 14) i 2 a) (g2 : TG K V (vq V x 14) j 2 b) (h : a = b) (hX : X = 0) : DBC V x i j X := fun _ h0 h1 h2 h3 => ⟨fun q => absurd hX q, fun q => by
  have e1 := tgv_ct hW hx (by decide) (by decide) h0 h1 g1
  have e2 := tgv_ct hW hx (by decide) (by decide) h2 h3 g2
  have e3 : ctg V x i.toNat 2 ≠ ctg V x j.toNat 2 := q.2.1
  exact absurd (e1.symm.trans (h.trans e2)) e3⟩
theorem DBC.cmp {a1 a2 b1 b2 d1 d2 s1 s2 u : Int} (hW : WT K V) (hx : K x = some (0, 10)) (g1 : TG K V (vq V x 14) i 0 a1) (g2 : TG K V (vq V x 14) j 0 a2) (h1 : a1 = a2) (g3 : TG K V (vq V x 14) i 2 b1) (g4 : TG K V (vq V x 14) j 2 b2) (h2 : b1 ≠ b2) (g5 : TG K V (vq V x 14) i 4 d1) (g6 : TG K V (vq V x 14) j 4 d2) (hz : ir (d1 - d2) → z = d1 - d2) (ha : ABS z Z) (e1 : s1 = sdy V x b1) (e2 : s2 = sdy V x b2) (hu : ir (s1 + s2) → u = s1 + s2) (hX : X ≠ 0 ↔ Z < wdiv u 4) : DBC V x i j X := fun hr h0 hi h3 hj => by
  have t1 := tgv_ct hW hx (by decide) (by decide) h0 hi g1
  have t2 := tgv_ct hW hx (by decide) (by decide) h3 hj g2
  have t3 := tgv_ct hW hx (by decide) (by decide) h0 hi g3
  have t4 := tgv_ct hW hx (by decide) (by decide) h3 hj g4
  have t5 := tgv_ct hW hx (by decide) (by decide) h0 hi g5
  have t6 := tgv_ct hW hx (by decide) (by decide) h3 hj g6
  have k0 : (0 : Int).toNat = 0 := rfl
  have k2 : (2 : Int).toNat = 2 := rfl
  have k4 : (4 : Int).toNat = 4 := rfl
  rw [k0] at t1 t2
  rw [k2] at t3 t4
  rw [k4] at t5 t6
  have r1 := hr i.toNat (by omega)
  have r2 := hr j.toNat (by omega)
  have hz1 := hz ⟨by omega, by omega⟩
  have q1 := sdy_rng (c := b1) hW hx
  have q2 := sdy_rng (c := b2) hW hx
  have hu1 := hu ⟨by omega, by omega⟩
  have hd : wdiv u 4 = u / 4 := wdiv_p ⟨by omega, by omega⟩ (ir_c rfl) (by omega) (by omega)
  have hZ : Z = if d1 ≤ d2 then d2 - d1 else d1 - d2 := by
    by_cases q : 0 ≤ z
    · have := ha.1 q
      by_cases q2 : d1 ≤ d2
      · rw [if_pos q2]
        omega
      · rw [if_neg q2]
        omega
    · have := ha.2 (by omega) (by omega)
      rw [if_pos (by omega)]
      omega
  have hD : DBD V x i.toNat j.toNat ↔ (a1 = a2 ∧ b1 ≠ b2 ∧ (if d1 ≤ d2 then d2 - d1 else d1 - d2) < (sdy V x b1 + sdy V x b2) / 4) := by
    rw [t1, t2, t3, t4, t5, t6]
    exact Iff.rfl
  rw [hX, hD, hd, hZ, hu1, e1, e2]
  exact ⟨fun q => ⟨h1, h2, q⟩, fun q => q.2.2⟩
def DBQ (V : Vmap) (x : Nat) (i j : Int) : Prop := sdr V x → DBL (DBD V x) (csz V x) i j
theorem DBQ.beg : DBQ V x 0 0 := fun _ => DBL.beg
theorem DBQ.row (h : DBQ V x i 0) (hj : j = i + 1) : DBQ V x i j := fun hr => (h hr).row hj
theorem DBQ.step (h : DBQ V x i j) (h0 : 0 ≤ i) (hij : i < j) (hj : j < vi V (vq V x 14) 3) (hD : DBC V x i j Y) (hY : Y = 0) (hk : k = j + 1) : DBQ V x i k := fun hr => by
  have hj' : j < csz V x := hj
  exact (h hr).step h0 hij (hD hr h0 (by omega) (by omega) hj') hY hk
theorem DBQ.next (h : DBQ V x i j) (hj : vi V (vq V x 14) 3 ≤ j) (hk : k = i + 1) : DBQ V x k 0 := fun hr => (h hr).next hj hk
def DBT (V : Vmap) (x : Nat) (w X : Int) : Prop := sdr V x → DBF (DBD V x) (csz V x) w X
theorem DBT.bad (h : w < 0 ∨ 1 < w) (hX : X = -1) : DBT V x w X := fun _ => DBF.bad h hX
theorem DBT.no (h : DBQ V x i 0) (hi : vi V (vq V x 14) 3 ≤ i) (h0 : 0 ≤ w) (h1 : w ≤ 1) (hX : X = -1) : DBT V x w X := fun hr => DBF.no (h hr) hi h0 h1 hX
theorem DBT.ys (h : DBQ V x i j) (h0 : 0 ≤ i) (hij : i < j) (hj : j < vi V (vq V x 14) 3) (hD : DBC V x i j Y) (hY : Y ≠ 0) (w0 : 0 ≤ w) (w1 : w ≤ 1) (hX : (w = 0 ∧ X = i) ∨ (w ≠ 0 ∧ X = j)) : DBT V x w X := fun hr => by
  have hj' : j < csz V x := hj
  exact DBF.ys (h hr) h0 hij hj' (hD hr h0 (by omega) (by omega) hj') hY w0 w1 hX
/-! the reference's -/
theorem DBM.n1 (h : vi V (vq V m 128) i.toNat ≠ vi V (vq V m 128) j.toNat) (hX : X = 0) : X ≠ 0 ↔ DBM V m i.toNat j.toNat := ⟨fun q => absurd hX q, fun q => absurd q.1 h⟩
theorem DBM.n2 (h : vi V (vq V m 130) i.toNat = vi V (vq V m 130) j.toNat) (hX : X = 0) : X ≠ 0 ↔ DBM V m i.toNat j.toNat := ⟨fun q => absurd hX q, fun q => absurd h q.2.1⟩
theorem DBM.cmp {d1 d2 s1 s2 : Int} (h1 : vi V (vq V m 128) i.toNat = vi V (vq V m 128) j.toNat) (h2 : vi V (vq V m 130) i.toNat ≠ vi V (vq V m 130) j.toNat) (e1 : s1 = vi V (vq V m 130) i.toNat) (e2 : s2 = vi V (vq V m 130) j.toNat) (b1 : 0 ≤ s1) (b2 : s1 ≤ 3) (b3 : 0 ≤ s2) (b4 : s2 ≤ 3) (f1 : d1 = vi V (vq V m 132) i.toNat) (f2 : d2 = vi V (vq V m 132) j.toNat) (g1 : 0 ≤ d1) (g2 : d1 ≤ 3599) (g3 : 0 ≤ d2) (g4 : d2 ≤ 3599) (ha : ABS (d1 - d2) Z) (hX : X ≠ 0 ↔ Z < (vi V (vq V m 106) s1.toNat + vi V (vq V m 106) s2.toNat) / 4) : X ≠ 0 ↔ DBM V m i.toNat j.toNat := by
  have hZ : Z = if d1 ≤ d2 then d2 - d1 else d1 - d2 := by
    by_cases q : 0 ≤ d1 - d2
    · have := ha.1 q
      by_cases q2 : d1 ≤ d2
      · rw [if_pos q2]
        omega
      · rw [if_neg q2]
        omega
    · have := ha.2 (by omega) (by omega)
      rw [if_pos (by omega)]
      omega
  have hD : DBM V m i.toNat j.toNat ↔ (vi V (vq V m 128) i.toNat = vi V (vq V m 128) j.toNat ∧ s1 ≠ s2 ∧ (if d1 ≤ d2 then d2 - d1 else d1 - d2) < (msd V m s1 + msd V m s2) / 4) := by
    rw [e1, e2, f1, f2]
    exact Iff.rfl
  have m1 : msd V m s1 = vi V (vq V m 106) s1.toNat := (rgv_in b1 (show s1 < ((4 : Nat) : Int) by omega)).symm
  have m2 : msd V m s2 = vi V (vq V m 106) s2.toNat := (rgv_in b3 (show s2 < ((4 : Nat) : Int) by omega)).symm
  rw [hX, hD, hZ, m1, m2]
  exact ⟨fun q => ⟨h1, by rw [e1, e2]; exact h2, q⟩, fun q => q.2.2⟩
/-! the days of the seas, told alike -/
def SDE (V : Vmap) (x m : Nat) : Prop := ∀ s : Int, 0 ≤ s → s < 4 → sdy V x s = msd V m s
def sybits (ws : Nat) : Bool := [keyK (0, 10) 0, keyK (0, 0) 10, abase + 133].all fun b => !ws.testBit b
theorem sy_fr {ws : Nat} (hF : FR ws K V K1 V1) (hE : ext K K1) (hW : WT K V) (hx : K x = some (0, 10)) (hb : sybits ws = true) : sdy V1 x = sdy V x := by
  simp only [sybits, List.all_cons, List.all_nil, Bool.and_true, Bool.and_eq_true, Bool.not_eq_true'] at hb
  obtain ⟨c0, c1, a⟩ := hb
  have hl := (hW.ref hx (j := 0) (Nat.le_of_ble_eq_true rfl) rfl).2
  obtain ⟨N, hC⟩ := (hW.ref hl (j := 10) (Nat.le_of_ble_eq_true rfl) rfl).2
  have e1 : vq V1 x 0 = vq V x 0 := vq_eq (hF x _ 0 hx (hE.obj (Or.inl (by decide)) hx) c0)
  have e2 : vq V1 (vq V x 0) 10 = vq V (vq V x 0) 10 := vq_eq (hF _ _ 10 hl (hE.obj (Or.inl (by decide)) hl) c1)
  funext s
  unfold sdy rgv
  rw [e1, e2]
  by_cases q : 0 ≤ s ∧ s < ((4 : Nat) : Int)
  · rw [if_pos q, if_pos q]
    exact vi_frA hF hC (hE.arr hC) a
  · rw [if_neg q, if_neg q]
def mdbits (ws : Nat) : Bool := [keyK (0, 11) 106, abase + 85].all fun b => !ws.testBit b
theorem ms_fr {ws : Nat} (hF : FR ws K V K1 V1) (hE : ext K K1) (hW : WT K V) (hm : K m = some (0, 11)) (hb : mdbits ws = true) : msd V1 m = msd V m := by
  simp only [mdbits, List.all_cons, List.all_nil, Bool.and_true, Bool.and_eq_true, Bool.not_eq_true'] at hb
  obtain ⟨c0, a⟩ := hb
  have e := arq hF hE hm (hW.ref hm (j := 106) (Nat.le_of_ble_eq_true rfl) rfl).2 c0 a
  funext s
  unfold msd rgv
  by_cases q : 0 ≤ s ∧ s < ((4 : Nat) : Int)
  · rw [if_pos q, if_pos q]
    exact congrFun e s.toNat
  · rw [if_neg q, if_neg q]
theorem SDE.frx {ws : Nat} (h : SDE V x m) (hF : FR ws K V K1 V1) (hE : ext K K1) (hW : WT K V) (hx : K x = some (0, 10)) (hm : K m = some (0, 11)) (b1 : sybits ws = true) (b2 : mdbits ws = true) : SDE V1 x m := fun s h0 h4 => by
  rw [sy_fr hF hE hW hx b1, ms_fr hF hE hW hm b2]
  exact h s h0 h4
def SEC (V V1 : Vmap) (x : Nat) (s d X : Int) : Prop := (X = 0 ∧ V1 = V ∧ ¬ ((0 ≤ s ∧ s ≤ 3) ∧ 1 ≤ d ∧ d ≤ 90)) ∨ (X = 1 ∧ ((0 ≤ s ∧ s ≤ 3) ∧ 1 ≤ d ∧ d ≤ 90) ∧ V1 = rpv V (vq V (vq V x 0) 10) 4 s d)
theorem SEC.no (h : ¬ ((0 ≤ s ∧ s ≤ 3) ∧ 1 ≤ d ∧ d ≤ 90)) (hX : X = 0) : SEC V V x s d X := Or.inl ⟨hX, rfl, h⟩
theorem SEC.ok (h : (0 ≤ s ∧ s ≤ 3) ∧ 1 ≤ d ∧ d ≤ 90) (hX : X = 1) (e : V1 = rpv V (vq V (vq V x 0) 10) 4 s d) : SEC V V1 x s d X := Or.inr ⟨hX, h, e⟩
def MSE (V V1 : Vmap) (m : Nat) (s d X : Int) : Prop := (X = 0 ∧ V1 = V ∧ ¬ ((0 ≤ s ∧ s ≤ 3) ∧ 1 ≤ d ∧ d ≤ 90)) ∨ (X = 1 ∧ ((0 ≤ s ∧ s ≤ 3) ∧ 1 ≤ d ∧ d ≤ 90) ∧ ar 106 V1 m = updf (ar 106 V m) s.toNat d)
theorem MSE.no (h : ¬ ((0 ≤ s ∧ s ≤ 3) ∧ 1 ≤ d ∧ d ≤ 90)) (hX : X = 0) : MSE V V m s d X := Or.inl ⟨hX, rfl, h⟩
theorem MSE.ok (h : (0 ≤ s ∧ s ≤ 3) ∧ 1 ≤ d ∧ d ≤ 90) (hX : X = 1) (e : ar 106 V1 m = updf (ar 106 V m) s.toNat d) : MSE V V1 m s d X := Or.inr ⟨hX, h, e⟩
theorem SDE.sea {w1 w2 : Nat} (h : SDE V x m) (hx : K x = some (0, 10)) (hm : K m = some (0, 11)) (hW : WT K V) (hW1 : WT K1 V1) (hE1 : ext K K1) (hF1 : FR w1 K V K1 V1) (hE2 : ext K1 K2) (hF2 : FR w2 K1 V1 K2 V2) (f : SEC V V1 x s d X) (g : MSE V1 V2 m s d Y) (b1 : mdbits w1 = true) (b2 : sybits w2 = true) : X = Y ∧ SDE V2 x m := by
  have e1 := ms_fr hF1 hE1 hW hm b1
  have e2 := sy_fr hF2 hE2 hW1 (hE1.obj (Or.inl (by decide)) hx) b2
  rcases f with ⟨a1, a2, a3⟩ | ⟨a1, a2, a3⟩
  · rcases g with ⟨c1, c2, -⟩ | ⟨-, c2, -⟩
    · refine ⟨a1.trans c1.symm, fun u h0 h4 => ?_⟩
      rw [e2, a2, c2, e1]
      exact h u h0 h4
    · exact absurd c2 a3
  · rcases g with ⟨-, -, c2⟩ | ⟨c1, -, c3⟩
    · exact absurd a2 c2
    · refine ⟨a1.trans c1.symm, fun u h0 h4 => ?_⟩
      rw [e2]
      have hl := (hW.ref hx (j := 0) (Nat.le_of_ble_eq_true rfl) rfl).2
      obtain ⟨N, hC⟩ := (hW.ref hl (j := 10) (Nat.le_of_ble_eq_true rfl) rfl).2
      have p1 := rpv_put a3 a2.1.1 (show s < ((4 : Nat) : Int) by omega)
      have n1 : x ≠ vq V (vq V x 0) 10 := K_ne hx hC (by simp)
      have n2 : vq V x 0 ≠ vq V (vq V x 0) 10 := K_ne hl hC (by simp)
      have q1 : vq V1 x 0 = vq V x 0 := vq_eq (uq_ne p1 (Or.inl n1))
      have q2 : vq V1 (vq V x 0) 10 = vq V (vq V x 0) 10 := vq_eq (uq_ne p1 (Or.inl n2))
      have k4 : u < ((4 : Nat) : Int) := by omega
      have l1 : sdy V1 x u = vi V1 (vq V (vq V x 0) 10) u.toNat := by
        unfold sdy
        rw [q1, q2]
        exact (rgv_in h0 k4).symm
      have l2 : msd V2 m u = ar 106 V2 m u.toNat := (rgv_in h0 k4).symm
      have l3 : sdy V x u = vi V (vq V (vq V x 0) 10) u.toNat := (rgv_in h0 k4).symm
      have l4 : msd V1 m u = ar 106 V1 m u.toNat := (rgv_in h0 k4).symm
      rw [l1, l2, c3]
      by_cases q : u = s
      · rw [q, updf_at]
        exact upd2_int p1 ⟨by omega, by omega⟩
      · rw [updf_of (by omega), ← l4, e1, ← h u h0 h4, l3]
        exact vi_up p1 (Or.inr (by omega))
theorem CAE.sdr (h : CAE V x m) (hW : WT K V) (hm : K m = some (0, 11)) : sdr V x := fun i hi => by
  have e := h.2 i hi
  have c0 := (hW.int hm (j := 120) (Nat.le_of_ble_eq_true rfl) rfl).2
  have h1 := h.1
  have e2 : ctg V x i 2 = ar 130 V m i := congrArg (fun q : Int × Int × Int × Int × Int => q.2.2.1) e
  have e4 : ctg V x i 4 = ar 132 V m i := congrArg (fun q : Int × Int × Int × Int × Int => q.2.2.2.2) e
  have r2 := hW.ar_rng hm 130 105 (by decide) rfl (by decide) rfl (i := i) (by show i < 200; omega)
  have r4 := hW.ar_rng hm 132 107 (by decide) rfl (by decide) rfl (i := i) (by show i < 200; omega)
  rw [e2, e4]
  exact ⟨r2, r4⟩
theorem CAE.doubt {w1 : Nat} (h : CAE V x m) (hs : SDE V x m) (hm : K m = some (0, 11)) (hW : WT K V) (hE1 : ext K K1) (hF1 : FR w1 K V K1 V1) (f : DBT V x w X) (g : DBF (DBM V1 m) (vi V1 m 120) w Y) (b1 : mcbits w1 = true) (b2 : mdbits w1 = true) : X = Y := by
  have hr := h.sdr hW hm
  have g1 := MCM.fr hF1 hE1 hW hm b1
  have g2 := ms_fr hF1 hE1 hW hm b2
  have f1 := f hr
  rw [h.1, ← g1.1] at f1
  refine DBF.uniq (DBF.cong (fun u v hu hv => ?_) f1) g
  have h1 := h.1
  have m1 := g1.1
  have eu := h.2 u (by omega)
  have ev := h.2 v (by omega)
  have ru := (hr u (by omega)).1
  have rv := (hr v (by omega)).1
  have s1 : sdy V x (ctr V x u).2.2.1 = msd V m (ctr V x u).2.2.1 := hs _ ru.1 (by have := ru.2; show ctg V x u 2 < 4; omega)
  have s2 : sdy V x (ctr V x v).2.2.1 = msd V m (ctr V x v).2.2.1 := hs _ rv.1 (by have := rv.2; show ctg V x v 2 < 4; omega)
  unfold DBD DBM DBX
  rw [s1, s2, eu, ev, g2, g1.2 u, g1.2 v]
/-! the start -/
def SDZ (K : Kmap) (V : Vmap) (x : Nat) : Prop := K (vq V x 10) = some (132 + 1, 4) ∧ ∀ j : Nat, j < 4 → vi V (vq V x 10) j = 10
theorem SDZ.mk {a N : Nat} (f : V x 10 = .ref a) (k : K a = some (132 + 1, 4)) (hc : ∀ j, V a j = V1 a j) (g : FLL V0 V1 a N 10) (hN : 4 ≤ N) : SDZ K V x := by
  have e : vq V x 10 = a := vq_of f
  refine ⟨by rw [e]; exact k, fun j hj => ?_⟩
  rw [e, vi_eq (hc j)]
  exact g.1 j (by omega)
def SDI (V : Vmap) (x : Nat) : Prop := ∀ s : Int, 0 ≤ s → s < 4 → sdy V x s = 10
theorem SDI.at (e : V x 0 = .ref o) (l10 : V o 10 = V0 o 10) (h10 : ∀ j, V (vq V0 o 10) j = V0 (vq V0 o 10) j) (z : SDZ K V0 o) : SDI V x := fun s h0 h4 => by
  have e0 : vq V x 0 = o := vq_of e
  unfold sdy
  rw [e0, vq_eq l10, ← rgv_in h0 (show s < ((4 : Nat) : Int) by omega), vi_eq (h10 s.toNat)]
  exact z.2 s.toNat (by omega)
theorem SDI.fr {ws : Nat} (h : SDI V x) (hF : FR ws K V K1 V1) (hE : ext K K1) (hW : WT K V) (hx : K x = some (0, 10)) (hb : sybits ws = true) : SDI V1 x := fun s h0 h4 => by
  rw [sy_fr hF hE hW hx hb]
  exact h s h0 h4
def MSJ (V : Vmap) (m : Nat) (i : Int) : Prop := ∀ j : Nat, (j : Int) < i → vi V (vq V m 106) j = 10
theorem MSJ.beg : MSJ V m 0 := fun j hj => by omega
theorem MSJ.step (h : MSJ V m i) (hW : WT K V) (hm : K m = some (0, 11)) (e : V1 = upd2 V (vq V m 106) i.toNat (ti 10)) (h0 : 0 ≤ i) (hn : n = i + 1) : MSJ V1 m n := fun j hj => by
  obtain ⟨N, hC⟩ := (hW.ref hm (j := 106) (Nat.le_of_ble_eq_true rfl) rfl).2
  have e1 : vq V1 m 106 = vq V m 106 := vq_eq (uq_ne e (Or.inl (K_ne hm hC (by simp))))
  rw [e1]
  by_cases q : j = i.toNat
  · rw [q]
    exact upd2_int e (ir_c rfl)
  · rw [vi_up e (Or.inr q)]
    exact h j (by omega)
def MSF (V : Vmap) (m : Nat) : Prop := ∀ j, j < 4 → vi V (vq V m 106) j = 10
theorem MSJ.fin (h : MSJ V m i) (hi : 4 ≤ i) : MSF V m := fun j hj => h j (by omega)
theorem MSF.put {b f : Nat} {v : Value} {kd : Nat × Nat} (h : MSF V m) (hW : WT K V) (hm : K m = some (0, 11)) (hb : K b = some kd) (e : V1 = upd2 V b f v) (hn : kd.1 ≠ 85 ∧ (kd ≠ (0, 11) ∨ f ≠ 106)) : MSF V1 m := fun j hj => by
  obtain ⟨N, hC⟩ := (hW.ref hm (j := 106) (Nat.le_of_ble_eq_true rfl) rfl).2
  have e1 : vq V1 m 106 = vq V m 106 := by
    rcases hn.2 with q | q
    · exact vq_eq (uq_ne e (Or.inl (K_ne hm hb (Ne.symm q))))
    · exact vq_eq (uq_ne e (Or.inr (Ne.symm q)))
  have n2 : vq V m 106 ≠ b := K_ne hC hb (fun q => hn.1 (congrArg Prod.fst q).symm)
  rw [e1, vi_up e (Or.inl n2)]
  exact h j hj
theorem SDE.start (h : SDI V x) (g : MSF V m) : SDE V x m := fun s h0 h4 => by
  have l2 : msd V m s = vi V (vq V m 106) s.toNat := (rgv_in h0 (show s < ((4 : Nat) : Int) by omega)).symm
  rw [h s h0 h4, l2]
  exact (g s.toNat (by omega)).symm
end PQ2
