/-! ### a season's voyage: the class's search -/
section PPC
variable {K K1 : Kmap} {V V0 V1 V2 W W1 W2 : Vmap} {x s o : Nat} {a b c d e g i k l n p t u w y z v X Y Z T : Int} {f h : Nat → Int}
theorem row_n {c j t L : Nat} (hW : WT K V) (hs : K s = some (0, c)) (h1 : Nat.ble (j + 1) (szK (0, c)) = true) (h2 : fT (0, c) j = (1, t + 1, 0, 0, 0)) (hl : lentab.getD t 0 = L) (hL : L ≠ 0) : K (vq V s j) = some (t + 1, L) := by
  obtain ⟨N, hC⟩ := (hW.ref hs (Nat.le_of_ble_eq_true h1) h2).2
  rcases (hW.len hC).2.2 with q | q
  · exact absurd (hl.symm.trans q) hL
  · rw [hC, q, hl]
theorem rg_fr {ws c j t L : Nat} (hF : FR ws K V K V1) (hs : K s = some (0, c)) (ha : K (vq V s j) = some (t + 1, L)) (c1 : ws.testBit (keyK (0, c) j) = false) (c2 : ws.testBit (abase + (t + 1)) = false) (N : Nat) : rgv V1 (vq V1 s j) N = rgv V (vq V s j) N := by
  have e1 : vq V1 s j = vq V s j := vq_eq (hF s _ j hs hs c1)
  funext z
  unfold rgv
  rw [e1]
  split
  · exact vi_frA hF ha ha c2
  · rfl
theorem rpv_m {N q : Nat} (e : V1 = rpv V q N c d) (h0 : 0 ≤ c) (h1 : c < (N : Int)) (rd : ir d) : ∀ z, rgv V1 q N z = if z = c then d else rgv V q N z := by
  have e' := rpv_put e h0 h1
  intro z
  by_cases g : z = c
  · rw [if_pos g, g, ← rgv_in h0 h1]
    exact upd2_int e' rd
  · rw [if_neg g]
    unfold rgv
    by_cases g2 : 0 ≤ z ∧ z < (N : Int)
    · rw [if_pos g2, if_pos g2]
      exact vi_up e' (Or.inr (by omega))
    · rw [if_neg g2, if_neg g2]
/-! what a season is -/
def ssn (V : Vmap) (s : Nat) : Nat := (vi V (vq V s 0) 3).toNat
def LEGv (V : Vmap) (s : Nat) (a b : Int) : Int := rgv V (vq V s 3) 64 (a * 8 + b)
def OPNv (V : Vmap) (s i : Nat) (a : Int) : Int := rgv V (vq V s 1) 24 ((i : Int) * 8 + a)
def CLSv (V : Vmap) (s i : Nat) (a : Int) : Int := rgv V (vq V s 2) 24 ((i : Int) * 8 + a)
def PEC (V : Vmap) (s : Nat) : PEn := (ssn V s, vi V s 8, LEGv V s, OPNv V s, CLSv V s)
def ahv (V : Vmap) (s : Nat) (z : Int) : Int := rgv V (vq V s 6) 2048 z
def dav (V : Vmap) (s : Nat) (z : Int) : Int := rgv V (vq V s 4) 24 z
def orv (V : Vmap) (s : Nat) : Nat → Int := fun k => rgv V (vq V s 5) 8 (k : Int)
def bev (V : Vmap) (s : Nat) : Nat → Int := fun k => rgv V (vq V s 7) 8 (k : Int)
theorem ssn_8 (hW : WT K V) (hs : K s = some (0, 5)) : ssn V s ≤ 8 ∧ ((ssn V s : Nat) : Int) = vi V (vq V s 0) 3 := by
  have := (hW.int (se_at hW hs) (j := 3) (Nat.le_of_ble_eq_true rfl) rfl).2
  unfold ssn
  omega
def pebits (ws : Nat) : Bool := [keyK (0, 5) 0, keyK (0, 5) 1, keyK (0, 5) 2, keyK (0, 5) 3, keyK (0, 24) 3, abase + 138, abase + 139, abase + 140].all fun b => !ws.testBit b
theorem PEC.st {ws : Nat} (hF : FR ws K V K V1) (hW : WT K V) (hs : K s = some (0, 5)) (h8 : vi V1 s 8 = d) (hb : pebits ws = true) : PEC V1 s = (ssn V s, d, LEGv V s, OPNv V s, CLSv V s) := by
  simp only [pebits, List.all_cons, List.all_nil, Bool.and_true, Bool.and_eq_true, Bool.not_eq_true'] at hb
  obtain ⟨c0, c1, c2, c3, t3, a1, a2, a3⟩ := hb
  have e0 : vq V1 s 0 = vq V s 0 := vq_eq (hF s _ 0 hs hs c0)
  have ez : ssn V1 s = ssn V s := by
    unfold ssn
    rw [e0, vi_fr hF (se_at hW hs) (se_at hW hs) t3]
  have r1 := rg_fr hF hs (row_n (j := 1) hW hs rfl rfl rfl (by decide)) c1 a1 24
  have r2 := rg_fr hF hs (row_n (j := 2) hW hs rfl rfl rfl (by decide)) c2 a2 24
  have r3 := rg_fr hF hs (row_n (j := 3) hW hs rfl rfl rfl (by decide)) c3 a3 64
  unfold PEC
  rw [ez, h8]
  have f1 : OPNv V1 s = OPNv V s := by
    funext i z
    unfold OPNv
    rw [r1]
  have f2 : CLSv V1 s = CLSv V s := by
    funext i z
    unfold CLSv
    rw [r2]
  have f3 : LEGv V1 s = LEGv V s := by
    funext i z
    unfold LEGv
    rw [r3]
  rw [f1, f2, f3]
theorem PEC.fr {ws : Nat} (hF : FR ws K V K V1) (hW : WT K V) (hs : K s = some (0, 5)) (h8 : vi V1 s 8 = vi V s 8) (hb : pebits ws = true) : PEC V1 s = PEC V s := PEC.st hF hW hs h8 hb
theorem psz_fr {ws : Nat} (hF : FR ws K V K V1) (hW : WT K V) (hs : K s = some (0, 5)) (hb : pebits ws = true) : vi V1 (vq V1 s 0) 3 = vi V (vq V s 0) 3 := by
  simp only [pebits, List.all_cons, List.all_nil, Bool.and_true, Bool.and_eq_true, Bool.not_eq_true'] at hb
  obtain ⟨c0, c1, c2, c3, t3, -⟩ := hb
  have e0 : vq V1 s 0 = vq V s 0 := vq_eq (hF s _ 0 hs hs c0)
  rw [e0]
  exact vi_fr hF (se_at hW hs) (se_at hW hs) t3
theorem ahv_fr {ws : Nat} (hF : FR ws K V K V1) (hW : WT K V) (hs : K s = some (0, 5)) (c1 : ws.testBit (keyK (0, 5) 6) = false) (c2 : ws.testBit (abase + (142 + 1)) = false) : ahv V1 s = ahv V s := by
  funext z
  unfold ahv
  rw [rg_fr hF hs (row_n (j := 6) hW hs rfl rfl rfl (by decide)) c1 c2 2048]
theorem dav_fr {ws : Nat} (hF : FR ws K V K V1) (hW : WT K V) (hs : K s = some (0, 5)) (c1 : ws.testBit (keyK (0, 5) 4) = false) (c2 : ws.testBit (abase + (140 + 1)) = false) : dav V1 s = dav V s := by
  funext z
  unfold dav
  rw [rg_fr hF hs (row_n (j := 4) hW hs rfl rfl rfl (by decide)) c1 c2 24]
theorem orv_fr {ws : Nat} (hF : FR ws K V K V1) (hW : WT K V) (hs : K s = some (0, 5)) (c1 : ws.testBit (keyK (0, 5) 5) = false) (c2 : ws.testBit (abase + (141 + 1)) = false) : orv V1 s = orv V s := by
  funext z
  unfold orv
  rw [rg_fr hF hs (row_n (j := 5) hW hs rfl rfl rfl (by decide)) c1 c2 8]
theorem bev_fr {ws : Nat} (hF : FR ws K V K V1) (hW : WT K V) (hs : K s = some (0, 5)) (c1 : ws.testBit (keyK (0, 5) 7) = false) (c2 : ws.testBit (abase + (143 + 1)) = false) : bev V1 s = bev V s := by
  funext z
  unfold bev
  rw [rg_fr hF hs (row_n (j := 7) hW hs rfl rfl rfl (by decide)) c1 c2 8]
/-! the needs -/
theorem tgv_st1 {t : Nat} (hW : WT K V) (ht : K t = some (0, 24)) (h0 : 0 ≤ i) (h1 : i < vi V t 3) (g : TG K V t i 1 X) : X = vi V (vq V t 2) (2 * i.toNat + 1) := by
  obtain ⟨-, hT, -⟩ := st_tab hW ht
  have e := g 2 8 (by decide) (by decide) hT
  have w : vi V t 0 = 2 := hT.1
  unfold tgv at e
  rw [if_pos ⟨h0, h1, by decide, by rw [w]; decide⟩, w] at e
  rw [e]
  exact congrArg (vi V (vq V t 2)) (by omega)
def ndv (V : Vmap) (s j : Nat) : Int := vi V (vq V (vq V s 0) 2) (2 * j + 1)
def nsm (f : Nat → Int) : Nat → Int
  | 0 => 0
  | k + 1 => nsm f k + f k
def NDB (V : Vmap) (s : Nat) : Prop := ∀ j : Nat, j < ssn V s → 0 ≤ ndv V s j ∧ ndv V s j ≤ 10000
theorem nsm_b {f : Nat → Int} : ∀ k : Nat, (∀ j : Nat, j < k → 0 ≤ f j ∧ f j ≤ 10000) → 0 ≤ nsm f k ∧ nsm f k ≤ 10000 * (k : Int) := by
  intro k
  induction k with
  | zero =>
    intro _
    show (0 : Int) ≤ 0 ∧ (0 : Int) ≤ 10000 * ((0 : Nat) : Int)
    omega
  | succ k ih =>
    intro q
    have h1 := ih (fun j hj => q j (by omega))
    have h2 := q k (by omega)
    show 0 ≤ nsm f k + f k ∧ nsm f k + f k ≤ 10000 * ((k + 1 : Nat) : Int)
    omega
theorem nsm_cg {f h : Nat → Int} : ∀ k : Nat, (∀ j : Nat, j < k → f j = h j) → nsm f k = nsm h k := by
  intro k
  induction k with
  | zero => intro _; rfl
  | succ k ih =>
    intro q
    show nsm f k + f k = nsm h k + h k
    rw [ih (fun j hj => q j (by omega)), q k (by omega)]
def NDS (V : Vmap) (s : Nat) (X : Int) : Prop := NDB V s → X = nsm (ndv V s) (ssn V s)
def NDI (V : Vmap) (s : Nat) (a i : Int) : Prop := 0 ≤ i ∧ i ≤ vi V (vq V s 0) 3 ∧ (NDB V s → a = nsm (ndv V s) i.toNat)
theorem NDI.beg (hW : WT K V) (hs : K s = some (0, 5)) : NDI V s 0 0 := ⟨by omega, ((hW.int (se_at hW hs) (j := 3) (Nat.le_of_ble_eq_true rfl) rfl).2).1, fun _ => rfl⟩
theorem NDI.step (q : NDI V s a i) (hW : WT K V) (hs : K s = some (0, 5)) (h1 : i < vi V (vq V s 0) 3) (gX : TG K V (vq V s 0) i 1 X) (hz : ir (a + X) → z = a + X) (hn : n = i + 1) : NDI V s z n := by
  obtain ⟨q0, q1, q2⟩ := q
  refine ⟨by omega, by omega, fun hb => ?_⟩
  have e := tgv_st1 hW (se_at hW hs) q0 h1 gX
  obtain ⟨g8, gz⟩ := ssn_8 hW hs
  have b1 := nsm_b (f := ndv V s) i.toNat (fun j hj => hb j (by omega))
  have b2 := hb i.toNat (by omega)
  have eX : X = ndv V s i.toNat := e
  have ea := q2 hb
  rw [hz ⟨by omega, by omega⟩, show n.toNat = i.toNat + 1 by omega]
  show a + X = nsm (ndv V s) i.toNat + ndv V s i.toNat
  omega
theorem NDS.mk (q : NDI V s a i) (hi : vi V (vq V s 0) 3 ≤ i) : NDS V s a := fun hb => by
  obtain ⟨q0, q1, q2⟩ := q
  rw [q2 hb]
  unfold ssn
  rw [show i = vi V (vq V s 0) 3 by omega]
/-! sets of stops -/
theorem bit_off : ∀ T : Nat, T < 256 → ∀ y : Nat, y < 8 → tb (T : Int) y = true → wand (T : Int) (wxor (wshl 1 (y : Int)) (-1)) = (T : Int) - ((2 ^ y : Nat) : Int) ∧ ((2 ^ y : Nat) : Int) ≤ (T : Int) := by decide +kernel
theorem bit_nil : ∀ T : Nat, T < 256 → (∀ y : Nat, y < 8 → tb (T : Int) y = false) → T = 0 := by decide +kernel
theorem bit_rest : ∀ m : Nat, m ≤ 8 → ∀ T : Nat, T < 256 → 0 ≤ wand (wshl 1 (m : Int) - 1) (wxor (T : Int) (-1)) ∧ wand (wshl 1 (m : Int) - 1) (wxor (T : Int) (-1)) < wshl 1 (m : Int) := by decide +kernel
theorem bit_all : ∀ m : Nat, m ≤ 8 → (∀ y : Nat, y < 8 → tb (wshl 1 (m : Int) - 1) y = decide (y < m)) ∧ wshl 1 (m : Int) = ((2 ^ m : Nat) : Int) := by decide +kernel
theorem bit_on : ∀ T : Nat, T < 256 → ∀ y : Nat, y < 8 → 0 ≤ wor (T : Int) (wshl 1 (y : Int)) ∧ wor (T : Int) (wshl 1 (y : Int)) < 256 := by decide +kernel
theorem pow_8 {m : Nat} (h : m ≤ 8) : ((2 ^ m : Nat) : Int) ≤ 256 ∧ 1 ≤ ((2 ^ m : Nat) : Int) := (by decide +kernel : ∀ m : Nat, m ≤ 8 → ((2 ^ m : Nat) : Int) ≤ 256 ∧ 1 ≤ ((2 ^ m : Nat) : Int)) m h
/-- a set without one of its stops -/
theorem bit_less {y : Nat} (h0 : 0 ≤ T) (h1 : T < 256) (hy : y < 8) (hb : tb T y = true) : wand T (wxor (wshl 1 (y : Int)) (-1)) = T - ((2 ^ y : Nat) : Int) ∧ ((2 ^ y : Nat) : Int) ≤ T ∧ 1 ≤ ((2 ^ y : Nat) : Int) ∧ ∀ u : Nat, u < 32 → tb (T - ((2 ^ y : Nat) : Int)) u = (tb T u && !decide (u = y)) := by
  obtain ⟨m, rfl⟩ := Int.eq_ofNat_of_zero_le h0
  have e := bit_off m (by omega) y hy hb
  refine ⟨e.1, e.2, (pow_8 (by omega)).2, fun u hu => ?_⟩
  rw [← e.1, tb_wand, tb_wxor, tb_shl (by omega) hu, tb_m1 hu, Bool.xor_true]
def LGB (V : Vmap) (s : Nat) : Prop := ∀ a b : Int, 0 ≤ a → a < (ssn V s : Int) → 0 ≤ b → b < (ssn V s : Int) → 0 ≤ LEGv V s a b ∧ LEGv V s a b ≤ 72
/-- what stands for one set and one stop -/
def AHC (V W : Vmap) (s : Nat) (T a v : Int) : Prop := 0 ≤ v ∧ v ≤ 72 * T ∧ ∀ y : Nat, y < ssn V s → tb T y = true → v ≤ LEGv V s a (y : Int) + ahv W s ((T - ((2 ^ y : Nat) : Int)) * 8 + (y : Int))
def AHB (V W : Vmap) (s : Nat) (T : Int) : Prop := ∀ U a : Int, 0 ≤ U → U < T → 0 ≤ a → a < (ssn V s : Int) → AHC V W s U a (ahv W s (U * 8 + a))
def AH0 (V : Vmap) (s : Nat) : Prop := ∀ y : Int, 0 ≤ y → y < 8 → ahv V s y = 0
theorem AHB.mo (h : AHB V W s T) (hu : u ≤ T) : AHB V W s u := fun U a h0 h1 => h U a h0 (by omega)
theorem AHB.one (h0 : AH0 W s) (h8 : ssn V s ≤ 8) : AHB V W s 1 := fun U a u0 u1 a0 a1 => by
  have eU : U = 0 := by omega
  subst eU
  have e : ahv W s (0 * 8 + a) = 0 := by
    rw [show 0 * 8 + a = a by omega]
    exact h0 a a0 (by omega)
  rw [e]
  exact ⟨by omega, by omega, fun y _ hy => by
    rw [tb_zero] at hy
    cases hy⟩
/-! the least way ahead -/
def LAS (V : Vmap) (s : Nat) (T a X : Int) : Prop := LGB V s → 0 ≤ T → T < 256 → AHB V V s T → 0 ≤ a → a < (ssn V s : Int) → AHC V V s T a X
def LAI (V : Vmap) (s : Nat) (T a c i : Int) : Prop := 0 ≤ i ∧ (LGB V s → 0 ≤ T → T < 256 → AHB V V s T → 0 ≤ a → a < (ssn V s : Int) → ((c = -1 ∧ ∀ y : Nat, (y : Int) < i → y < ssn V s → tb T y = false) ∨ (0 ≤ c ∧ c ≤ 72 * T)) ∧ ∀ y : Nat, (y : Int) < i → y < ssn V s → tb T y = true → c ≤ LEGv V s a (y : Int) + ahv V s ((T - ((2 ^ y : Nat) : Int)) * 8 + (y : Int)))
theorem LAI.beg : LAI V s T a (-1) 0 := ⟨by omega, fun _ _ _ _ _ _ => ⟨Or.inl ⟨rfl, fun y hy => by omega⟩, fun y hy => by omega⟩⟩
theorem LAI.no (q : LAI V s T a c i) (hb : wand (wshr T i) 1 = 0) (hi : i < 8) (hn : n = i + 1) : LAI V s T a c n := by
  obtain ⟨q0, q1⟩ := q
  have ei : ((i.toNat : Nat) : Int) = i := by omega
  have hf : tb T i.toNat = false := by
    refine (shr1_0 (z := T) (w := i.toNat) (by omega)).mp ?_
    rw [ei]
    exact hb
  refine ⟨by omega, fun g1 g2 g3 g4 g5 g6 => ?_⟩
  obtain ⟨r1, r2⟩ := q1 g1 g2 g3 g4 g5 g6
  refine ⟨?_, fun y hy hy2 hyb => ?_⟩
  · rcases r1 with ⟨r1, r3⟩ | r1
    · refine Or.inl ⟨r1, fun y hy hy2 => ?_⟩
      by_cases q : y = i.toNat
      · rw [q]
        exact hf
      · exact r3 y (by omega) hy2
    · exact Or.inr r1
  · have hne : y ≠ i.toNat := fun q => by
      rw [q, hf] at hyb
      cases hyb
    exact r2 y (by omega) hy2 hyb
theorem LAI.yes {z1 z2 z3 z4 : Int} (q : LAI V s T a c i) (hW : WT K V) (hs : K s = some (0, 5)) (hb : wand (wshr T i) 1 ≠ 0) (hi : i < vi V (vq V s 0) 3) (gX : X = rgv V (vq V s 3) 64 z2) (h2 : ir (z1 + i) → z2 = z1 + i) (h1 : ir (a * 8) → z1 = a * 8) (gY : Y = rgv V (vq V s 6) 2048 z4) (h4 : ir (z3 + i) → z4 = z3 + i) (h3 : ir (wand T (wxor (wshl 1 i) (-1)) * 8) → z3 = wand T (wxor (wshl 1 i) (-1)) * 8) (hZ : ir (X + Y) → Z = X + Y) (hv : (c = -1 ∧ v = Z) ∨ (c ≠ -1 ∧ ((v = c ∧ c ≤ Z) ∨ (v = Z ∧ Z ≤ c)))) (hn : n = i + 1) : LAI V s T a v n := by
  obtain ⟨q0, q1⟩ := q
  obtain ⟨n8, en⟩ := ssn_8 hW hs
  have ei : ((i.toNat : Nat) : Int) = i := by omega
  have hf : tb T i.toNat = true := by
    refine (shr1_n0 (z := T) (w := i.toNat) (by omega)).mp ?_
    rw [ei]
    exact hb
  refine ⟨by omega, fun g1 g2 g3 g4 g5 g6 => ?_⟩
  obtain ⟨r1, r2⟩ := q1 g1 g2 g3 g4 g5 g6
  obtain ⟨o1, o2, o3, -⟩ := bit_less (y := i.toNat) g2 g3 (by omega) hf
  rw [ei] at o1
  rw [o1] at h3
  have k1 := h1 ⟨by omega, by omega⟩
  have k2 := h2 ⟨by omega, by omega⟩
  have k3 := h3 ⟨by omega, by omega⟩
  have k4 := h4 ⟨by omega, by omega⟩
  have eX : X = LEGv V s a i := by
    rw [gX, k2, k1]
    rfl
  have eY : Y = ahv V s ((T - ((2 ^ i.toNat : Nat) : Int)) * 8 + i) := by
    rw [gY, k4, k3]
    rfl
  have bX := g1 a i g5 g6 q0 (by omega)
  obtain ⟨bY1, bY2, -⟩ := g4 (T - ((2 ^ i.toNat : Nat) : Int)) i (by omega) (by omega) q0 (by omega)
  rw [← eX] at bX
  rw [← eY] at bY1 bY2
  have kZ := hZ ⟨by omega, by omega⟩
  refine ⟨Or.inr ?_, fun y hy hy2 hyb => ?_⟩
  · rcases hv with ⟨v1, v2⟩ | ⟨v1, v2⟩
    · omega
    · rcases r1 with ⟨r1, -⟩ | r1
      · exact absurd r1 v1
      · omega
  · by_cases q : y = i.toNat
    · rw [q, ei, ← eX, ← eY]
      rcases hv with ⟨v1, v2⟩ | ⟨v1, v2⟩ <;> omega
    · rcases hv with ⟨v1, v2⟩ | ⟨v1, v2⟩
      · rcases r1 with ⟨r1, r3⟩ | r1
        · have := r3 y (by omega) hy2
          rw [this] at hyb
          cases hyb
        · omega
      · have := r2 y (by omega) hy2 hyb
        omega
theorem LAS.mk (q : LAI V s T a c i) (hi : vi V (vq V s 0) 3 ≤ i) (hX : (X = c ∧ 0 ≤ c) ∨ (X = 0 ∧ c ≤ 0)) : LAS V s T a X := fun g1 g2 g3 g4 g5 g6 => by
  obtain ⟨q0, q1⟩ := q
  obtain ⟨r1, r2⟩ := q1 g1 g2 g3 g4 g5 g6
  have hlt : ∀ y : Nat, y < ssn V s → (y : Int) < i := fun y hy => by
    unfold ssn at hy
    omega
  refine ⟨by omega, ?_, fun y hy hyb => ?_⟩
  · rcases r1 with ⟨r1, -⟩ | r1 <;> omega
  · rcases r1 with ⟨r1, r3⟩ | r1
    · have := r3 y (hlt y hy) hy
      rw [this] at hyb
      cases hyb
    · have := r2 y (hlt y hy) hy hyb
      omega
/-! all of them -/
def LKA (V V1 : Vmap) (s : Nat) : Prop := LGB V s → AH0 V s → AHB V V1 s ((2 ^ ssn V s : Nat) : Int) ∧ AH0 V1 s
def LKO (V W : Vmap) (s : Nat) (T : Int) : Prop := 1 ≤ T ∧ (LGB V s → AH0 V s → AHB V W s T ∧ AH0 W s)
def LKN (V W : Vmap) (s : Nat) (T i : Int) : Prop := 1 ≤ T ∧ T < wshl 1 (vi V (vq V s 0) 3) ∧ 0 ≤ i ∧ (LGB V s → AH0 V s → AHB V W s T ∧ AH0 W s ∧ ∀ a : Int, 0 ≤ a → a < i → a < (ssn V s : Int) → AHC V W s T a (ahv W s (T * 8 + a)))
theorem LKO.beg (hW : WT K V) (hs : K s = some (0, 5)) : LKO V V s 1 := ⟨by omega, fun _ h0 => ⟨AHB.one h0 (ssn_8 hW hs).1, h0⟩⟩
theorem LKO.in (q : LKO V W s T) (hT : T < wshl 1 Y) (hY : Y = vi V (vq V s 0) 3) : LKN V W s T 0 := by
  subst hY
  exact ⟨q.1, hT, by omega, fun g1 g2 => ⟨(q.2 g1 g2).1, (q.2 g1 g2).2, fun a h0 h1 => by omega⟩⟩
theorem LKN.out (q : LKN V W s T i) (hi : Y ≤ i) (hY : Y = vi V (vq V s 0) 3) (hn : n = T + 1) : LKO V W s n := by
  obtain ⟨q0, -, -, q1⟩ := q
  subst hY
  refine ⟨by omega, fun g1 g2 => ?_⟩
  obtain ⟨r1, r2, r3⟩ := q1 g1 g2
  refine ⟨fun U a u0 u1 a0 a1 => ?_, r2⟩
  by_cases p : U = T
  · subst p
    refine r3 a a0 ?_ a1
    unfold ssn at a1
    omega
  · exact r1 U a u0 (by omega) a0 a1
theorem LKA.mk (q : LKO V W s T) (hW : WT K V) (hs : K s = some (0, 5)) (hT : wshl 1 Y ≤ T) (hY : Y = vi V (vq V s 0) 3) : LKA V W s := fun g1 g2 => by
  obtain ⟨n8, en⟩ := ssn_8 hW hs
  have e := (bit_all (ssn V s) n8).2
  subst hY
  rw [← en, e] at hT
  exact ⟨(q.2 g1 g2).1.mo hT, (q.2 g1 g2).2⟩
/-- W: the memory in which it was reckoned; W1: where it has been written -/
theorem LKN.step {z1 z2 : Int} (q : LKN V W s T i) (hWv : WT K V) (hW : WT K W) (hs : K s = some (0, 5)) (hpe : PEC W s = PEC V s) (hi : i < vi W (vq W s 0) 3) (gX : LAS W s T i X) (rX : ir X) (h2 : ir (z1 + i) → z2 = z1 + i) (h1 : ir (T * 8) → z1 = T * 8) (e : W1 = rpv W (vq W s 6) 2048 z2 X) (hn : n = i + 1) : LKN V W1 s T n := by
  obtain ⟨q0, qT, qi, q1⟩ := q
  obtain ⟨n8, en⟩ := ssn_8 hWv hs
  have ez : ssn W s = ssn V s := congrArg (fun E : PEn => E.1) hpe
  have eL : LEGv W s = LEGv V s := congrArg (fun E : PEn => E.2.2.1) hpe
  have hi' : i < (ssn V s : Int) := by
    rw [← ez]
    unfold ssn
    omega
  have hT : T < 256 := by
    rw [← en, (bit_all (ssn V s) n8).2] at qT
    have := (pow_8 n8).1
    omega
  have k1 := h1 ⟨by omega, by omega⟩
  have k2 := h2 ⟨by omega, by omega⟩
  rw [k2, k1] at e
  have hA := row_n (j := 6) hW hs rfl rfl rfl (by decide) (L := 2048) (t := 142)
  have e6 : vq W1 s 6 = vq W s 6 := by
    have n1 : s ≠ vq W s 6 := K_ne hs hA (by decide)
    refine vq_eq ?_
    rw [rpv_put e (by omega) (by omega)]
    exact upd2_ne (Or.inl n1)
  have er := rpv_m e (by omega) (by omega) rX
  have ea : ∀ z, ahv W1 s z = if z = T * 8 + i then X else ahv W s z := fun z => by
    unfold ahv
    rw [e6]
    exact er z
  refine ⟨q0, qT, by omega, fun g1 g2 => ?_⟩
  obtain ⟨r1, r2, r3⟩ := q1 g1 g2
  have cl : ∀ (U a v : Int), 0 ≤ U → U ≤ T → AHC V W s U a v → AHC V W1 s U a v := fun U a v u0 u1 ⟨c1, c2, c3⟩ => ⟨c1, c2, fun y hy hyb => by
    obtain ⟨-, o2, o3, -⟩ := bit_less (y := y) u0 (by omega) (by omega) hyb
    rw [ea, if_neg (by omega)]
    exact c3 y hy hyb⟩
  have gW : LGB W s := fun a b h0 h1 h2 h3 => by
    rw [eL]
    exact g1 a b h0 (by omega) h2 (by omega)
  have gA : AHB W W s T := fun U a u0 u1 a0 a1 => by
    have := r1 U a u0 u1 a0 (by omega)
    unfold AHC at this ⊢
    rw [ez, eL]
    exact this
  have gx := gX gW (by omega) hT gA qi (by omega)
  have gx' : AHC V W s T i X := by
    unfold AHC at gx ⊢
    rw [ez, eL] at gx
    exact gx
  refine ⟨fun U a u0 u1 a0 a1 => ?_, fun y y0 y8 => ?_, fun a a0 a1 a2 => ?_⟩
  · rw [ea, if_neg (by omega)]
    exact cl U a _ u0 (by omega) (r1 U a u0 u1 a0 a1)
  · rw [ea, if_neg (by omega)]
    exact r2 y y0 y8
  · by_cases p : a = i
    · rw [ea, if_pos (by omega), p]
      exact cl T i X (by omega) (by omega) gx'
    · rw [ea, if_neg (by omega)]
      exact cl T a _ (by omega) (by omega) (r3 a a0 (by omega) a2)
end PPC
