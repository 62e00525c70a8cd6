/-! ### soundings, told alike: sound, sure -/
section SO
variable {K K0 K1 K2 Kn Ki : Kmap} {V V0 V1 V2 Vn Vi W : Vmap} {x m o t q : Nat} {i j n k c s e d p a b w z X Y Z : Int}
def snO (V : Vmap) (o : Nat) : Nat := vq V o 15
def snz (V : Vmap) (o : Nat) : Int := vi V (snO V o) 3
def snr (V : Vmap) (o i c : Nat) : Int := vi V (vq V (snO V o) 2) (2 * i + c)
theorem sn_tab (hW : WT K V) (ht : K t = some (0, 34)) : K (vq V t 2) = some (156 + 1, 16) ∧ TRM K V t 2 8 ∧ vi V t 1 = ((8 : Nat) : Int) := by
  obtain ⟨N, hC⟩ := (hW.ref ht (j := 2) (Nat.le_of_ble_eq_true rfl) rfl).2
  have hN : N = 16 := by
    rcases (hW.len hC).2.2 with h | h
    · exact absurd h (by decide)
    · exact h
  subst hN
  have h0 := (hW.int ht (j := 0) (Nat.le_of_ble_eq_true rfl) rfl).2
  have h1 := (hW.int ht (j := 1) (Nat.le_of_ble_eq_true rfl) rfl).2
  have h3 := (hW.int ht (j := 3) (Nat.le_of_ble_eq_true rfl) rfl).2
  exact ⟨hC, ⟨by omega, by omega, by omega, 156, hC⟩, by omega⟩
theorem tgv_sn (hW : WT K V) (ht : K t = some (0, 34)) (hc0 : 0 ≤ c) (hc : c < 2) (h0 : 0 ≤ i) (h1 : i < vi V t 3) (g : TG K V t i c X) : X = vi V (vq V t 2) (2 * i.toNat + c.toNat) := by
  obtain ⟨-, hT, -⟩ := sn_tab hW ht
  have e := g 2 8 (by decide) (by decide) hT
  have w0 : vi V t 0 = 2 := hT.1
  unfold tgv at e
  rw [if_pos ⟨h0, h1, hc0, by omega⟩, w0] at e
  rw [e]
  exact congrArg (vi V (vq V t 2)) (by omega)
/-! a site's soundings: one more -/
def SNP (V V1 : Vmap) (t : Nat) (a b : Int) : Prop := V1 = apv V t a b 0 0 0
def ADS (K : Kmap) (V V1 : Vmap) (o : Nat) (d w X : Int) : Prop := 1 ≤ d → d ≤ 5000 → 0 ≤ w → w ≤ 1000 → (X = 0 ∧ V1 = V ∧ (V o 15 = .null ∨ 8 ≤ snz V o)) ∨ (X = 1 ∧ K (snO V o) = some (0, 34) ∧ snz V o < 8 ∧ V1 = apv V (snO V o) (d - w) (d + w) 0 0 0)
theorem ADS.nul (h : V o 15 = .null) (hX : X = 0) : ADS K V V o d w X := fun _ _ _ _ => Or.inl ⟨hX, rfl, Or.inl h⟩
theorem ADS.ap (hW : WT K V) (ht : K (vq V o 15) = some (0, 34)) (ha : APP K V V1 (vq V o 15) a b 0 0 0 Y) (ra : ir (d - w) → a = d - w) (rb : ir (d + w) → b = d + w) (hX : (Y = -1 ∧ X = 0) ∨ (Y ≠ -1 ∧ X = 1)) : ADS K V V1 o d w X := fun d1 d5 w0 w1 => by
  have ea := ra ⟨by omega, by omega⟩
  have eb := rb ⟨by omega, by omega⟩
  subst ea eb
  obtain ⟨a3, a4, a5⟩ := sn_tab hW ht
  have h3 := (hW.int ht (j := 3) (Nat.le_of_ble_eq_true rfl) rfl).2
  have k8 : ((8 : Nat) : Int) = 8 := rfl
  have ez : snz V o = vi V (vq V o 15) 3 := rfl
  rcases ha 2 8 (by decide) (by decide) a4 a5 with ⟨b1, b2, b3⟩ | ⟨b1, b2, b3⟩
  · refine Or.inl ⟨by omega, b3, Or.inr (by rw [ez]; omega)⟩
  · exact Or.inr ⟨by omega, ht, by rw [ez]; omega, b3⟩
def SND (d w : Int) : Prop := 1 ≤ d ∧ d ≤ 5000 ∧ 0 ≤ w ∧ w ≤ 1000
def SNC (K : Kmap) (V V1 : Vmap) (x : Nat) (k d w X : Int) : Prop := NN 6 5 V x → (X = 0 ∧ V1 = V ∧ (¬ (PK V x k 4 ∧ SND d w) ∨ V (plO V x k.toNat) 15 = .null ∨ 8 ≤ snz V (plO V x k.toNat))) ∨ (X = 1 ∧ PK V x k 4 ∧ SND d w ∧ K (snO V (plO V x k.toNat)) = some (0, 34) ∧ snz V (plO V x k.toNat) < 8 ∧ V1 = apv V (snO V (plO V x k.toNat)) (d - w) (d + w) 0 0 0)
theorem SNC.np (h : NN 6 5 V x → ¬ PK V x k 4) (hX : X = 0) : SNC K V V x k d w X := fun hN => Or.inl ⟨hX, rfl, Or.inl fun g => h hN g.1⟩
theorem SNC.nd (h : ¬ SND d w) (hX : X = 0) : SNC K V V x k d w X := fun _ => Or.inl ⟨hX, rfl, Or.inl fun g => h g.2⟩
theorem SNC.ad (g : o = plO V x k.toNat ∧ PK V x k 4) (hd : SND d w) (h : ADS K V V1 o d w X) : SNC K V V1 x k d w X := fun _ => by
  obtain ⟨g1, g2⟩ := g
  subst g1
  obtain ⟨d1, d2, d3, d4⟩ := hd
  rcases h d1 d2 d3 d4 with ⟨h1, h2, h3⟩ | ⟨h1, h2, h3, h4⟩
  · exact Or.inl ⟨h1, h2, Or.inr h3⟩
  · exact Or.inr ⟨h1, g2, ⟨d1, d2, d3, d4⟩, h2, h3, h4⟩
def MSU (V V1 : Vmap) (m : Nat) (k d w X : Int) : Prop := (X = 0 ∧ V1 = V ∧ (¬ (MPK V m k 4 ∧ SND d w) ∨ ar 121 V m k.toNat = 8)) ∨ (X = 1 ∧ MPK V m k 4 ∧ SND d w ∧ ar 121 V m k.toNat ≠ 8 ∧ 0 ≤ ar 121 V m k.toNat ∧ ar 122 V1 m = updf (ar 122 V m) (8 * k.toNat + (ar 121 V m k.toNat).toNat) d ∧ ar 123 V1 m = updf (ar 123 V m) (8 * k.toNat + (ar 121 V m k.toNat).toNat) w ∧ ar 121 V1 m = updf (ar 121 V m) k.toNat (ar 121 V m k.toNat + 1))
theorem MSU.no (h : ¬ (MPK V m k 4 ∧ SND d w) ∨ vi V (vq V m 121) k.toNat = 8) (hX : X = 0) : MSU V V m k d w X := Or.inl ⟨hX, rfl, h⟩
theorem MSU.ok {d1 d2 d3 : Nat} (hX : X = 1) (hk : MPK V m k 4) (hd : SND d w) (h8 : vi V (vq V m 121) k.toNat ≠ 8) (h0 : 0 ≤ vi V (vq V m 121) k.toNat) (e1 : ar 122 V1 m = updf (ar 122 V m) d1 d) (e2 : ar 123 V1 m = updf (ar 123 V m) d2 w) (e3 : ar 121 V1 m = updf (ar 121 V m) d3 z) (q1 : d1 = 8 * k.toNat + (vi V (vq V m 121) k.toNat).toNat) (q2 : d2 = 8 * k.toNat + (vi V (vq V m 121) k.toNat).toNat) (q3 : d3 = k.toNat) (q4 : z = vi V (vq V m 121) k.toNat + 1) : MSU V V1 m k d w X := by
  subst q1 q2 q3 q4
  exact Or.inr ⟨hX, hk, hd, h8, h0, e1, e2, e3⟩
/-! sure(): the least and the most of them -/
def LSV (f : Nat → Int) (n : Nat) (a : Int) : Prop := (∀ i, i < n → a ≤ f i) ∧ ∃ i, i < n ∧ a = f i
def GSV (f : Nat → Int) (n : Nat) (a : Int) : Prop := (∀ i, i < n → f i ≤ a) ∧ ∃ i, i < n ∧ a = f i
theorem LSV.uniq {f : Nat → Int} {n : Nat} (h : LSV f n a) (g : LSV f n b) : a = b := by
  obtain ⟨h1, i, h2, h3⟩ := h
  obtain ⟨g1, j, g2, g3⟩ := g
  have := h1 j g2
  have := g1 i h2
  omega
theorem GSV.uniq {f : Nat → Int} {n : Nat} (h : GSV f n a) (g : GSV f n b) : a = b := by
  obtain ⟨h1, i, h2, h3⟩ := h
  obtain ⟨g1, j, g2, g3⟩ := g
  have := h1 j g2
  have := g1 i h2
  omega
theorem LSV.one {f : Nat → Int} (h : a = f 0) : LSV f 1 a := ⟨fun i hi => by rw [show i = 0 by omega]; omega, 0, by omega, h⟩
theorem GSV.one {f : Nat → Int} (h : a = f 0) : GSV f 1 a := ⟨fun i hi => by rw [show i = 0 by omega]; omega, 0, by omega, h⟩
theorem LSV.step {f : Nat → Int} {n u : Nat} (h : LSV f n a) (hb : b = f n) (hz : (z = a ∧ a ≤ b) ∨ (z = b ∧ b ≤ a)) (hu : u = n + 1) : LSV f u z := by
  obtain ⟨h1, i, h2, h3⟩ := h
  subst hu
  refine ⟨fun j hj => ?_, ?_⟩
  · by_cases q : j = n
    · rw [q]
      omega
    · have := h1 j (by omega)
      omega
  · rcases hz with q | q
    · exact ⟨i, by omega, by omega⟩
    · exact ⟨n, by omega, by omega⟩
theorem GSV.step {f : Nat → Int} {n u : Nat} (h : GSV f n a) (hb : b = f n) (hz : (z = a ∧ b ≤ a) ∨ (z = b ∧ a ≤ b)) (hu : u = n + 1) : GSV f u z := by
  obtain ⟨h1, i, h2, h3⟩ := h
  subst hu
  refine ⟨fun j hj => ?_, ?_⟩
  · by_cases q : j = n
    · rw [q]
      omega
    · have := h1 j (by omega)
      omega
  · rcases hz with q | q
    · exact ⟨i, by omega, by omega⟩
    · exact ⟨n, by omega, by omega⟩
def SDV (lo hi : Nat → Int) (n : Nat) (X : Int) : Prop := (n = 0 ∧ X = 0) ∨ (0 < n ∧ ∃ a b c, LSV lo n a ∧ GSV lo n b ∧ LSV hi n c ∧ X = if 0 ≤ (if b ≤ c then b else a) then (if b ≤ c then b else a) else 0)
theorem SDV.uniq {lo hi lo' hi' : Nat → Int} {n n' : Nat} (h : SDV lo hi n X) (g : SDV lo' hi' n' Y) (hn : n = n') (hl : ∀ i, i < n → lo i = lo' i) (hh : ∀ i, i < n → hi i = hi' i) : X = Y := by
  subst hn
  have cl : ∀ {f f' : Nat → Int} {a : Int}, (∀ i, i < n → f i = f' i) → LSV f n a → LSV f' n a := fun e ⟨h1, i, h2, h3⟩ => ⟨fun j hj => by rw [← e j hj]; exact h1 j hj, i, h2, by rw [← e i h2]; exact h3⟩
  have cg : ∀ {f f' : Nat → Int} {a : Int}, (∀ i, i < n → f i = f' i) → GSV f n a → GSV f' n a := fun e ⟨h1, i, h2, h3⟩ => ⟨fun j hj => by rw [← e j hj]; exact h1 j hj, i, h2, by rw [← e i h2]; exact h3⟩
  rcases h with ⟨h1, h2⟩ | ⟨h1, a, b, c, h2, h3, h4, h5⟩
  · rcases g with ⟨g1, g2⟩ | ⟨g1, -⟩
    · omega
    · omega
  · rcases g with ⟨g1, g2⟩ | ⟨g1, a', b', c', g2, g3, g4, g5⟩
    · omega
    · rw [h5, g5, (cl hl h2).uniq g2, (cg hl h3).uniq g3, (cl hh h4).uniq g4]
/-- the class's: lo, hi of a site's object -/
def SUC (K : Kmap) (V : Vmap) (o : Nat) (X : Int) : Prop := (V o 15 = .null → X = 0) ∧ (K (snO V o) = some (0, 34) → V o 15 ≠ .null → SDV (fun i => snr V o i 0) (fun i => snr V o i 1) (snz V o).toNat X)
theorem SUC.nul (h : V o 15 = .null) (hX : X = 0) : SUC K V o X := ⟨fun _ => hX, fun _ g => absurd h g⟩
theorem SUC.zro (h : V o 15 = .ref (vq V o 15)) (hz : vi V (vq V o 15) 3 = 0) (hX : X = 0) : SUC K V o X := ⟨fun g => (by rw [h] at g; cases g), fun _ _ => Or.inl ⟨by unfold snz snO; rw [hz]; rfl, hX⟩⟩
/-- what three numbers say of the first i rows -/
def SUI (V : Vmap) (o : Nat) (a b c i : Int) : Prop := 1 ≤ i ∧ i ≤ snz V o ∧ LSV (fun j => snr V o j 0) i.toNat a ∧ GSV (fun j => snr V o j 0) i.toNat b ∧ LSV (fun j => snr V o j 1) i.toNat c
theorem SUI.beg (hW : WT K V) (ht : K (vq V o 15) = some (0, 34)) (hz : 0 < vi V (vq V o 15) 3) (g0 : TG K V (vq V o 15) 0 0 a) (g1 : TG K V (vq V o 15) 0 1 c) : SUI V o a a c 1 := by
  have e0 := tgv_sn hW ht (by decide) (by decide) (by decide) hz g0
  have e1 := tgv_sn hW ht (by decide) (by decide) (by decide) hz g1
  have ez : snz V o = vi V (vq V o 15) 3 := rfl
  exact ⟨by omega, by rw [ez]; omega, LSV.one e0, GSV.one e0, LSV.one e1⟩
theorem SUI.step {A B C a' b' c' : Int} (h : SUI V o a b c i) (hW : WT K V) (ht : K (vq V o 15) = some (0, 34)) (hi : i < vi V (vq V o 15) 3) (g0 : TG K V (vq V o 15) i 0 A) (hA : (a' = a ∧ a ≤ A) ∨ (a' = A ∧ A ≤ a)) (g1 : TG K V (vq V o 15) i 0 B) (hB : (b' = b ∧ B ≤ b) ∨ (b' = B ∧ b ≤ B)) (g2 : TG K V (vq V o 15) i 1 C) (hC : (c' = c ∧ c ≤ C) ∨ (c' = C ∧ C ≤ c)) (hn : n = i + 1) : SUI V o a' b' c' n := by
  obtain ⟨h1, h2, h3, h4, h5⟩ := h
  have e0 := tgv_sn hW ht (by decide) (by decide) (by omega) hi g0
  have e1 := tgv_sn hW ht (by decide) (by decide) (by omega) hi g1
  have e2 := tgv_sn hW ht (by decide) (by decide) (by omega) hi g2
  have ez : snz V o = vi V (vq V o 15) 3 := rfl
  exact ⟨by omega, by rw [ez]; omega, h3.step e0 hA (by omega), h4.step e1 hB (by omega), h5.step e2 hC (by omega)⟩
theorem SUC.mk (h : SUI V o a b c i) (hr : V o 15 = .ref (vq V o 15)) (hi : vi V (vq V o 15) 3 ≤ i) (hX : (b ≤ c ∧ ((0 ≤ b ∧ X = b) ∨ (b ≤ 0 ∧ X = 0))) ∨ (c < b ∧ ((0 ≤ a ∧ X = a) ∨ (a ≤ 0 ∧ X = 0)))) : SUC K V o X := ⟨fun g => (by rw [hr] at g; cases g), fun _ _ => by
  obtain ⟨h1, h2, h3, h4, h5⟩ := h
  have ez : snz V o = vi V (vq V o 15) 3 := rfl
  have e : i = snz V o := by rw [ez] at h2 ⊢; omega
  rw [e] at h1 h3 h4 h5
  refine Or.inr ⟨by omega, a, b, c, h3, h4, h5, ?_⟩
  rcases hX with ⟨q1, q2⟩ | ⟨q1, q2⟩
  · rw [if_pos q1]
    by_cases g : 0 ≤ b
    · rw [if_pos g]
      omega
    · rw [if_neg g]
      omega
  · rw [if_neg (show ¬ b ≤ c by omega)]
    by_cases g : 0 ≤ a
    · rw [if_pos g]
      omega
    · rw [if_neg g]
      omega⟩
def SRC (K : Kmap) (V : Vmap) (x : Nat) (k X : Int) : Prop := NN 6 5 V x → (X = -1 ∧ ¬ PK V x k 4) ∨ (PK V x k 4 ∧ SUC K V (plO V x k.toNat) X)
theorem SRC.no (h : NN 6 5 V x → ¬ PK V x k 4) (hX : X = -1) : SRC K V x k X := fun hN => Or.inl ⟨hX, h hN⟩
theorem SRC.ok (g : o = plO V x k.toNat ∧ PK V x k 4) (h : SUC K V o X) : SRC K V x k X := fun _ => Or.inr ⟨g.2, by rw [← g.1]; exact h⟩
/-- the reference's -/
def mlo (V : Vmap) (m k i : Nat) : Int := ar 122 V m (8 * k + i) - ar 123 V m (8 * k + i)
def mhi (V : Vmap) (m k i : Nat) : Int := ar 122 V m (8 * k + i) + ar 123 V m (8 * k + i)
def SNB (V : Vmap) (m k : Nat) : Prop := ∀ i : Nat, (i : Int) < ar 121 V m k → (1 ≤ ar 122 V m (8 * k + i) ∧ ar 122 V m (8 * k + i) ≤ 5000) ∧ 0 ≤ ar 123 V m (8 * k + i) ∧ ar 123 V m (8 * k + i) ≤ 1000
def MUC (V : Vmap) (m : Nat) (k X : Int) : Prop := SNB V m k.toNat → 0 ≤ k → SDV (mlo V m k.toNat) (mhi V m k.toNat) (ar 121 V m k.toNat).toNat X
theorem MUC.zro (h : vi V (vq V m 121) k.toNat = 0) (hX : X = 0) : MUC V m k X := fun _ _ => Or.inl ⟨by show (vi V (vq V m 121) k.toNat).toNat = 0; rw [h]; rfl, hX⟩
def MUI (V : Vmap) (m : Nat) (k b a c u : Int) : Prop := SNB V m k.toNat → 0 ≤ k → 8 * k ≤ u ∧ u ≤ 8 * k + ar 121 V m k.toNat ∧ ((u = 8 * k ∧ b = -1000000 ∧ a = 1000000 ∧ c = 1000000) ∨ (8 * k < u ∧ LSV (mlo V m k.toNat) (u - 8 * k).toNat a ∧ GSV (mlo V m k.toNat) (u - 8 * k).toNat b ∧ LSV (mhi V m k.toNat) (u - 8 * k).toNat c))
theorem MUI.beg (h : 0 ≤ vi V (vq V m 121) k.toNat) (hu : z = 8 * k) : MUI V m k (-1000000) 1000000 1000000 z := fun _ _ => ⟨by omega, by show z ≤ 8 * k + vi V (vq V m 121) k.toNat; omega, Or.inl ⟨hu, rfl, rfl, rfl⟩⟩
theorem MUI.step {u v D G A B a' b' c' : Int} (h : MUI V m k b a c u) (hu : u < 8 * k + vi V (vq V m 121) k.toNat) (eD : D = vi V (vq V m 122) u.toNat) (eG : G = vi V (vq V m 123) u.toNat) (rA : ir (D - G) → A = D - G) (rB : ir (D + G) → B = D + G) (hb : (A > b ∧ b' = A) ∨ (A ≤ b ∧ b' = b)) (ha : (A < a ∧ a' = A) ∨ (a ≤ A ∧ a' = a)) (hc : (B < c ∧ c' = B) ∨ (c ≤ B ∧ c' = c)) (hv : v = u + 1) : MUI V m k b' a' c' v := fun hs k0 => by
  obtain ⟨h1, h2, h3⟩ := h hs k0
  have hu' : u < 8 * k + ar 121 V m k.toNat := hu
  have ei : 8 * k.toNat + (u - 8 * k).toNat = u.toNat := by omega
  have r := hs (u - 8 * k).toNat (by omega)
  rw [ei] at r
  have eD' : D = ar 122 V m u.toNat := eD
  have eG' : G = ar 123 V m u.toNat := eG
  have a1 := rA ⟨by omega, by omega⟩
  have b1 := rB ⟨by omega, by omega⟩
  have eA : A = mlo V m k.toNat (u - 8 * k).toNat := by
    unfold mlo
    rw [ei]
    omega
  have eB : B = mhi V m k.toNat (u - 8 * k).toNat := by
    unfold mhi
    rw [ei]
    omega
  refine ⟨by omega, by omega, Or.inr ⟨by omega, ?_⟩⟩
  have en : (v - 8 * k).toNat = (u - 8 * k).toNat + 1 := by omega
  rcases h3 with ⟨q1, q2, q3, q4⟩ | ⟨q1, q2, q3, q4⟩
  · have e0 : (u - 8 * k).toNat = 0 := by omega
    rw [e0] at eA eB en
    rw [en]
    have x1 : a' = mlo V m k.toNat 0 := by omega
    have x2 : b' = mlo V m k.toNat 0 := by omega
    have x3 : c' = mhi V m k.toNat 0 := by omega
    exact ⟨LSV.one x1, GSV.one x2, LSV.one x3⟩
  · exact ⟨q2.step eA (by omega) en, q3.step eA (by omega) en, q4.step eB (by omega) en⟩
theorem MUC.mk {u : Int} (h : MUI V m k b a c u) (hu : 8 * k + vi V (vq V m 121) k.toNat ≤ u) (hn : vi V (vq V m 121) k.toNat ≠ 0) (h0 : 0 ≤ vi V (vq V m 121) k.toNat) (hX : (b ≤ c ∧ ((b < 0 ∧ X = 0) ∨ (0 ≤ b ∧ X = b))) ∨ (c < b ∧ ((a < 0 ∧ X = 0) ∨ (0 ≤ a ∧ X = a)))) : MUC V m k X := fun hs k0 => by
  obtain ⟨h1, h2, h3⟩ := h hs k0
  have en : ar 121 V m k.toNat = vi V (vq V m 121) k.toNat := rfl
  have e : (u - 8 * k).toNat = (ar 121 V m k.toNat).toNat := by
    rw [en] at h2 ⊢
    omega
  rcases h3 with ⟨q1, -⟩ | ⟨-, q2, q3, q4⟩
  · omega
  · rw [e] at q2 q3 q4
    refine Or.inr ⟨by rw [en]; omega, a, b, c, q2, q3, q4, ?_⟩
    rcases hX with ⟨p1, p2⟩ | ⟨p1, p2⟩
    · rw [if_pos p1]
      by_cases g : 0 ≤ b
      · rw [if_pos g]
        omega
      · rw [if_neg g]
        omega
    · rw [if_neg (show ¬ b ≤ c by omega)]
      by_cases g : 0 ≤ a
      · rw [if_pos g]
        omega
      · rw [if_neg g]
        omega
def MRC' (V : Vmap) (m : Nat) (k X : Int) : Prop := (X = -1 ∧ ¬ MPK V m k 4) ∨ (MPK V m k 4 ∧ MUC V m k X)
/-! both sides -/
def SOI (V : Vmap) (x : Nat) : Prop := (∀ k : Nat, (k : Int) < vi V x 6 → pkd V x k = 4 → V (plO V x k) 15 ≠ .null) ∧ ∀ i j : Nat, i < j → (j : Int) < vi V x 6 → pkd V x i = 4 → pkd V x j = 4 → snO V (plO V x i) ≠ snO V (plO V x j) ∧ vq V (snO V (plO V x i)) 2 ≠ vq V (snO V (plO V x j)) 2
def SOM (V : Vmap) (x m : Nat) : Prop := (∀ k : Nat, (k : Int) < vi V x 6 → pkd V x k = 4 → snz V (plO V x k) = ar 121 V m k ∧ SNB V m k ∧ ∀ i : Nat, (i : Int) < ar 121 V m k → snr V (plO V x k) i 0 = mlo V m k i ∧ snr V (plO V x k) i 1 = mhi V m k i) ∧ ∀ k : Nat, vi V x 6 ≤ (k : Int) → k < 60 → ar 121 V m k = 0
def SOE (V : Vmap) (x m : Nat) : Prop := SOI V x ∧ SOM V x m
theorem so_at (hW : WT K V) (hx : K x = some (0, 10)) (hN : NN 6 5 V x) (hI : SOI V x) {k : Nat} (hk : (k : Int) < vi V x 6) (h4 : pkd V x k = 4) : K (plO V x k) = some (0, 3) ∧ V (plO V x k) 15 = .ref (snO V (plO V x k)) ∧ K (snO V (plO V x k)) = some (0, 34) := by
  have ho := (pl_at hW hx hN hk).2.2
  rcases hW.nul ho (j := 15) (Nat.le_of_ble_eq_true rfl) rfl with h | h
  · exact absurd h (hI.1 k hk h4)
  · exact ⟨ho, h.1, h.2⟩
/-- what a call leaves of the soundings -/
def SOS (V V1 : Vmap) (x : Nat) : Prop := ∀ k : Nat, (k : Int) < vi V x 6 → plO V1 x k = plO V x k ∧ pkd V1 x k = pkd V x k ∧ (pkd V x k = 4 → V1 (plO V x k) 15 = V (plO V x k) 15 ∧ snz V1 (plO V x k) = snz V (plO V x k) ∧ vq V1 (snO V (plO V x k)) 2 = vq V (snO V (plO V x k)) 2 ∧ ∀ i c, snr V1 (plO V x k) i c = snr V (plO V x k) i c)
def sobits (ws : Nat) : Bool := [keyK (0, 3) 0, keyK (0, 3) 15, keyK (0, 34) 2, keyK (0, 34) 3, abase + 157].all fun b => !ws.testBit b
theorem SOS.fr {ws : Nat} (hF : FR ws K V K1 V1) (hE : ext K K1) (hW : WT K V) (hx : K x = some (0, 10)) (hN : NN 6 5 V x) (hI : SOI V x) (hp : ∀ k : Nat, (k : Int) < vi V x 6 → plO V1 x k = plO V x k) (hb : sobits ws = true) : SOS V V1 x := fun k hk => by
  simp only [sobits, List.all_cons, List.all_nil, Bool.and_true, Bool.and_eq_true, Bool.not_eq_true'] at hb
  obtain ⟨c0, c15, t2, t3, a⟩ := hb
  have ho := (pl_at hW hx hN hk).2.2
  have ho1 := hE.obj (Or.inl (by decide)) ho
  have ep := hp k hk
  have ek : pkd V1 x k = pkd V x k := by
    unfold pkd
    rw [ep]
    exact vi_fr hF ho ho1 c0
  refine ⟨ep, ek, fun h4 => ?_⟩
  obtain ⟨-, h15, ht⟩ := so_at hW hx hN hI hk h4
  have ht1 := hE.obj (Or.inr (by decide)) ht
  have hc := (sn_tab hW ht).1
  have e15 : V1 (plO V x k) 15 = V (plO V x k) 15 := hF _ _ 15 ho ho1 c15
  have eo : snO V1 (plO V x k) = snO V (plO V x k) := vq_eq e15
  have e2 : vq V1 (snO V (plO V x k)) 2 = vq V (snO V (plO V x k)) 2 := vq_eq (hF _ _ 2 ht ht1 t2)
  refine ⟨e15, ?_, e2, fun i c => ?_⟩
  · unfold snz
    rw [eo]
    exact vi_fr hF ht ht1 t3
  · unfold snr
    rw [eo, e2]
    exact vi_frA hF hc (hE.arr hc) a
/-- as many places as before, or one more that is no site -/
theorem SOE.same (h : SOE V x m) (f : SOS V V1 x) (h6 : vi V x 6 ≤ vi V1 x 6) (hnew : ∀ k : Nat, vi V x 6 ≤ (k : Int) → (k : Int) < vi V1 x 6 → pkd V1 x k ≠ 4) (e121 : ar 121 V1 m = ar 121 V m) (e122 : ar 122 V1 m = ar 122 V m) (e123 : ar 123 V1 m = ar 123 V m) : SOE V1 x m := by
  obtain ⟨⟨h1, h2⟩, h3, h4⟩ := h
  have old : ∀ k : Nat, (k : Int) < vi V1 x 6 → pkd V1 x k = 4 → (k : Int) < vi V x 6 ∧ pkd V x k = 4 := fun k hk q => by
    by_cases g : (k : Int) < vi V x 6
    · exact ⟨g, by rw [← (f k g).2.1]; exact q⟩
    · exact absurd q (hnew k (by omega) hk)
  refine ⟨⟨fun k hk q => ?_, fun i j hij hj qi qj => ?_⟩, fun k hk q => ?_, fun k hk h60 => ?_⟩
  · obtain ⟨g1, g2⟩ := old k hk q
    obtain ⟨f1, -, f3⟩ := f k g1
    rw [f1, (f3 g2).1]
    exact h1 k g1 g2
  · obtain ⟨g1, g2⟩ := old j hj qj
    obtain ⟨g3, g4⟩ := old i (by omega) qi
    obtain ⟨f1, -, f3⟩ := f j g1
    obtain ⟨f4, -, f6⟩ := f i g3
    have p1 := f3 g2
    have p2 := f6 g4
    have o1 : snO V1 (plO V x j) = snO V (plO V x j) := vq_eq p1.1
    have o2 : snO V1 (plO V x i) = snO V (plO V x i) := vq_eq p2.1
    rw [f1, f4, o1, o2, p1.2.2.1, p2.2.2.1]
    exact h2 i j hij g1 g4 g2
  · obtain ⟨g1, g2⟩ := old k hk q
    obtain ⟨f1, -, f3⟩ := f k g1
    have p1 := f3 g2
    have r := h3 k g1 g2
    unfold SNB mlo mhi at r ⊢
    rw [f1, e121, e122, e123, p1.2.1]
    refine ⟨r.1, r.2.1, fun i hi => ?_⟩
    rw [p1.2.2.2, p1.2.2.2]
    exact r.2.2 i hi
  · rw [e121]
    exact h4 k (by omega) h60
end SO
