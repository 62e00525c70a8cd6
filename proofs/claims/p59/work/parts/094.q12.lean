/-! ### ways for sledges: the class's methods, the reference's methods -/
section Q12
variable {K K0 K1 K2 : Kmap} {V V0 V1 V2 V3 W W0 W1 W2 : Vmap} {x m o q f N l : Nat} {i j n e d p a b c w h y z u v t s X Y Z A B E P T M : Int} {D : Int → Int}
abbrev lG (V : Vmap) (l : Nat) : Int → Int := rgv V (vq V l 6) 144
abbrev lH (V : Vmap) (l : Nat) : Int → Int := rgv V (vq V l 5) 144
abbrev lR (V : Vmap) (l : Nat) : Int → Int := rgv V (vq V l 11) 144
abbrev lC (V : Vmap) (l : Nat) : Int → Int := rgv V (vq V l 12) 144
def HB (V : Vmap) (l : Nat) : Prop := ∀ z, 0 ≤ lH V l z ∧ lH V l z ≤ 40
theorem wh_144 (hW : WT K V) (hl : K l = some (0, 0)) : 0 < vi V l 3 ∧ 0 < vi V l 4 ∧ vi V l 3 * vi V l 4 ≤ 144 ∧ 0 ≤ vi V l 3 * vi V l 4 := by
  have h3 := (hW.int hl (j := 3) (Nat.le_of_ble_eq_true rfl) rfl).2
  have h4 := (hW.int hl (j := 4) (Nat.le_of_ble_eq_true rfl) rfl).2
  have := Int.mul_le_mul h3.2 h4.2 (by omega) (by omega)
  exact ⟨by omega, by omega, by omega, Int.mul_nonneg (by omega) (by omega)⟩
def SPP (V V1 : Vmap) (l : Nat) (u v : Int) : Prop := HB V l → 0 ≤ lR V l u → lR V l u ≤ 6000 → STQ (lG V l) (lH V l) (vi V l 3) (vi V l 4) (lR V l) (rgv V1 (vq V l 11) 144) u v
theorem SPP.no (f : Y ≠ 0 ↔ (0 ≤ v ∧ v < vi V l 3 * vi V l 4) ∧ (lG V l v = 0 ∨ lG V l v = 1)) (hY : Y = 0) : SPP V V l u v := fun _ _ _ => Or.inl ⟨fun g => absurd hY (f.mpr g), rfl⟩
theorem spp_z (hB : HB V l) (r0 : 0 ≤ lR V l u) (r1 : lR V l u ≤ 6000) (eA : A = lH V l u) (eB : B = lH V l v) (h1 : p = wr (A - B)) (ha : ABS p c) (eE : E = lR V l u) (h2 : P = wr (E + 1)) (h3 : z = wr (P + c)) : z = lR V l u + (1 + dif (lH V l u) (lH V l v)) := by
  have bu := hB u
  have bv := hB v
  rw [← eA] at bu
  rw [← eB] at bv
  rw [← eE] at r0 r1
  rw [← eA, ← eB, ← eE]
  have e1 : wr (A - B) = A - B := wr_id ⟨by omega, by omega⟩
  have e2 : wr (E + 1) = E + 1 := wr_id ⟨by omega, by omega⟩
  rw [e1] at h1
  rw [e2] at h2
  have ec : c = dif A B := by
    unfold dif
    by_cases g : A ≤ B
    · rw [if_pos g]
      by_cases g2 : 0 ≤ p
      · have := ha.1 g2
        omega
      · have := ha.2 (by omega) (by omega)
        omega
    · rw [if_neg g]
      have := ha.1 (by omega)
      omega
  have bd := dif_rg bu bv
  rw [← ec] at bd ⊢
  have e3 : wr (P + c) = P + c := wr_id ⟨by omega, by omega⟩
  omega
theorem SPP.put (hW : WT K V) (hl : K l = some (0, 0)) (f : Y ≠ 0 ↔ (0 ≤ v ∧ v < vi V l 3 * vi V l 4) ∧ (lG V l v = 0 ∨ lG V l v = 1)) (hY : Y ≠ 0) (eA : A = lH V l u) (eB : B = lH V l v) (h1 : p = wr (A - B)) (ha : ABS p c) (eE : E = lR V l u) (h2 : P = wr (E + 1)) (h3 : z = wr (P + c)) (eX : X = lR V l v) (hc : X = -1 ∨ z < X) (e : V1 = rpv V (vq V l 11) 144 v z) : SPP V V1 l u v := fun hB r0 r1 => by
  have ez := spp_z hB r0 r1 eA eB h1 ha eE h2 h3
  have fv := f.mp hY
  obtain ⟨w1, w2, w3, w4⟩ := wh_144 hW hl
  have rz : ir z := by rw [h3]; exact wr_ir
  have er := (rpv_row e fv.1.1 (by omega) rz).1
  refine Or.inr (Or.inl ⟨fv, ?_, ?_⟩)
  · rw [← ez, ← eX]
    exact hc
  · rw [← ez]
    exact funext er
theorem SPP.keep (f : Y ≠ 0 ↔ (0 ≤ v ∧ v < vi V l 3 * vi V l 4) ∧ (lG V l v = 0 ∨ lG V l v = 1)) (hY : Y ≠ 0) (eA : A = lH V l u) (eB : B = lH V l v) (h1 : p = wr (A - B)) (ha : ABS p c) (eE : E = lR V l u) (h2 : P = wr (E + 1)) (h3 : z = wr (P + c)) (eT : T = lR V l v) (hT : T ≠ -1) (eX : X = lR V l v) (hc : X ≤ z) : SPP V V l u v := fun hB r0 r1 => by
  have ez := spp_z hB r0 r1 eA eB h1 ha eE h2 h3
  refine Or.inr (Or.inr ⟨f.mp hY, ?_, rfl⟩)
  rw [← ez, ← eX]
  rintro (g | g)
  · omega
  · omega
/-! what is nearest -/
def NEJ (R C : Int → Int) (b c : Int) : Prop := (b = -1 ∧ ∀ u, 0 ≤ u → u < c → ¬ (R u ≠ -1 ∧ C u = 0)) ∨ ((0 ≤ b ∧ b < c) ∧ R b ≠ -1 ∧ C b = 0 ∧ ∀ u, 0 ≤ u → u < c → R u ≠ -1 → C u = 0 → R b ≤ R u)
theorem NEJ.beg {R C : Int → Int} : NEJ R C (-1) 0 := Or.inl ⟨rfl, fun u u0 u1 => by omega⟩
theorem NEJ.no {R C : Int → Int} (h : NEJ R C b c) (c0 : 0 ≤ c) (hc : ¬ (R c ≠ -1 ∧ C c = 0)) (hn : n = c + 1) : NEJ R C b n := by
  rcases h with ⟨h1, h2⟩ | ⟨h1, h2, h3, h4⟩
  · refine Or.inl ⟨h1, fun u u0 u1 => ?_⟩
    by_cases q : u = c
    · rw [q]
      exact hc
    · exact h2 u u0 (by omega)
  · refine Or.inr ⟨⟨h1.1, by omega⟩, h2, h3, fun u u0 u1 g1 g2 => ?_⟩
    by_cases q : u = c
    · rw [q] at g1 g2
      exact absurd ⟨g1, g2⟩ hc
    · exact h4 u u0 (by omega) g1 g2
theorem NEJ.n1 {R C : Int → Int} (h : NEJ R C b c) (eX : X = R c) (hX : X = -1) (c0 : 0 ≤ c) (hn : n = c + 1) : NEJ R C b n := h.no c0 (fun g => g.1 (eX.symm.trans hX)) hn
theorem NEJ.n2 {R C : Int → Int} (h : NEJ R C b c) (eX : X = C c) (hX : X ≠ 0) (c0 : 0 ≤ c) (hn : n = c + 1) : NEJ R C b n := h.no c0 (fun g => hX (eX.trans g.2)) hn
theorem NEJ.new1 {R C : Int → Int} (h : NEJ R C b c) (hb : b = -1) (eX : X = R c) (hX : X ≠ -1) (eY : Y = C c) (hY : Y = 0) (c0 : 0 ≤ c) (hn : n = c + 1) : NEJ R C c n := by
  rcases h with ⟨h1, h2⟩ | ⟨h1, -⟩
  · refine Or.inr ⟨⟨c0, by omega⟩, fun g => hX (eX.trans g), eY.symm.trans hY, fun u u0 u1 g1 g2 => ?_⟩
    by_cases q : u = c
    · rw [q]
      exact Int.le_refl _
    · exact absurd ⟨g1, g2⟩ (h2 u u0 (by omega))
  · omega
theorem NEJ.new2 {R C : Int → Int} (h : NEJ R C b c) (hb : b ≠ -1) (eX : X = R c) (hX : X ≠ -1) (eY : Y = C c) (hY : Y = 0) (eZ : Z = R b) (hZ : X < Z) (c0 : 0 ≤ c) (hn : n = c + 1) : NEJ R C c n := by
  rcases h with ⟨h1, h2⟩ | ⟨h1, h2, h3, h4⟩
  · exact absurd h1 hb
  · refine Or.inr ⟨⟨c0, by omega⟩, fun g => hX (eX.trans g), eY.symm.trans hY, fun u u0 u1 g1 g2 => ?_⟩
    by_cases q : u = c
    · rw [q]
      exact Int.le_refl _
    · have := h4 u u0 (by omega) g1 g2
      omega
theorem NEJ.keep {R C : Int → Int} (h : NEJ R C b c) (hb : b ≠ -1) (eX : X = R c) (eZ : Z = R b) (hZ : Z ≤ X) (hn : n = c + 1) : NEJ R C b n := by
  rcases h with ⟨h1, h2⟩ | ⟨h1, h2, h3, h4⟩
  · exact absurd h1 hb
  · refine Or.inr ⟨⟨h1.1, by omega⟩, h2, h3, fun u u0 u1 g1 g2 => ?_⟩
    by_cases q : u = c
    · rw [q]
      omega
    · exact h4 u u0 (by omega) g1 g2
def NEP (V : Vmap) (l : Nat) (X : Int) : Prop := NEO (vi V l 3) (vi V l 4) (lR V l) (lC V l) X
theorem NEJ.end (h : NEJ (lR V l) (lC V l) b c) (hc : vi V l 3 * vi V l 4 ≤ c) (hc2 : c ≤ vi V l 3 * vi V l 4) : NEP V l b := by
  have e : c = vi V l 3 * vi V l 4 := by omega
  rw [e] at h
  rcases h with ⟨h1, h2⟩ | ⟨h1, h2, h3, h4⟩
  · exact Or.inl ⟨h1, fun u hu => h2 u hu.1 hu.2⟩
  · exact Or.inr ⟨h1, h2, h3, fun u hu g1 g2 => h4 u hu.1 hu.2 g1 g2⟩
/-! the search -/
/-- what of the land stays -/
def LDW (V W : Vmap) (l : Nat) : Prop := vi W l 3 = vi V l 3 ∧ vi W l 4 = vi V l 4 ∧ vq W l 5 = vq V l 5 ∧ vq W l 6 = vq V l 6 ∧ vq W l 11 = vq V l 11 ∧ vq W l 12 = vq V l 12 ∧ lH W l = lH V l ∧ lG W l = lG V l
theorem ld_row (hW : WT K V) (hl : K l = some (0, 0)) : K (vq V l 5) = some (125 + 1, 144) ∧ K (vq V l 6) = some (126 + 1, 144) ∧ K (vq V l 11) = some (129 + 1, 144) ∧ K (vq V l 12) = some (130 + 1, 144) := by
  have key : ∀ s T : Nat, (∃ N, K (vq V l s) = some (T + 1, N)) → lentab.getD T 0 = 144 → K (vq V l s) = some (T + 1, 144) := fun s T ⟨N, hC⟩ hT => by
    have hN : N = 144 := by
      rcases (hW.len hC).2.2 with g | g
      · rw [hT] at g
        cases g
      · rw [hT] at g
        exact g
    rw [hN] at hC
    exact hC
  exact ⟨key 5 125 (hW.ref hl (j := 5) (Nat.le_of_ble_eq_true rfl) rfl).2 (by decide), key 6 126 (hW.ref hl (j := 6) (Nat.le_of_ble_eq_true rfl) rfl).2 (by decide), key 11 129 (hW.ref hl (j := 11) (Nat.le_of_ble_eq_true rfl) rfl).2 (by decide), key 12 130 (hW.ref hl (j := 12) (Nat.le_of_ble_eq_true rfl) rfl).2 (by decide)⟩
def lwbit2 (ws : Nat) : Bool := [keyK (0, 0) 3, keyK (0, 0) 4, keyK (0, 0) 5, keyK (0, 0) 6, keyK (0, 0) 11, keyK (0, 0) 12, abase + 126, abase + 127].all fun b => !ws.testBit b
theorem LDW.fr {ws : Nat} (hF : FR ws K V K V1) (hW : WT K V) (hl : K l = some (0, 0)) (hb : lwbit2 ws = true) : LDW V V1 l := by
  simp only [lwbit2, List.all_cons, List.all_nil, Bool.and_true, Bool.and_eq_true, Bool.not_eq_true'] at hb
  obtain ⟨c3, c4, c5, c6, c11, c12, a5, a6⟩ := hb
  obtain ⟨k5, k6, -, -⟩ := ld_row hW hl
  have e5 : vq V1 l 5 = vq V l 5 := vq_eq (hF _ _ 5 hl hl c5)
  have e6 : vq V1 l 6 = vq V l 6 := vq_eq (hF _ _ 6 hl hl c6)
  refine ⟨vi_fr hF hl hl c3, vi_fr hF hl hl c4, e5, e6, vq_eq (hF _ _ 11 hl hl c11), vq_eq (hF _ _ 12 hl hl c12), ?_, ?_⟩
  · funext z
    unfold lH rgv
    rw [e5]
    split
    · exact vi_frA hF k5 k5 a5
    · rfl
  · funext z
    unfold lG rgv
    rw [e6]
    split
    · exact vi_frA hF k6 k6 a6
    · rfl
def LDL (V W : Vmap) (l : Nat) (a i : Int) : Prop := HB V l → cel (vi V l 3) (vi V l 4) a → ∀ D, RFP (lG V l) (lH V l) (vi V l 3) (vi V l 4) a D → DJI (lG V l) (lH V l) (vi V l 3) (vi V l 4) a D (rgv W (vq V l 11) 144) (rgv W (vq V l 12) 144) i
def LDK (V W : Vmap) (l : Nat) (a i c t : Int) : Prop := HB V l → cel (vi V l 3) (vi V l 4) a → ∀ D, RFP (lG V l) (lH V l) (vi V l 3) (vi V l 4) a D → DJS (lG V l) (lH V l) (vi V l 3) (vi V l 4) a D (rgv W (vq V l 11) 144) (rgv W (vq V l 12) 144) i c t
theorem rgv_fll (h : FLL V V1 q 144 c) (z : Int) : rgv V1 q 144 z = if 0 ≤ z ∧ z < 144 then c else 0 := rgv_all h.1 z
theorem LDL.beg (hW : WT K V) (hl : K l = some (0, 0)) (f1 : FLL V W (vq V l 11) 144 (-1)) (f2 : FLL W W1 (vq V l 12) 144 0) (f3 : W2 = rpv W1 (vq V l 11) 144 a 0) : LDL V W2 l a 0 := fun _ ha D hD => by
  obtain ⟨w1, w2, w3, w4⟩ := wh_144 hW hl
  obtain ⟨-, -, k11, k12⟩ := ld_row hW hl
  have n : vq V l 11 ≠ vq V l 12 := K_ne k11 k12 (by decide)
  have a1 : a < 144 := by unfold cel at ha; omega
  obtain ⟨g1, g2⟩ := rpv_row f3 ha.1 a1 (ir_c rfl)
  refine DJI.beg ha hD (fun u hu => ?_) (fun u hu => ?_)
  · rw [g1]
    unfold pt1
    by_cases q : u = a
    · rw [if_pos q, if_pos q]
    · rw [if_neg q, if_neg q]
      have e : rgv W1 (vq V l 11) 144 u = rgv W (vq V l 11) 144 u := by
        unfold rgv vi
        rw [f2.2 _ n]
      rw [e, rgv_fll f1, if_pos ⟨hu.1, by unfold cel at hu; omega⟩]
  · have e : rgv W2 (vq V l 12) 144 u = rgv W1 (vq V l 12) 144 u := by
      unfold rgv vi
      rw [g2 _ (Ne.symm n)]
    rw [e, rgv_fll f2]
    split <;> rfl
theorem LDK.beg (h : LDL V W l a i) (hs : LDW V W l) (hW : WT K V) (hl : K l = some (0, 0)) (hN : NEP W l Y) (hY : Y ≠ -1) (i1 : i < 144) (e : W1 = rpv W (vq W l 12) 144 Y 1) : LDK V W1 l a i Y 0 := fun hB ha D hD => by
  obtain ⟨s3, s4, s5, s6, s11, s12, sH, sG⟩ := hs
  obtain ⟨w1, w2, w3, w4⟩ := wh_144 hW hl
  obtain ⟨-, -, k11, k12⟩ := ld_row hW hl
  have n : vq V l 11 ≠ vq V l 12 := K_ne k11 k12 (by decide)
  have hJ := h hB ha D hD
  unfold NEP lR lC at hN
  rw [s3, s4, s11, s12] at hN
  rw [s12] at e
  have hYc : cel (vi V l 3) (vi V l 4) Y := by
    rcases hN with ⟨q, -⟩ | ⟨q, -⟩
    · exact absurd q hY
    · exact q
  obtain ⟨g1, g2⟩ := rpv_row e hYc.1 (by unfold cel at hYc; omega) (ir_c rfl)
  have eR : rgv W1 (vq V l 11) 144 = rgv W (vq V l 11) 144 := by
    funext u
    unfold rgv vi
    rw [g2 _ n]
  rw [eR]
  exact DJS.beg w1 hB hD hJ hN hY i1 (by rw [g1]; unfold pt1; rw [if_pos rfl]; decide) (fun u hu => by rw [g1]; unfold pt1; rw [if_neg hu])
theorem LDK.step {ws : Nat} (h : LDK V W l a i c t) (hs : LDW V W l) (hW : WT K V) (hWW : WT K W) (hl : K l = some (0, 0)) (hb : BES W l c t X) (hq : SPP W W1 l c X) (hF : FR ws K W K W1) (hbit : Nat.testBit ws (abase + 131) = false) (t0 : 0 ≤ t) (t8 : t < 8) (i0 : 0 ≤ i) (i1 : i < 144) (hn : n = t + 1) : LDK V W1 l a i c n := fun hB ha D hD => by
  obtain ⟨s3, s4, s5, s6, s11, s12, sH, sG⟩ := hs
  obtain ⟨w1, w2, w3, w4⟩ := wh_144 hW hl
  obtain ⟨-, -, -, k12⟩ := ld_row hWW hl
  have hJ := h hB ha D hD
  have hJ' := hJ
  obtain ⟨⟨c1, c2, c3, c4, c5⟩, -⟩ := hJ'
  have c0 := (hD.2.1 c c1).1
  have eX : X = bsd (vi V l 3) (vi V l 4) c t := by
    rw [← s3, ← s4]
    exact hb.1 (by rw [s3, s4]; exact c1) t0 (by omega)
  have hB' : HB W l := fun z => by
    show 0 ≤ lH W l z ∧ lH W l z ≤ 40
    rw [sH]
    exact hB z
  have q := hq hB' (by show 0 ≤ rgv W (vq W l 11) 144 c; rw [s11]; omega) (by show rgv W (vq W l 11) 144 c ≤ 6000; rw [s11]; omega)
  unfold lR at q
  rw [sH, sG, s3, s4, s11] at q
  have eC : rgv W1 (vq V l 12) 144 = rgv W (vq V l 12) 144 := by
    funext u
    unfold rgv
    split
    · rw [← s12]
      exact vi_frA hF k12 k12 hbit
    · rfl
  rw [eC]
  exact hJ.step w1 hB hD ha t0 t8 i1 eX q hn
theorem LDL.next (h : LDK V W l a i c t) (ht : 8 ≤ t) (hn : n = i + 1) : LDL V W l a n := fun hB ha D hD => (h hB ha D hD).end ht hn
def LDY (V : Vmap) (l : Nat) (a b X : Int) : Prop := HB V l → cel (vi V l 3) (vi V l 4) a → cel (vi V l 3) (vi V l 4) b → ∀ D, RFP (lG V l) (lH V l) (vi V l 3) (vi V l 4) a D → LDO D b X
theorem LDY.no (f : Y ≠ 0 ↔ (0 ≤ b ∧ b < vi W l 3 * vi W l 4)) (hY : Y = 0) (hs : LDW V W l) : LDY V l a b X := fun _ _ hb => by
  refine absurd hY (f.mpr ?_)
  rw [hs.1, hs.2.1]
  exact hb
theorem LDY.mk (h : LDL V W l a i) (hs : LDW V W l) (hW : WT K V) (hl : K l = some (0, 0)) (hN : NEP W l Y) (hY : Y = -1 ∨ Y = b) (i1 : i ≤ 144) (eX : X = rgv W (vq W l 11) 144 b) : LDY V l a b X := fun hB ha hb D hD => by
  obtain ⟨s3, s4, s5, s6, s11, s12, sH, sG⟩ := hs
  obtain ⟨w1, w2, w3, w4⟩ := wh_144 hW hl
  unfold NEP lR lC at hN
  rw [s3, s4, s11, s12] at hN
  rw [s11] at eX
  exact dji_end w1 hB hD (h hB ha D hD) hN hY hb i1 eX
theorem LDY.full (h : LDL V W l a i) (hs : LDW V W l) (hW : WT K V) (hl : K l = some (0, 0)) (hi : 144 ≤ i) (i1 : i ≤ 144) (eX : X = rgv W (vq W l 11) 144 b) : LDY V l a b X := fun hB ha hb D hD => by
  obtain ⟨s3, s4, s5, s6, s11, s12, sH, sG⟩ := hs
  obtain ⟨w1, w2, w3, w4⟩ := wh_144 hW hl
  rw [s11] at eX
  have hJ := h hB ha D hD
  exact dji_end w1 hB hD hJ (dji_full w4 w3 hJ hi) (Or.inl rfl) hb i1 eX
/-! the reference's -/
abbrev mG (V : Vmap) (m : Nat) : Int → Int := rgv V (vq V m 6) 144
abbrev mH (V : Vmap) (m : Nat) : Int → Int := rgv V (vq V m 5) 144
abbrev mD (V : Vmap) (m : Nat) : Int → Int := rgv V (vq V m 117) 144
/-- what stays -/
def MGW (V W : Vmap) (m : Nat) : Prop := vi W m 0 = vi V m 0 ∧ vi W m 1 = vi V m 1 ∧ mH W m = mH V m ∧ mG W m = mG V m
/-- days that no step shortens by more than it takes: the first part -/
def RFA (G H : Int → Int) (w h a : Int) (D : Int → Int) : Prop := D a = 0 ∧ (∀ u, cel w h u → 0 ≤ D u ∧ D u ≤ 1000000) ∧ ∀ v, cel w h v → v ≠ a → D v < 1000000 → ∃ u c, cel w h u ∧ edg G H w h u v c ∧ D u + c ≤ D v
/-- the steps of the cells below u, and of u those below t, fit -/
def RFB (G H : Int → Int) (w h : Int) (D : Int → Int) (u t : Int) : Prop := ∀ u' s : Int, cel w h u' → 0 ≤ s → s ≤ 7 → (u' < u ∨ (u' = u ∧ s < t)) → bsd w h u' s ≠ -1 → (G (bsd w h u' s) = 0 ∨ G (bsd w h u' s) = 1) → D u' < 1000000 → D (bsd w h u' s) ≤ D u' + (1 + dif (H u') (H (bsd w h u' s)))
theorem RFB.all {G H : Int → Int} (ha : RFA G H w h a D) (hb : RFB G H w h D u t) (hu : w * h ≤ u) : RFP G H w h a D := by
  refine ⟨ha.1, ha.2.1, fun v v' c hv he hF => ?_, ha.2.2⟩
  obtain ⟨s, s0, s7, e1, e2, e3, e4⟩ := he
  rw [e1] at e2 e3 e4 ⊢
  rw [e4]
  exact hb v s hv s0 s7 (Or.inl (by unfold cel at hv; omega)) e2 e3 hF
theorem RFB.beg {G H : Int → Int} : RFB G H w h D 0 0 := fun u' s hu s0 s7 hs => by
  unfold cel at hu
  omega
theorem RFB.row {G H : Int → Int} (hb : RFB G H w h D u t) (ht : 8 ≤ t ∨ 1000000 ≤ D u) (hn : n = u + 1) : RFB G H w h D n 0 := fun u' s hu s0 s7 hs h1 h2 h3 => by
  by_cases q : u' = u
  · subst q
    rcases ht with g | g
    · exact hb u' s hu s0 s7 (Or.inr ⟨rfl, by omega⟩) h1 h2 h3
    · omega
  · exact hb u' s hu s0 s7 (Or.inl (by omega)) h1 h2 h3
theorem RFB.one {G H : Int → Int} (hb : RFB G H w h D u t) (h1 : bsd w h u t = -1 ∨ ¬ (G (bsd w h u t) = 0 ∨ G (bsd w h u t) = 1) ∨ D (bsd w h u t) ≤ D u + (1 + dif (H u) (H (bsd w h u t)))) (hn : n = t + 1) : RFB G H w h D u n := fun u' s hu s0 s7 hs g1 g2 g3 => by
  by_cases q : u' = u ∧ s = t
  · obtain ⟨q1, q2⟩ := q
    subst q1 q2
    rcases h1 with g | g | g
    · exact absurd g g1
    · exact absurd g2 g
    · exact g
  · exact hb u' s hu s0 s7 (by
      rcases hs with g | g
      · exact Or.inl g
      · refine Or.inr ⟨g.1, ?_⟩
        have : s ≠ t := fun e => q ⟨g.1, e⟩
        omega) g1 g2 g3
theorem RFA.put {G H : Int → Int} (hw : 0 < w) (hH : ∀ u, 0 ≤ H u ∧ H u ≤ 40) (ha : RFA G H w h a D) (hu : cel w h u) (t0 : 0 ≤ t) (t7 : t ≤ 7) (hv : v = bsd w h u t) (h1 : v ≠ -1) (h2 : G v = 0 ∨ G v = 1) (hF : D u < 1000000) (hz : z = D u + (1 + dif (H u) (H v))) (hlt : z < D v) : RFA G H w h a (pt1 D v z) := by
  obtain ⟨a1, a2, a3⟩ := ha
  have he : edg G H w h u v (1 + dif (H u) (H v)) := ⟨t, t0, t7, hv, h1, h2, rfl⟩
  have hc := edg_rg hH he
  have bu := a2 u hu
  have hvc := edg_cel hw he
  have bv := a2 v hvc
  have nav : a ≠ v := fun e => by
    rw [← e, a1] at hlt
    omega
  have le : ∀ y, cel w h y → pt1 D v z y ≤ D y := fun y hy => by
    unfold pt1
    split
    · rename_i q
      rw [q]
      omega
    · exact Int.le_refl _
  have nuv : u ≠ v := fun e => by
    rw [← e] at hlt
    omega
  refine ⟨by unfold pt1; rw [if_neg nav]; exact a1, fun y hy => ?_, fun y hy ny hF' => ?_⟩
  · unfold pt1
    split
    · omega
    · exact a2 y hy
  · by_cases q : y = v
    · subst q
      refine ⟨u, _, hu, he, ?_⟩
      unfold pt1
      rw [if_neg nuv, if_pos rfl]
      omega
    · unfold pt1 at hF'
      rw [if_neg q] at hF'
      obtain ⟨u', c, b1, b2, b3⟩ := a3 y hy ny hF'
      refine ⟨u', c, b1, b2, ?_⟩
      have := le u' b1
      have e : pt1 D v z y = D y := by unfold pt1; rw [if_neg q]
      omega
theorem RFA.beg {G H : Int → Int} (ha : cel w h a) (h1 : ∀ u, cel w h u → D u = if u = a then 0 else 1000000) : RFA G H w h a D := by
  refine ⟨by rw [h1 a ha, if_pos rfl], fun u hu => ?_, fun v hv nv hF => ?_⟩
  · rw [h1 u hu]
    split <;> omega
  · rw [h1 v hv, if_neg nv] at hF
    omega
end Q12
