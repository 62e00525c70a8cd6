/-! ### ways for sledges: the reference's loops -/
section Q13
variable {K K0 K1 K2 : Kmap} {V V0 V1 V2 V3 W W0 W1 W2 : Vmap} {x m o q f N l : Nat} {i j n e d p a b c w h y z u v t s r X Y Z A B E P T M : Int} {D : Int → Int}
def HBm (V : Vmap) (m : Nat) : Prop := ∀ z, 0 ≤ mH V m z ∧ mH V m z ≤ 40
def MGI (V : Vmap) (m : Nat) (a i : Int) : Prop := ∀ j : Nat, (j : Int) < i → ar 117 V m j = if (j : Int) = a then 0 else 1000000
theorem MGI.beg : MGI V m a 0 := fun j hj => by omega
theorem MGI.step {k : Nat} (h : MGI V m a i) (e : ar 117 V1 m = updf (ar 117 V m) k z) (hk : k = i.toNat) (i0 : 0 ≤ i) (hz : (i = a ∧ z = 0) ∨ (i ≠ a ∧ z = 1000000)) (hn : n = i + 1) : MGI V1 m a n := fun j hj => by
  rw [e]
  by_cases q : j = k
  · rw [q, updf_at]
    rcases hz with ⟨g1, g2⟩ | ⟨g1, g2⟩
    · rw [if_pos (by omega), g2]
    · rw [if_neg (by omega), g2]
  · rw [updf_of q]
    exact h j (by omega)
theorem md_put {k : Nat} (e : ar 117 V1 m = updf (ar 117 V m) k z) (hk : k = v.toNat) (v0 : 0 ≤ v) (v1 : v < 144) : mD V1 m = pt1 (mD V m) v z := by
  funext y
  unfold pt1
  unfold mD rgv
  by_cases q : y = v
  · rw [if_pos q, if_pos (by omega)]
    have := congrFun e y.toNat
    rw [show y.toNat = k by omega, updf_at] at this
    rw [show y.toNat = k by omega]
    exact this
  · rw [if_neg q]
    split
    · have := congrFun e y.toNat
      rw [updf_of (by omega)] at this
      exact this
    · rfl
theorem wh_m (hW : WT K V) (hm : K m = some (0, 11)) : 0 < vi V m 0 ∧ vi V m 0 * vi V m 1 ≤ 144 := by
  have h3 := (hW.int hm (j := 0) (Nat.le_of_ble_eq_true rfl) rfl).2
  have h4 := (hW.int hm (j := 1) (Nat.le_of_ble_eq_true rfl) rfl).2
  have := Int.mul_le_mul h3.2 h4.2 (by omega) (by omega)
  exact ⟨by omega, by omega⟩
theorem MGW.rf : MGW V V m := ⟨rfl, rfl, rfl, rfl⟩
def mgbits (ws : Nat) : Bool := [keyK (0, 11) 0, keyK (0, 11) 1, keyK (0, 11) 5, keyK (0, 11) 6, abase + 10, abase + 11].all fun b => !ws.testBit b
theorem MGW.fr {ws : Nat} (hF : FR ws K V K V1) (hW : WT K V) (hm : K m = some (0, 11)) (hb : mgbits ws = true) : MGW V V1 m := by
  simp only [mgbits, List.all_cons, List.all_nil, Bool.and_true, Bool.and_eq_true, Bool.not_eq_true'] at hb
  obtain ⟨c0, c1, c5, c6, a5, a6⟩ := hb
  have g5 := arq hF ext.rf hm (hW.ref hm (j := 5) (Nat.le_of_ble_eq_true rfl) rfl).2 c5 a5
  have g6 := arq hF ext.rf hm (hW.ref hm (j := 6) (Nat.le_of_ble_eq_true rfl) rfl).2 c6 a6
  refine ⟨vi_fr hF hm hm c0, vi_fr hF hm hm c1, ?_, ?_⟩
  · funext z
    unfold mH rgv
    split
    · exact congrFun g5 z.toNat
    · rfl
  · funext z
    unfold mG rgv
    split
    · exact congrFun g6 z.toNat
    · rfl
def MGJ (V W : Vmap) (m : Nat) (a r : Int) : Prop := HBm V m → cel (vi V m 0) (vi V m 1) a → RFA (mG V m) (mH V m) (vi V m 0) (vi V m 1) a (mD W m) ∧ (r = 0 → RFP (mG V m) (mH V m) (vi V m 0) (vi V m 1) a (mD W m))
def MGL (V W : Vmap) (m : Nat) (a r u t : Int) : Prop := HBm V m → cel (vi V m 0) (vi V m 1) a → RFA (mG V m) (mH V m) (vi V m 0) (vi V m 1) a (mD W m) ∧ (r = 0 → RFB (mG V m) (mH V m) (vi V m 0) (vi V m 1) (mD W m) u t)
def MGV (V V1 : Vmap) (m : Nat) (a : Int) : Prop := HBm V m → cel (vi V m 0) (vi V m 1) a → RFP (mG V m) (mH V m) (vi V m 0) (vi V m 1) a (mD V1 m)
theorem MGJ.beg (h : MGI W m a i) (hg : MGW V W m) (hW : WT K V) (hm : K m = some (0, 11)) (hi : vi W m 0 * vi W m 1 ≤ i) (hr : r ≠ 0) : MGJ V W m a r := fun _ ha => by
  obtain ⟨w1, w2⟩ := wh_m hW hm
  rw [hg.1, hg.2.1] at hi
  refine ⟨RFA.beg ha fun u hu => ?_, fun e => absurd e hr⟩
  have := h u.toNat (by unfold cel at hu; omega)
  have e : ((u.toNat : Nat) : Int) = u := by unfold cel at hu; omega
  rw [e] at this
  unfold mD
  rw [← rgv_in hu.1 (by unfold cel at hu; omega)]
  exact this
theorem MGL.beg (h : MGJ V W m a r) (hs : s = 0) : MGL V W m a s 0 0 := fun hB ha => ⟨(h hB ha).1, fun _ => RFB.beg⟩
theorem MGL.row (h : MGL V W m a r u t) (u0 : 0 ≤ u) (u1 : u < 144) (ht : 8 ≤ t ∨ 1000000 ≤ vi W (vq W m 117) u.toNat) (hn : n = u + 1) : MGL V W m a r n 0 := fun hB ha => by
  obtain ⟨h1, h2⟩ := h hB ha
  refine ⟨h1, fun e => (h2 e).row ?_ hn⟩
  rcases ht with g | g
  · exact Or.inl g
  · exact Or.inr (by unfold mD; rw [← rgv_in u0 (by omega)]; exact g)
theorem MGJ.next (h : MGL V W m a r u t) (hg : MGW V W m) (hu : vi W m 0 * vi W m 1 ≤ u) : MGJ V W m a r := fun hB ha => by
  obtain ⟨h1, h2⟩ := h hB ha
  refine ⟨h1, fun e => RFB.all h1 (h2 e) ?_⟩
  rw [← hg.1, ← hg.2.1]
  exact hu
theorem MGV.mk (h : MGJ V W m a r) (hr : r = 0) : MGV V W m a := fun hB ha => (h hB ha).2 hr
theorem MGL.n1 (h : MGL V W m a r u t) (hg : MGW V W m) (hv : v = bsd (vi W m 0) (vi W m 1) u t) (h1 : v = -1) (hn : n = t + 1) : MGL V W m a r u n := fun hB ha => by
  obtain ⟨a1, a2⟩ := h hB ha
  rw [hg.1, hg.2.1] at hv
  exact ⟨a1, fun e => (a2 e).one (Or.inl (hv.symm.trans h1)) hn⟩
theorem MGL.n2 (h : MGL V W m a r u t) (hg : MGW V W m) (hv : v = bsd (vi W m 0) (vi W m 1) u t) (f : Y ≠ 0 ↔ (mG W m v = 0 ∨ mG W m v = 1)) (hY : Y = 0) (hn : n = t + 1) : MGL V W m a r u n := fun hB ha => by
  obtain ⟨a1, a2⟩ := h hB ha
  rw [hg.1, hg.2.1] at hv
  rw [hg.2.2.2] at f
  exact ⟨a1, fun e => (a2 e).one (Or.inr (Or.inl (fun g => absurd hY (f.mpr (by rw [hv]; exact g))))) hn⟩
theorem mg_z (hB : HBm V m) (hg : MGW V W m) (u0 : 0 ≤ u) (u1 : u < 144) (v0 : 0 ≤ v) (v1 : v < 144) (ha : ABS (vi W (vq W m 5) v.toNat - vi W (vq W m 5) u.toNat) X) (hz : z = vi W (vq W m 117) u.toNat + 1 + X) : z = mD W m u + (1 + dif (mH V m u) (mH V m v)) := by
  have e1 : vi W (vq W m 5) u.toNat = mH V m u := by rw [← hg.2.2.1]; exact rgv_in u0 (by omega)
  have e2 : vi W (vq W m 5) v.toNat = mH V m v := by rw [← hg.2.2.1]; exact rgv_in v0 (by omega)
  have e3 : vi W (vq W m 117) u.toNat = mD W m u := rgv_in u0 (by omega)
  have bu := hB u
  have bv := hB v
  rw [e1, e2] at ha
  rw [e3] at hz
  have ex : X = dif (mH V m u) (mH V m v) := by
    unfold dif
    by_cases g : mH V m u ≤ mH V m v
    · rw [if_pos g]
      exact ha.1 (by omega)
    · rw [if_neg g]
      have := ha.2 (by omega) (by omega)
      omega
  omega
theorem MGL.keep (_ : z = z) (h : MGL V W m a r u t) (hg : MGW V W m) (hW : WT K V) (hm : K m = some (0, 11)) (hv : v = bsd (vi W m 0) (vi W m 1) u t) (u0 : 0 ≤ u) (u1 : u < vi W m 0 * vi W m 1) (h1 : v ≠ -1) (ha : ABS (vi W (vq W m 5) v.toNat - vi W (vq W m 5) u.toNat) X) (hz : z = vi W (vq W m 117) u.toNat + 1 + X) (hc : vi W (vq W m 117) v.toNat ≤ z) (hn : n = t + 1) : MGL V W m a r u n := fun hB hca => by
  obtain ⟨w1, w2⟩ := wh_m hW hm
  obtain ⟨a1, a2⟩ := h hB hca
  rw [hg.1, hg.2.1] at hv u1
  have hvc : cel (vi V m 0) (vi V m 1) v := by
    rcases bsd_rg (w := vi V m 0) (h := vi V m 1) (c := u) (t := t) w1 with g | g
    · exact absurd (hv.trans g) h1
    · rw [← hv] at g
      exact g
  have ez := mg_z hB hg u0 (by omega) hvc.1 (by unfold cel at hvc; omega) ha hz
  have ev : vi W (vq W m 117) v.toNat = mD W m v := rgv_in hvc.1 (by unfold cel at hvc; omega)
  refine ⟨a1, fun e => (a2 e).one (Or.inr (Or.inr ?_)) hn⟩
  rw [← hv, ← ez, ← ev]
  exact hc
theorem MGL.put {k : Nat} (h : MGL V W m a r u t) (hg : MGW V W m) (hW : WT K V) (hm : K m = some (0, 11)) (hv : v = bsd (vi W m 0) (vi W m 1) u t) (u0 : 0 ≤ u) (u1 : u < vi W m 0 * vi W m 1) (h1 : v ≠ -1) (f : Y ≠ 0 ↔ (mG W m v = 0 ∨ mG W m v = 1)) (hY : Y ≠ 0) (t0 : 0 ≤ t) (t7 : t < 8) (hF : vi W (vq W m 117) u.toNat < 1000000) (ha : ABS (vi W (vq W m 5) v.toNat - vi W (vq W m 5) u.toNat) X) (hz : z = vi W (vq W m 117) u.toNat + 1 + X) (hc : z < vi W (vq W m 117) v.toNat) (e : ar 117 W1 m = updf (ar 117 W m) k z) (hk : k = v.toNat) (hs : s ≠ 0) : MGL V W1 m a s u n := fun hB hca => by
  obtain ⟨w1, w2⟩ := wh_m hW hm
  obtain ⟨a1, a2⟩ := h hB hca
  rw [hg.1, hg.2.1] at hv u1
  rw [hg.2.2.2] at f
  have hvc : cel (vi V m 0) (vi V m 1) v := by
    rcases bsd_rg (w := vi V m 0) (h := vi V m 1) (c := u) (t := t) w1 with g | g
    · exact absurd (hv.trans g) h1
    · rw [← hv] at g
      exact g
  have v1 : v < 144 := by unfold cel at hvc; omega
  have ez := mg_z hB hg u0 (by omega) hvc.1 v1 ha hz
  have ev : vi W (vq W m 117) v.toNat = mD W m v := rgv_in hvc.1 (by omega)
  have eu : vi W (vq W m 117) u.toNat = mD W m u := rgv_in u0 (by omega)
  rw [md_put e hk hvc.1 v1]
  exact ⟨RFA.put w1 hB a1 ⟨u0, u1⟩ t0 (by omega) hv h1 (f.mp hY) (by rw [← eu]; exact hF) ez (by rw [← ev]; exact hc), fun g => absurd g hs⟩
/-! both sides: the days of the least way -/
theorem ways_eq {l : Nat} (eG : lG V l = mG V1 m) (eH : lH V l = mH V1 m) (e3 : vi V l 3 = vi V1 m 0) (e4 : vi V l 4 = vi V1 m 1) (f : LDY V l a b X) (g : MGV V1 V2 m a) (hB : HBm V1 m) (ha : cel (vi V1 m 0) (vi V1 m 1) a) (hb : cel (vi V1 m 0) (vi V1 m 1) b) : (X = -1 ∧ mD V2 m b = 1000000) ∨ (X = mD V2 m b ∧ mD V2 m b < 1000000 ∧ X ≠ -1) := by
  have hB' : HB V l := fun z => by
    show 0 ≤ lH V l z ∧ lH V l z ≤ 40
    rw [eH]
    exact hB z
  have hD := g hB ha
  rw [← eG, ← eH, ← e3, ← e4] at hD
  rw [← e3, ← e4] at ha hb
  exact f hB' ha hb _ hD
end Q13
