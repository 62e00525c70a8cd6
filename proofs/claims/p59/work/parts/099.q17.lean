/-! ### near the sea, the voyage, the day: both sides -/
section Q17
variable {K K0 K1 K2 : Kmap} {V V0 V1 V2 V3 W W1 W0 U Um Wm U0 : Vmap} {x m o q l : Nat} {k i j n e d p a b c w h y z s t u X Y Z D : Int} {G : Int → Int} {vs : Int → Prop} {τ υ ρ : Nat → Int}
/-- a cell near the sea, by steps or by rows and columns -/
theorem nsp_iff (hw : 0 < w) (hc : 0 ≤ c ∧ c < w * h) : nsp G w h c ↔ ∃ j : Nat, (j : Int) < w * h ∧ G (j : Int) = 2 ∧ (((j : Int) / w - c / w ≤ 1 ∧ c / w - (j : Int) / w ≤ 1) ∧ (j : Int) % w - c % w ≤ 1 ∧ c % w - (j : Int) % w ≤ 1) := by
  constructor
  · rintro (g | ⟨t, t0, t7, b1, b2⟩)
    · refine ⟨c.toNat, ?_⟩
      have ec : ((c.toNat : Nat) : Int) = c := by omega
      rw [ec]
      exact ⟨hc.2, g, ⟨by omega, by omega⟩, by omega, by omega⟩
    · have bs := stp_rg t0 t7
      by_cases r : 0 ≤ c / w + rsv t ∧ c / w + rsv t < h ∧ 0 ≤ c % w + csv t ∧ c % w + csv t < w
      · have eb : bsd w h c t = (c % w + csv t) + w * (c / w + rsv t) := by
          unfold bsd
          rw [if_pos r, Int.add_comm (w * (c / w + rsv t))]
        have rg := (bsd_rg (w := w) (h := h) (c := c) (t := t) hw).resolve_left b1
        have e1 : bsd w h c t / w = c / w + rsv t := by rw [eb, Int.add_mul_ediv_left _ _ (by omega), Int.ediv_eq_zero_of_lt r.2.2.1 r.2.2.2, Int.zero_add]
        have e2 : bsd w h c t % w = c % w + csv t := by rw [eb, Int.add_mul_emod_self_left, Int.emod_eq_of_lt r.2.2.1 r.2.2.2]
        refine ⟨(bsd w h c t).toNat, ?_⟩
        have ec : (((bsd w h c t).toNat : Nat) : Int) = bsd w h c t := by omega
        rw [ec, e1, e2]
        exact ⟨rg.2, b2, ⟨by omega, by omega⟩, by omega, by omega⟩
      · refine absurd ?_ b1
        unfold bsd
        rw [if_neg r]
  · rintro ⟨j, j1, j2, ⟨r1, r2⟩, c1, c2⟩
    have ej : w * ((j : Int) / w) + (j : Int) % w = j := by
      have := Int.emod_def (j : Int) w
      omega
    have ec : w * (c / w) + c % w = c := by
      have := Int.emod_def c w
      omega
    have m1 := rem_rng (a := (j : Int)) (b := w) hw
    have d0 := (div_rng (a := (j : Int)) (b := w) (by omega) hw).1
    have dh : (j : Int) / w < h := by
      refine Int.not_le.mp (fun g => ?_)
      have g2 : w * h ≤ w * ((j : Int) / w) := Int.mul_le_mul_of_nonneg_left g (by omega)
      omega
    have key : ∀ t : Int, 0 ≤ t → t ≤ 7 → rsv t = (j : Int) / w - c / w → csv t = (j : Int) % w - c % w → nsp G w h c := fun t t0 t7 e1 e2 => by
      have eb : bsd w h c t = (j : Int) := by
        unfold bsd
        rw [e1, e2, show c / w + ((j : Int) / w - c / w) = (j : Int) / w by omega, show c % w + ((j : Int) % w - c % w) = (j : Int) % w by omega, if_pos ⟨d0, dh, m1.1, m1.2⟩]
        exact ej
      refine Or.inr ⟨t, t0, t7, ?_⟩
      rw [eb]
      exact ⟨by omega, j2⟩
    have R0 : rsv 0 = -1 ∧ csv 0 = 0 := by decide +kernel
    have R1 : rsv 1 = -1 ∧ csv 1 = 1 := by decide +kernel
    have R2 : rsv 2 = 0 ∧ csv 2 = 1 := by decide +kernel
    have R3 : rsv 3 = 1 ∧ csv 3 = 1 := by decide +kernel
    have R4 : rsv 4 = 1 ∧ csv 4 = 0 := by decide +kernel
    have R5 : rsv 5 = 1 ∧ csv 5 = -1 := by decide +kernel
    have R6 : rsv 6 = 0 ∧ csv 6 = -1 := by decide +kernel
    have R7 : rsv 7 = -1 ∧ csv 7 = -1 := by decide +kernel
    rcases (show (j : Int) / w - c / w = -1 ∨ (j : Int) / w - c / w = 0 ∨ (j : Int) / w - c / w = 1 by omega) with g | g | g
    · rcases (show (j : Int) % w - c % w = -1 ∨ (j : Int) % w - c % w = 0 ∨ (j : Int) % w - c % w = 1 by omega) with f | f | f
      · exact key 7 (by decide) (by decide) (R7.1.trans g.symm) (R7.2.trans f.symm)
      · exact key 0 (by decide) (by decide) (R0.1.trans g.symm) (R0.2.trans f.symm)
      · exact key 1 (by decide) (by decide) (R1.1.trans g.symm) (R1.2.trans f.symm)
    · rcases (show (j : Int) % w - c % w = -1 ∨ (j : Int) % w - c % w = 0 ∨ (j : Int) % w - c % w = 1 by omega) with f | f | f
      · exact key 6 (by decide) (by decide) (R6.1.trans g.symm) (R6.2.trans f.symm)
      · have e1 : (j : Int) / w = c / w := by omega
        have e2 : (j : Int) % w = c % w := by omega
        rw [e1, e2, ec] at ej
        rw [← ej] at j2
        exact Or.inl j2
      · exact key 2 (by decide) (by decide) (R2.1.trans g.symm) (R2.2.trans f.symm)
    · rcases (show (j : Int) % w - c % w = -1 ∨ (j : Int) % w - c % w = 0 ∨ (j : Int) % w - c % w = 1 by omega) with f | f | f
      · exact key 5 (by decide) (by decide) (R5.1.trans g.symm) (R5.2.trans f.symm)
      · exact key 4 (by decide) (by decide) (R4.1.trans g.symm) (R4.2.trans f.symm)
      · exact key 3 (by decide) (by decide) (R3.1.trans g.symm) (R3.2.trans f.symm)
/-- class's memory W and the reference's U hold the same places on the same ice -/
def PLM (W U : Vmap) (x m : Nat) : Prop := vi W (vq W x 0) 3 = vi U m 0 ∧ vi W (vq W x 0) 4 = vi U m 1 ∧ (∀ s : Nat, 5 ≤ s → s ≤ 8 → rgv W (vq W (vq W x 0) s) 144 = rgv U (vq U m s) 144) ∧ ∀ k : Nat, (k : Int) < vi W x 6 → plv W x k = mlv U m k
theorem PLM.of (h : PLE V x m) (g : MSM V V1 m) : PLM V V1 x m := by
  obtain ⟨-, -, r1, r2, r3, r4, r6, -⟩ := h
  refine ⟨r1.trans g.2.2.1.symm, r2.trans g.2.2.2.1.symm, fun s h5 h8 => (r3 s h5 h8).trans (g.2.2.2.2 s h5 h8).symm, fun k hk => ?_⟩
  rw [g.2.1.mv g.1 k]
  exact (r6 k hk).2
theorem nsc_nsm (h : PLM W U x m) (hw : 0 < vi W (vq W x 0) 3) (hc : 0 ≤ c ∧ c < vi W (vq W x 0) 3 * vi W (vq W x 0) 4) : NSC W (vq W x 0) c ↔ NSM U m c := by
  obtain ⟨h1, h2, h3, -⟩ := h
  unfold NSC NSM
  rw [nsp_iff hw hc, h1, h2, h3 6 (by decide) (by decide)]
theorem okc_okm (h : PLM W U x m) (hI : PLI W x) (hw : 0 < vi W (vq W x 0) 3) (hk : PK W x k 1) : OKC W x k ↔ OKM U m k := by
  have hk' := hk
  obtain ⟨z0, z1, z2⟩ := hk
  have hkk : ((k.toNat : Nat) : Int) < vi W x 6 := by omega
  have ev := h.2.2.2 k.toNat hkk
  have e15 : vi W (plO W x k.toNat) 2 = ar 15 U m k.toNat := congrArg (fun v : Int × Int × Int => v.1) ev
  have e28 : vi W (plO W x k.toNat) 5 = ar 28 U m k.toNat := congrArg (fun v : Int × Int × Int => v.2.1) ev
  have hc := (hI.2.2.1 k.toNat hkk).1
  have hn := nsc_nsm h hw (c := vi W (plO W x k.toNat) 2) hc
  unfold OKC OKM STN
  rw [hn, e28, e15]
  exact ⟨fun g => ⟨g.1.2, g.2⟩, fun g => ⟨⟨hk', g.1⟩, g.2⟩⟩
theorem sok_mok (h : PLM W U x m) (hk : PK W x k 1) : SOK W x k c ↔ MOK U m k c := by
  have hk' := hk
  obtain ⟨z0, z1, z2⟩ := hk
  have ev := h.2.2.2 k.toNat (by omega)
  have e15 : vi W (plO W x k.toNat) 2 = ar 15 U m k.toNat := congrArg (fun v : Int × Int × Int => v.1) ev
  have e28 : vi W (plO W x k.toNat) 5 = ar 28 U m k.toNat := congrArg (fun v : Int × Int × Int => v.2.1) ev
  unfold SOK MOK STN
  rw [e28, e15]
  exact ⟨fun g => ⟨g.1.2, g.2⟩, fun g => ⟨⟨hk', g.1⟩, g.2⟩⟩
/-! the days of dark -/
def DKE (V : Vmap) (x m : Nat) : Prop := vi V (vq V x 0) 1 = vi V m 3 ∧ vi V (vq V x 0) 2 = vi V m 4
def dkbits (ws : Nat) : Bool := [keyK (0, 10) 0, keyK (0, 0) 1, keyK (0, 0) 2].all fun b => !ws.testBit b
def dmbits (ws : Nat) : Bool := [keyK (0, 11) 3, keyK (0, 11) 4].all fun b => !ws.testBit b
theorem dk_fr {ws : Nat} (hF : FR ws K V K1 V1) (hE : ext K K1) (hW : WT K V) (hx : K x = some (0, 10)) (hb : dkbits ws = true) : vi V1 (vq V1 x 0) 1 = vi V (vq V x 0) 1 ∧ vi V1 (vq V1 x 0) 2 = vi V (vq V x 0) 2 := by
  simp only [dkbits, List.all_cons, List.all_nil, Bool.and_true, Bool.and_eq_true, Bool.not_eq_true'] at hb
  obtain ⟨c0, c1, c2⟩ := hb
  have h0 := (ld_at hW hx).1
  have h01 := hE.obj (Or.inl (by decide)) h0
  have e0 : vq V1 x 0 = vq V x 0 := vq_eq (hF x _ 0 hx (hE.obj (Or.inl (by decide)) hx) c0)
  rw [e0]
  exact ⟨vi_fr hF h0 h01 c1, vi_fr hF h0 h01 c2⟩
theorem dm_fr {ws : Nat} (hF : FR ws K V K1 V1) (hE : ext K K1) (hm : K m = some (0, 11)) (hb : dmbits ws = true) : vi V1 m 3 = vi V m 3 ∧ vi V1 m 4 = vi V m 4 := by
  simp only [dmbits, List.all_cons, List.all_nil, Bool.and_true, Bool.and_eq_true, Bool.not_eq_true'] at hb
  exact ⟨vi_fr hF hm (hE.obj (Or.inl (by decide)) hm) hb.1, vi_fr hF hm (hE.obj (Or.inl (by decide)) hm) hb.2⟩
theorem DKE.frx {ws : Nat} (h : DKE V x m) (hF : FR ws K V K1 V1) (hE : ext K K1) (hW : WT K V) (hx : K x = some (0, 10)) (hm : K m = some (0, 11)) (b1 : dkbits ws = true) (b2 : dmbits ws = true) : DKE V1 x m := by
  obtain ⟨e1, e2⟩ := dk_fr hF hE hW hx b1
  obtain ⟨e3, e4⟩ := dm_fr hF hE hm b2
  exact ⟨e1.trans (h.1.trans e3.symm), e2.trans (h.2.trans e4.symm)⟩
def DKQ (a b : Int) : Prop := 0 ≤ a ∧ a ≤ b ∧ b ≤ 359
def DKC' (V V1 : Vmap) (x : Nat) (a b X : Int) : Prop := (X = 0 ∧ V1 = V ∧ ¬ DKQ a b) ∨ (X = 1 ∧ DKQ a b ∧ vi V1 (vq V1 x 0) 1 = a ∧ vi V1 (vq V1 x 0) 2 = b)
theorem DKC'.no (h : ¬ DKQ a b) (hX : X = 0) : DKC' V V x a b X := Or.inl ⟨hX, rfl, h⟩
theorem DKC'.ok (h : DKQ a b) (hX : X = 1) (hx : K x = some (0, 10)) (hl : K l = some (0, 0)) (el : V x 0 = .ref l) (e1 : W = upd2 V l 1 (ti a)) (e2 : V1 = upd2 W l 2 (ti b)) : DKC' V V1 x a b X := by
  obtain ⟨h1, h2, h3⟩ := h
  have n : x ≠ l := K_ne hx hl (by decide)
  have e0 : vq V1 x 0 = l := vq_of (((uq_ne e2 (Or.inl n)).trans (uq_ne e1 (Or.inl n))).trans el)
  refine Or.inr ⟨hX, ⟨h1, h2, h3⟩, ?_, ?_⟩
  · rw [e0, vi_up e2 (Or.inr (by decide))]
    exact upd2_int e1 ⟨by omega, by omega⟩
  · rw [e0]
    exact upd2_int e2 ⟨by omega, by omega⟩
def MDK (V V1 : Vmap) (m : Nat) (a b X : Int) : Prop := (X = 0 ∧ V1 = V ∧ ¬ DKQ a b) ∨ (X = 1 ∧ DKQ a b ∧ vi V1 m 3 = a ∧ vi V1 m 4 = b)
theorem MDK.no (h : ¬ DKQ a b) (hX : X = 0) : MDK V V m a b X := Or.inl ⟨hX, rfl, h⟩
theorem MDK.ok (h : DKQ a b) (hX : X = 1) (e1 : W = upd2 V m 3 (ti a)) (e2 : V1 = upd2 W m 4 (ti b)) : MDK V V1 m a b X := by
  obtain ⟨h1, h2, h3⟩ := h
  exact Or.inr ⟨hX, ⟨h1, h2, h3⟩, (vi_up e2 (Or.inr (by decide))).trans (upd2_int e1 ⟨by omega, by omega⟩), upd2_int e2 ⟨by omega, by omega⟩⟩
theorem DKE.dark {w1 w2 : Nat} (h : DKE V x m) (hx : K x = some (0, 10)) (hm : K m = some (0, 11)) (hW : WT K V) (hW1 : WT K1 V1) (hE1 : ext K K1) (hF1 : FR w1 K V K1 V1) (hE2 : ext K1 K2) (hF2 : FR w2 K1 V1 K2 V2) (f : DKC' V V1 x a b X) (f1 : MDK V1 V2 m a b Y) (b1 : dmbits w1 = true) (b2 : dkbits w2 = true) : DKE V2 x m := by
  obtain ⟨e1, e2⟩ := dk_fr hF2 hE2 hW1 (hE1.obj (Or.inl (by decide)) hx) b2
  obtain ⟨e3, e4⟩ := dm_fr hF1 hE1 hm b1
  unfold DKE
  rw [e1, e2]
  rcases f with ⟨a1, a2, a3⟩ | ⟨a1, a2, a3, a4⟩
  · rcases f1 with ⟨d1, d2, d3⟩ | ⟨d1, d2, d3⟩
    · rw [d2, a2]
      exact h
    · exact absurd d2 a3
  · rcases f1 with ⟨d1, d2, d3⟩ | ⟨d1, d2, d3, d4⟩
    · exact absurd a2 d3
    · rw [a3, a4, d3, d4]
      exact ⟨rfl, rfl⟩
/-! the voyage -/
def VYD (V : Vmap) (x : Nat) (s e k n : Int) : Prop := (0 ≤ s ∧ s < vi V x 10) ∧ (0 ≤ e ∧ e ≤ 3) ∧ OKC V x k ∧ (0 ≤ n ∧ n ≤ shv V (shO V x s.toNat) 1) ∧ shv V (shO V x s.toNat) 3 = 0
def VYC (K : Kmap) (V V1 : Vmap) (x : Nat) (s e k n X : Int) : Prop := NN 6 5 V x → SN V x → CLN V x → (X = 0 ∧ V1 = V ∧ ¬ VYD V x s e k n) ∨ (X = 1 ∧ VYD V x s e k n ∧ SHU K V V1 (shO V x s.toNat) (lvs e k n (sdy V x e) (tdy V x) (shv V (shO V x s.toNat))))
theorem VYC.n1 (h : SN V x → s < 0 ∨ vi V x 10 ≤ s) (hX : X = 0) : VYC K V V x s e k n X := fun _ hS _ => Or.inl ⟨hX, rfl, fun g => by
  have g1 := g.1
  rcases h hS with q | q <;> omega⟩
theorem VYC.n2 (h : ¬ (0 ≤ e ∧ e ≤ 3)) (hX : X = 0) : VYC K V V x s e k n X := fun _ _ _ => Or.inl ⟨hX, rfl, fun g => h g.2.1⟩
theorem VYC.n3 (h : NN 6 5 V x → ¬ STN V x k) (hX : X = 0) : VYC K V V x s e k n X := fun hN _ _ => Or.inl ⟨hX, rfl, fun g => h hN g.2.2.1.1⟩
theorem VYC.n4 (g : o = vq V (vq V x 9) s.toNat) (h : ¬ (0 ≤ n ∧ n ≤ vi V o 1)) (hX : X = 0) : VYC K V V x s e k n X := fun _ _ _ => Or.inl ⟨hX, rfl, fun f => by
  have g' : o = shO V x s.toNat := g
  have f1 := f.2.2.2.1
  rw [← g', shv_f (by decide)] at f1
  exact h f1⟩
theorem VYC.n5 (g : o = vq V (vq V x 9) s.toNat) (h : vi V o 3 ≠ 0) (hX : X = 0) : VYC K V V x s e k n X := fun _ _ _ => Or.inl ⟨hX, rfl, fun f => by
  have g' : o = shO V x s.toNat := g
  have f1 := f.2.2.2.2
  rw [← g', shv_f (by decide)] at f1
  exact h f1⟩
theorem VYC.n6 (g : q = plO V x k.toNat ∧ STN V x k) (h : NSX V (vq V x 0) (vi V q 2) Z) (hZ : Z = 0) (hX : X = 0) : VYC K V V x s e k n X := fun _ _ hC => Or.inl ⟨hX, rfl, fun f => by
  obtain ⟨g1, g2⟩ := g
  subst g1
  obtain ⟨⟨z0, z1, -⟩, -⟩ := g2
  exact absurd hZ ((h (hC k.toNat (by omega))).mpr f.2.2.1.2)⟩
theorem VYC.ok (g : o = vq V (vq V x 9) s.toNat) (hs : 0 ≤ s ∧ s < vi V x 10) (he : 0 ≤ e ∧ e ≤ 3) (r : q = plO V x k.toNat ∧ STN V x k) (hn : 0 ≤ n ∧ n ≤ vi V o 1) (h3 : vi V o 3 = 0) (h : NSX V (vq V x 0) (vi V q 2) Z) (hZ : Z ≠ 0) (hX : X = 1) (hY : Y = rgv V (vq V (vq V x 0) 10) 4 e) (hd : D = tdy V x) (f : SHU K V W o (lvs e k n Y D (shv V o))) (t : SHX K W V1) (ho : K o = some (0, 6)) : VYC K V V1 x s e k n X := fun _ _ hC => by
  have g' : o = shO V x s.toNat := g
  obtain ⟨r1, r2⟩ := r
  subst r1
  obtain ⟨⟨z0, z1, z2⟩, z3⟩ := r2
  subst hd hY
  refine Or.inr ⟨hX, ⟨hs, he, ⟨⟨⟨z0, z1, z2⟩, z3⟩, (h (hC k.toNat (by omega))).mp hZ⟩, ?_, ?_⟩, ?_⟩
  · rw [← g', shv_f (by decide)]
    exact hn
  · rw [← g', shv_f (by decide)]
    exact h3
  · rw [← g']
    exact f.nn t ho
def MVD (V : Vmap) (m : Nat) (s e k n : Int) : Prop := (0 ≤ s ∧ s < vi V m 91) ∧ (0 ≤ e ∧ e ≤ 3) ∧ (MPK V m k 1 ∧ OKM V m k) ∧ (0 ≤ n ∧ n ≤ msv V m s.toNat 1) ∧ msv V m s.toNat 3 = 0
def MVY (V V1 : Vmap) (m : Nat) (s e k n X : Int) : Prop := (X = 0 ∧ V1 = V ∧ ¬ MVD V m s e k n) ∨ (X = 1 ∧ MVD V m s e k n ∧ msv V1 m = upg (msv V m) s.toNat (updf (lvs e k n (ar 106 V m e.toNat) (vi V m 2) (msv V m s.toNat)) 7 0))
theorem MVY.no (h : ¬ ((0 ≤ s ∧ s < vi V m 91) ∧ (0 ≤ e ∧ e ≤ 3))) (hX : X = 0) : MVY V V m s e k n X := Or.inl ⟨hX, rfl, fun g => h ⟨g.1, g.2.1⟩⟩
theorem MVY.n3 (h : vi V (vq V m 97) s.toNat ≠ 0) (hX : X = 0) : MVY V V m s e k n X := Or.inl ⟨hX, rfl, fun g => h g.2.2.2.2⟩
theorem MVY.ns (h : Y ≠ 0 ↔ MSN V m k) (hY : Y = 0) (hX : X = 0) : MVY V V m s e k n X := Or.inl ⟨hX, rfl, fun g => absurd hY (h.mpr ⟨g.2.2.1.1, g.2.2.1.2.1⟩)⟩
theorem MVY.nn (h : Z ≠ 0 ↔ NSM V m (vi V (vq V m 15) k.toNat)) (hZ : Z = 0) (hX : X = 0) : MVY V V m s e k n X := Or.inl ⟨hX, rfl, fun g => absurd hZ (h.mpr g.2.2.1.2.2)⟩
theorem MVY.nr (h : ¬ (0 ≤ n ∧ n ≤ vi V (vq V m 95) s.toNat)) (hX : X = 0) : MVY V V m s e k n X := Or.inl ⟨hX, rfl, fun g => h g.2.2.2.1⟩
theorem MVY.ok {k3 k4 k5 k6 k7 k8 k9 k10 : Nat} (hX : X = 1) (hs : 0 ≤ s ∧ s < vi V m 91) (he : 0 ≤ e ∧ e ≤ 3) (h : Y ≠ 0 ↔ MSN V m k) (hY : Y ≠ 0) (g : Z ≠ 0 ↔ NSM V m (vi V (vq V m 15) k.toNat)) (hZ : Z ≠ 0) (hn : 0 ≤ n ∧ n ≤ vi V (vq V m 95) s.toNat) (h3 : vi V (vq V m 97) s.toNat = 0) (a97 : ar 97 V1 m = updf (ar 97 V m) k3 1) (a98 : ar 98 V1 m = updf (ar 98 V m) k6 n) (a99 : ar 99 V1 m = updf (ar 99 V m) k7 0) (a101 : ar 101 V1 m = updf (ar 101 V m) k9 0) (a102 : ar 102 V1 m = updf (ar 102 V m) k4 e) (a103 : ar 103 V1 m = updf (ar 103 V m) k5 k) (a104 : ar 104 V1 m = updf (ar 104 V m) k10 u) (a100 : ar 100 V1 m = updf (ar 100 V m) k8 z) (hu : u = ar 106 V m e.toNat) (hz : z = vi V m 2 + u) (bu : 0 ≤ u ∧ u ≤ 90) (bd : 0 ≤ vi V m 2 ∧ vi V m 2 ≤ 3599) (q3 : k3 = s.toNat) (q4 : k4 = s.toNat) (q5 : k5 = s.toNat) (q6 : k6 = s.toNat) (q7 : k7 = s.toNat) (q8 : k8 = s.toNat) (q9 : k9 = s.toNat) (q10 : k10 = s.toNat) (a94 : ar 94 V1 m = ar 94 V m) (a95 : ar 95 V1 m = ar 95 V m) (a96 : ar 96 V1 m = ar 96 V m) : MVY V V1 m s e k n X := by
  obtain ⟨p1, p2⟩ := h.mp hY
  have ez : wr (vi V m 2 + ar 106 V m e.toNat) = z := by
    rw [← hu, hz]
    exact wr_id ⟨by omega, by omega⟩
  refine Or.inr ⟨hX, ⟨hs, he, ⟨p1, p2, g.mp hZ⟩, hn, h3⟩, ?_⟩
  unfold lvs
  rw [ez, ← hu]
  exact msv_up (as_s a94 rfl) (as_s a95 rfl) (as_s a96 rfl) (as_u a97 q3 rfl) (as_u a102 q4 rfl) (as_u a103 q5 rfl) (as_u a98 q6 rfl) (as_u a99 q7 rfl) (as_u a100 q8 rfl) (as_u a101 q9 rfl) (as_u a104 q10 rfl) (fun f hf => by
    rw [updf_of (by omega), updf_of (by omega), updf_of (by omega), updf_of (by omega), updf_of (by omega), updf_of (by omega), updf_of (by omega), updf_of (by omega)]
    exact msv_0 hf)
end Q17
