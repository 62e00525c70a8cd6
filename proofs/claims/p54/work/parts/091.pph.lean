/-! ### a season's voyage: what both sides keep, call by call -/
section PPH
variable {K K1 K2 : Kmap} {V V0 V1 V2 V3 W W1 W2 : Vmap} {x m s o q : Nat} {a b c d e g i k l n p t u w y z v X Y Z : Int}
/-- the numbers of a season that calls write -/
def SXT (V V1 : Vmap) (x : Nat) : Prop := vq V1 x 2 = vq V x 2 ∧ ssz V1 x = ssz V x ∧ stg V1 x = stg V x ∧ ndv V1 (vq V x 2) = ndv V (vq V x 2) ∧ OPNv V1 (vq V x 2) = OPNv V (vq V x 2) ∧ CLSv V1 (vq V x 2) = CLSv V (vq V x 2)
def SXS (V V1 : Vmap) (x : Nat) : Prop := SXT V V1 x ∧ ahv V1 (vq V x 2) = ahv V (vq V x 2)
def SXB (V V1 : Vmap) (x : Nat) : Prop := vi V1 (vq V x 2) 8 = vi V (vq V x 2) 8 ∧ vi V1 (vq V x 2) 9 = vi V (vq V x 2) 9 ∧ bev V1 (vq V x 2) = bev V (vq V x 2)
theorem rg_fx {ws c j t L : Nat} (hF : FR ws K V K1 V1) (hE : ext K K1) (hc : c < 12 ∨ 24 ≤ c) (hs : K s = some (0, c)) (ha : K (vq V s j) = some (t + 1, L)) (c1 : ws.testBit (keyK (0, c) j) = false) (c2 : ws.testBit (abase + (t + 1)) = false) (N : Nat) : rgv V1 (vq V1 s j) N = rgv V (vq V s j) N := by
  have e1 : vq V1 s j = vq V s j := vq_eq (hF s _ j hs (hE.obj hc hs) c1)
  funext z
  unfold rgv
  rw [e1]
  split
  · exact vi_frA hF ha (hE.arr ha) c2
  · rfl
def stbits5 (ws : Nat) : Bool := [keyK (0, 10) 2, keyK (0, 5) 0, keyK (0, 5) 1, keyK (0, 5) 2, keyK (0, 24) 2, keyK (0, 24) 3, abase + 147, abase + 138, abase + 139].all fun b => !ws.testBit b
def sxbits (ws : Nat) : Bool := stbits5 ws && [keyK (0, 5) 6, abase + 143].all fun b => !ws.testBit b
def sybits5 (ws : Nat) : Bool := [keyK (0, 5) 7, keyK (0, 5) 8, keyK (0, 5) 9, abase + 144].all fun b => !ws.testBit b
theorem sx_sz (e : vq V1 x 2 = vq V x 2) (hz : ssz V1 x = ssz V x) : ssn V1 (vq V x 2) = ssn V (vq V x 2) := by
  have h1 : ssz V1 x = vi V1 (vq V1 (vq V x 2) 0) 3 := by
    unfold ssz sto
    rw [e]
  unfold ssn
  rw [← h1, hz]
  rfl
theorem SXT.fr {ws : Nat} (hF : FR ws K V K1 V1) (hE : ext K K1) (hW : WT K V) (hx : K x = some (0, 10)) (hb : stbits5 ws = true) : SXT V V1 x := by
  simp only [stbits5, List.all_cons, List.all_nil, Bool.and_true, Bool.and_eq_true, Bool.not_eq_true'] at hb
  obtain ⟨c2, d0, d1, d2, t2, t3, a7, a1, a2⟩ := hb
  obtain ⟨h1, h2⟩ := st_at hW hx
  have h3 := (st_tab hW h2).1
  have hx1 := hE.obj (Or.inl (by decide)) hx
  have g1 := hE.obj (Or.inl (by decide)) h1
  have g2 := hE.obj (Or.inr (by decide)) h2
  have e1 : vq V1 x 2 = vq V x 2 := vq_eq (hF x _ 2 hx hx1 c2)
  have e0 : vq V1 (vq V x 2) 0 = vq V (vq V x 2) 0 := vq_eq (hF _ _ 0 h1 g1 d0)
  have e2 : sto V1 x = sto V x := by
    unfold sto
    rw [e1]
    exact e0
  have e3 : vq V1 (sto V x) 2 = vq V (sto V x) 2 := vq_eq (hF _ _ 2 h2 g2 t2)
  have ea : ∀ j, vi V1 (vq V (sto V x) 2) j = vi V (vq V (sto V x) 2) j := fun j => vi_frA hF h3 (hE.arr h3) a7
  refine ⟨e1, ?_, ?_, ?_, ?_, ?_⟩
  · unfold ssz
    rw [e2]
    exact vi_fr hF h2 g2 t3
  · funext i
    unfold stg
    rw [e2, e3]
    exact ea _
  · funext i
    unfold ndv
    rw [e0]
    show vi V1 (vq V1 (sto V x) 2) (2 * i + 1) = vi V (vq V (sto V x) 2) (2 * i + 1)
    rw [e3]
    exact ea _
  · funext i z
    unfold OPNv
    rw [rg_fx hF hE (Or.inl (by decide)) h1 (row_n (j := 1) hW h1 rfl rfl rfl (by decide)) d1 a1 24]
  · funext i z
    unfold CLSv
    rw [rg_fx hF hE (Or.inl (by decide)) h1 (row_n (j := 2) hW h1 rfl rfl rfl (by decide)) d2 a2 24]
theorem SXS.fr {ws : Nat} (hF : FR ws K V K1 V1) (hE : ext K K1) (hW : WT K V) (hx : K x = some (0, 10)) (hb : sxbits ws = true) : SXS V V1 x := by
  simp only [sxbits, List.all_cons, List.all_nil, Bool.and_true, Bool.and_eq_true, Bool.not_eq_true'] at hb
  obtain ⟨hb1, d6, a6⟩ := hb
  obtain ⟨h1, h2⟩ := st_at hW hx
  refine ⟨SXT.fr hF hE hW hx hb1, ?_⟩
  funext z
  unfold ahv
  rw [rg_fx hF hE (Or.inl (by decide)) h1 (row_n (j := 6) hW h1 rfl rfl rfl (by decide)) d6 a6 2048]
theorem SXB.fr {ws : Nat} (hF : FR ws K V K1 V1) (hE : ext K K1) (hW : WT K V) (hx : K x = some (0, 10)) (hb : sybits5 ws = true) : SXB V V1 x := by
  simp only [sybits5, List.all_cons, List.all_nil, Bool.and_true, Bool.and_eq_true, Bool.not_eq_true'] at hb
  obtain ⟨d7, d8, d9, a7⟩ := hb
  obtain ⟨h1, h2⟩ := st_at hW hx
  have g1 := hE.obj (Or.inl (by decide)) h1
  refine ⟨vi_fr hF h1 g1 d8, vi_fr hF h1 g1 d9, ?_⟩
  funext z
  unfold bev
  rw [rg_fx hF hE (Or.inl (by decide)) h1 (row_n (j := 7) hW h1 rfl rfl rfl (by decide)) d7 a7 8]
/-- the places that stay where they are, on ice as wide as before -/
def PSX (V V1 : Vmap) (x : Nat) : Prop := vi V x 6 ≤ vi V1 x 6 ∧ (∀ k : Nat, (k : Int) < vi V x 6 → pkd V1 x k = pkd V x k) ∧ (vi V1 (vq V1 x 0) 3 = vi V (vq V x 0) 3 ∧ ∀ k : Nat, (k : Int) < vi V x 6 → vi V1 (plO V1 x k) 2 = vi V (plO V x k) 2)
def pxbits5 (ws : Nat) : Bool := [keyK (0, 10) 0, keyK (0, 0) 3, keyK (0, 3) 0, keyK (0, 3) 2].all fun b => !ws.testBit b
/-- also where places are new -/
theorem PSX.pol {ws : Nat} (h : POL V V1 x g) (hF : FR ws K V K1 V1) (hE : ext K K1) (hW : WT K V) (hx : K x = some (0, 10)) (hN : NN 6 5 V x) (hb : pxbits5 ws = true) : PSX V V1 x := by
  simp only [pxbits5, List.all_cons, List.all_nil, Bool.and_true, Bool.and_eq_true, Bool.not_eq_true'] at hb
  obtain ⟨c0, l3, p0, p2⟩ := hb
  obtain ⟨h1, h2, -⟩ := h
  have hl := (ld_at hW hx).1
  have e0 : vq V1 x 0 = vq V x 0 := vq_eq (hF x _ 0 hx (hE.obj (Or.inl (by decide)) hx) c0)
  refine ⟨h1, fun k hk => ?_, ?_, fun k hk => ?_⟩
  · have ho := (pl_at hW hx hN hk).2.2
    unfold pkd
    rw [h2 k hk]
    exact vi_fr hF ho (hE.obj (Or.inl (by decide)) ho) p0
  · rw [e0]
    exact vi_fr hF hl (hE.obj (Or.inl (by decide)) hl) l3
  · have ho := (pl_at hW hx hN hk).2.2
    rw [h2 k hk]
    exact vi_fr hF ho (hE.obj (Or.inl (by decide)) ho) p2
theorem OPB.all (h : ∀ z : Int, 0 ≤ z → z < 24 → 0 ≤ OPNv V s 0 z ∧ OPNv V s 0 z ≤ 359) (n8 : ssn V s ≤ 8) : OPB V s := fun i a hi a0 a1 => by
  have e : OPNv V s i a = OPNv V s 0 ((i : Int) * 8 + a) := by
    unfold OPNv
    rw [show ((0 : Nat) : Int) * 8 + ((i : Int) * 8 + a) = (i : Int) * 8 + a by omega]
  rw [e]
  exact h _ (by omega) (by omega)
/-- what a season keeps, and all its ices -/
def SXA (V : Vmap) (x : Nat) : Prop := SXC V x ∧ ∀ z : Int, 0 ≤ z → z < 24 → 0 ≤ OPNv V (vq V x 2) 0 z ∧ OPNv V (vq V x 2) 0 z ≤ 359
theorem SVK.same (h : SVK V x) (f : SXT V V1 x) (g : vi V x 6 ≤ vi V1 x 6 ∧ ∀ k : Nat, (k : Int) < vi V x 6 → pkd V1 x k = pkd V x k) : SVK V1 x := fun j hj => by
  rw [f.2.1] at hj
  rw [f.2.2.1]
  obtain ⟨k0, k1, k2⟩ := h j hj
  exact ⟨k0, by omega, by rw [g.2 _ (by omega)]; exact k2⟩
theorem PEX.same (h : SVK V x) (hn : ((ssn V (vq V x 2) : Nat) : Int) = ssz V x) (f : SXT V V1 x) (g : PSX V V1 x) : ENq (PEX V x d) (PEX V1 x d) := by
  obtain ⟨f1, f2, f3, f4, f6, f7⟩ := f
  obtain ⟨g1, g2, g3, g4⟩ := g
  have eC : ∀ a : Int, 0 ≤ a → a < ssz V x → stC V1 x a = stC V x a := fun a a0 a1 => by
    obtain ⟨k0, k1, -⟩ := h a.toNat (by omega)
    unfold stC
    rw [f3]
    exact g4 _ (by omega)
  refine ⟨?_, rfl, fun a b a0 a1 b0 b1 => ?_, fun i a i3 a0 a1 => ⟨?_, ?_⟩⟩
  · show ssn V (vq V x 2) = ssn V1 (vq V1 x 2)
    rw [f1, sx_sz f1 f2]
  · have a1' : a < (ssn V (vq V x 2) : Int) := a1
    have b1' : b < (ssn V (vq V x 2) : Int) := b1
    show LGX V x a b = LGX V1 x a b
    unfold LGX
    rw [g3, eC a a0 (by omega), eC b b0 (by omega)]
  · show OPNv V (vq V x 2) i a = OPNv V1 (vq V1 x 2) i a
    rw [f1, f6]
  · show CLSv V (vq V x 2) i a = CLSv V1 (vq V1 x 2) i a
    rw [f1, f7]
theorem ssn_z (hW : WT K V) (hx : K x = some (0, 10)) : ((ssn V (vq V x 2) : Nat) : Int) = ssz V x := (ssn_8 hW (st_at hW hx).1).2
/-- nothing of it is written -/
theorem SXA.same (h : SXA V x) (hW : WT K V) (hx : K x = some (0, 10)) (f : SXS V V1 x) (fb : SXB V V1 x) (g : PSX V V1 x) : SXA V1 x := by
  obtain ⟨⟨h1, h2, h3, h4, h5⟩, h6⟩ := h
  have hE := PEX.same (d := vi V (vq V x 2) 8) h4 (ssn_z hW hx) f.1 g
  have h4' := h4.same f.1 ⟨g.1, g.2.1⟩
  obtain ⟨⟨f1, f2, f3, f4, f6, f7⟩, f5⟩ := f
  obtain ⟨b8, b9, bb⟩ := fb
  have ez := sx_sz f1 f2
  refine ⟨⟨?_, ?_, ?_, h4', ?_⟩, ?_⟩
  · rw [f1]
    unfold AH0 at h1 ⊢
    rw [f5]
    exact h1
  · rw [f1]
    unfold OPB at h2 ⊢
    rw [ez, f6]
    exact h2
  · rw [f1]
    unfold NDB at h3 ⊢
    rw [ez, f4]
    exact h3
  · rw [f1, b8, b9, bb, ez]
    rcases h5 with q | ⟨q1, q2⟩
    · exact Or.inl q
    · exact Or.inr ⟨q1, q2.en hE q1⟩
  · rw [f1, f6]
    exact h6
/-- a day: stations go on, and no plan stands -/
theorem SXA.day (h : SXA V x) (f : SXS V V1 x) (h8 : vi V1 (vq V x 2) 8 = -1) (g : vi V x 6 ≤ vi V1 x 6 ∧ ∀ k : Nat, (k : Int) < vi V x 6 → pkd V1 x k = pkd V x k) : SXA V1 x := by
  obtain ⟨⟨h1, h2, h3, h4, h5⟩, h6⟩ := h
  have h4' := h4.same f.1 g
  obtain ⟨⟨f1, f2, f3, f4, f6, f7⟩, f5⟩ := f
  have ez := sx_sz f1 f2
  refine ⟨⟨?_, ?_, ?_, h4', Or.inl (by rw [f1]; exact h8)⟩, ?_⟩
  · rw [f1]
    unfold AH0 at h1 ⊢
    rw [f5]
    exact h1
  · rw [f1]
    unfold OPB at h2 ⊢
    rw [ez, f6]
    exact h2
  · rw [f1]
    unfold NDB at h3 ⊢
    rw [ez, f4]
    exact h3
  · rw [f1, f6]
    exact h6
theorem SXA.frx {ws : Nat} (h : SXA V x) (hF : FR ws K V K1 V1) (hE : ext K K1) (hW : WT K V) (hx : K x = some (0, 10)) (hN : NN 6 5 V x) (hp : POL V V1 x g) (b1 : sxbits ws = true) (b2 : sybits5 ws = true) (b3 : pxbits5 ws = true) : SXA V1 x := h.same hW hx (SXS.fr hF hE hW hx b1) (SXB.fr hF hE hW hx b2) (PSX.pol hp hF hE hW hx hN b3)
/-- ice(): where there are stops there are places -/
theorem SXA.ice {ws : Nat} (h : SXA V x) (hF : FR ws K V K1 V1) (hE : ext K K1) (hW : WT K V) (hx : K x = some (0, 10)) (f : ICC V V1 x p y X) (h6 : vi V1 x 6 = vi V x 6) (b1 : sxbits ws = true) (b2 : sybits5 ws = true) : SXA V1 x := by
  rcases f with ⟨-, -, f1⟩ | ⟨-, f1, -⟩
  · rw [f1]
    exact h
  · have n0 : vi V x 6 ≤ 0 := f1.2.2.2.2.1
    have f := SXS.fr hF hE hW hx b1
    have fb := SXB.fr hF hE hW hx b2
    refine h.day f ?_ ⟨by omega, fun k hk => by omega⟩
    rcases h.1.2.2.2.2 with q | ⟨q1, -⟩
    · rw [fb.1]
      exact q
    · exfalso
      have e := ssn_z hW hx
      obtain ⟨k0, k1, -⟩ := h.1.2.2.2.1 0 (by omega)
      omega
theorem SXA.dayc {ws : Nat} (h : SXA V x) (hF : FR ws K V K1 V1) (hE : ext K K1) (hW : WT K V) (hx : K x = some (0, 10)) (hP : PLI V x) (f : DYP V V1 x X) (f8 : X ≠ -1 → vi V1 (vq V1 x 2) 8 = -1) (b1 : sxbits ws = true) : SXA V1 x := by
  have fs := SXS.fr hF hE hW hx b1
  rcases f with ⟨-, f1⟩ | ⟨f1, f2⟩
  · rw [f1]
    exact h
  · obtain ⟨-, g2, -, -⟩ := f2 hP
    exact h.day fs (by rw [← fs.1.1]; exact f8 f1) ⟨by rw [g2.1]; omega, fun k hk => g2.kd hk⟩
/-! what both sides hold of it -/
def SSR (V : Vmap) (x m : Nat) : Prop := (∀ z : Nat, z < 24 → OPNv V (vq V x 2) 0 (z : Int) = ar 141 V m z ∧ CLSv V (vq V x 2) 0 (z : Int) = ar 142 V m z) ∧ (∀ j : Nat, (j : Int) < ssz V x → ndv V (vq V x 2) j = ar 140 V m j) ∧ ∀ r : Nat, (r : Int) < vi V x 10 → shF V x r 1 = ar 95 V m r
def srbits5 (ws : Nat) : Bool := [keyK (0, 11) 140, keyK (0, 11) 141, keyK (0, 11) 142, keyK (0, 11) 95].all (fun b => !ws.testBit b) && [112 + 1, 113 + 1, 114 + 1, 73 + 1].all (fun b => !ws.testBit (abase + b))
def rmbits5 (ws : Nat) : Bool := [keyK (0, 10) 9, keyK (0, 10) 10, abase + 8, keyK (0, 6) 1].all fun b => !ws.testBit b
def MR5 (V V1 : Vmap) (m : Nat) : Prop := ar 140 V1 m = ar 140 V m ∧ ar 141 V1 m = ar 141 V m ∧ ar 142 V1 m = ar 142 V m ∧ ar 95 V1 m = ar 95 V m
theorem MR5.fr {ws : Nat} (hF : FR ws K V K1 V1) (hE : ext K K1) (hW : WT K V) (hm : K m = some (0, 11)) (hb : srbits5 ws = true) : MR5 V V1 m := by
  simp only [srbits5, List.all_cons, List.all_nil, Bool.and_true, Bool.and_eq_true, Bool.not_eq_true'] at hb
  obtain ⟨⟨c0, c1, c2, c3⟩, b0, b1, b2, b3⟩ := hb
  exact ⟨arq hF hE hm (hW.ref hm (j := 140) (Nat.le_of_ble_eq_true rfl) rfl).2 c0 b0, arq hF hE hm (hW.ref hm (j := 141) (Nat.le_of_ble_eq_true rfl) rfl).2 c1 b1, arq hF hE hm (hW.ref hm (j := 142) (Nat.le_of_ble_eq_true rfl) rfl).2 c2 b2, arq hF hE hm (hW.ref hm (j := 95) (Nat.le_of_ble_eq_true rfl) rfl).2 c3 b3⟩
def RM5 (V V1 : Vmap) (x : Nat) : Prop := vi V1 x 10 = vi V x 10 ∧ ∀ r : Nat, (r : Int) < vi V x 10 → shF V1 x r 1 = shF V x r 1
theorem RM5.fr {ws : Nat} (hF : FR ws K V K1 V1) (hE : ext K K1) (hW : WT K V) (hx : K x = some (0, 10)) (hN : SN V x) (hb : rmbits5 ws = true) : RM5 V V1 x := by
  simp only [rmbits5, List.all_cons, List.all_nil, Bool.and_true, Bool.and_eq_true, Bool.not_eq_true'] at hb
  obtain ⟨c9, c10, a8, f1⟩ := hb
  have hx1 := hE.obj (Or.inl (by decide)) hx
  have hA := sh_row hW hx
  have e9 : vq V1 x 9 = vq V x 9 := vq_eq (hF x _ 9 hx hx1 c9)
  have er : ∀ r : Nat, V1 (vq V x 9) r = V (vq V x 9) r := fun r => hF _ _ r hA (hE.arr hA) a8
  refine ⟨vi_fr hF hx hx1 c10, fun r hr => ?_⟩
  obtain ⟨h1, h2, h3⟩ := sh_at hW hx hN hr
  have eo : shO V1 x r = shO V x r := by
    unfold shO
    rw [e9, vq_eq (er r)]
  unfold shF
  rw [eo]
  exact vi_fr hF h3 (hE.obj (Or.inl (by decide)) h3) f1
theorem SSR.same (h : SSR V x m) (f : SXT V V1 x) (fr : RM5 V V1 x) (g : MR5 V V1 m) : SSR V1 x m := by
  obtain ⟨h1, h2, h3⟩ := h
  obtain ⟨f1, f2, f3, f4, f6, f7⟩ := f
  obtain ⟨g0, g1, g2, g3⟩ := g
  refine ⟨fun z hz => ?_, fun j hj => ?_, fun r hr => ?_⟩
  · rw [f1, f6, f7, g1, g2]
    exact h1 z hz
  · rw [f2] at hj
    rw [f1, f4, g0]
    exact h2 j hj
  · rw [fr.1] at hr
    rw [fr.2 r hr, g3]
    exact h3 r hr
theorem SSR.frx {ws : Nat} (h : SSR V x m) (hF : FR ws K V K1 V1) (hE : ext K K1) (hW : WT K V) (hx : K x = some (0, 10)) (hm : K m = some (0, 11)) (hN : SN V x) (b1 : stbits5 ws = true) (b2 : rmbits5 ws = true) (b3 : srbits5 ws = true) : SSR V1 x m := h.same (SXT.fr hF hE hW hx b1) (RM5.fr hF hE hW hx hN b2) (MR5.fr hF hE hW hm b3)
/-- a new ship -/
theorem SSR.ship {w1 w2 : Nat} (h : SSR V x m) (hx : K x = some (0, 10)) (hm : K m = some (0, 11)) (hW : WT K V) (hW1 : WT K1 V1) (hE1 : ext K K1) (hF1 : FR w1 K V K1 V1) (hE2 : ext K1 K2) (hF2 : FR w2 K1 V1 K2 V2) (hN1 : SN V1 x) (hXY : X = Y) (hn : vi V1 m 91 = vi V x 10) (f : NSH K V V1 x p a b X) (f1 : MNS V1 V2 m p a b Y) (b1 : stbits5 w1 = true) (b3 : srbits5 w1 = true) (c1 : stbits5 w2 = true) (c2 : rmbits5 w2 = true) (c3 : ([keyK (0, 11) 140, keyK (0, 11) 141, keyK (0, 11) 142].all (fun b => !w2.testBit b) && [112 + 1, 113 + 1, 114 + 1].all (fun b => !w2.testBit (abase + b))) = true) : SSR V2 x m := by
  have hx1 := hE1.obj (Or.inl (by decide)) hx
  have hm1 := hE1.obj (Or.inl (by decide)) hm
  have fs1 := SXT.fr hF1 hE1 hW hx b1
  have fs2 := SXT.fr hF2 hE2 hW1 hx1 c1
  have g1 := MR5.fr hF1 hE1 hW hm b3
  have r2 := RM5.fr hF2 hE2 hW1 hx1 hN1 c2
  simp only [List.all_cons, List.all_nil, Bool.and_true, Bool.and_eq_true, Bool.not_eq_true'] at c3
  obtain ⟨⟨d0, d1, d2⟩, e0, e1, e2⟩ := c3
  have m0 := arq hF2 hE2 hm1 (hW1.ref hm1 (j := 140) (Nat.le_of_ble_eq_true rfl) rfl).2 d0 e0
  have m1 := arq hF2 hE2 hm1 (hW1.ref hm1 (j := 141) (Nat.le_of_ble_eq_true rfl) rfl).2 d1 e1
  have m2 := arq hF2 hE2 hm1 (hW1.ref hm1 (j := 142) (Nat.le_of_ble_eq_true rfl) rfl).2 d2 e2
  obtain ⟨h1, h2, h3⟩ := h
  obtain ⟨p1, p2, p3, p4, p6, p7⟩ := fs1
  obtain ⟨q1, q2, q3, q4, q6, q7⟩ := fs2
  obtain ⟨g10, g11, g12, g13⟩ := g1
  refine ⟨fun z hz => ?_, fun j hj => ?_, fun r hr => ?_⟩
  · rw [q1, q6, q7, p1, p6, p7, m1, m2, g11, g12]
    exact h1 z hz
  · rw [q2, p2] at hj
    rw [q1, q4, p1, p4, m0, g10]
    exact h2 j hj
  · rw [r2.1] at hr
    rw [r2.2 r hr]
    rcases f with ⟨f0, f1'⟩ | ⟨f0, f1', f2, f3, f4, f5, f6⟩
    · rcases f1 with ⟨e0, e1'⟩ | ⟨e0, e1', e2', e3, e4, -⟩
      · rw [e1', f1']
        rw [f1'] at hr
        exact h3 r hr
      · omega
    · rcases f1 with ⟨e0, e1'⟩ | ⟨e0, e1', e2', e3, e4, -⟩
      · omega
      · rw [e4, g13]
        by_cases c : (r : Int) = vi V x 10
        · rw [show r = (vi V1 m 91).toNat by omega, updf_at, show (vi V1 m 91).toNat = (vi V x 10).toNat by omega]
          exact f5.2.1
        · rw [updf_of (by omega), (f6 r (by omega)).2 1 (by decide)]
          exact h3 r (by omega)
/-! plan(), planned() -/
/-- one memory: the same numbers on both sides -/
theorem SSR.en (h : SSR V x m) (hA : SXA V x) (hP : PLE V x m) (hS : STE V x m) (hW : WT K V) (hx : K x = some (0, 10)) : ENq (PEX V x d) (PEM V m d) := by
  obtain ⟨h1, h2, h3⟩ := h
  obtain ⟨hI, -, r1, r2, r3, r4, r6, r7⟩ := hP
  have en := ssn_z hW hx
  have n8 := (ssn_8 hW (st_at hW hx).1).1
  have hv := hA.1.2.2.2.1
  have eC : ∀ a : Int, 0 ≤ a → a < ssz V x → stC V x a = mcl V m a := fun a a0 a1 => by
    obtain ⟨k0, k1, -⟩ := hv a.toNat (by omega)
    have e1 := hS.2 a.toNat (by omega)
    unfold stC mcl
    rw [← e1]
    exact congrArg (fun r : Int × Int × Int => r.1) (r6 (stg V x a.toNat).toNat (by omega)).2
  refine ⟨?_, rfl, fun a b a0 a1 b0 b1 => ?_, fun i a i3 a0 a1 => ?_⟩
  · show ssn V (vq V x 2) = msn V m
    have := hS.1
    unfold msn
    omega
  · have a1' : a < (ssn V (vq V x 2) : Int) := a1
    have b1' : b < (ssn V (vq V x 2) : Int) := b1
    show LGX V x a b = LGM V m a b
    unfold LGX LGM
    rw [r1, eC a a0 (by omega), eC b b0 (by omega)]
  · have a1' : a < (ssn V (vq V x 2) : Int) := a1
    have g := h1 (8 * i + a.toNat) (by omega)
    have ez : (((8 * i + a.toNat : Nat)) : Int) = (i : Int) * 8 + a := by omega
    rw [ez] at g
    have e1 : OPNv V (vq V x 2) 0 ((i : Int) * 8 + a) = OPNv V (vq V x 2) i a := by
      unfold OPNv
      rw [show ((0 : Nat) : Int) * 8 + ((i : Int) * 8 + a) = (i : Int) * 8 + a by omega]
    have e2 : CLSv V (vq V x 2) 0 ((i : Int) * 8 + a) = CLSv V (vq V x 2) i a := by
      unfold CLSv
      rw [show ((0 : Nat) : Int) * 8 + ((i : Int) * 8 + a) = (i : Int) * 8 + a by omega]
    rw [e1, e2] at g
    exact g
/-- the class has answered in V1, the reference in V2 -/
theorem plan_val (hR1 : SSR V1 x m) (hA : SXA V x) (hA1 : SXA V1 x) (hP1 : PLE V1 x m) (hS1 : STE V1 x m) (hR : SSR V x m) (hW : WT K V) (hx : K x = some (0, 10)) (hW1 : WT K1 V1) (hx1 : K1 x = some (0, 10)) (hm1 : K1 m = some (0, 11)) (hf : SXT V V1 x) (fr : RM5 V V1 x) (hd : rgv V (vq V (vq V x 0) 10) 4 y = ar 106 V1 m y.toNat ∨ ¬ (0 ≤ y ∧ y ≤ 3)) (hdy : 0 ≤ y → y ≤ 3 → 0 ≤ ar 106 V1 m y.toNat ∧ ar 106 V1 m y.toNat ≤ 90) (h91 : vi V x 10 = vi V1 m 91) (f : (X = -1 ∧ ¬ PAD V x p y d) ∨ (PAD V x p y d ∧ BSv (PEX V1 x (d + rgv V (vq V (vq V x 0) 10) 4 y)) (fun _ => True) X (bev V1 (vq V1 x 2)))) (f1 : MAC V1 V2 m p y d Y) : X = Y ∧ (X ≠ -1 → ∀ j : Nat, (j : Int) < ssz V1 x → bev V1 (vq V1 x 2) j = ar 144 V2 m j) := by
  have en1 := ssn_z hW1 hx1
  have en := ssn_z hW hx
  have n81 := (ssn_8 hW1 (st_at hW1 hx1).1).1
  have hz1 := hf.2.1
  have hz := sx_sz hf.1 hf.2.1
  have ems : msn V1 m = ssn V1 (vq V1 x 2) := by
    have := hS1.1
    unfold msn
    omega
  have ezz : ssn V1 (vq V1 x 2) = ssn V (vq V x 2) := by
    rw [hf.1]
    exact hz
  have esum : nsm (ar 140 V1 m) (msn V1 m) = nsm (ndv V (vq V x 2)) (ssn V (vq V x 2)) := by
    rw [ems, ezz]
    refine nsm_cg _ fun j hj => ?_
    rw [← hR1.2.1 j (by omega), hf.1, hf.2.2.2.1]
  rcases f1 with ⟨g1, g2, g3, g4, g5⟩ | ⟨g1, g2, -⟩
  · have hco : MCO V1 m y d := by
      have b := hdy g2.1 g2.2
      refine ⟨fun j hj => ?_, by omega, by omega, fun i a hi a0 a1 => ?_⟩
      · rw [← hR1.2.1 j (by omega)]
        exact hA1.1.2.2.1 j (by omega)
      · have g := (hR1.1 (8 * i + a.toNat) (by omega)).1
        rw [← g]
        exact hA1.2 _ (by omega) (by omega)
    have hroom : vi V (vq V (vq V x 9) p.toNat) 1 = ar 95 V1 m p.toNat := by
      have := hR1.2.2 p.toNat (by rw [fr.1]; omega)
      rw [fr.2 p.toNat (by omega)] at this
      exact this
    have eq : PAD V x p y d ↔ MPD5 V1 m p := by
      unfold PAD MPD5
      rw [esum, ← hroom, ems, ezz, h91]
      exact ⟨fun q => ⟨q.2.2.2.1, q.2.2.2.2⟩, fun q => ⟨g1, g2, g3, q.1, q.2⟩⟩
    rcases g4 hco with ⟨q1, q2⟩ | ⟨q1, q2⟩
    · rcases f with ⟨f1, f2⟩ | ⟨f1, -⟩
      · exact ⟨by omega, fun q => absurd f1 q⟩
      · exact absurd (eq.mp f1) q1
    · rcases f with ⟨f1, f2⟩ | ⟨f1, f2⟩
      · exact absurd (eq.mpr q1) f2
      · have ed : rgv V (vq V (vq V x 0) 10) 4 y = ar 106 V1 m y.toNat := by
          rcases hd with hd | hd
          · exact hd
          · exact absurd g2 hd
        have n1 : 0 < ssn V1 (vq V1 x 2) := by have := q1.1; omega
        have e := f2.en (hR1.en hA1 hP1 hS1 hW1 hx1) n1
        rw [ed] at e
        rw [← g5] at q2
        obtain ⟨u1, u2⟩ := e.uq q2
        exact ⟨u1, fun q j hj => u2 q j (by show j < msn V1 m; omega)⟩
  · rcases f with ⟨f1, f2⟩ | ⟨f1, -⟩
    · exact ⟨by omega, fun q => absurd f1 q⟩
    · exact absurd ⟨by rw [← h91]; exact f1.1, f1.2.1, f1.2.2.1⟩ g1
theorem SXA.plan {ws : Nat} (h : SXA V x) (hF : FR ws K V K1 V1) (hE : ext K K1) (hW : WT K V) (hx : K x = some (0, 10)) (hc : SXC V1 x) (b1 : ([keyK (0, 10) 2, keyK (0, 5) 1, abase + 138].all fun b => !ws.testBit b) = true) : SXA V1 x := by
  simp only [List.all_cons, List.all_nil, Bool.and_true, Bool.and_eq_true, Bool.not_eq_true'] at b1
  obtain ⟨c2, d1, a1⟩ := b1
  obtain ⟨h1, h2⟩ := st_at hW hx
  have e1 : vq V1 x 2 = vq V x 2 := vq_eq (hF x _ 2 hx (hE.obj (Or.inl (by decide)) hx) c2)
  have e2 : OPNv V1 (vq V x 2) = OPNv V (vq V x 2) := by
    funext i z
    unfold OPNv
    rw [rg_fx hF hE (Or.inl (by decide)) h1 (row_n (j := 1) hW h1 rfl rfl rfl (by decide)) d1 a1 24]
  refine ⟨hc, ?_⟩
  rw [e1, e2]
  exact h.2
/-! stop(), open() -/
def SPN (V V1 : Vmap) (x : Nat) (k n X : Int) : Prop := NN 6 5 V x → (X = -1 ∧ SXS V V1 x ∧ (vi V1 (vq V x 2) 8 = -1 ∨ vi V1 (vq V x 2) 8 = vi V (vq V x 2) 8) ∧ vi V1 (vq V x 2) 9 = vi V (vq V x 2) 9 ∧ bev V1 (vq V x 2) = bev V (vq V x 2)) ∨ (X ≠ -1 ∧ PK V x k 1 ∧ 0 ≤ n ∧ n ≤ 10000 ∧ vi V1 (vq V x 2) 8 = -1 ∧ vq V1 x 2 = vq V x 2 ∧ 0 ≤ ssz V x ∧ ssz V1 x = ssz V x + 1 ∧ (∀ j : Nat, (j : Int) < ssz V x + 1 → (stg V1 x j = if (j : Int) = ssz V x then k else stg V x j) ∧ ndv V1 (vq V x 2) j = if (j : Int) = ssz V x then n else ndv V (vq V x 2) j) ∧ ahv V1 (vq V x 2) = ahv V (vq V x 2) ∧ OPNv V1 (vq V x 2) = OPNv V (vq V x 2) ∧ CLSv V1 (vq V x 2) = CLSv V (vq V x 2))
theorem SXT.rf : SXT V V x := ⟨rfl, rfl, rfl, rfl, rfl, rfl⟩
theorem SPN.no (hX : X = -1) : SPN V V x k n X := fun _ => Or.inl ⟨hX, ⟨SXT.rf, rfl⟩, Or.inr rfl, rfl, rfl⟩
theorem SPN.ap {ws : Nat} (hq : o = plO V x k.toNat ∧ STN V x k) (h0 : 0 ≤ n) (h1 : n ≤ 10000) (rk : ir k) (hF : FR ws K V K V1) (hW : WT K V) (hW1 : WT K V1) (hx : K x = some (0, 10)) (hb : sxbits ws = true) (hb2 : ([keyK (0, 5) 7, keyK (0, 5) 9, abase + 144].all fun b => !ws.testBit b) = true) (h8 : vi V1 (vq V1 x 2) 8 = -1) (ha : APP K V1 V2 (sto V1 x) k n 0 0 0 X) : SPN V V2 x k n X := fun _ => by
  have f := SXS.fr hF ext.rf hW hx hb
  obtain ⟨⟨f1, f2, f3, f4, f6, f7⟩, f5⟩ := f
  simp only [List.all_cons, List.all_nil, Bool.and_true, Bool.and_eq_true, Bool.not_eq_true'] at hb2
  obtain ⟨d7, d9, a7⟩ := hb2
  obtain ⟨s1, s2⟩ := st_at hW hx
  have f9 : vi V1 (vq V x 2) 9 = vi V (vq V x 2) 9 := vi_fr hF s1 s1 d9
  have fb : bev V1 (vq V x 2) = bev V (vq V x 2) := bev_fr hF hW s1 d7 a7
  have s1w := s1
  obtain ⟨a1, a2⟩ := st_at hW1 hx
  obtain ⟨a3, a4, a5⟩ := st_tab hW1 a2
  rw [f1] at h8
  have z0 := ((hW1.int a2 (j := 3) (Nat.le_of_ble_eq_true rfl) rfl).2)
  have hz : vi V1 (sto V1 x) 3 = ssz V x := f2
  rcases ha 2 8 (by decide) (by decide) a4 a5 with ⟨b1, b2, b3⟩ | ⟨b1, b2, b3⟩
  · subst b3
    exact Or.inl ⟨b2, ⟨⟨f1, f2, f3, f4, f6, f7⟩, f5⟩, Or.inl h8, f9, fb⟩
  · obtain ⟨c1, c2, c3, c4⟩ := apv_all (a := k) (b := n) (c := 0) (d := 0) (e := 0) a4 a2 b1 (by decide) rk ⟨by omega, by omega⟩ (ir_c rfl) (ir_c rfl) (ir_c rfl)
    rw [← b3] at c1 c2 c3 c4
    have n1 : x ≠ sto V1 x := K_ne hx a2 (by decide)
    have n2 : x ≠ vq V1 (sto V1 x) 2 := K_ne hx a3 (by decide)
    have n3 : vq V1 x 2 ≠ sto V1 x := K_ne a1 a2 (by decide)
    have n4 : vq V1 x 2 ≠ vq V1 (sto V1 x) 2 := K_ne a1 a3 (by decide)
    have e1 : vq V2 x 2 = vq V1 x 2 := by unfold vq; rw [c3 x n1 n2]
    have hs2 : V2 (vq V1 x 2) = V1 (vq V1 x 2) := c3 _ n3 n4
    have ej : ∀ j : Nat, vq V2 (vq V1 x 2) j = vq V1 (vq V1 x 2) j := fun j => by unfold vq; unfold vq at hs2; rw [hs2]
    have e2 : sto V2 x = sto V1 x := by
      unfold sto
      rw [e1, ej]
    have e3 : vq V2 (sto V1 x) 2 = vq V1 (sto V1 x) 2 := vq_eq (c2 2 (by decide))
    have er : ∀ (j t L : Nat), K (vq V1 (vq V1 x 2) j) = some (t + 1, L) → t ≠ 146 → ∀ N, rgv V2 (vq V2 (vq V1 x 2) j) N = rgv V1 (vq V1 (vq V1 x 2) j) N := fun j t L hk ht N => by
      have m1 : vq V1 (vq V1 x 2) j ≠ sto V1 x := K_ne hk a2 (by simp)
      have m2 : vq V1 (vq V1 x 2) j ≠ vq V1 (sto V1 x) 2 := K_ne hk a3 (by simp [ht])
      have := c3 _ m1 m2
      funext z
      unfold rgv
      rw [ej]
      split
      · exact vi_eq (congrFun this _)
      · rfl
    have g1 := er 1 137 24 (row_n (j := 1) hW1 a1 rfl rfl rfl (by decide)) (by decide) 24
    have g2 := er 2 138 24 (row_n (j := 2) hW1 a1 rfl rfl rfl (by decide)) (by decide) 24
    have g6 := er 6 142 2048 (row_n (j := 6) hW1 a1 rfl rfl rfl (by decide)) (by decide) 2048
    rw [f1] at hs2 ej e1 g1 g2 g6
    refine Or.inr ⟨by omega, hq.2.1, h0, h1, ?_, e1, by omega, ?_, fun j hj => ⟨?_, ?_⟩, ?_, ?_, ?_⟩
    · rw [vi_eq (congrFun hs2 8)]
      exact h8
    · unfold ssz
      rw [e2, c1, hz]
      rfl
    · have e4 : stg V2 x j = vi V2 (vq V1 (sto V1 x) 2) (2 * j) := by
        unfold stg
        rw [e2, e3]
      rw [e4, c4, hz]
      by_cases q : (j : Int) = ssz V x
      · rw [if_pos q, if_neg (by omega), if_pos (by omega)]
      · rw [if_neg q, if_pos (by omega)]
        exact congrFun f3 j
    · have es : vq V1 (vq V x 2) 0 = sto V1 x := by
        unfold sto
        rw [f1]
      have e4 : ndv V2 (vq V x 2) j = vi V2 (vq V1 (sto V1 x) 2) (2 * j + 1) := by
        unfold ndv
        rw [ej, es, e3]
      have e5 : ndv V1 (vq V x 2) j = vi V1 (vq V1 (sto V1 x) 2) (2 * j + 1) := by
        unfold ndv
        rw [es]
      rw [e4, c4, hz]
      by_cases q : (j : Int) = ssz V x
      · rw [if_pos q, if_neg (by omega), if_neg (by omega), if_pos (by omega)]
      · rw [if_neg q, if_pos (by omega), ← e5]
        exact congrFun f4 j
    · rw [← f5]
      funext z
      unfold ahv
      rw [g6]
    · rw [← f6]
      funext i z
      unfold OPNv
      rw [g1]
    · rw [← f7]
      funext i z
      unfold CLSv
      rw [g2]
/-- the reference's need of a new stop -/
def MSQ (V V1 : Vmap) (m : Nat) (n X : Int) : Prop := (X = -1 ∧ V1 = V) ∨ (X ≠ -1 ∧ ar 140 V1 m = updf (ar 140 V m) (vi V m 137).toNat n)
theorem MSQ.ok {j : Nat} (hX : X ≠ -1) (e : ar 140 V1 m = updf (ar 140 V m) j n) (hj : j = (vi V m 137).toNat) : MSQ V V1 m n X := Or.inr ⟨hX, by rw [← hj]; exact e⟩
theorem SXA.stop {ws : Nat} (h : SXA V x) (hF : FR ws K V K1 V1) (hE : ext K K1) (hW : WT K V) (hx : K x = some (0, 10)) (hN : NN 6 5 V x) (f : SPN V V1 x k n X) (b2 : pobits ws = true) (b3 : pxbits5 ws = true) : SXA V1 x := by
  have hp := PSX.pol (POL.fr (g := 0) hF hE hW hx b2) hF hE hW hx hN b3
  have en := ssn_z hW hx
  have n8 := (ssn_8 hW (st_at hW hx).1).1
  rcases f hN with ⟨-, f1, f2, f3, f4⟩ | ⟨-, p0, p1, p2, f1, f2, f3, f4, f5, f6, f7, f8⟩
  · rcases f2 with f2 | f2
    · exact h.day f1 f2 ⟨hp.1, hp.2.1⟩
    · exact h.same hW hx f1 ⟨f2, f3, f4⟩ hp
  · obtain ⟨⟨h1, h2, h3, h4, h5⟩, h6⟩ := h
    have ez : ((ssn V1 (vq V x 2) : Nat) : Int) = ssz V x + 1 := by
      have e : ssz V1 x = vi V1 (vq V1 (vq V x 2) 0) 3 := by
        unfold ssz sto
        rw [f2]
      unfold ssn
      omega
    have h6' : ∀ z : Int, 0 ≤ z → z < 24 → 0 ≤ OPNv V1 (vq V1 x 2) 0 z ∧ OPNv V1 (vq V1 x 2) 0 z ≤ 359 := by
      rw [f2, f7]
      exact h6
    have hx1 := hE.obj (Or.inl (by decide)) hx
    refine ⟨⟨?_, ?_, ?_, ?_, Or.inl (by rw [f2]; exact f1)⟩, h6'⟩
    · rw [f2]
      unfold AH0 at h1 ⊢
      rw [f6]
      exact h1
    · rw [f2] at h6' ⊢
      intro i a hi a0 a1
      by_cases c : ssn V1 (vq V x 2) ≤ 8
      · exact OPB.all h6' c i a hi a0 a1
      · have e : OPNv V1 (vq V x 2) i a = OPNv V1 (vq V x 2) 0 ((i : Int) * 8 + a) := by
          unfold OPNv
          rw [show ((0 : Nat) : Int) * 8 + ((i : Int) * 8 + a) = (i : Int) * 8 + a by omega]
        rw [e]
        by_cases c2 : (i : Int) * 8 + a < 24
        · exact h6' _ (by omega) c2
        · have : OPNv V1 (vq V x 2) 0 ((i : Int) * 8 + a) = 0 := by
            unfold OPNv
            exact (rgv_out (Or.inr (by omega))).symm
          omega
    · rw [f2]
      intro j hj
      rw [(f5 j (by omega)).2]
      by_cases c : (j : Int) = ssz V x
      · rw [if_pos c]
        omega
      · rw [if_neg c]
        exact h3 j (by omega)
    · intro j hj
      rw [f4] at hj
      rw [(f5 j hj).1]
      by_cases c : (j : Int) = ssz V x
      · rw [if_pos c]
        exact ⟨p0.1, by have := p0.2.1; have := hp.1; omega, by rw [hp.2.1 _ (by have := p0.1; have := p0.2.1; omega)]; exact p0.2.2⟩
      · rw [if_neg c]
        obtain ⟨k0, k1, k2⟩ := h4 j (by omega)
        exact ⟨k0, by have := hp.1; omega, by rw [hp.2.1 _ (by omega)]; exact k2⟩
theorem SSR.stop {w1 w2 : Nat} (h : SSR V x m) (hS : STE V x m) (hx : K x = some (0, 10)) (hm : K m = some (0, 11)) (hW : WT K V) (hW1 : WT K1 V1) (hE1 : ext K K1) (hF1 : FR w1 K V K1 V1) (hE2 : ext K1 K2) (hF2 : FR w2 K1 V1 K2 V2) (hN : NN 6 5 V x) (hN0 : SN V x) (hN1 : SN V1 x) (hXY : X = Y) (f : SPN V V1 x k n X) (f1 : MSQ V1 V2 m n Y) (b1 : rmbits5 w1 = true) (b3 : srbits5 w1 = true) (b4 : msbits w1 = true) (c1 : stbits5 w2 = true) (c2 : rmbits5 w2 = true) (c3 : ([keyK (0, 11) 141, keyK (0, 11) 142, keyK (0, 11) 95].all (fun b => !w2.testBit b) && [113 + 1, 114 + 1, 73 + 1].all (fun b => !w2.testBit (abase + b))) = true) : SSR V2 x m := by
  have hx1 := hE1.obj (Or.inl (by decide)) hx
  have hm1 := hE1.obj (Or.inl (by decide)) hm
  have g1 := MR5.fr hF1 hE1 hW hm b3
  have r1 := RM5.fr hF1 hE1 hW hx hN0 b1
  have ms := MSS.fr hF1 hE1 hW hm b4
  have fs2 := SXT.fr hF2 hE2 hW1 hx1 c1
  have r2 := RM5.fr hF2 hE2 hW1 hx1 hN1 c2
  simp only [List.all_cons, List.all_nil, Bool.and_true, Bool.and_eq_true, Bool.not_eq_true'] at c3
  obtain ⟨⟨d1, d2, d3⟩, e1, e2, e3⟩ := c3
  have m1 := arq hF2 hE2 hm1 (hW1.ref hm1 (j := 141) (Nat.le_of_ble_eq_true rfl) rfl).2 d1 e1
  have m2 := arq hF2 hE2 hm1 (hW1.ref hm1 (j := 142) (Nat.le_of_ble_eq_true rfl) rfl).2 d2 e2
  have m3 := arq hF2 hE2 hm1 (hW1.ref hm1 (j := 95) (Nat.le_of_ble_eq_true rfl) rfl).2 d3 e3
  obtain ⟨h1, h2, h3⟩ := h
  obtain ⟨g10, g11, g12, g13⟩ := g1
  have hr : ∀ r : Nat, (r : Int) < vi V1 x 10 → shF V1 x r 1 = ar 95 V1 m r := fun r hr => by
    rw [r1.1] at hr
    rw [r1.2 r hr, g13]
    exact h3 r hr
  rcases f hN with ⟨x1, p1, -⟩ | ⟨x1, -, -, -, -, q1, q2, q3, q4, -, q6, q7⟩
  · have hA : SSR V1 x m := SSR.same ⟨h1, h2, h3⟩ p1.1 r1 ⟨g10, g11, g12, g13⟩
    rcases f1 with ⟨-, y1⟩ | ⟨y1, -⟩
    · rw [y1]
      exact hA
    · omega
  · rcases f1 with ⟨y1, -⟩ | ⟨-, y2⟩
    · omega
    · obtain ⟨u1, u2, u3, u4, u6, u7⟩ := fs2
      refine ⟨fun z hz => ?_, fun j hj => ?_, fun r hrr => ?_⟩
      · rw [u1, u6, u7, q1, q6, q7, m1, m2, g11, g12]
        exact h1 z hz
      · rw [u2, q3] at hj
        have ms1 := ms.1
        have hs1 := hS.1
        rw [u1, u4, q1, (q4 j hj).2, y2, g10]
        by_cases c : (j : Int) = ssz V x
        · rw [if_pos c, show j = (vi V1 m 137).toNat by omega, updf_at]
        · rw [if_neg c, updf_of (by omega)]
          exact h2 j (by omega)
      · rw [r2.1] at hrr
        rw [r2.2 r hrr, m3]
        exact hr r hrr
def OQD (i a c e z : Int) : Prop := 0 ≤ i ∧ i ≤ 2 ∧ 0 ≤ a ∧ a < z ∧ 0 ≤ c ∧ c ≤ e ∧ e ≤ 359
def OPC (V V1 : Vmap) (x : Nat) (i a c e X : Int) : Prop := (X = 0 ∧ V1 = V) ∨ (X ≠ 0 ∧ OQD i a c e (ssz V x) ∧ vi V1 (vq V x 2) 8 = -1 ∧ vq V1 x 2 = vq V x 2 ∧ ssz V1 x = ssz V x ∧ stg V1 x = stg V x ∧ ndv V1 (vq V x 2) = ndv V (vq V x 2) ∧ ahv V1 (vq V x 2) = ahv V (vq V x 2) ∧ (∀ z : Int, OPNv V1 (vq V x 2) 0 z = if z = i * 8 + a then c else OPNv V (vq V x 2) 0 z) ∧ ∀ z : Int, CLSv V1 (vq V x 2) 0 z = if z = i * 8 + a then e else CLSv V (vq V x 2) 0 z)
theorem OPC.no (hX : X = 0) : OPC V V x i a c e X := Or.inl ⟨hX, rfl⟩
/-- W: behind forget(); W1: the first row is written; W2: both -/
theorem OPC.ok {z1 z2 z3 z4 : Int} {ws q1 q2 : Nat} (hX : X ≠ 0) (hq : OQD i a c e (ssz V x)) (hW : WT K V) (hx : K x = some (0, 10)) (hF : FR ws K V K W) (hWw : WT K W) (hW1 : WT K W1) (hb : sxbits ws = true) (h8 : vi W (vq W x 2) 8 = -1) (k1 : ir (i * 8) → z1 = i * 8) (k2 : ir (z1 + a) → z2 = z1 + a) (e1 : W1 = rpv W (vq W q1 1) 24 z2 c) (hq1 : q1 = vq V x 2) (k3 : ir (i * 8) → z3 = i * 8) (k4 : ir (z3 + a) → z4 = z3 + a) (e2 : W2 = rpv W1 (vq W1 q2 2) 24 z4 e) (hq2 : q2 = vq V x 2) : OPC V W2 x i a c e X := by
  obtain ⟨⟨f1, f2, f3, f4, f6, f7⟩, f5⟩ := SXS.fr hF ext.rf hW hx hb
  have hqq := hq
  obtain ⟨i0, i2, a0, a1, c0, ce, e9⟩ := hqq
  obtain ⟨s1, s2⟩ := st_at hW hx
  have z8 := (hW.int s2 (j := 3) (Nat.le_of_ble_eq_true rfl) rfl).2
  have ez : vi V (sto V x) 3 = ssz V x := rfl
  have kk1 := k1 ⟨by omega, by omega⟩
  have kk2 := k2 ⟨by omega, by omega⟩
  have kk3 := k3 ⟨by omega, by omega⟩
  have kk4 := k4 ⟨by omega, by omega⟩
  rw [kk2, kk1, hq1] at e1
  rw [kk4, kk3, hq2] at e2
  rw [f1] at h8
  have A1 := row_n (j := 1) hWw s1 rfl rfl rfl (by decide) (L := 24) (t := 137)
  have A2 := row_n (j := 2) hW1 s1 rfl rfl rfl (by decide) (L := 24) (t := 138)
  have A2w := row_n (j := 2) hWw s1 rfl rfl rfl (by decide) (L := 24) (t := 138)
  have A1w := row_n (j := 1) hW1 s1 rfl rfl rfl (by decide) (L := 24) (t := 137)
  have ne1 : vq V x 2 ≠ vq W (vq V x 2) 1 := K_ne s1 A1 (by decide)
  have ne2 : vq V x 2 ≠ vq W1 (vq V x 2) 2 := K_ne s1 A2 (by decide)
  have p1 := rpv_put e1 (by omega) (by omega)
  have p2 := rpv_put e2 (by omega) (by omega)
  have u1 := rpv_m e1 (by omega) (by omega) ⟨by omega, by omega⟩
  have u2 := rpv_m e2 (by omega) (by omega) ⟨by omega, by omega⟩
  have v1 : ∀ j : Nat, vq W1 (vq V x 2) j = vq W (vq V x 2) j := fun j => vq_eq (by rw [p1]; exact upd2_ne (Or.inl ne1))
  have v2 : ∀ j : Nat, vq W2 (vq V x 2) j = vq W1 (vq V x 2) j := fun j => vq_eq (by rw [p2]; exact upd2_ne (Or.inl ne2))
  have o1 : ∀ (q : Nat) (kd : Nat × Nat), K q = some kd → kd.1 ≠ 138 → kd.1 ≠ 139 → W2 q = W q := fun q kd hk g1 g2 => by
    have n1 : q ≠ vq W (vq V x 2) 1 := K_ne hk A1 (fun h => g1 (by rw [h]))
    have n2 : q ≠ vq W1 (vq V x 2) 2 := K_ne hk A2 (fun h => g2 (by rw [h]))
    funext j
    rw [p2, upd2_ne (Or.inl n2), p1, upd2_ne (Or.inl n1)]
  have es2 : W2 x = W x := o1 x _ hx (by decide) (by decide)
  have ess : W2 (vq V x 2) = W (vq V x 2) := o1 _ _ s1 (by decide) (by decide)
  obtain ⟨w1, w2⟩ := st_at hWw hx
  have w3 := (st_tab hWw w2).1
  have est : W2 (sto W x) = W (sto W x) := o1 _ _ w2 (by decide) (by decide)
  have esr : W2 (vq W (sto W x) 2) = W (vq W (sto W x) 2) := o1 _ _ w3 (by decide) (by decide)
  have ev2 : vq W2 x 2 = vq V x 2 := (vq_eq (congrFun es2 2)).trans f1
  have esto : sto W2 x = sto W x := by
    unfold sto
    rw [ev2, f1]
    exact vq_eq (congrFun ess 0)
  have ev0 : vq W (vq V x 2) 0 = sto W x := by
    unfold sto
    rw [f1]
  have ev02 : vq W2 (vq V x 2) 0 = sto W x := (vq_eq (congrFun ess 0)).trans ev0
  have eres : vq W2 (sto W x) 2 = vq W (sto W x) 2 := vq_eq (congrFun est 2)
  refine Or.inr ⟨hX, hq, ?_, ev2, ?_, ?_, ?_, ?_, fun z => ?_, fun z => ?_⟩
  · rw [vi_eq (congrFun ess 8)]
    exact h8
  · rw [← f2]
    unfold ssz
    rw [esto]
    exact vi_eq (congrFun est 3)
  · rw [← f3]
    funext j
    unfold stg
    rw [esto, eres]
    exact vi_eq (congrFun esr _)
  · rw [← f4]
    funext j
    unfold ndv
    rw [ev02, ev0, eres]
    exact vi_eq (congrFun esr _)
  · rw [← f5]
    have A6 := row_n (j := 6) hWw s1 rfl rfl rfl (by decide) (L := 2048) (t := 142)
    have e6 := o1 _ _ A6 (by decide) (by decide)
    funext z
    unfold ahv rgv
    rw [v2, v1]
    split
    · exact vi_eq (congrFun e6 _)
    · rfl
  · have n12 : vq W1 (vq V x 2) 1 ≠ vq W1 (vq V x 2) 2 := K_ne A1w A2 (by decide)
    have e : OPNv W2 (vq V x 2) 0 z = OPNv W1 (vq V x 2) 0 z := by
      unfold OPNv rgv
      rw [v2]
      split
      · exact vi_up p2 (Or.inl n12)
      · rfl
    rw [e, ← f6]
    unfold OPNv
    rw [v1, u1, show ((0 : Nat) : Int) * 8 + z = z by omega]
  · have n21 : vq W (vq V x 2) 2 ≠ vq W (vq V x 2) 1 := K_ne A2w A1 (by decide)
    have e : rgv W1 (vq W1 (vq V x 2) 2) 24 z = rgv W (vq W (vq V x 2) 2) 24 z := by
      unfold rgv
      rw [v1]
      split
      · exact vi_up p1 (Or.inl n21)
      · rfl
    rw [← f7]
    unfold CLSv
    rw [v2, u2, show ((0 : Nat) : Int) * 8 + z = z by omega, e]
def MOC (V V1 : Vmap) (m : Nat) (i a c e X : Int) : Prop := (X = 0 ∧ V1 = V) ∨ (X ≠ 0 ∧ OQD i a c e (vi V m 137) ∧ ar 141 V1 m = updf (ar 141 V m) (8 * i + a).toNat c ∧ ar 142 V1 m = updf (ar 142 V m) (8 * i + a).toNat e)
theorem MOC.ok {j1 j2 : Nat} (hX : X ≠ 0) (hq : OQD i a c e (vi V m 137)) (e1 : ar 141 V1 m = updf (ar 141 V m) j1 c) (e2 : ar 142 V1 m = updf (ar 142 V m) j2 e) (h1 : j1 = (8 * i + a).toNat) (h2 : j2 = (8 * i + a).toNat) : MOC V V1 m i a c e X := Or.inr ⟨hX, hq, by rw [← h1]; exact e1, by rw [← h2]; exact e2⟩
theorem SXA.open5 {ws : Nat} (h : SXA V x) (hF : FR ws K V K1 V1) (hE : ext K K1) (hW : WT K V) (hx : K x = some (0, 10)) (hN : NN 6 5 V x) (f : OPC V V1 x i a c e X) (b2 : pobits ws = true) (b3 : pxbits5 ws = true) : SXA V1 x := by
  rcases f with ⟨-, f1⟩ | ⟨-, f1, f2, f3, f4, f5, f6, f7, f8, f9⟩
  · rw [f1]
    exact h
  · have hp := PSX.pol (POL.fr (g := 0) hF hE hW hx b2) hF hE hW hx hN b3
    have en := ssn_z hW hx
    have n8 := (ssn_8 hW (st_at hW hx).1).1
    obtain ⟨⟨h1, h2, h3, h4, h5⟩, h6⟩ := h
    have ez := sx_sz f3 f4
    obtain ⟨i0, i2, a0, a1, c0, ce, e9⟩ := f1
    have h6' : ∀ z : Int, 0 ≤ z → z < 24 → 0 ≤ OPNv V1 (vq V x 2) 0 z ∧ OPNv V1 (vq V x 2) 0 z ≤ 359 := fun z z0 z1 => by
      rw [f8 z]
      split
      · omega
      · exact h6 z z0 z1
    refine ⟨⟨?_, ?_, ?_, fun j hj => ?_, Or.inl (by rw [f3]; exact f2)⟩, by rw [f3]; exact h6'⟩
    · rw [f3]
      unfold AH0 at h1 ⊢
      rw [f7]
      exact h1
    · rw [f3]
      exact OPB.all h6' (by omega)
    · rw [f3]
      unfold NDB at h3 ⊢
      rw [ez, f6]
      exact h3
    · rw [f4] at hj
      rw [f5]
      obtain ⟨k0, k1, k2⟩ := h4 j hj
      exact ⟨k0, by have := hp.1; omega, by rw [hp.2.1 _ (by omega)]; exact k2⟩
theorem SSR.open5 {w1 w2 : Nat} (h : SSR V x m) (hS : STE V x m) (hx : K x = some (0, 10)) (hm : K m = some (0, 11)) (hW : WT K V) (hW1 : WT K1 V1) (hE1 : ext K K1) (hF1 : FR w1 K V K1 V1) (hE2 : ext K1 K2) (hF2 : FR w2 K1 V1 K2 V2) (hN0 : SN V x) (hN1 : SN V1 x) (hXY : X = 0 ↔ Y = 0) (f : OPC V V1 x i a c e X) (f1 : MOC V1 V2 m i a c e Y) (b1 : rmbits5 w1 = true) (b3 : srbits5 w1 = true) (c1 : stbits5 w2 = true) (c2 : rmbits5 w2 = true) (c3 : ([keyK (0, 11) 140, keyK (0, 11) 95].all (fun b => !w2.testBit b) && [112 + 1, 73 + 1].all (fun b => !w2.testBit (abase + b))) = true) : SSR V2 x m := by
  have hx1 := hE1.obj (Or.inl (by decide)) hx
  have hm1 := hE1.obj (Or.inl (by decide)) hm
  have g1 := MR5.fr hF1 hE1 hW hm b3
  have r1 := RM5.fr hF1 hE1 hW hx hN0 b1
  have fs2 := SXT.fr hF2 hE2 hW1 hx1 c1
  have r2 := RM5.fr hF2 hE2 hW1 hx1 hN1 c2
  simp only [List.all_cons, List.all_nil, Bool.and_true, Bool.and_eq_true, Bool.not_eq_true'] at c3
  obtain ⟨⟨d1, d3⟩, e1, e3⟩ := c3
  have m1 := arq hF2 hE2 hm1 (hW1.ref hm1 (j := 140) (Nat.le_of_ble_eq_true rfl) rfl).2 d1 e1
  have m3 := arq hF2 hE2 hm1 (hW1.ref hm1 (j := 95) (Nat.le_of_ble_eq_true rfl) rfl).2 d3 e3
  obtain ⟨h1, h2, h3⟩ := h
  obtain ⟨g10, g11, g12, g13⟩ := g1
  obtain ⟨u1, u2, u3, u4, u6, u7⟩ := fs2
  rcases f with ⟨x1, p1⟩ | ⟨x1, q0, -, q1, q2, q3, q4, -, q6, q7⟩
  · rcases f1 with ⟨-, y1⟩ | ⟨y1, -⟩
    · rw [y1]
      exact SSR.same ⟨h1, h2, h3⟩ (by rw [p1]; exact SXT.rf) r1 ⟨g10, g11, g12, g13⟩
    · exact absurd (hXY.mp x1) y1
  · rcases f1 with ⟨y1, -⟩ | ⟨-, y0, y2, y3⟩
    · exact absurd (hXY.mpr y1) x1
    · obtain ⟨i0, i2, a0, a1, -⟩ := q0
      refine ⟨fun z hz => ?_, fun j hj => ?_, fun r hrr => ?_⟩
      · obtain ⟨z1, z2⟩ := h1 z hz
        rw [u1, u6, u7, q1, q6, q7, y2, y3, g11, g12]
        by_cases cz : (z : Int) = i * 8 + a
        · rw [if_pos cz, if_pos cz, show z = (8 * i + a).toNat by omega, updf_at, updf_at]
          exact ⟨rfl, rfl⟩
        · rw [if_neg cz, if_neg cz, updf_of (by omega), updf_of (by omega)]
          exact ⟨z1, z2⟩
      · rw [u2, q2] at hj
        rw [u1, u4, q1, q4, m1, g10]
        exact h2 j hj
      · rw [r2.1] at hrr
        rw [r2.2 r hrr, m3, g13]
        rw [r1.1] at hrr
        rw [r1.2 r hrr]
        exact h3 r hrr
/-! the start -/
def SEZ (K : Kmap) (V : Vmap) (s : Nat) : Prop := K (vq V s 1) = some (137 + 1, 24) ∧ K (vq V s 2) = some (138 + 1, 24) ∧ K (vq V s 6) = some (142 + 1, 2048) ∧ vi V s 8 = -1 ∧ (∀ j : Nat, j < 24 → vi V (vq V s 1) j = 0) ∧ (∀ j : Nat, j < 24 → vi V (vq V s 2) j = 359) ∧ ∀ j : Nat, j < 2048 → vi V (vq V s 6) j = 0
theorem SEZ.mk {a2 N : Nat} {K0 : Kmap} (f2 : V s 2 = .ref a2) (f8 : V s 8 = ti (-1)) (k1 : K (vq V s 1) = some (137 + 1, 24)) (k2 : K a2 = some (138 + 1, 24)) (k6 : K (vq V s 6) = some (142 + 1, 2048)) (z1 : ZR K0 V s 1 24 0) (z6 : ZR K0 V s 6 2048 0) (f : FLL V0 V a2 N 359) (hN : 24 ≤ N) : SEZ K V s := by
  have e2 : vq V s 2 = a2 := vq_of f2
  refine ⟨k1, by rw [e2]; exact k2, k6, vi_at f8 (ir_c rfl), z1.2, fun j hj => ?_, z6.2⟩
  rw [e2]
  exact f.1 j (by omega)
def SEI (V : Vmap) (x : Nat) : Prop := vi V (vq V x 2) 8 = -1 ∧ (∀ j : Nat, j < 24 → vi V (vq V (vq V x 2) 1) j = 0) ∧ (∀ j : Nat, j < 24 → vi V (vq V (vq V x 2) 2) j = 359) ∧ ∀ j : Nat, j < 2048 → vi V (vq V (vq V x 2) 6) j = 0
theorem SEI.at (e : V x 2 = .ref o) (l1 : V o 1 = V0 o 1) (l2 : V o 2 = V0 o 2) (l6 : V o 6 = V0 o 6) (l8 : V o 8 = V0 o 8) (h1 : ∀ j, V (vq V0 o 1) j = V0 (vq V0 o 1) j) (h2 : ∀ j, V (vq V0 o 2) j = V0 (vq V0 o 2) j) (h6 : ∀ j, V (vq V0 o 6) j = V0 (vq V0 o 6) j) (z : SEZ K V0 o) : SEI V x := by
  obtain ⟨-, -, -, z8, z1, z2, z6⟩ := z
  have e2 : vq V x 2 = o := vq_of e
  unfold SEI
  rw [e2, vi_eq l8, vq_eq l1, vq_eq l2, vq_eq l6]
  exact ⟨z8, fun j hj => by rw [vi_eq (h1 j)]; exact z1 j hj, fun j hj => by rw [vi_eq (h2 j)]; exact z2 j hj, fun j hj => by rw [vi_eq (h6 j)]; exact z6 j hj⟩
theorem SEI.fr {ws : Nat} (h : SEI V x) (hF : FR ws K V K1 V1) (hE : ext K K1) (hW : WT K V) (hx : K x = some (0, 10)) (b1 : sxbits ws = true) (b2 : sybits5 ws = true) : SEI V1 x := by
  simp only [sxbits, stbits5, List.all_cons, List.all_nil, Bool.and_true, Bool.and_eq_true, Bool.not_eq_true'] at b1
  obtain ⟨⟨c2, d0, d1, d2, t2, t3, a7, a1, a2⟩, d6, a6⟩ := b1
  simp only [sybits5, List.all_cons, List.all_nil, Bool.and_true, Bool.and_eq_true, Bool.not_eq_true'] at b2
  obtain ⟨d7, d8, d9, a9⟩ := b2
  obtain ⟨s1, s2⟩ := st_at hW hx
  have g1 := hE.obj (Or.inl (by decide)) s1
  have e1 : vq V1 x 2 = vq V x 2 := vq_eq (hF x _ 2 hx (hE.obj (Or.inl (by decide)) hx) c2)
  have r1 := row_n (j := 1) hW s1 rfl rfl rfl (by decide) (L := 24) (t := 137)
  have r2 := row_n (j := 2) hW s1 rfl rfl rfl (by decide) (L := 24) (t := 138)
  have r6 := row_n (j := 6) hW s1 rfl rfl rfl (by decide) (L := 2048) (t := 142)
  have v1 : vq V1 (vq V x 2) 1 = vq V (vq V x 2) 1 := vq_eq (hF _ _ 1 s1 g1 d1)
  have v2 : vq V1 (vq V x 2) 2 = vq V (vq V x 2) 2 := vq_eq (hF _ _ 2 s1 g1 d2)
  have v6 : vq V1 (vq V x 2) 6 = vq V (vq V x 2) 6 := vq_eq (hF _ _ 6 s1 g1 d6)
  obtain ⟨h8, h1, h2, h6⟩ := h
  unfold SEI
  rw [e1, v1, v2, v6]
  exact ⟨(vi_fr hF s1 g1 d8).trans h8, fun j hj => (vi_frA hF r1 (hE.arr r1) a1).trans (h1 j hj), fun j hj => (vi_frA hF r2 (hE.arr r2) a2).trans (h2 j hj), fun j hj => (vi_frA hF r6 (hE.arr r6) a6).trans (h6 j hj)⟩
theorem SXA.nil (hz : ssz V x = 0) (h : SEI V x) : SXA V x := by
  obtain ⟨h8, h1, h2, h6⟩ := h
  have en : ssn V (vq V x 2) = 0 := by
    have e : vi V (vq V (vq V x 2) 0) 3 = ssz V x := rfl
    unfold ssn
    omega
  refine ⟨⟨fun y y0 y8 => ?_, fun i a hi a0 a1 => by omega, fun j hj => by omega, fun j hj => by omega, Or.inl h8⟩, fun z z0 z1 => ?_⟩
  · unfold ahv
    rw [← rgv_in y0 (by omega)]
    exact h6 _ (by omega)
  · unfold OPNv
    rw [show ((0 : Nat) : Int) * 8 + z = z by omega, ← rgv_in z0 (by omega), h1 _ (by omega)]
    omega
def MOJ (V : Vmap) (m : Nat) (i : Int) : Prop := ∀ j : Nat, (j : Int) < i → vi V (vq V m 142) j = 359
theorem MOJ.beg : MOJ V m 0 := fun j hj => by omega
theorem MOJ.step (h : MOJ V m i) (hW : WT K V) (hm : K m = some (0, 11)) (e : V1 = upd2 V (vq V m 142) i.toNat (ti 359)) (h0 : 0 ≤ i) (hn : n = i + 1) : MOJ V1 m n := fun j hj => by
  obtain ⟨N, hC⟩ := (hW.ref hm (j := 142) (Nat.le_of_ble_eq_true rfl) rfl).2
  have e1 : vq V1 m 142 = vq V m 142 := vq_eq (uq_ne e (Or.inl (K_ne hm hC (by simp))))
  rw [e1]
  by_cases q : j = i.toNat
  · rw [q]
    exact upd2_int e (ir_c rfl)
  · rw [vi_up e (Or.inr q)]
    exact h j (by omega)
def MOF (V : Vmap) (m : Nat) : Prop := ∀ j, j < 24 → vi V (vq V m 142) j = 359
theorem MOJ.fin (h : MOJ V m i) (hi : 24 ≤ i) : MOF V m := fun j hj => h j (by omega)
theorem MOF.put {b f : Nat} {v : Value} {kd : Nat × Nat} (h : MOF V m) (hW : WT K V) (hm : K m = some (0, 11)) (hb : K b = some kd) (e : V1 = upd2 V b f v) (hn : kd.1 ≠ 115 ∧ (kd ≠ (0, 11) ∨ f ≠ 142)) : MOF V1 m := fun j hj => by
  obtain ⟨N, hC⟩ := (hW.ref hm (j := 142) (Nat.le_of_ble_eq_true rfl) rfl).2
  have e1 : vq V1 m 142 = vq V m 142 := by
    rcases hn.2 with q | q
    · exact vq_eq (uq_ne e (Or.inl (K_ne hm hb (Ne.symm q))))
    · exact vq_eq (uq_ne e (Or.inr (Ne.symm q)))
  have n2 : vq V m 142 ≠ b := K_ne hC hb (fun q => hn.1 (congrArg Prod.fst q).symm)
  rw [e1, vi_up e (Or.inl n2)]
  exact h j hj
theorem SSR.nil (hz : ssz V x = 0) (h10 : vi V x 10 = 0) (h : SEI V x) (z : ZB V m 141 24) (g : MOF V m) : SSR V x m := by
  obtain ⟨h8, h1, h2, h6⟩ := h
  refine ⟨fun u hu => ⟨?_, ?_⟩, fun j hj => by omega, fun r hr => by omega⟩
  · unfold OPNv
    rw [show ((0 : Nat) : Int) * 8 + (u : Int) = (u : Int) by omega, ← rgv_in (by omega) (by omega)]
    exact (h1 _ (by omega)).trans (z u hu).symm
  · unfold CLSv
    rw [show ((0 : Nat) : Int) * 8 + (u : Int) = (u : Int) by omega, ← rgv_in (by omega) (by omega)]
    exact (h2 _ (by omega)).trans (g u hu).symm
/-! both sides' plans -/
theorem sd_of {ws : Nat} (hD : SDE V x m) (hF : FR ws K V K1 V1) (hE : ext K K1) (hW : WT K V) (hm : K m = some (0, 11)) (hb : (!ws.testBit (keyK (0, 11) 106) && !ws.testBit (abase + (84 + 1))) = true) : rgv V (vq V (vq V x 0) 10) 4 y = ar 106 V1 m y.toNat ∨ ¬ (0 ≤ y ∧ y ≤ 3) := by
  simp only [Bool.and_eq_true, Bool.not_eq_true'] at hb
  by_cases q : 0 ≤ y ∧ y ≤ 3
  · refine Or.inl ?_
    rw [arq hF hE hm (hW.ref hm (j := 106) (Nat.le_of_ble_eq_true rfl) rfl).2 hb.1 hb.2]
    have e : rgv V (vq V (vq V x 0) 10) 4 y = rgv V (vq V m 106) 4 y := hD y q.1 (by omega)
    rw [e, ← rgv_in q.1 (by omega)]
    rfl
  · exact Or.inr q
theorem sd_rg (hW : WT K V) (hm : K m = some (0, 11)) : 0 ≤ y → y ≤ 3 → 0 ≤ ar 106 V m y.toNat ∧ ar 106 V m y.toNat ≤ 90 := fun h0 h3 => (hW.int (mr_at hW hm 106 rfl rfl rfl (by decide) (T := 84) (N := 4)) (j := y.toNat) (show y.toNat < 4 by omega) rfl).2
theorem PAC.val (h : PAC V V1 x p y d X) (h1 : PLI V x) (h2 : SN V x) (h3 : SXC V x) : (X = -1 ∧ ¬ PAD V x p y d) ∨ (PAD V x p y d ∧ BSv (PEX V1 x (d + rgv V (vq V (vq V x 0) 10) 4 y)) (fun _ => True) X (bev V1 (vq V1 x 2))) := by
  rcases (h h1 h2 h3).2 with q | ⟨q1, q2, q3⟩
  · exact Or.inl q
  · exact Or.inr ⟨q1, by rw [q2]; exact q3⟩
theorem planned_val {e e1 : Int} (hv : e = e1 ∧ (e ≠ -1 → ∀ j : Nat, (j : Int) < ssz V1 x → bev V1 (vq V1 x 2) j = ar 144 V2 m j)) (h137 : ssz V1 x = vi V2 m 137) (f : (X = -1 ∧ (e = -1 ∨ i < 0 ∨ ssz V1 x ≤ i)) ∨ (e ≠ -1 ∧ 0 ≤ i ∧ i < ssz V1 x ∧ X = bev V1 (vq V1 x 2) i.toNat)) (f1 : (Y = -1 ∧ (e1 = -1 ∨ i < 0 ∨ vi V2 m 137 ≤ i)) ∨ (e1 ≠ -1 ∧ 0 ≤ i ∧ i < vi V2 m 137 ∧ Y = ar 144 V2 m i.toNat)) : X = Y := by
  obtain ⟨v1, v2⟩ := hv
  rcases f with ⟨a1, a2⟩ | ⟨a1, a2, a3, a4⟩
  · rcases f1 with ⟨b1, b2⟩ | ⟨b1, b2, b3, b4⟩ <;> omega
  · rcases f1 with ⟨b1, b2⟩ | ⟨b1, b2, b3, b4⟩
    · omega
    · rw [a4, b4]
      exact v2 a1 i.toNat (by omega)
/-- a class's call that plans, then the reference's -/
theorem plan_both {w1 : Nat} (hR : SSR V x m) (hA : SXA V x) (hP : PLI V x) (hN : SN V x) (hD : SDE V x m) (hx : K x = some (0, 10)) (hm : K m = some (0, 11)) (hW : WT K V) (hW1 : WT K1 V1) (hE : ext K K1) (hF : FR w1 K V K1 V1) (hR1 : SSR V1 x m) (hA1 : SXA V1 x) (hP1 : PLE V1 x m) (hS1 : STE V1 x m) (h91 : vi V x 10 = vi V1 m 91) (f : PAC V V1 x p y d X) (f1 : MAC V1 V2 m p y d Y) (b1 : stbits5 w1 = true) (b2 : rmbits5 w1 = true) (b3 : (!w1.testBit (keyK (0, 11) 106) && !w1.testBit (abase + (84 + 1))) = true) : X = Y := (plan_val hR1 hA hA1 hP1 hS1 hR hW hx hW1 (hE.obj (Or.inl (by decide)) hx) (hE.obj (Or.inl (by decide)) hm) (SXT.fr hF hE hW hx b1) (RM5.fr hF hE hW hx hN b2) (sd_of hD hF hE hW hm b3) (sd_rg hW1 (hE.obj (Or.inl (by decide)) hm)) h91 (f.val hP hN hA.1) f1).1
theorem planned_both {w1 w2 : Nat} (hR : SSR V x m) (hA : SXA V x) (hP : PLI V x) (hN : SN V x) (hD : SDE V x m) (hx : K x = some (0, 10)) (hm : K m = some (0, 11)) (hW : WT K V) (hW1 : WT K1 V1) (hE : ext K K1) (hF : FR w1 K V K1 V1) (hE2 : ext K1 K2) (hF2 : FR w2 K1 V1 K2 V2) (hR1 : SSR V1 x m) (hA1 : SXA V1 x) (hP1 : PLE V1 x m) (hS1 : STE V1 x m) (h91 : vi V x 10 = vi V1 m 91) (f : PBC V V1 x p y d i X) (f1 : MBC V1 V2 m p y d i Y) (b1 : stbits5 w1 = true) (b2 : rmbits5 w1 = true) (b3 : (!w1.testBit (keyK (0, 11) 106) && !w1.testBit (abase + (84 + 1))) = true) (b4 : w2.testBit (keyK (0, 11) 137) = false) : X = Y := by
  have hm1 := hE.obj (Or.inl (by decide)) hm
  obtain ⟨e, f2, f3⟩ := (f hP hN hA.1).2
  obtain ⟨e1, g2, g3⟩ := f1
  have hv := plan_val hR1 hA hA1 hP1 hS1 hR hW hx hW1 (hE.obj (Or.inl (by decide)) hx) hm1 (SXT.fr hF hE hW hx b1) (RM5.fr hF hE hW hx hN b2) (sd_of hD hF hE hW hm b3) (sd_rg hW1 hm1) h91 f2 g2
  have h137 : ssz V1 x = vi V2 m 137 := hS1.1.trans (vi_fr hF2 hm1 (hE2.obj (Or.inl (by decide)) hm1) b4).symm
  exact planned_val hv h137 f3 g3
/-! a day -/
def SFG (V : Vmap) (x : Nat) : Prop := vi V (vq V x 2) 8 = -1
theorem SFG.fr {ws : Nat} (h : SFG V x) (hF : FR ws K V K V1) (hW : WT K V) (hx : K x = some (0, 10)) (hb : (!ws.testBit (keyK (0, 10) 2) && !ws.testBit (keyK (0, 5) 8)) = true) : SFG V1 x := by
  simp only [Bool.and_eq_true, Bool.not_eq_true'] at hb
  have s1 := (st_at hW hx).1
  have e : vq V1 x 2 = vq V x 2 := vq_eq (hF x _ 2 hx hx hb.1)
  unfold SFG
  rw [e, vi_fr hF s1 s1 hb.2]
  exact h
theorem NN_back5 {ws : Nat} (h : NN 6 5 V1 x) (hF : FR ws K V K1 V1) (hE : ext K K1) (hW : WT K V) (hx : K x = some (0, 10)) (hb : ([keyK (0, 10) 5, keyK (0, 10) 6, abase + 6].all fun b => !ws.testBit b) = true) : NN 6 5 V x := by
  simp only [List.all_cons, List.all_nil, Bool.and_true, Bool.and_eq_true, Bool.not_eq_true'] at hb
  obtain ⟨c5, c6, a6⟩ := hb
  have hx1 := hE.obj (Or.inl (by decide)) hx
  obtain ⟨N, hA⟩ := (hW.ref hx (j := 5) (Nat.le_of_ble_eq_true rfl) rfl).2
  have e5 : vq V1 x 5 = vq V x 5 := vq_eq (hF x _ 5 hx hx1 c5)
  have e6 : vi V1 x 6 = vi V x 6 := vi_fr hF hx hx1 c6
  intro j hj
  have := h j (by rw [e6]; exact hj)
  rw [e5, hF _ _ j hA (hE.arr hA) a6] at this
  exact this
end PPH
