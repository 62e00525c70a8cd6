/-! ### a sledge sets out: both sides -/
section Q19
variable {K K0 K1 K2 : Kmap} {V V0 V1 V2 V3 W W1 W2 W3 U : Vmap} {x m o o' q l N : Nat} {k i j n e d p a b c w h y z s t u X Y Z D T M Q : Int} {ρ : Nat → Int}
/-- a sledge's row -/
def slr (z c d n : Int) : Nat → Int := fun f => if f = 0 then z else if f = 1 then c else if f = 2 then d else if f = 3 then n else if f = 4 then 1 else 0
def SGD (V : Vmap) (x : Nat) (a b n : Int) : Prop := (STN V x a ∧ STN V x b) ∧ a ≠ b ∧ vi V (plO V x a.toNat) 1 = vi V (plO V x b.toNat) 1 ∧ (1 ≤ n ∧ n ≤ 500) ∧ n ≤ stv V (plO V x a.toNat) 7 ∧ sgz V x < 40
def SGX (K : Kmap) (V V1 : Vmap) (x : Nat) (a b n X : Int) : Prop := NN 6 5 V x → (X = -1 ∧ V1 = V ∧ ¬ SGD V x a b n) ∨ (SGD V x a b n ∧ ∃ T, LDY V (vq V x 0) (vi V (plO V x a.toNat) 2) (vi V (plO V x b.toNat) 2) T ∧ ((X = -1 ∧ (T = -1 ∨ n ≤ T) ∧ NUN K V V1 ∧ SLS V V1 x) ∨ (T ≠ -1 ∧ T < n ∧ X = tdy V x + (if T ≤ 1 then 1 else T) ∧ NUF K V V1 (plO V x a.toNat) (updf (stv V (plO V x a.toNat)) 7 (wr (stv V (plO V x a.toNat) 7 - n))) ∧ sgz V1 x = sgz V x + 1 ∧ cSl V1 x = upg (cSl V x) (sgz V x).toNat (slr b (vi V (plO V x b.toNat) 2) X (wr (n - T))))))
theorem SGX.no (h : NN 6 5 V x → ¬ SGD V x a b n) (hX : X = -1) : SGX K V V x a b n X := fun hN => Or.inl ⟨hX, rfl, h hN⟩
theorem SGD.n1 (h : NN 6 5 V x → ¬ STN V x a) : NN 6 5 V x → ¬ SGD V x a b n := fun hN g => h hN g.1.1
theorem SGD.n2 (h : NN 6 5 V x → ¬ STN V x b) : NN 6 5 V x → ¬ SGD V x a b n := fun hN g => h hN g.1.2
theorem SGD.n3 (h : a = b) : NN 6 5 V x → ¬ SGD V x a b n := fun _ g => g.2.1 h
theorem SGD.n4 (ha : o = plO V x a.toNat ∧ STN V x a) (hb : o' = plO V x b.toNat ∧ STN V x b) (h : vi V o 1 ≠ vi V o' 1) : NN 6 5 V x → ¬ SGD V x a b n := fun _ g => h (by rw [ha.1, hb.1]; exact g.2.2.1)
theorem SGD.n5 (h : ¬ (1 ≤ n ∧ n ≤ 500)) : NN 6 5 V x → ¬ SGD V x a b n := fun _ g => h g.2.2.2.1
theorem SGD.n6 (ha : o = plO V x a.toNat ∧ STN V x a) (h : vi V o 7 < n) : NN 6 5 V x → ¬ SGD V x a b n := fun _ g => by
  have g1 := g.2.2.2.2.1
  rw [stv_f (by decide) (by decide), ← ha.1] at g1
  omega
theorem SGD.n7 (h : 40 ≤ vi V (vq V x 11) 3) : NN 6 5 V x → ¬ SGD V x a b n := fun _ g => by
  have g1 : vi V (vq V x 11) 3 < 40 := g.2.2.2.2.2
  omega
theorem SGD.ys (ha : o = plO V x a.toNat ∧ STN V x a) (hb : o' = plO V x b.toNat ∧ STN V x b) (h3 : a ≠ b) (h4 : vi V o 1 = vi V o' 1) (h5 : 1 ≤ n ∧ n ≤ 500) (h6 : n ≤ vi V o 7) (h7 : vi V (vq V x 11) 3 ≤ 39) : SGD V x a b n := ⟨⟨ha.2, hb.2⟩, h3, by rw [← ha.1, ← hb.1]; exact h4, h5, by rw [stv_f (by decide) (by decide), ← ha.1]; exact h6, show vi V (vq V x 11) 3 < 40 by omega⟩
theorem SGX.lo (ha : o = plO V x a.toNat ∧ STN V x a) (hb : o' = plO V x b.toNat ∧ STN V x b) (hg : SGD V x a b n) (f : LDY V (vq V x 0) (vi V o 2) (vi V o' 2) T) (hT : T = -1 ∨ n ≤ T) (hX : X = -1) (g1 : NUN K V V1) (g2 : SLS V V1 x) : SGX K V V1 x a b n X := fun _ => Or.inr ⟨hg, T, by rw [← ha.1, ← hb.1]; exact f, Or.inl ⟨hX, hT, g1, g2⟩⟩
/-- a row is added -/
theorem sl_add (hW : WT K V) (hx : K x = some (0, 10)) (rb : ir b) (rc : ir c) (rd : ir d) (rn : ir n) (h40 : sgz V x < 40) (ha : APP K V V1 (vq V x 11) b c d n 1 Y) : sgz V1 x = sgz V x + 1 ∧ cSl V1 x = upg (cSl V x) (sgz V x).toNat (slr b c d n) := by
  have a2 := sl_at hW hx
  obtain ⟨a3, a4, a5⟩ := sl_tab hW a2
  have ez : sgz V x = vi V (vq V x 11) 3 := rfl
  have k40 : ((40 : Nat) : Int) = 40 := rfl
  rcases ha 5 40 (by decide) (by decide) a4 a5 with ⟨b1, b2, b3⟩ | ⟨b1, b2, b3⟩
  · omega
  · obtain ⟨c1, c2, c3, c4⟩ := apv_all (a := b) (b := c) (c := d) (d := n) (e := 1) a4 a2 b1 (by decide) rb rc rd rn (ir_c rfl)
    rw [← b3] at c1 c2 c3 c4
    have n1 : x ≠ vq V x 11 := K_ne hx a2 (by decide)
    have n2 : x ≠ vq V (vq V x 11) 2 := K_ne hx a3 (by simp)
    have e1 : vq V1 x 11 = vq V x 11 := vq_eq (congrFun (c3 x n1 n2) 11)
    have e3 : vq V1 (vq V x 11) 2 = vq V (vq V x 11) 2 := vq_eq (c2 2 (by decide))
    have z1 : sgz V1 x = sgz V x + 1 := by
      unfold sgz
      rw [e1]
      exact c1
    have z0 : 0 ≤ sgz V x := a4.2.1
    have k5 : ((5 : Nat) : Int) = 5 := rfl
    refine ⟨z1, ?_⟩
    funext u
    unfold upg cSl
    rw [z1]
    rw [← ez] at c4
    by_cases g : u = (sgz V x).toNat
    · rw [if_pos g, if_pos (by omega)]
      funext f
      unfold sgr slr
      rw [e1, e3]
      by_cases f0 : f = 0
      · subst f0
        rw [if_pos (by decide), if_pos rfl, c4, if_neg (by omega), if_pos (by omega)]
      · rw [if_neg f0]
        by_cases f1 : f = 1
        · subst f1
          rw [if_pos (by decide), if_pos rfl, c4, if_neg (by omega), if_neg (by omega), if_pos (by omega)]
        · rw [if_neg f1]
          by_cases f2 : f = 2
          · subst f2
            rw [if_pos (by decide), if_pos rfl, c4, if_neg (by omega), if_neg (by omega), if_neg (by omega), if_pos (by omega)]
          · rw [if_neg f2]
            by_cases f3 : f = 3
            · subst f3
              rw [if_pos (by decide), if_pos rfl, c4, if_neg (by omega), if_neg (by omega), if_neg (by omega), if_neg (by omega), if_pos (by omega)]
            · rw [if_neg f3]
              by_cases f4 : f = 4
              · subst f4
                rw [if_pos (by decide), if_pos rfl, c4, if_neg (by omega), if_neg (by omega), if_neg (by omega), if_neg (by omega), if_neg (by omega)]
              · rw [if_neg f4, if_neg (by omega)]
    · rw [if_neg g]
      by_cases g2 : (u : Int) < sgz V x
      · rw [if_pos (by omega), if_pos g2]
        funext f
        unfold sgr
        rw [e1, e3]
        split
        · rw [c4, if_pos (by omega)]
        · rfl
      · rw [if_neg (by omega), if_neg g2]
theorem SGX.ok (ha : o = plO V x a.toNat ∧ STN V x a) (hb : o' = plO V x b.toNat ∧ STN V x b) (hg : SGD V x a b n) (f : LDY V (vq V x 0) (vi V o 2) (vi V o' 2) T) (hT : T ≠ -1) (hTn : T < n) (hX : X = tdy V x + (if T ≤ 1 then 1 else T)) (hN : NUF K V V1 o (updf (stv V o) 7 z)) (hz : z = wr (y - n)) (hy : y = vi V o 7) (s1 : SLS V W x) (hW : WT K W) (hx : K x = some (0, 10)) (e11 : vq W x 11 = vq V x 11) (rb : ir b) (rc : ir c) (hc : c = vi V o' 2) (rX : ir X) (ru : ir u) (hu : u = wr (n - T)) (hp : APP K W V1 (vq V x 11) b c X u 1 Y) : SGX K V V1 x a b n X := fun _ => by
  have h7 := hg.2.2.2.2.2
  rw [← e11] at hp
  obtain ⟨z1, z2⟩ := sl_add hW hx rb rc rX ru (by rw [s1.1]; exact h7) hp
  rw [s1.1] at z1 z2
  rw [s1.2] at z2
  refine Or.inr ⟨hg, T, by rw [← ha.1, ← hb.1]; exact f, Or.inr ⟨hT, hTn, ?_, ?_, z1, ?_⟩⟩
  · exact hX
  · rw [← ha.1]
    refine hN.to ?_
    rw [hz, hy, stv_f (by decide) (by decide)]
  · rw [← hb.1, ← hu, ← hc]
    exact z2
/-! the reference's -/
def MGD (V : Vmap) (m : Nat) (a b n : Int) : Prop := (MSN V m a ∧ MSN V m b) ∧ a ≠ b ∧ ar 14 V m a.toNat = ar 14 V m b.toNat ∧ (1 ≤ n ∧ n ≤ 500) ∧ n ≤ rst V m a.toNat 7 ∧ vi V m 92 ≠ 40
def SGM (V V1 : Vmap) (m : Nat) (a b n X : Int) : Prop := (X = -1 ∧ V1 = V ∧ ¬ MGD V m a b n) ∨ (MGD V m a b n ∧ ∃ W, MGV V W m (ar 15 V m a.toNat) ∧ ((X = -1 ∧ n ≤ mD W m (ar 15 V m b.toNat) ∧ rst V1 m = rst V m ∧ rSl V1 m = rSl V m ∧ vi V1 m 92 = vi V m 92) ∨ (mD W m (ar 15 V m b.toNat) < n ∧ X = vi V m 2 + (if mD W m (ar 15 V m b.toNat) ≤ 1 then 1 else mD W m (ar 15 V m b.toNat)) ∧ rst V1 m = upg (rst V m) a.toNat (updf (rst V m a.toNat) 7 (wr (rst V m a.toNat 7 - n))) ∧ vi V1 m 92 = vi V m 92 + 1 ∧ rSl V1 m = upg (rSl V m) (vi V m 92).toNat (slr b (ar 15 V m b.toNat) X (n - mD W m (ar 15 V m b.toNat))))))
theorem SGM.no (h : ¬ MGD V m a b n) (hX : X = -1) : SGM V V m a b n X := Or.inl ⟨hX, rfl, h⟩
theorem MGD.n1 (h : Y ≠ 0 ↔ MSN V m a) (hY : Y = 0) : ¬ MGD V m a b n := fun g => absurd hY (h.mpr g.1.1)
theorem MGD.n2 (h : Y ≠ 0 ↔ MSN V m b) (hY : Y = 0) : ¬ MGD V m a b n := fun g => absurd hY (h.mpr g.1.2)
theorem MGD.n3 (h : a = b) : ¬ MGD V m a b n := fun g => g.2.1 h
theorem MGD.n4 (h : vi V (vq V m 14) a.toNat ≠ vi V (vq V m 14) b.toNat) : ¬ MGD V m a b n := fun g => h g.2.2.1
theorem MGD.n5 (h : ¬ (1 ≤ n ∧ n ≤ 500)) : ¬ MGD V m a b n := fun g => h g.2.2.2.1
theorem MGD.n6 (h : vi V (vq V m 20) a.toNat < n) : ¬ MGD V m a b n := fun g => by
  have g1 : n ≤ vi V (vq V m 20) a.toNat := g.2.2.2.2.1
  omega
theorem MGD.n7 (h : vi V m 92 = 40) : ¬ MGD V m a b n := fun g => g.2.2.2.2.2 h
theorem MGD.ys (h1 : Y ≠ 0 ↔ MSN V m a) (hY : Y ≠ 0) (h2 : Z ≠ 0 ↔ MSN V m b) (hZ : Z ≠ 0) (h3 : a ≠ b) (h4 : vi V (vq V m 14) a.toNat = vi V (vq V m 14) b.toNat) (h5 : 1 ≤ n ∧ n ≤ 500) (h6 : n ≤ vi V (vq V m 20) a.toNat) (h7 : vi V m 92 ≠ 40) : MGD V m a b n := ⟨⟨h1.mp hY, h2.mp hZ⟩, h3, h4, h5, h6, h7⟩
theorem SGM.lo (hg : MGD V m a b n) (f : MGV V W m (vi V (vq V m 15) a.toNat)) (hM : M = vi W (vq W m 117) c.toNat) (hc : c = vi V (vq V m 15) b.toNat) (bc : 0 ≤ c ∧ c ≤ 143) (hn : n ≤ M) (hX : X = -1) (hr : rst W m = rst V m) (hs : rSl W m = rSl V m) (h92 : vi W m 92 = vi V m 92) : SGM V W m a b n X := Or.inr ⟨hg, W, f, Or.inl ⟨hX, by
  have e : mD W m (ar 15 V m b.toNat) = M := by
    have ec : ar 15 V m b.toNat = c := hc.symm
    rw [ec, hM]
    exact (rgv_in bc.1 (by show c < ((144 : Nat) : Int); omega)).symm
  rw [e]
  exact hn, hr, hs, h92⟩⟩
theorem SGM.ok {k1 k2 k3 k4 k5 k6 t1 : Nat} (hg : MGD V m a b n) (f : MGV V W m (vi V (vq V m 15) a.toNat)) (hM : M = vi W (vq W m 117) c.toNat) (hc : c = vi V (vq V m 15) b.toNat) (bc : 0 ≤ c ∧ c ≤ 143) (hn : M < n) (a20 : ar 20 V1 m = updf (ar 20 V m) k1 z) (q1 : k1 = a.toNat) (hz : z = vi V (vq V m 20) a.toNat - n) (r20 : ir (vi V (vq V m 20) a.toNat)) (a107 : ar 107 V1 m = updf (ar 107 V m) k2 b) (a108 : ar 108 V1 m = updf (ar 108 V m) k3 e) (he : e = vi V (vq V m 15) b.toNat) (a109 : ar 109 V1 m = updf (ar 109 V m) k4 u) (hu : u = n - M) (a110 : ar 110 V1 m = updf (ar 110 V m) k5 d) (hd : d = vi V m 2 + (if M ≤ 1 then 1 else M)) (a111 : ar 111 V1 m = updf (ar 111 V m) k6 1) (q2 : k2 = (vi V m 92).toNat) (q3 : k3 = (vi V m 92).toNat) (q4 : k4 = (vi V m 92).toNat) (q5 : k5 = (vi V m 92).toNat) (q6 : k6 = (vi V m 92).toNat) (h92 : vi V1 m 92 = vi V m 92 + 1) (hX : X = vi V1 q t1) (hq : q = vq V m 110) (hq1 : vq V1 m 110 = vq V m 110) (ht : t1 = (vi V m 92).toNat) (a19 : ar 19 V1 m = ar 19 V m) (a21 : ar 21 V1 m = ar 21 V m) (a22 : ar 22 V1 m = ar 22 V m) (a23 : ar 23 V1 m = ar 23 V m) (a28 : ar 28 V1 m = ar 28 V m) : SGM V V1 m a b n X := by
  have eM : mD W m (ar 15 V m b.toNat) = M := by
    have ec : ar 15 V m b.toNat = c := hc.symm
    rw [ec, hM]
    exact (rgv_in bc.1 (by show c < ((144 : Nat) : Int); omega)).symm
  have n1 := hg.2.2.2.1
  have n6 : n ≤ vi V (vq V m 20) a.toNat := hg.2.2.2.2.1
  have eX : X = d := by
    rw [hX, hq, ← hq1, ht]
    have := congrFun a110 (vi V m 92).toNat
    rw [q5, updf_at] at this
    exact this
  have e7 : rst V m a.toNat 7 = vi V (vq V m 20) a.toNat := rfl
  obtain ⟨r5, r6, r7, r8, r9, rr⟩ := rst_at (V := V) (m := m) (k := a.toNat)
  refine Or.inr ⟨hg, W, f, Or.inr ⟨?_, ?_, ?_, h92, ?_⟩⟩
  · rw [eM]
    exact hn
  · rw [eM, eX]
    exact hd
  · have ew : wr (rst V m a.toNat 7 - n) = z := by
      rw [e7, hz]
      exact wr_id ⟨by omega, by have := r20.2; omega⟩
    rw [ew]
    exact rst_up (as_s a19 (by rw [updf_of (by decide)]; exact r6)) (as_u a20 q1 updf_at) (as_s a21 (by rw [updf_of (by decide)]; exact r8)) (as_s a22 (by rw [updf_of (by decide)]; exact r9)) (as_s a28 (by rw [updf_of (by decide)]; exact r5)) (fun j r hr => by
      rw [a23]
      split
      · rename_i g
        rw [g, updf_of (by omega), rr r hr]
      · rfl) (fun f hf => by rw [updf_of (by omega), rst_0 hf])
  · rw [eM, eX]
    have ee : ar 15 V m b.toNat = e := he.symm
    rw [ee, ← hu]
    funext j f
    unfold upg
    by_cases g : j = (vi V m 92).toNat
    · rw [if_pos g]
      unfold rSl slr
      rw [a107, a108, a109, a110, a111, q2, q3, q4, q5, q6, g, updf_at, updf_at, updf_at, updf_at, updf_at]
    · rw [if_neg g]
      unfold rSl
      rw [a107, a108, a109, a110, a111, q2, q3, q4, q5, q6, updf_of g, updf_of g, updf_of g, updf_of g, updf_of g]
theorem mh_rg (hW : WT K V) (hm : K m = some (0, 11)) {i : Nat} (hi : i < 144) : 0 ≤ vi V (vq V m 5) i ∧ vi V (vq V m 5) i ≤ 40 := hW.ar_rng hm 5 9 (by decide) rfl (by decide) rfl (by show i < 144; exact hi)
/-- both sides -/
theorem sledge_both {w1 w2 : Nat} (h : STO K V x m) (hL : SLE V x m) (hP : PLE V x m) (hx : K x = some (0, 10)) (hm : K m = some (0, 11)) (hW : WT K V) (hW1 : WT K1 V1) (hE1 : ext K K1) (hF1 : FR w1 K V K1 V1) (hE2 : ext K1 K2) (hF2 : FR w2 K1 V1 K2 V2) (htm : vi V1 m 2 = tdy V x) (ht1 : tdy V1 x = tdy V x) (ht2 : tdy V2 x = tdy V1 x) (f : SGX K V V1 x a b n X) (f1 : SGM V1 V2 m a b n Y) (b1 : mpbits w1 = true) (b2 : mvbits w1 = true) (b3 : mlbits w1 = true) (b5 : smbits w1 = true) (b6 : nebits w1 = true) (b8 : slmb w1 = true) (p1 : ppbits w1 = true) (p7 : psbits w1 = true) (c1 : ppbits w2 = true) (c2 : nubits w2 = true) (c5 : slbit2 w2 = true) (c6 : psbits w2 = true) (c7 : nebits w2 = true) : X = Y ∧ STO K2 V2 x m ∧ SLE V2 x m := by
  have hx1 := hE1.obj (Or.inl (by decide)) hx
  have hm1 := hE1.obj (Or.inl (by decide)) hm
  have gm := MSM.fr hF1 hE1 hW hm b1 b2 b3
  obtain ⟨er, e27⟩ := rs_same hF1 hE1 hW hm b5 b6
  obtain ⟨e92, esl⟩ := sm_fr hF1 hE1 hW hm b8
  have e272 := (ne_fr hF2 hE2 hW1 hm1 c7).2
  have hr' := hP.2.2
  have hbn := (hW.int hx (j := 6) (Nat.le_of_ble_eq_true rfl) rfl).2
  have hD0 : 0 ≤ tdy V x ∧ tdy V x ≤ 3599 := (hW.int (ld_at hW hx).1 (j := 0) (Nat.le_of_ble_eq_true rfl) rfl).2
  have hz92 := (hW1.int hm1 (j := 92) (Nat.le_of_ble_eq_true rfl) rfl).2
  have hsta := hP.stk (k := a) gm
  have hstb := hP.stk (k := b) gm
  -- a station's cell, party, fuel
  have hrow : ∀ k, STN V x k → ((k.toNat : Nat) : Int) < vi V x 6 ∧ vi V (plO V x k.toNat) 1 = ar 14 V1 m k.toNat ∧ vi V (plO V x k.toNat) 2 = ar 15 V1 m k.toNat ∧ stv V (plO V x k.toNat) = rst V1 m k.toNat ∧ cel (vi V1 m 0) (vi V1 m 1) (ar 15 V1 m k.toNat) := fun k ⟨⟨z0, z1, z2⟩, z3⟩ => by
    have hk : ((k.toNat : Nat) : Int) < vi V x 6 := by omega
    obtain ⟨g1, g2⟩ := hr'.2.2.2.2.1 k.toNat hk
    have e14 : vi V (plO V x k.toNat) 1 = ar 14 V m k.toNat := congrArg (fun v : Int × Int × Int × Int => v.2.1) g1
    have e15 : vi V (plO V x k.toNat) 2 = ar 15 V m k.toNat := congrArg (fun v : Int × Int × Int => v.1) g2
    have hc := (hP.1.2.2.1 k.toNat hk).1
    have hc' : 0 ≤ vi V (plO V x k.toNat) 2 ∧ vi V (plO V x k.toNat) 2 < vi V (vq V x 0) 3 * vi V (vq V x 0) 4 := hc
    refine ⟨hk, ?_, ?_, ?_, ?_⟩
    · rw [gm.1.2.2.2.1]
      exact e14
    · rw [gm.2.1.1]
      exact e15
    · rw [er]
      exact h.2.1 _ hk z2
    · unfold cel
      rw [gm.2.1.1, gm.2.2.1, gm.2.2.2.1, ← e15, ← hr'.1, ← hr'.2.1]
      exact hc'
  have hcond : SGD V x a b n ↔ MGD V1 m a b n := by
    unfold SGD MGD
    have h40 : sgz V x < 40 ↔ vi V1 m 92 ≠ 40 := by
      rw [e92, ← hL.1]
      rw [e92, ← hL.1] at hz92
      omega
    constructor
    · rintro ⟨⟨q1, q1'⟩, q2, q3, q4, q5, q6⟩
      obtain ⟨-, e1, -, e2, -⟩ := hrow a q1
      obtain ⟨-, e3, -, -, -⟩ := hrow b q1'
      exact ⟨⟨hsta.mp q1, hstb.mp q1'⟩, q2, by rw [← e1, ← e3]; exact q3, q4, by rw [← e2]; exact q5, h40.mp q6⟩
    · rintro ⟨⟨q1, q1'⟩, q2, q3, q4, q5, q6⟩
      have q1a := hsta.mpr q1
      have q1b := hstb.mpr q1'
      obtain ⟨-, e1, -, e2, -⟩ := hrow a q1a
      obtain ⟨-, e3, -, -, -⟩ := hrow b q1b
      exact ⟨⟨q1a, q1b⟩, q2, by rw [e1, e3]; exact q3, q4, by rw [e2]; exact q5, h40.mpr q6⟩
  -- sledges behind the reference's call
  have hl2 := SLS.fr hF2 hE2 hW1 hx1 c5
  have hNp1 : NN 6 5 V1 x := (PLS.fr hF1 hE1 hW hx hP.1.1 p7).nn hP.1.1
  have hpm : PKM V V2 x := (PKM.fr hF1 hE1 hW hx hP.1.1 p7).tr (PKM.fr hF2 hE2 hW1 hx1 hNp1 c6)
  rcases f hP.1.1 with ⟨a1, a2, a3⟩ | ⟨a1, T, a2, a3⟩
  · rcases f1 with ⟨d1, d2, d3⟩ | ⟨d1, -⟩
    · refine ⟨by omega, ?_⟩
      rw [d2, a2]
      exact ⟨(h.gro hE1).gro hE2, hL⟩
    · exact absurd (hcond.mpr d1) a3
  · rcases f1 with ⟨-, -, d3⟩ | ⟨d1, W, d2, d3⟩
    · exact absurd (hcond.mp a1) d3
    · have q1 := a1.1.1
      have q1' := a1.1.2
      obtain ⟨hka, -, ca, sa, cla⟩ := hrow a q1
      obtain ⟨hkb, -, cb, -, clb⟩ := hrow b q1'
      have n500 := a1.2.2.2.1
      have eG : lG V (vq V x 0) = mG V1 m := by
        show rgv V (vq V (vq V x 0) 6) 144 = rgv V1 (vq V1 m 6) 144
        rw [hr'.2.2.1 6 (by decide) (by decide), gm.2.2.2.2 6 (by decide) (by decide)]
      have eH : lH V (vq V x 0) = mH V1 m := by
        show rgv V (vq V (vq V x 0) 5) 144 = rgv V1 (vq V1 m 5) 144
        rw [hr'.2.2.1 5 (by decide) (by decide), gm.2.2.2.2 5 (by decide) (by decide)]
      have hB : HBm V1 m := fun z => by
        show 0 ≤ rgv V1 (vq V1 m 5) 144 z ∧ rgv V1 (vq V1 m 5) 144 z ≤ 40
        unfold rgv
        by_cases g : 0 ≤ z ∧ z < ((144 : Nat) : Int)
        · rw [if_pos g]
          exact mh_rg hW1 hm1 (by omega)
        · rw [if_neg g]
          exact ⟨by decide, by decide⟩
      rw [ca, cb] at a2
      have hwy := ways_eq eG eH (hr'.1.trans gm.2.2.1.symm) (hr'.2.1.trans gm.2.2.2.1.symm) a2 d2 hB cla clb
      rcases a3 with ⟨a3, a4, a5, a6⟩ | ⟨a3, a4, a5, a6, a7, a8⟩
      · rcases d3 with ⟨d3, d4, d5, d6, d7⟩ | ⟨d3, d4, -⟩
        · refine ⟨by omega, ?_, ?_, ?_⟩
          · obtain ⟨e6, ep⟩ := pp_fr hF1 hE1 hW hx p1
            obtain ⟨g1, g2, g3⟩ := a5.cn h.1 e6 (fun u _ => ep u)
            have kd : ∀ j : Nat, (j : Int) < vi V x 6 → pkd V1 x j = pkd V x j := fun j hj => by
              unfold pkd
              rw [ep]
              exact (a5 _ h.1).2.1 _ (SX.of hj)
            obtain ⟨f6, fp⟩ := pp_fr hF2 hE2 hW1 hx1 c1
            obtain ⟨i1, i2, i3⟩ := nu_frx hF2 hE2 (g1.gro hE1) f6 (fun u _ => fp u) c2
            refine ⟨i1, fun j hj j1 => ?_, fun j hj j5 y hy => ?_, fun j hj h60 => ?_⟩
            · have hj1 : (j : Int) < vi V1 x 6 := by rw [← f6]; exact hj
              have hj0 : (j : Int) < vi V x 6 := by rw [← e6]; exact hj1
              have k0 : pkd V x j = 1 := by rw [← kd j hj0, ← (i3 j hj1).1]; exact j1
              have e : stv V2 (plO V2 x j) = cN V2 x j := (cN_at hj j1).symm
              rw [e, i2, g2, cN_at hj0 k0, d5, er]
              exact h.2.1 j hj0 k0
            · have hj1 : (j : Int) < vi V1 x 6 := by rw [← f6]; exact hj
              have hj0 : (j : Int) < vi V x 6 := by rw [← e6]; exact hj1
              have k1 : pkd V1 x j = 5 := by rw [← (i3 j hj1).1]; exact j5
              have k0 : pkd V x j = 5 := by rw [← kd j hj0]; exact k1
              rw [fp, (i3 j hj1).2 k1, ep, g3 j hj0 k0, e272, e27]
              exact h.2.2.1 j hj0 k0 y hy
            · rw [f6, e6] at hj
              rw [d5, er, e272, e27]
              exact h.2.2.2 j hj h60
          · rw [hl2.1, a6.1, d7, e92]
            exact hL.1
          · intro u hu
            rw [hl2.1, a6.1] at hu
            rw [hl2.2, a6.2, d6, esl, ht2, ht1]
            exact (hL.2 u hu).mono hpm
        · exfalso
          rcases hwy with ⟨g1, g2⟩ | ⟨g1, g2, g3⟩ <;> omega
      · rcases d3 with ⟨d3, d4, -⟩ | ⟨d3, d4, d5, d6, d7⟩
        · exfalso
          rcases hwy with ⟨g1, g2⟩ | ⟨g1, g2, g3⟩ <;> omega
        · have eT : T = mD W m (ar 15 V1 m b.toNat) := by
            rcases hwy with ⟨g1, g2⟩ | ⟨g1, g2, g3⟩
            · exact absurd g1 a3
            · exact g1
          rw [← eT] at d4 d7
          rw [htm] at d4
          have T0 : 0 ≤ T := by
            have := (d2 hB cla).2.1 _ clb
            rw [← eT] at this
            exact this.1
          have eXY : X = Y := a5.trans d4.symm
          have ew : wr (n - T) = n - T := wr_id ⟨by omega, by omega⟩
          rw [ew] at a8
          rw [sa] at a6
          have hlt : tdy V x < X := by
            rw [a5]
            split <;> omega
          refine ⟨eXY, h.put hP hx hW hW1 hE1 hF1 hE2 hF2 hka q1.1.2.2 a6 er e27 d5 e272 p1 c1 c2, ?_, ?_⟩
          · rw [hl2.1, a7, d6, e92, hL.1]
          · intro u hu
            rw [hl2.1, a7] at hu
            have en : (vi V1 m 92).toNat = (sgz V x).toNat := by rw [e92, hL.1]
            rw [hl2.2, a8, d7, esl, en, ht2, ht1]
            by_cases g : u = (sgz V x).toNat
            · rw [g, upg_at, upg_at, ← eXY, cb]
              refine ⟨⟨rfl, rfl, rfl, rfl, rfl⟩, fun _ => hlt, ?_⟩
              exact hpm b q1'.1
            · rw [upg_of g, upg_of g]
              exact (hL.2 u (by omega)).mono hpm
end Q19
