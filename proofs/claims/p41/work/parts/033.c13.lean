/-! ### both sides' words: what is asked of them, party by party -/
section C13
variable {K K1 : Kmap} {V V1 V2 : Vmap} {x m : Nat}
theorem vq_eq {a k : Nat} (h : V1 a k = V a k) : vq V1 a k = vq V a k := by unfold vq; rw [h]
theorem vi_eq {a k : Nat} (h : V1 a k = V a k) : vi V1 a k = vi V a k := by unfold vi; rw [h]
/-- a party that is there -/
theorem pty_at (hW : WT K V) (hx : K x = some (0, 10)) (hN : PN V x) {p : Nat} (hp : (p : Int) < vi V x 4) : K (vq V x 3) = some (4 + 1, 9) ∧ V (vq V x 3) p = .ref (pty V x p) ∧ K (pty V x p) = some (0, 2) ∧ K (vq V (pty V x p) 4) = some (124 + 1, 7) := by
  have hc := hW.int hx (j := 4) (Nat.le_of_ble_eq_true rfl) rfl
  obtain ⟨n, hn⟩ := (hW.ref hx (j := 3) (Nat.le_of_ble_eq_true rfl) rfl).2
  have hl := (hW.len hn).2.2
  have hn9 : n = 9 := by
    rcases hl with h | h
    · exact absurd h (by decide)
    · exact h
  subst hn9
  have hq := hW.nul (kd := (4 + 1, 9)) hn (j := p) (show p < 9 by omega) rfl
  have hq2 : V (vq V x 3) p = .ref (pty V x p) ∧ K (pty V x p) = some (0, 2) := by
    rcases hq with h | h
    · exact absurd h (hN p hp)
    · exact ⟨h.1, h.2⟩
  obtain ⟨k, hk⟩ := (hW.ref hq2.2 (j := 4) (Nat.le_of_ble_eq_true rfl) rfl).2
  have hk7 : k = 7 := by
    rcases (hW.len hk).2.2 with h | h
    · exact absurd h (by decide)
    · exact h
  subst hk7
  exact ⟨hn, hq2.1, hq2.2, hk⟩
/-- the parties are apart, and so are their rows -/
def PI (V : Vmap) (x : Nat) : Prop := ∀ i j : Nat, i < j → (j : Int) < vi V x 4 → pty V x i ≠ pty V x j ∧ vq V (pty V x i) 4 ≠ vq V (pty V x j) 4
/-- V1 has the parties of V, and what they ask -/
def PSame (V V1 : Vmap) (x : Nat) (n : Int) : Prop := ∀ p : Nat, (p : Int) < n → pty V1 x p = pty V x p ∧ vi V1 (pty V x p) 2 = vi V (pty V x p) 2 ∧ vq V1 (pty V x p) 4 = vq V (pty V x p) 4 ∧ ∀ o, vi V1 (vq V (pty V x p) 4) o = vi V (vq V (pty V x p) 4) o
def pabits (ws : Nat) : Bool := [keyK (0, 10) 4, keyK (0, 10) 3, abase + 5, keyK (0, 2) 2, keyK (0, 2) 4, abase + 125].all fun b => !ws.testBit b
theorem PSame.frx {ws : Nat} (hF : FR ws K V K1 V1) (hE : ext K K1) (hW : WT K V) (hx : K x = some (0, 10)) (hN : PN V x) (hb : pabits ws = true) : PSame V V1 x (vi V x 4) ∧ vi V1 x 4 = vi V x 4 := by
  simp only [pabits, List.all_cons, List.all_nil, Bool.and_true, Bool.and_eq_true, Bool.not_eq_true'] at hb
  obtain ⟨b1, b2, b3, b4, b5, b6⟩ := hb
  have hx1 := hE.obj (by decide) hx
  have h3 : vq V1 x 3 = vq V x 3 := by unfold vq; rw [hF x _ 3 hx hx1 b2]
  refine ⟨fun p hp => ?_, vi_fr hF hx hx1 b1⟩
  obtain ⟨ha, hq, hk, hw⟩ := pty_at hW hx hN hp
  have hk1 := hE.obj (by decide) hk
  have e1 : pty V1 x p = pty V x p := by
    unfold pty
    rw [h3]
    exact vq_eq (hF _ _ p ha (hE.arr ha) b3)
  refine ⟨e1, vi_fr hF hk hk1 b4, ?_, fun o => vi_frA hF hw (hE.arr hw) b6⟩
  unfold vq
  rw [hF _ _ 4 hk hk1 b5]
theorem PI.same (h : PI V x) (hs : PSame V V1 x (vi V x 4)) (hn : vi V1 x 4 = vi V x 4) : PI V1 x := fun i j hij hj => by
  rw [hn] at hj
  obtain ⟨a1, -, a3, -⟩ := hs i (by omega)
  obtain ⟨b1, -, b3, -⟩ := hs j hj
  rw [a1, b1, a3, b3]
  exact h i j hij hj
theorem PI.nil (h : vi V x 4 = 0) : PI V x := fun i j _ hj => by rw [h] at hj; omega
/-- what both sides know of words that are asked for, by their numbers -/
def ABF (n wd : Int) (bd : Nat → Int) (wv : Nat → Nat → Int) (B W : Nat → Int) : Prop :=
  (∀ p w : Nat, (p : Int) < n → w < 7 → (tb (bd p) w = true ↔ B (7 * p + w) ≠ 0)) ∧
  (∀ p o w : Nat, (p : Int) < n → o < 7 → w < 7 → (tb (wv p o) w = true ↔ W (7 * (7 * p + w) + o) ≠ 0)) ∧
  (∀ p o k : Nat, (p : Int) < n → o < 7 → 7 ≤ k → k < 32 → tb (wv p o) k = false) ∧
  (∀ j : Nat, 7 * n ≤ j → j < 63 → B j = 0) ∧
  (∀ j : Nat, 49 * n ≤ j → j < 441 → W j = 0) ∧
  ∀ p o w : Nat, (p : Int) < n → o < 7 → w < 7 → wd ≤ w → W (7 * (7 * p + w) + o) = 0
def AB (V : Vmap) (x m : Nat) : Prop := ABF (vi V x 4) (vi V m 133) (fun p => vi V (pty V x p) 2) (fun p o => vi V (vq V (pty V x p) 4) o) (fun j => vi V (vq V m 135) j) (fun j => vi V (vq V m 136) j)
theorem ABF.same {n wd wd' : Int} {bd bd' : Nat → Int} {wv wv' : Nat → Nat → Int} {B B' W W' : Nat → Int} (h : ABF n wd bd wv B W) (hb : ∀ p : Nat, (p : Int) < n → bd' p = bd p) (hv : ∀ p o : Nat, (p : Int) < n → wv' p o = wv p o) (hB : ∀ j, B' j = B j) (hW : ∀ j, W' j = W j) (hw : wd ≤ wd') : ABF n wd' bd' wv' B' W' := by
  obtain ⟨h1, h2, h3, h4, h5, h6⟩ := h
  exact ⟨fun p w hp hw7 => by rw [hb p hp, hB]; exact h1 p w hp hw7, fun p o w hp ho hw7 => by rw [hv p o hp, hW]; exact h2 p o w hp ho hw7, fun p o k hp ho hk hk2 => by rw [hv p o hp]; exact h3 p o k hp ho hk hk2, fun j hj hj2 => by rw [hB]; exact h4 j hj hj2, fun j hj hj2 => by rw [hW]; exact h5 j hj hj2, fun p o w hp ho hw7 hww => by rw [hW]; exact h6 p o w hp ho hw7 (by omega)⟩
/-- a word is barred -/
theorem ABF.bar {n wd : Int} {bd bd' : Nat → Int} {wv wv' : Nat → Nat → Int} {B B' W W' : Nat → Int} {P w : Nat} (h : ABF n wd bd wv B W) (hP : (P : Int) < n) (hw : w < 7) (hb : ∀ p : Nat, (p : Int) < n → bd' p = if p = P then wor (bd P) (wshl 1 (w : Int)) else bd p) (hv : ∀ p o : Nat, (p : Int) < n → wv' p o = wv p o) (hB : ∀ j, B' j ≠ 0 ↔ (j = 7 * P + w ∨ B j ≠ 0)) (hW : ∀ j, W' j = W j) : ABF n wd bd' wv' B' W' := by
  obtain ⟨h1, h2, h3, h4, h5, h6⟩ := h
  refine ⟨fun p k hp hk => ?_, fun p o k hp ho hk => by rw [hv p o hp, hW]; exact h2 p o k hp ho hk, fun p o k hp ho hk hk2 => by rw [hv p o hp]; exact h3 p o k hp ho hk hk2, fun j hj hj2 => ?_, fun j hj hj2 => by rw [hW]; exact h5 j hj hj2, fun p o k hp ho hk hww => by rw [hW]; exact h6 p o k hp ho hk hww⟩
  · rw [hb p hp, hB]
    by_cases e : p = P
    · subst e
      rw [if_pos rfl, set_bit (by omega) (by omega), Bool.or_eq_true, decide_eq_true_eq, h1 p k hp hk]
      constructor
      · rintro (q | q)
        · exact Or.inr q
        · exact Or.inl (by omega)
      · rintro (q | q)
        · exact Or.inr (by omega)
        · exact Or.inl q
    · rw [if_neg e, h1 p k hp hk]
      constructor
      · exact Or.inr
      · rintro (q | q)
        · omega
        · exact q
  · refine Classical.byContradiction fun q => ?_
    rcases (hB j).mp q with r | r
    · omega
    · exact r (h4 j hj hj2)
/-- a word is wanted with another -/
theorem ABF.wnt {n wd : Int} {bd bd' : Nat → Int} {wv wv' : Nat → Nat → Int} {B B' W W' : Nat → Int} {P w O : Nat} (h : ABF n wd bd wv B W) (hP : (P : Int) < n) (hw : w < 7) (hwd : (w : Int) < wd) (hO : O < 7) (hb : ∀ p : Nat, (p : Int) < n → bd' p = bd p) (hv : ∀ p o : Nat, (p : Int) < n → wv' p o = if p = P ∧ o = O then wor (wv P O) (wshl 1 (w : Int)) else wv p o) (hB : ∀ j, B' j = B j) (hW : ∀ j, W' j ≠ 0 ↔ (j = 7 * (7 * P + w) + O ∨ W j ≠ 0)) : ABF n wd bd' wv' B' W' := by
  obtain ⟨h1, h2, h3, h4, h5, h6⟩ := h
  refine ⟨fun p k hp hk => by rw [hb p hp, hB]; exact h1 p k hp hk, fun p o k hp ho hk => ?_, fun p o k hp ho hk hk2 => ?_, fun j hj hj2 => by rw [hB]; exact h4 j hj hj2, fun j hj hj2 => ?_, fun p o k hp ho hk hww => ?_⟩
  · rw [hv p o hp, hW]
    by_cases e : p = P ∧ o = O
    · obtain ⟨rfl, rfl⟩ := e
      rw [if_pos ⟨rfl, rfl⟩, set_bit (by omega) (by omega), Bool.or_eq_true, decide_eq_true_eq, h2 p o k hp ho hk]
      constructor
      · rintro (q | q)
        · exact Or.inr q
        · exact Or.inl (by omega)
      · rintro (q | q)
        · exact Or.inr (by omega)
        · exact Or.inl q
    · rw [if_neg e, h2 p o k hp ho hk]
      constructor
      · exact Or.inr
      · rintro (q | q)
        · omega
        · exact q
  · rw [hv p o hp]
    by_cases e : p = P ∧ o = O
    · obtain ⟨rfl, rfl⟩ := e
      rw [if_pos ⟨rfl, rfl⟩, set_bit (by omega) (by omega), h3 p o k hp ho hk hk2, Bool.false_or]
      exact decide_eq_false (by omega)
    · rw [if_neg e]; exact h3 p o k hp ho hk hk2
  · refine Classical.byContradiction fun q => ?_
    rcases (hW j).mp q with r | r
    · omega
    · exact r (h5 j hj hj2)
  · refine Classical.byContradiction fun q => ?_
    rcases (hW _).mp q with r | r
    · omega
    · exact r (h6 p o k hp ho hk hww)
/-- one more party -/
theorem ABF.party {n wd : Int} {bd bd' : Nat → Int} {wv wv' : Nat → Nat → Int} {B B' W W' : Nat → Int} (h : ABF n wd bd wv B W) (h0 : 0 ≤ n) (h9 : n < 9) (hb : ∀ p : Nat, (p : Int) < n → bd' p = bd p) (hv : ∀ p o : Nat, (p : Int) < n → wv' p o = wv p o) (hb0 : bd' n.toNat = 0) (hv0 : ∀ o, o < 7 → wv' n.toNat o = 0) (hB : ∀ j, B' j = B j) (hW : ∀ j, W' j = W j) : ABF (n + 1) wd bd' wv' B' W' := by
  obtain ⟨h1, h2, h3, h4, h5, h6⟩ := h
  have hnew : ∀ p : Nat, (p : Int) < n + 1 → (p : Int) < n ∨ p = n.toNat := fun p hp => by omega
  refine ⟨fun p k hp hk => ?_, fun p o k hp ho hk => ?_, fun p o k hp ho hk hk2 => ?_, fun j hj hj2 => by rw [hB]; exact h4 j (by omega) hj2, fun j hj hj2 => by rw [hW]; exact h5 j (by omega) hj2, fun p o k hp ho hk hww => ?_⟩
  · rcases hnew p hp with q | rfl
    · rw [hb p q, hB]; exact h1 p k q hk
    · rw [hb0, hB, tb_zero, h4 _ (by omega) (by omega)]; simp
  · rcases hnew p hp with q | rfl
    · rw [hv p o q, hW]; exact h2 p o k q ho hk
    · rw [hv0 o ho, hW, tb_zero, h5 _ (by omega) (by omega)]; simp
  · rcases hnew p hp with q | rfl
    · rw [hv p o q]; exact h3 p o k q ho hk hk2
    · rw [hv0 o ho, tb_zero]
  · rcases hnew p hp with q | rfl
    · rw [hW]; exact h6 p o k q ho hk hww
    · rw [hW]; exact h5 _ (by omega) (by omega)
/-- what the reference keeps of it -/
def MSame (V V1 : Vmap) (m : Nat) : Prop := (∀ j, vi V1 (vq V1 m 135) j = vi V (vq V m 135) j) ∧ (∀ j, vi V1 (vq V1 m 136) j = vi V (vq V m 136) j)
def mabits (ws : Nat) : Bool := [keyK (0, 11) 135, keyK (0, 11) 136, abase + 110, abase + 111].all fun b => !ws.testBit b
theorem MSame.frx {ws : Nat} (hF : FR ws K V K1 V1) (hE : ext K K1) (hW : WT K V) (hm : K m = some (0, 11)) (hb : mabits ws = true) : MSame V V1 m := by
  simp only [mabits, List.all_cons, List.all_nil, Bool.and_true, Bool.and_eq_true, Bool.not_eq_true'] at hb
  obtain ⟨b1, b2, b3, b4⟩ := hb
  have hm1 := hE.obj (by decide) hm
  obtain ⟨n, hn⟩ := (hW.ref hm (j := 135) (Nat.le_of_ble_eq_true rfl) rfl).2
  obtain ⟨k, hk⟩ := (hW.ref hm (j := 136) (Nat.le_of_ble_eq_true rfl) rfl).2
  have h1 : vq V1 m 135 = vq V m 135 := by unfold vq; rw [hF m _ 135 hm hm1 b1]
  have h2 : vq V1 m 136 = vq V m 136 := by unfold vq; rw [hF m _ 136 hm hm1 b2]
  exact ⟨fun j => by rw [h1]; exact vi_frA hF hn (hE.arr hn) b3, fun j => by rw [h2]; exact vi_frA hF hk (hE.arr hk) b4⟩
theorem AB.same (h : AB V x m) (hs : PSame V V1 x (vi V x 4)) (hn : vi V1 x 4 = vi V x 4) (hM : MSame V V1 m) (hw : vi V m 133 ≤ vi V1 m 133) : AB V1 x m := by
  unfold AB at h ⊢
  rw [hn]
  exact h.same (fun p hp => by show vi V1 (pty V1 x p) 2 = _; rw [(hs p hp).1, (hs p hp).2.1]) (fun p o hp => by show vi V1 (vq V1 (pty V1 x p) 4) o = _; rw [(hs p hp).1, (hs p hp).2.2.1, (hs p hp).2.2.2]) (fun j => hM.1 j) (fun j => hM.2 j) hw
/-- a call of either that asks nothing -/
theorem AB.frx {ws : Nat} (h : AB V x m) (hF : FR ws K V K1 V1) (hE : ext K K1) (hW : WT K V) (hx : K x = some (0, 10)) (hm : K m = some (0, 11)) (hN : PN V x) (hb : pabits ws = true) (hb2 : mabits ws = true) (hw : vi V m 133 ≤ vi V1 m 133) : AB V1 x m :=
  have hs := PSame.frx hF hE hW hx hN hb
  h.same hs.1 hs.2 (MSame.frx hF hE hW hm hb2) hw
theorem AB.nil (h : vi V x 4 = 0) (h1 : ∀ j, j < 63 → vi V (vq V m 135) j = 0) (h2 : ∀ j, j < 441 → vi V (vq V m 136) j = 0) : AB V x m :=
  ⟨fun p w hp => by omega, fun p o w hp => by omega, fun p o k hp => by omega, fun j _ hj => h1 j hj, fun j _ hj => h2 j hj, fun p o w hp => by omega⟩
/-- what stands elsewhere is put -/
theorem PSame.upd {b j : Nat} {v : Value} {kb : Nat × Nat} (hW : WT K V) (hx : K x = some (0, 10)) (hN : PN V x) (hb : K b = some kb) (e : V1 = upd2 V b j v) (n1 : kb ≠ (0, 10)) (n2 : kb ≠ (4 + 1, 9)) (n3 : kb ≠ (0, 2)) (n4 : kb ≠ (124 + 1, 7)) : PSame V V1 x (vi V x 4) ∧ vi V1 x 4 = vi V x 4 := by
  have hxb : x ≠ b := K_ne hx hb (Ne.symm n1)
  have h3 : vq V1 x 3 = vq V x 3 := vq_up e (Or.inl hxb)
  refine ⟨fun p hp => ?_, vi_up e (Or.inl hxb)⟩
  obtain ⟨ha, hq, hk, hw⟩ := pty_at hW hx hN hp
  have e1 : pty V1 x p = pty V x p := by
    unfold pty
    rw [h3]
    exact vq_up e (Or.inl (K_ne ha hb (Ne.symm n2)))
  exact ⟨e1, vi_up e (Or.inl (K_ne hk hb (Ne.symm n3))), vq_up e (Or.inl (K_ne hk hb (Ne.symm n3))), fun o => vi_up e (Or.inl (K_ne hw hb (Ne.symm n4)))⟩
theorem mrow (hW : WT K V) (hm : K m = some (0, 11)) : K (vq V m 135) = some (109 + 1, 63) ∧ K (vq V m 136) = some (110 + 1, 441) := by
  obtain ⟨n, hn⟩ := (hW.ref hm (j := 135) (Nat.le_of_ble_eq_true rfl) rfl).2
  obtain ⟨k, hk⟩ := (hW.ref hm (j := 136) (Nat.le_of_ble_eq_true rfl) rfl).2
  have e1 : n = 63 := by
    rcases (hW.len hn).2.2 with h | h
    · exact absurd h (by decide)
    · exact h
  have e2 : k = 441 := by
    rcases (hW.len hk).2.2 with h | h
    · exact absurd h (by decide)
    · exact h
  subst e1 e2
  exact ⟨hn, hk⟩
theorem MSame.upd {b j : Nat} {v : Value} {kb : Nat × Nat} (hW : WT K V) (hm : K m = some (0, 11)) (hb : K b = some kb) (e : V1 = upd2 V b j v) (n1 : kb ≠ (0, 11)) (n2 : kb ≠ (109 + 1, 63)) (n3 : kb ≠ (110 + 1, 441)) : MSame V V1 m ∧ ∀ k, vi V1 m k = vi V m k := by
  have hmb : m ≠ b := K_ne hm hb (Ne.symm n1)
  obtain ⟨k1, k2⟩ := mrow hW hm
  exact ⟨⟨fun j => by rw [vq_up e (Or.inl hmb)]; exact vi_up e (Or.inl (K_ne k1 hb (Ne.symm n2))), fun j => by rw [vq_up e (Or.inl hmb)]; exact vi_up e (Or.inl (K_ne k2 hb (Ne.symm n3)))⟩, fun k => vi_up e (Or.inl hmb)⟩
/-- asks() on both sides -/
theorem AB.asks {p w o X Y : Int} (h : AB V x m) (hP : PI V x) (hW : WT K V) (hx : K x = some (0, 10)) (hm : K m = some (0, 11)) (hN : PN V x) (r1 : vi V x 4 = vi V m 9) (r2 : wsz V x = vi V m 133) (h9 : vi V x 4 ≤ 9) (h7 : vi V m 133 ≤ 7) (hc : ASC V V1 x p w o X) (hr : ASR V1 V2 m p w o Y) : X = Y ∧ AB V2 x m ∧ PI V1 x := by
  obtain ⟨kB, kW⟩ := mrow hW hm
  rcases hc with ⟨hX, e, hno⟩ | ⟨hok, ho, hX, e⟩ | ⟨hok, ho, hX, e⟩
  · subst e
    have hno2 : ¬ AOR V1 m p w o := fun q => hno (by unfold AOR at q; unfold AOK; omega)
    rcases hr with ⟨hY, e2, -⟩ | ⟨q, -, -⟩ | ⟨q, -, -⟩
    · subst e2
      exact ⟨hX.trans hY.symm, h, hP⟩
    · exact absurd q hno2
    · exact absurd q hno2
  · -- barred
    have hok0 := hok
    unfold AOK at hok
    obtain ⟨P, rfl⟩ := Int.eq_ofNat_of_zero_le hok.1
    obtain ⟨w', rfl⟩ := Int.eq_ofNat_of_zero_le hok.2.2.1
    rw [Int.toNat_natCast] at hX e
    obtain ⟨ha, hq, hk, hwk⟩ := pty_at hW hx hN hok.2.1
    have hM := MSame.upd hW hm hk e (by decide) (by decide) (by decide)
    have hxa : x ≠ pty V x P := K_ne hx hk (by decide)
    have haa : vq V x 3 ≠ pty V x P := K_ne ha hk (by decide)
    have e3 : vq V1 x 3 = vq V x 3 := vq_up e (Or.inl hxa)
    have e4 : vi V1 x 4 = vi V x 4 := vi_up e (Or.inl hxa)
    have ep : ∀ q, pty V1 x q = pty V x q := fun q => by unfold pty; rw [e3]; exact vq_up e (Or.inl haa)
    have rz : ir (wor (vi V (pty V x P) 2) (wshl 1 (w' : Int))) := wor_ir
    have hbd : ∀ q : Nat, (q : Int) < vi V x 4 → vi V1 (pty V1 x q) 2 = if q = P then wor (vi V (pty V x P) 2) (wshl 1 (w' : Int)) else vi V (pty V x q) 2 := fun q hq => by
      rw [ep q]
      by_cases eq : q = P
      · subst eq
        rw [if_pos rfl, upd2_int e rz]
      · rw [if_neg eq]
        refine vi_up e (Or.inl ?_)
        rcases Nat.lt_or_gt_of_ne eq with l | l
        · exact (hP q P l hok.2.1).1
        · exact (Ne.symm (hP P q l hq).1)
    have hwv : ∀ q o : Nat, (q : Int) < vi V x 4 → vi V1 (vq V1 (pty V1 x q) 4) o = vi V (vq V (pty V x q) 4) o := fun q o hq => by
      obtain ⟨-, -, -, hk3⟩ := pty_at hW hx hN hq
      rw [ep q, vq_up e (Or.inr (by decide)), vi_up e (Or.inl (K_ne hk3 hk (by decide)))]
    have hPI : PI V1 x := fun i j hij hj => by
      rw [e4] at hj
      rw [ep i, ep j, vq_up e (Or.inr (by decide)), vq_up e (Or.inr (by decide))]
      exact hP i j hij hj
    have hw7 : w' < 7 := by omega
    have hbit := h.1 P w' hok.2.1 hw7
    have hnb : wand (vi V (pty V x P) 2) (wshl 1 (w' : Int)) = 0 ↔ tb (vi V (pty V x P) 2) w' = false := new_bit (by omega)
    have hidx : ((7 : Int) * (P : Int) + (w' : Int)).toNat = 7 * P + w' := by omega
    have hokr : AOR V1 m P w' o := by unfold AOR; rw [hM.2 9, hM.2 133]; omega
    rcases hr with ⟨-, -, q⟩ | ⟨-, -, q⟩ | ⟨-, q, -⟩
    · exact absurd hokr q
    · rw [hidx, hM.1.1] at q
      rcases q with ⟨hY, hB, e2⟩ | ⟨hY, hB, e2⟩
      · subst e2
        have ht := hbit.mpr hB
        refine ⟨?_, ?_, hPI⟩
        · rcases hX with ⟨hX, q⟩ | ⟨hX, -⟩
          · rw [hnb.mp q] at ht; cases ht
          · rw [hX, hY]
        · unfold AB
          rw [e4, hM.2 133]
          refine ABF.bar h hok.2.1 hw7 hbd hwv (fun j => ?_) (fun j => hM.1.2 j)
          rw [hM.1.1 j]
          constructor
          · exact Or.inr
          · rintro (r | r)
            · subst r; exact hB
            · exact r
      · have hf : tb (vi V (pty V x P) 2) w' = false := by
          cases ht : tb (vi V (pty V x P) 2) w'
          · rfl
          · exact absurd hB (hbit.mp ht)
        have hqm : vq V1 m 135 = vq V m 135 := vq_up e (Or.inl (K_ne hm hk (by decide)))
        rw [hqm] at e2
        have hxB : x ≠ vq V m 135 := K_ne hx kB (by decide)
        have hmB : m ≠ vq V m 135 := K_ne hm kB (by decide)
        have f3 : vq V2 x 3 = vq V1 x 3 := vq_up e2 (Or.inl hxB)
        have f4 : vi V2 x 4 = vi V1 x 4 := vi_up e2 (Or.inl hxB)
        have fp : ∀ q, pty V2 x q = pty V1 x q := fun q => by
          unfold pty
          rw [f3, e3]
          exact vq_up e2 (Or.inl (K_ne ha kB (by decide)))
        refine ⟨?_, ?_, hPI⟩
        · rcases hX with ⟨hX, -⟩ | ⟨-, q⟩
          · rw [hX, hY]
          · exact absurd (hnb.mpr hf) q
        · unfold AB
          rw [f4, e4, vi_up e2 (Or.inl hmB), hM.2 133]
          refine ABF.bar h hok.2.1 hw7 (fun q hq => ?_) (fun q o hq => ?_) (fun j => ?_) (fun j => ?_)
          · show vi V2 (pty V2 x q) 2 = _
            obtain ⟨-, -, hk2, -⟩ := pty_at hW hx hN hq
            rw [fp q, vi_up e2 (Or.inl (by rw [ep q]; exact K_ne hk2 kB (by decide)))]
            exact hbd q hq
          · show vi V2 (vq V2 (pty V2 x q) 4) o = _
            obtain ⟨-, -, hk2, hk3⟩ := pty_at hW hx hN hq
            rw [fp q, vq_up e2 (Or.inl (by rw [ep q]; exact K_ne hk2 kB (by decide))), vi_up e2 (Or.inl (by rw [ep q, vq_up e (Or.inr (by decide))]; exact K_ne hk3 kB (by decide)))]
            exact hwv q o hq
          · show vi V2 (vq V2 m 135) j ≠ 0 ↔ _
            rw [vq_up e2 (Or.inl hmB), hqm]
            by_cases ej : j = 7 * P + w'
            · subst ej
              rw [upd2_int e2 (ir_c rfl)]
              exact ⟨fun _ => Or.inl rfl, fun _ => by decide⟩
            · rw [vi_up e2 (Or.inr ej), vi_up e (Or.inl (K_ne kB hk (by decide)))]
              exact ⟨Or.inr, fun r => r.resolve_left ej⟩
          · show vi V2 (vq V2 m 136) j = _
            rw [vq_up e2 (Or.inl hmB), vq_up e (Or.inl (K_ne hm hk (by decide))), vi_up e2 (Or.inl (K_ne kW kB (by decide))), vi_up e (Or.inl (K_ne kW hk (by decide)))]
    · exact absurd ho q
  · -- wanted
    have hok0 := hok
    unfold AOK at hok
    obtain ⟨P, rfl⟩ := Int.eq_ofNat_of_zero_le hok.1
    obtain ⟨w', rfl⟩ := Int.eq_ofNat_of_zero_le hok.2.2.1
    have ho0 : 0 ≤ o := by omega
    obtain ⟨O, rfl⟩ := Int.eq_ofNat_of_zero_le ho0
    rw [Int.toNat_natCast, Int.toNat_natCast] at hX e
    obtain ⟨ha, hq, hk, hwk⟩ := pty_at hW hx hN hok.2.1
    have hM := MSame.upd hW hm hwk e (by decide) (by decide) (by decide)
    have hxa : x ≠ vq V (pty V x P) 4 := K_ne hx hwk (by decide)
    have haa : vq V x 3 ≠ vq V (pty V x P) 4 := K_ne ha hwk (by decide)
    have e3 : vq V1 x 3 = vq V x 3 := vq_up e (Or.inl hxa)
    have e4 : vi V1 x 4 = vi V x 4 := vi_up e (Or.inl hxa)
    have ep : ∀ q, pty V1 x q = pty V x q := fun q => by unfold pty; rw [e3]; exact vq_up e (Or.inl haa)
    have rz : ir (wor (vi V (vq V (pty V x P) 4) O) (wshl 1 (w' : Int))) := wor_ir
    have epa : ∀ q : Nat, (q : Int) < vi V x 4 → pty V x q ≠ vq V (pty V x P) 4 := fun q hq => by
      obtain ⟨-, -, hk2, -⟩ := pty_at hW hx hN hq
      exact K_ne hk2 hwk (by decide)
    have hbd : ∀ q : Nat, (q : Int) < vi V x 4 → vi V1 (pty V1 x q) 2 = vi V (pty V x q) 2 := fun q hq => by rw [ep q]; exact vi_up e (Or.inl (epa q hq))
    have ew : ∀ q : Nat, (q : Int) < vi V x 4 → vq V1 (pty V1 x q) 4 = vq V (pty V x q) 4 := fun q hq => by rw [ep q]; exact vq_up e (Or.inl (epa q hq))
    have hwv : ∀ q o : Nat, (q : Int) < vi V x 4 → vi V1 (vq V1 (pty V1 x q) 4) o = if q = P ∧ o = O then wor (vi V (vq V (pty V x P) 4) O) (wshl 1 (w' : Int)) else vi V (vq V (pty V x q) 4) o := fun q o hq => by
      rw [ew q hq]
      by_cases eq : q = P
      · subst eq
        by_cases eo : o = O
        · subst eo
          rw [if_pos ⟨rfl, rfl⟩, upd2_int e rz]
        · rw [if_neg (fun r => eo r.2)]
          exact vi_up e (Or.inr eo)
      · rw [if_neg (fun r => eq r.1)]
        refine vi_up e (Or.inl ?_)
        rcases Nat.lt_or_gt_of_ne eq with l | l
        · exact (hP q P l hok.2.1).2
        · exact (Ne.symm (hP P q l hq).2)
    have hPI : PI V1 x := fun i j hij hj => by
      rw [e4] at hj
      rw [ew i (by omega), ew j hj, ep i, ep j]
      exact hP i j hij hj
    have hw7 : w' < 7 := by omega
    have hO7 : O < 7 := by omega
    have hbit := h.2.1 P O w' hok.2.1 hO7 hw7
    have hnb : wand (vi V (vq V (pty V x P) 4) O) (wshl 1 (w' : Int)) = 0 ↔ tb (vi V (vq V (pty V x P) 4) O) w' = false := new_bit (by omega)
    have hidx : ((7 : Int) * (7 * (P : Int) + (w' : Int)) + (O : Int)).toNat = 7 * (7 * P + w') + O := by omega
    have hokr : AOR V1 m P w' O := by unfold AOR; rw [hM.2 9, hM.2 133]; omega
    rcases hr with ⟨-, -, q⟩ | ⟨-, q, -⟩ | ⟨-, -, q⟩
    · exact absurd hokr q
    · exact absurd q ho
    · rw [hidx, hM.1.2] at q
      rcases q with ⟨hY, hB, e2⟩ | ⟨hY, hB, e2⟩
      · subst e2
        have ht := hbit.mpr hB
        refine ⟨?_, ?_, hPI⟩
        · rcases hX with ⟨hX, q⟩ | ⟨hX, -⟩
          · rw [hnb.mp q] at ht; cases ht
          · rw [hX, hY]
        · unfold AB
          rw [e4, hM.2 133]
          refine ABF.wnt h hok.2.1 hw7 (by omega) hO7 hbd hwv (fun j => hM.1.1 j) (fun j => ?_)
          rw [hM.1.2 j]
          constructor
          · exact Or.inr
          · rintro (r | r)
            · subst r; exact hB
            · exact r
      · have hf : tb (vi V (vq V (pty V x P) 4) O) w' = false := by
          cases ht : tb (vi V (vq V (pty V x P) 4) O) w'
          · rfl
          · exact absurd hB (hbit.mp ht)
        have hqm : vq V1 m 136 = vq V m 136 := vq_up e (Or.inl (K_ne hm hwk (by decide)))
        rw [hqm] at e2
        have hxB : x ≠ vq V m 136 := K_ne hx kW (by decide)
        have hmB : m ≠ vq V m 136 := K_ne hm kW (by decide)
        have f3 : vq V2 x 3 = vq V1 x 3 := vq_up e2 (Or.inl hxB)
        have f4 : vi V2 x 4 = vi V1 x 4 := vi_up e2 (Or.inl hxB)
        have fp : ∀ q, pty V2 x q = pty V1 x q := fun q => by
          unfold pty
          rw [f3, e3]
          exact vq_up e2 (Or.inl (K_ne ha kW (by decide)))
        refine ⟨?_, ?_, hPI⟩
        · rcases hX with ⟨hX, -⟩ | ⟨-, q⟩
          · rw [hX, hY]
          · exact absurd (hnb.mpr hf) q
        · unfold AB
          rw [f4, e4, vi_up e2 (Or.inl hmB), hM.2 133]
          refine ABF.wnt h hok.2.1 hw7 (by omega) hO7 (fun q hq => ?_) (fun q o hq => ?_) (fun j => ?_) (fun j => ?_)
          · show vi V2 (pty V2 x q) 2 = _
            obtain ⟨-, -, hk2, -⟩ := pty_at hW hx hN hq
            rw [fp q, vi_up e2 (Or.inl (by rw [ep q]; exact K_ne hk2 kW (by decide)))]
            exact hbd q hq
          · show vi V2 (vq V2 (pty V2 x q) 4) o = _
            obtain ⟨-, -, hk2, hk3⟩ := pty_at hW hx hN hq
            rw [fp q, vq_up e2 (Or.inl (by rw [ep q]; exact K_ne hk2 kW (by decide))), vi_up e2 (Or.inl (by rw [ew q hq]; exact K_ne hk3 kW (by decide)))]
            exact hwv q o hq
          · show vi V2 (vq V2 m 135) j = _
            rw [vq_up e2 (Or.inl hmB), vq_up e (Or.inl (K_ne hm hwk (by decide))), vi_up e2 (Or.inl (K_ne kB kW (by decide))), vi_up e (Or.inl (K_ne kB hwk (by decide)))]
          · show vi V2 (vq V2 m 136) j ≠ 0 ↔ _
            rw [vq_up e2 (Or.inl hmB), hqm]
            by_cases ej : j = 7 * (7 * P + w') + O
            · subst ej
              rw [upd2_int e2 (ir_c rfl)]
              exact ⟨fun _ => Or.inl rfl, fun _ => by decide⟩
            · rw [vi_up e2 (Or.inr ej), vi_up e (Or.inl (K_ne kW hwk (by decide)))]
              exact ⟨Or.inr, fun r => r.resolve_left ej⟩
theorem bw_br {n wd : Int} {bd : Nat → Int} {wv : Nat → Nat → Int} {B W : Nat → Int} (h : ABF n wd bd wv B W) {N p a : Nat} {s : Int} (hN : wd = N) (hN7 : N ≤ 7) (hp : (p : Int) < n) (h0 : 0 ≤ s) (hs : s < ((2 ^ N : Nat) : Int)) (hbd : vi V a 2 = bd p) (hwv : ∀ o, vi V (vq V a 4) o = wv p o) (h133 : vi V1 m 133 = wd) (hB : ∀ j, vi V1 (vq V1 m 135) j = B j) (hW : ∀ j, vi V1 (vq V1 m 136) j = W j) : BWp V a s ↔ BRp V1 m (p : Int) s := by
  obtain ⟨h1, h2, h3, h4, h5, h6⟩ := h
  have small : ∀ k, k < 32 → tb s k = true → k < N := fun k hk ht => by
    refine Classical.byContradiction fun hn => ?_
    rw [tb_small h0 hs (by omega) hk] at ht; cases ht
  constructor
  · rintro (q | ⟨O, hO, q1, q2⟩)
    · rw [hbd] at q
      obtain ⟨k, hk, t1, t2⟩ := wand_n0.mp q
      have hkN := small k hk t2
      refine ⟨k, by omega, Or.inl ⟨(shr1_1 hk).mpr t2, ?_⟩⟩
      rw [hB, show ((7 : Int) * (p : Int) + (k : Int)).toNat = 7 * p + k by omega]
      exact (h1 p k hp (by omega)).mp t1
    · rw [hwv] at q2
      obtain ⟨k, hk, t1, t2⟩ := wand_n0.mp q2
      have tO := (shr1_n0 (by omega)).mp q1
      have hON := small O (by omega) tO
      have tk : tb s k = false := by
        rw [tb_wxor, tb_m1 hk] at t2
        cases e : tb s k
        · rfl
        · rw [e] at t2; exact absurd t2 (by decide)
      have hk7 : k < 7 := by
        refine Classical.byContradiction fun hn => ?_
        rw [h3 p O k hp hO (by omega) hk] at t1; cases t1
      have hWn := (h2 p O k hp hO hk7).mp t1
      have hkw : (k : Int) < wd := by
        refine Classical.byContradiction fun hn => ?_
        exact hWn (h6 p O k hp hO hk7 (by omega))
      refine ⟨k, by omega, Or.inr ⟨O, by omega, (shr1_0 hk).mpr tk, (shr1_1 (by omega)).mpr tO, ?_⟩⟩
      rw [hW, show ((7 : Int) * (7 * (p : Int) + (k : Int)) + (O : Int)).toNat = 7 * (7 * p + k) + O by omega]
      exact hWn
  · rintro ⟨w, hw, q⟩
    rcases q with ⟨q1, q2⟩ | ⟨o, ho, q1, q2, q3⟩
    · rw [hB, show ((7 : Int) * (p : Int) + (w : Int)).toNat = 7 * p + w by omega] at q2
      refine Or.inl ?_
      rw [hbd]
      exact wand_n0.mpr ⟨w, by omega, (h1 p w hp (by omega)).mpr q2, (shr1_1 (by omega)).mp q1⟩
    · rw [hW, show ((7 : Int) * (7 * (p : Int) + (w : Int)) + (o : Int)).toNat = 7 * (7 * p + w) + o by omega] at q3
      refine Or.inr ⟨o, by omega, ?_, ?_⟩
      · rw [(shr1_1 (by omega)).mpr ((shr1_1 (by omega)).mp q2)]; decide
      · rw [hwv]
        refine wand_n0.mpr ⟨w, by omega, (h2 p o w hp (by omega) (by omega)).mpr q3, ?_⟩
        rw [tb_wxor, tb_m1 (by omega), (shr1_0 (by omega)).mp q1]; rfl
/-- blocks() on both sides -/
theorem AB.blocks {s X Y : Int} (h : AB V x m) (hM : MSame V V1 m) (h133 : vi V1 m 133 = vi V m 133) (hn9 : vi V1 m 9 = vi V m 9) (r1 : vi V x 4 = vi V m 9) (r2 : wsz V x = vi V m 133) (h00 : 0 ≤ vi V m 133) (h7 : vi V m 133 ≤ 7) (hc : BKS V x s X) (hr : BRS V1 m s Y) : X = Y := by
  obtain ⟨N, hN⟩ := Int.eq_ofNat_of_zero_le h00
  have hval : wshl 1 (vi V m 133) = ((2 ^ N : Nat) : Int) := by rw [hN]; exact wshl_val (by omega)
  unfold BKS at hc
  unfold BRS at hr
  rw [r2] at hc
  rw [h133, hn9, ← r1] at hr
  rcases hc with ⟨a1, a2, a3⟩ | ⟨a1, a2⟩
  · rcases hr with ⟨b1, b2, b3⟩ | ⟨b1, b2⟩
    · rw [a3, b3]
      have key : ∀ k : Nat, (k : Int) ≤ vi V x 4 → blk V x s k = blr V1 m s k := by
        intro k
        induction k with
        | zero => intro _; rfl
        | succ k ih =>
          intro hk
          have ihk := ih (by omega)
          have hiff : BWp V (pty V x k) s ↔ BRp V1 m (k : Int) s := bw_br h hN (by omega) (by omega) a1 (by rw [← hval]; exact a2) rfl (fun _ => rfl) h133 (fun j => hM.1 j) (fun j => hM.2 j)
          by_cases hb : BWp V (pty V x k) s
          · rw [blk_yes hb, blr_yes (hiff.mp hb), ihk]
          · rw [blk_no hb, blr_no (fun q => hb (hiff.mpr q)), ihk]
      by_cases hn0 : 0 ≤ vi V x 4
      · exact key _ (by omega)
      · rw [show (vi V x 4).toNat = 0 by omega]; rfl
    · omega
  · rcases hr with ⟨b1, b2, b3⟩ | ⟨b1, b2⟩
    · omega
    · rw [a2, b2]
/-- a new row of a new object: nothing that was there, and all alike -/
def ZR (K : Kmap) (V : Vmap) (x k n : Nat) (c : Int) : Prop := K (vq V x k) = none ∧ ∀ j, j < n → vi V (vq V x k) j = c
theorem ZR.mk {V0 : Vmap} {k n o : Nat} (hx : V x k = .ref o) (hK : K o = none) (hc : ∀ j, V o j = V0 o j) (h0 : ∀ j, V0 o j = .int 0) : ZR K V x k n 0 := by
  have e : vq V x k = o := vq_of hx
  refine ⟨by rw [e]; exact hK, fun j _ => ?_⟩
  rw [e, vi_of ((hc j).trans (h0 j))]; rfl
theorem FRA {ws : Nat} (h : FR ws K V K1 V1) {a t n : Nat} (ha : K a = some (t + 1, n)) (ha1 : K1 a = some (t + 1, n)) (hb : ws.testBit (abase + (t + 1)) = false) (j : Nat) : V1 a j = V a j := h a _ j ha ha1 hb
/-- what party() leaves of the parties -/
def NEWP (V V1 : Vmap) (x : Nat) (X : Int) : Prop := (X = -1 ∧ PSame V V1 x (vi V x 4) ∧ vi V1 x 4 = vi V x 4) ∨ (PSame V V1 x (vi V x 4) ∧ vi V1 x 4 = vi V x 4 + 1 ∧ 0 ≤ vi V x 4 ∧ vi V x 4 < 9 ∧ vi V1 (pty V1 x (vi V x 4).toNat) 2 = 0 ∧ (∀ o, o < 7 → vi V1 (vq V1 (pty V1 x (vi V x 4).toNat) 4) o = 0) ∧ ∀ p : Nat, (p : Int) < vi V x 4 → pty V x p ≠ pty V1 x (vi V x 4).toNat ∧ vq V (pty V x p) 4 ≠ vq V1 (pty V1 x (vi V x 4).toNat) 4)
theorem PSame.rf {n : Int} : PSame V V x n := fun _ _ => ⟨rfl, rfl, rfl, fun _ => rfl⟩
theorem NEWP.no : NEWP V V x (-1) := Or.inl ⟨rfl, PSame.rf, rfl⟩
theorem NEWP.mk {Kn Ki : Kmap} {Vn Vi Va : Vmap} {q ws c : Nat} {X Y : Int} (hN : PN V x) (hW : WT K V) (hx : K x = some (0, 10)) (hq : K q = none) (hE1 : ext K Kn) (hV : ∀ b, b ≠ q → Vn b = V b) (hF : FR ws Kn Vn Ki Vi) (hE2 : ext Kn Ki) (hqi : Ki q = some (0, 2)) (hz : ZR Kn Vi q 4 7 0) (h2 : vi Vi q 2 = 0) (hb : pabits ws = true) (e3 : Va = upd2 Vi (vq V x 3) c (.ref q)) (e4 : V1 = upd2 Va x 4 (ti Y)) (hc : (c : Int) = vi V x 4) (hY : Y = vi V x 4 + 1) (rY : ir Y) (h9 : vi V x 4 < 9) : NEWP V V1 x X := by
  simp only [pabits, List.all_cons, List.all_nil, Bool.and_true, Bool.and_eq_true, Bool.not_eq_true'] at hb
  obtain ⟨b1, b2, b3, b4, b5, b6⟩ := hb
  have ha : K (vq V x 3) = some (4 + 1, 9) := by
    obtain ⟨n, hn⟩ := (hW.ref hx (j := 3) (Nat.le_of_ble_eq_true rfl) rfl).2
    have e : n = 9 := by
      rcases (hW.len hn).2.2 with h | h
      · exact absurd h (by decide)
      · exact h
    rw [hn, e]
  have hxn := hE1.obj (Or.inl (by decide)) hx
  have hxi := hE2.obj (Or.inl (by decide)) hxn
  have han := hE1.arr ha
  have hai := hE2.arr han
  have hxa : x ≠ vq V x 3 := K_ne hx ha (by decide)
  have hxq : x ≠ q := K_old hx hq
  have haq : vq V x 3 ≠ q := K_old ha hq
  have h3 : vq V1 x 3 = vq V x 3 := by
    unfold vq
    rw [uq_ne e4 (Or.inr (by decide)), uq_ne e3 (Or.inl hxa), hF x _ 3 hxn hxi b2, hV x hxq]
  have h4 : vi V1 x 4 = Y := upd2_int e4 rY
  have hnew : pty V1 x (vi V x 4).toNat = q := by
    unfold pty
    rw [h3]
    have ec : (vi V x 4).toNat = c := by omega
    rw [ec]
    exact vq_of ((uq_ne e4 (Or.inl (Ne.symm hxa))).trans (uq_same e3))
  have hqa : q ≠ vq V x 3 := Ne.symm haq
  have hzo : vq Vi q 4 ≠ x := fun e => by have := hz.1; rw [e, hxn] at this; cases this
  have hza : vq Vi q 4 ≠ vq V x 3 := fun e => by have := hz.1; rw [e, han] at this; cases this
  have hq4 : vq V1 q 4 = vq Vi q 4 := by rw [vq_up e4 (Or.inl (Ne.symm hxq)), vq_up e3 (Or.inl hqa)]
  refine Or.inr ⟨fun p hp => ?_, by rw [h4, hY], by omega, h9, ?_, fun o ho => ?_, fun p hp => ?_⟩
  · obtain ⟨-, hpr, hpk, hpw⟩ := pty_at hW hx hN hp
    have hpq : pty V x p ≠ q := K_old hpk hq
    have hwq : vq V (pty V x p) 4 ≠ q := K_old hpw hq
    have hpn := hE1.obj (Or.inl (by decide)) hpk
    have hpi := hE2.obj (Or.inl (by decide)) hpn
    have hpx : pty V x p ≠ x := K_ne hpk hx (by decide)
    have hpa : pty V x p ≠ vq V x 3 := K_ne hpk ha (by decide)
    have hwn := hE1.arr hpw
    have hwi := hE2.arr hwn
    have hwx : vq V (pty V x p) 4 ≠ x := K_ne hpw hx (by decide)
    have hwa : vq V (pty V x p) 4 ≠ vq V x 3 := K_ne hpw ha (by decide)
    have ep : pty V1 x p = pty V x p := by
      unfold pty
      rw [h3]
      exact vq_eq ((uq_ne e4 (Or.inl (Ne.symm hxa))).trans ((uq_ne e3 (Or.inr (show p ≠ c by omega))).trans ((hF _ _ p han hai b3).trans (congrFun (hV _ haq) p))))
    refine ⟨ep, ?_, ?_, fun o => ?_⟩
    · exact vi_eq ((uq_ne e4 (Or.inl hpx)).trans ((uq_ne e3 (Or.inl hpa)).trans ((hF _ _ 2 hpn hpi b4).trans (congrFun (hV _ hpq) 2))))
    · exact vq_eq ((uq_ne e4 (Or.inl hpx)).trans ((uq_ne e3 (Or.inl hpa)).trans ((hF _ _ 4 hpn hpi b5).trans (congrFun (hV _ hpq) 4))))
    · rw [vi_up e4 (Or.inl hwx), vi_up e3 (Or.inl hwa), vi_frA hF hwn hwi b6]
      unfold vi
      rw [hV _ hwq]
  · rw [hnew, vi_up e4 (Or.inl (Ne.symm hxq)), vi_up e3 (Or.inl hqa)]
    exact h2
  · rw [hnew, hq4, vi_up e4 (Or.inl hzo), vi_up e3 (Or.inl hza)]
    exact hz.2 o ho
  · obtain ⟨-, -, hpk, hpw⟩ := pty_at hW hx hN hp
    rw [hnew, hq4]
    refine ⟨K_old hpk hq, fun e => ?_⟩
    have := hz.1
    rw [← e, hE1.arr hpw] at this; cases this
theorem PI.party {X : Int} (h : PI V x) (hn : NEWP V V1 x X) : PI V1 x := by
  rcases hn with ⟨-, hs, hn⟩ | ⟨hs, hn, h0, h9, h2, hw, hd⟩
  · exact h.same hs hn
  · intro i j hij hj
    rw [hn] at hj
    have si := hs i (by omega)
    rcases (show (j : Int) < vi V x 4 ∨ j = (vi V x 4).toNat by omega) with q | q
    · have sj := hs j q
      rw [si.1, sj.1, si.2.2.1, sj.2.2.1]
      exact h i j hij q
    · subst q
      rw [si.1, si.2.2.1]
      exact hd i (by omega)
theorem AB.party {X : Int} (h : AB V x m) (hn : NEWP V V1 x X) (hM : MSame V V1 m) (hw : vi V1 m 133 = vi V m 133) : AB V1 x m := by
  rcases hn with ⟨-, hs, hn⟩ | ⟨hs, hn, h0, h9, h2, hz, hd⟩
  · exact h.same hs hn hM (by omega)
  · unfold AB at h ⊢
    rw [hn, hw]
    exact ABF.party h h0 h9 (fun p hp => by show vi V1 (pty V1 x p) 2 = _; rw [(hs p hp).1, (hs p hp).2.1]) (fun p o hp => by show vi V1 (vq V1 (pty V1 x p) 4) o = _; rw [(hs p hp).1, (hs p hp).2.2.1, (hs p hp).2.2.2]) h2 (fun o ho => hz o ho) (fun j => hM.1 j) (fun j => hM.2 j)
/-- what asks() leaves of where the parties stand -/
theorem ASC.pty {p w o X : Int} (hc : ASC V V1 x p w o X) (hW : WT K V) (hx : K x = some (0, 10)) (hN : PN V x) : vi V1 x 4 = vi V x 4 ∧ ∀ q : Nat, (q : Int) < vi V x 4 → pty V1 x q = pty V x q ∧ vq V1 (pty V x q) 4 = vq V (pty V x q) 4 := by
  rcases hc with ⟨-, e, -⟩ | ⟨hok, -, -, e⟩ | ⟨hok, -, -, e⟩
  · subst e; exact ⟨rfl, fun q hq => ⟨rfl, rfl⟩⟩
  · have hp : ((p.toNat : Nat) : Int) < vi V x 4 := by unfold AOK at hok; omega
    obtain ⟨ha, -, hk, -⟩ := pty_at hW hx hN hp
    refine ⟨vi_up e (Or.inl (K_ne hx hk (by decide))), fun q hq => ⟨?_, vq_up e (Or.inr (by decide))⟩⟩
    show vq V1 (vq V1 x 3) q = _
    rw [vq_up e (Or.inl (K_ne hx hk (by decide)))]
    exact vq_up e (Or.inl (K_ne ha hk (by decide)))
  · have hp : ((p.toNat : Nat) : Int) < vi V x 4 := by unfold AOK at hok; omega
    obtain ⟨ha, -, -, hk⟩ := pty_at hW hx hN hp
    refine ⟨vi_up e (Or.inl (K_ne hx hk (by decide))), fun q hq => ⟨?_, ?_⟩⟩
    · show vq V1 (vq V1 x 3) q = _
      rw [vq_up e (Or.inl (K_ne hx hk (by decide)))]
      exact vq_up e (Or.inl (K_ne ha hk (by decide)))
    · obtain ⟨-, -, hk2, -⟩ := pty_at hW hx hN hq
      exact vq_up e (Or.inl (K_ne hk2 hk (by decide)))
theorem PI.asks {p w o X : Int} (h : PI V x) (hc : ASC V V1 x p w o X) (hW : WT K V) (hx : K x = some (0, 10)) (hN : PN V x) : PI V1 x := fun i j hij hj => by
  obtain ⟨h4, hs⟩ := hc.pty hW hx hN
  rw [h4] at hj
  rw [(hs i (by omega)).1, (hs j hj).1, (hs i (by omega)).2, (hs j hj).2]
  exact h i j hij hj
theorem PI.frx {ws : Nat} (h : PI V x) (hF : FR ws K V K1 V1) (hE : ext K K1) (hW : WT K V) (hx : K x = some (0, 10)) (hN : PN V x) (hb : pabits ws = true) : PI V1 x :=
  have hs := PSame.frx hF hE hW hx hN hb
  h.same hs.1 hs.2
/-- a row of noughts -/
def ZB (V : Vmap) (x k n : Nat) : Prop := ∀ j, j < n → vi V (vq V x k) j = 0
theorem ZB.put {k n a t N j : Nat} {v : Value} (tk : Nat) {lo hi : Int} (h : ZB V x k n) (hW : WT K V) (hx : K x = some (0, 11)) (hk : Nat.ble (k + 1) (szK (0, 11)) = true) (hf : fT (0, 11) k = (1, tk + 1, 0, lo, hi)) (e : V1 = upd2 V a j v) (ha : K a = some (t + 1, N)) (ht : t + 1 ≠ tk + 1) : ZB V1 x k n := fun i hi => by
  obtain ⟨m, hm⟩ := (hW.ref hx (Nat.le_of_ble_eq_true hk) hf).2
  rw [vq_up e (Or.inl (K_ne hx ha (fun q => by cases q))), vi_up e (Or.inl (K_ne hm ha (fun q => ht (congrArg Prod.fst q).symm)))]
  exact h i hi
theorem ZB.mk {k n o : Nat} (hx : V x k = .ref o) (h0 : ∀ j, V o j = .int 0) : ZB V x k n := fun j _ => by
  rw [vq_of hx, vi_of (h0 j)]; rfl
end C13
