/-! ### today: the class's (the first row of its land) and the reference's -/
/-- the class's today -/
def tdy (V : Vmap) (x : Nat) : Int := vi V (vq V x 0) 0
theorem tdy_fr {ws : Nat} {K K1 : Kmap} {V V1 : Vmap} {x : Nat} (hF : FR ws K V K1 V1) (hE : ext K K1) (hW : WT K V) (hx : K x = some (0, 10)) (hb : ws.testBit (keyK (0, 10) 0) = false) (hb2 : ws.testBit (keyK (0, 0) 0) = false) : tdy V1 x = tdy V x := by
  have hy : K (vq V x 0) = some (0, 0) := (hW.ref hx (j := 0) (Nat.le_of_ble_eq_true rfl) rfl).2
  have hq : vq V1 x 0 = vq V x 0 := by unfold vq; rw [hF x _ 0 hx (hE.obj (by decide) hx) hb]
  unfold tdy
  rw [hq]
  exact vi_fr hF hy (hE.obj (by decide) hy) hb2
/-- in day(), once the day has risen -/
def DYI (V V1 : Vmap) (x : Nat) : Prop := vq V1 x 0 = vq V x 0 ∧ tdy V1 x = tdy V x + 1
theorem dyi_put {K : Kmap} {V V1 : Vmap} {x : Nat} (hx : K x = some (0, 10)) (hT : K (vq V x 0) = some (0, 0)) (h : vi V (vq V x 0) 0 < 3599) (e : V1 = upd2 V (vq V x 0) 0 (ti (vi V (vq V x 0) 0 + 1))) : DYI V V1 x := by
  have hne : x ≠ vq V x 0 := K_ne hx hT (by decide)
  have hq : vq V1 x 0 = vq V x 0 := vq_up e (Or.inl hne)
  have hr : ir (vi V (vq V x 0) 0) := vi_ir
  refine ⟨hq, ?_⟩
  unfold tdy
  rw [hq, upd2_int e ⟨by have := hr.1; omega, by omega⟩]
theorem dyi_fr {ws : Nat} {K : Kmap} {V W W1 : Vmap} {x : Nat} (hF : FR ws K W K W1) (hd : DYI V W x) (hx : K x = some (0, 10)) (hT : K (vq V x 0) = some (0, 0)) (hb : ws.testBit (keyK (0, 10) 0) = false) (hb2 : ws.testBit (keyK (0, 0) 0) = false) : DYI V W1 x := by
  obtain ⟨h1, h2⟩ := hd
  have hq : vq W1 x 0 = vq W x 0 := by unfold vq; rw [hF x _ 0 hx hx hb]
  refine ⟨hq.trans h1, ?_⟩
  rw [← h2]
  unfold tdy
  rw [hq]
  rw [h1]
  exact vi_fr hF hT hT hb2
/-- what day() answers, and the day behind it -/
def DYC (V V1 : Vmap) (x : Nat) (X : Int) : Prop := X = -1 ∧ 3599 ≤ tdy V x ∧ tdy V1 x = tdy V x ∨ X = tdy V x + 1 ∧ tdy V x < 3599 ∧ tdy V1 x = tdy V x + 1
theorem dyc_0 {V : Vmap} {x : Nat} (h : 3599 ≤ vi V (vq V x 0) 0) : DYC V V x (-1) := Or.inl ⟨rfl, h, rfl⟩
theorem dyc_1 {V V1 : Vmap} {x : Nat} (hd : DYI V V1 x) (h : vi V (vq V x 0) 0 < 3599) : DYC V V1 x (vi V1 (vq V1 x 0) 0) := Or.inr ⟨hd.2, h, hd.2⟩
theorem tdy_at {V V0 : Vmap} {x o : Nat} (h : V x 0 = .ref o) (hc : V o 0 = V0 o 0) (h0 : vi V0 o 0 = 0) : tdy V x = 0 := by
  have hq : vq V x 0 = o := by unfold vq; rw [h]
  have hv : vi V o 0 = vi V0 o 0 := by unfold vi; rw [hc]
  unfold tdy
  rw [hq, hv, h0]
theorem tdy_nw {K : Kmap} {V V1 : Vmap} {x q : Nat} (hW : WT K V) (hx : K x = some (0, 10)) (hq : K q = none) (hV : ∀ b, b ≠ q → V1 b = V b) : tdy V1 x = tdy V x := by
  have hy : K (vq V x 0) = some (0, 0) := (hW.ref hx (j := 0) (Nat.le_of_ble_eq_true rfl) rfl).2
  have h1 : vq V1 x 0 = vq V x 0 := by unfold vq; rw [hV x (K_old hx hq)]
  unfold tdy
  rw [h1]
  exact vi_nw hV (K_old hy hq)
/-! ### the number of words: the class's (the size of its table) -/
def wsz (V : Vmap) (x : Nat) : Int := vi V (vq V x 16) 3
theorem wsz_fr {ws : Nat} {K K1 : Kmap} {V V1 : Vmap} {x : Nat} (hF : FR ws K V K1 V1) (hE : ext K K1) (hW : WT K V) (hx : K x = some (0, 10)) (hb : ws.testBit (keyK (0, 10) 16) = false) (hb2 : ws.testBit (keyK (0, 25) 3) = false) : wsz V1 x = wsz V x := by
  have hy : K (vq V x 16) = some (0, 25) := (hW.ref hx (j := 16) (Nat.le_of_ble_eq_true rfl) rfl).2
  have hq : vq V1 x 16 = vq V x 16 := by unfold vq; rw [hF x _ 16 hx (hE.obj (by decide) hx) hb]
  unfold wsz
  rw [hq]
  exact vi_fr hF hy (hE.obj (by decide) hy) hb2
theorem wsz_at {V V0 : Vmap} {x o : Nat} (h : V x 16 = .ref o) (hc : V o 3 = V0 o 3) (h0 : vi V0 o 3 = 0) : wsz V x = 0 := by
  have hq : vq V x 16 = o := by unfold vq; rw [h]
  have hv : vi V o 3 = vi V0 o 3 := by unfold vi; rw [hc]
  unfold wsz
  rw [hq, hv, h0]
theorem wsz_nw {K : Kmap} {V V1 : Vmap} {x q : Nat} (hW : WT K V) (hx : K x = some (0, 10)) (hq : K q = none) (hV : ∀ b, b ≠ q → V1 b = V b) : wsz V1 x = wsz V x := by
  have hy : K (vq V x 16) = some (0, 25) := (hW.ref hx (j := 16) (Nat.le_of_ble_eq_true rfl) rfl).2
  have h1 : vq V1 x 16 = vq V x 16 := by unfold vq; rw [hV x (K_old hx hq)]
  unfold wsz
  rw [h1]
  exact vi_nw hV (K_old hy hq)
/-- what word() answers, and the words behind it -/
def WDC (V V1 : Vmap) (x : Nat) (p X : Int) : Prop := (X = -1 ∧ wsz V1 x = wsz V x ∧ (p < 0 ∨ 1000 < p ∨ 7 ≤ wsz V x)) ∨ (X = wsz V x ∧ wsz V1 x = wsz V x + 1 ∧ wsz V x < 7 ∧ 0 ≤ p ∧ p ≤ 1000)
theorem wdc_0 {V : Vmap} {x : Nat} {p : Int} (h : p < 0 ∨ 1000 < p) : WDC V V x p (-1) := Or.inl ⟨rfl, rfl, by omega⟩
theorem wdc_1 {ws : Nat} {K : Kmap} {V V1 : Vmap} {x : Nat} {p X : Int} (hF : FR ws K V K V1) (hx : K x = some (0, 10)) (hb : ws.testBit (keyK (0, 10) 16) = false) (h0 : 0 ≤ p) (h1 : p ≤ 1000) (h : (X = -1 ∧ vi V1 (vq V x 16) 3 = vi V (vq V x 16) 3 ∧ vi V (vq V x 16) 3 ≥ 7) ∨ (X = vi V (vq V x 16) 3 ∧ vi V1 (vq V x 16) 3 = vi V (vq V x 16) 3 + 1 ∧ vi V (vq V x 16) 3 < 7)) : WDC V V1 x p X := by
  have hq : vq V1 x 16 = vq V x 16 := by unfold vq; rw [hF x _ 16 hx hx hb]
  unfold WDC wsz
  rw [hq]
  omega
/-! ### the number of catches: the class's (the size of its table) -/
def csz (V : Vmap) (x : Nat) : Int := vi V (vq V x 14) 3
theorem csz_fr {ws : Nat} {K K1 : Kmap} {V V1 : Vmap} {x : Nat} (hF : FR ws K V K1 V1) (hE : ext K K1) (hW : WT K V) (hx : K x = some (0, 10)) (hb : ws.testBit (keyK (0, 10) 14) = false) (hb2 : ws.testBit (keyK (0, 26) 3) = false) : csz V1 x = csz V x := by
  have hy : K (vq V x 14) = some (0, 26) := (hW.ref hx (j := 14) (Nat.le_of_ble_eq_true rfl) rfl).2
  have hq : vq V1 x 14 = vq V x 14 := by unfold vq; rw [hF x _ 14 hx (hE.obj (by decide) hx) hb]
  unfold csz
  rw [hq]
  exact vi_fr hF hy (hE.obj (by decide) hy) hb2
theorem csz_at {V V0 : Vmap} {x o : Nat} (h : V x 14 = .ref o) (hc : V o 3 = V0 o 3) (h0 : vi V0 o 3 = 0) : csz V x = 0 := by
  have hq : vq V x 14 = o := by unfold vq; rw [h]
  have hv : vi V o 3 = vi V0 o 3 := by unfold vi; rw [hc]
  unfold csz
  rw [hq, hv, h0]
theorem csz_nw {K : Kmap} {V V1 : Vmap} {x q : Nat} (hW : WT K V) (hx : K x = some (0, 10)) (hq : K q = none) (hV : ∀ b, b ≠ q → V1 b = V b) : csz V1 x = csz V x := by
  have hy : K (vq V x 14) = some (0, 26) := (hW.ref hx (j := 14) (Nat.le_of_ble_eq_true rfl) rfl).2
  have h1 : vq V1 x 14 = vq V x 14 := by unfold vq; rw [hV x (K_old hx hq)]
  unfold csz
  rw [h1]
  exact vi_nw hV (K_old hy hq)
/-- what caught() answers, and the catches behind it -/
def CTC (V V1 : Vmap) (x : Nat) (p k s n d X : Int) : Prop := (X = -1 ∧ csz V1 x = csz V x ∧ (p < 0 ∨ vi V x 10 ≤ p ∨ k < 0 ∨ 3 < k ∨ s < 0 ∨ 3 < s ∨ n < 1 ∨ 1000000 < n ∨ d < 0 ∨ tdy V x < d ∨ 200 ≤ csz V x)) ∨ (X = csz V x ∧ csz V1 x = csz V x + 1 ∧ csz V x < 200 ∧ (0 ≤ p ∧ p < vi V x 10 ∧ 0 ≤ k ∧ k ≤ 3 ∧ 0 ≤ s ∧ s ≤ 3 ∧ 1 ≤ n ∧ n ≤ 1000000 ∧ 0 ≤ d ∧ d ≤ tdy V x))
theorem ctc_0 {V : Vmap} {x : Nat} {p k s n d : Int} (h : p < 0 ∨ vi V x 10 ≤ p ∨ k < 0 ∨ 3 < k ∨ s < 0 ∨ 3 < s ∨ n < 1 ∨ 1000000 < n ∨ d < 0 ∨ vi V (vq V x 0) 0 < d) : CTC V V x p k s n d (-1) := Or.inl ⟨rfl, rfl, by unfold tdy; omega⟩
theorem ctc_1 {ws : Nat} {K : Kmap} {V V1 : Vmap} {x : Nat} {p k s n d X : Int} (hF : FR ws K V K V1) (hx : K x = some (0, 10)) (hb : ws.testBit (keyK (0, 10) 14) = false) (h0 : 0 ≤ p ∧ p < vi V x 10 ∧ 0 ≤ k ∧ k ≤ 3 ∧ 0 ≤ s ∧ s ≤ 3 ∧ 1 ≤ n ∧ n ≤ 1000000 ∧ 0 ≤ d ∧ d ≤ vi V (vq V x 0) 0) (h : (X = -1 ∧ vi V1 (vq V x 14) 3 = vi V (vq V x 14) 3 ∧ vi V (vq V x 14) 3 ≥ 200) ∨ (X = vi V (vq V x 14) 3 ∧ vi V1 (vq V x 14) 3 = vi V (vq V x 14) 3 + 1 ∧ vi V (vq V x 14) 3 < 200)) : CTC V V1 x p k s n d X := by
  have hq : vq V1 x 14 = vq V x 14 := by unfold vq; rw [hF x _ 14 hx hx hb]
  unfold CTC csz tdy
  rw [hq]
  rcases h with h | h
  · exact Or.inl ⟨h.1, h.2.1, by omega⟩
  · exact Or.inr ⟨h.1, h.2.1, h.2.2, h0⟩
/-! ### what is there in a row of objects, below its count (field cf; the row: field af) -/
def NN (cf af : Nat) (V : Vmap) (x : Nat) : Prop := ∀ j : Nat, (j : Int) < vi V x cf → V (vq V x af) j ≠ .null
abbrev PN (V : Vmap) (x : Nat) : Prop := NN 4 3 V x
abbrev SN (V : Vmap) (x : Nat) : Prop := NN 10 9 V x
theorem NN.nil {cf af : Nat} {V : Vmap} {x : Nat} (h : vi V x cf = 0) : NN cf af V x := fun j hj => by rw [h] at hj; omega
def nnbits (cf af t ws : Nat) : Bool := [keyK (0, 10) cf, keyK (0, 10) af, abase + (t + 1)].all fun b => !ws.testBit b
theorem NN.frx (cf af t : Nat) {K K1 : Kmap} {V V1 : Vmap} {x ws : Nat} {lo hi : Int} (haf : Nat.ble (af + 1) (szK (0, 10)) = true) (hft : fT (0, 10) af = (1, t + 1, 0, lo, hi)) (hF : FR ws K V K1 V1) (hE : ext K K1) (h : NN cf af V x) (hW : WT K V) (hx : K x = some (0, 10)) (hb : nnbits cf af t ws = true) : NN cf af V1 x := by
  simp only [nnbits, List.all_cons, List.all_nil, Bool.and_true, Bool.and_eq_true, Bool.not_eq_true'] at hb
  obtain ⟨b1, b2, b3⟩ := hb
  have hx1 := hE.obj (by decide) hx
  obtain ⟨n, hn⟩ := (hW.ref hx (Nat.le_of_ble_eq_true haf) hft).2
  have hq : vq V1 x af = vq V x af := by unfold vq; rw [hF x _ af hx hx1 b2]
  intro j hj
  rw [vi_fr hF hx hx1 b1] at hj
  rw [hq, hF _ _ j hn (hE.arr hn) b3]
  exact h j hj
/-- one more of them -/
theorem NN.push {cf af t : Nat} {K Ki Ki1 : Kmap} {V Vn Vi Va V1 : Vmap} {x q ws c n : Nat} {Y : Int} (hne2 : af ≠ cf) (h : NN cf af V x) (hx : K x = some (0, 10)) (hq : K q = none) (hV : ∀ b, b ≠ q → Vn b = V b) (hF : FR ws Ki Vn Ki1 Vi) (hxi : Ki x = some (0, 10)) (hxi1 : Ki1 x = some (0, 10)) (hn : K (vq V x af) = some (t + 1, n)) (hi : Ki (vq V x af) = some (t + 1, n)) (hi1 : Ki1 (vq V x af) = some (t + 1, n)) (hb : nnbits cf af t ws = true) (e3 : Va = upd2 Vi (vq V x af) c (.ref q)) (e4 : V1 = upd2 Va x cf (ti Y)) (hc : (c : Int) = vi V x cf) (hY : Y = vi V x cf + 1) (rY : ir Y) : NN cf af V1 x := by
  simp only [nnbits, List.all_cons, List.all_nil, Bool.and_true, Bool.and_eq_true, Bool.not_eq_true'] at hb
  obtain ⟨b1, b2, b3⟩ := hb
  have hne : x ≠ vq V x af := K_ne hx hn (fun e => absurd (congrArg Prod.fst e) (fun e1 => by cases e1))
  have hxq := K_old hx hq
  have haq := K_old hn hq
  have h3 : vq V1 x af = vq V x af := by
    unfold vq
    rw [uq_ne e4 (Or.inr hne2), uq_ne e3 (Or.inl hne), hF x _ af hxi hxi1 b2, hV x hxq]
  have h4 : vi V1 x cf = Y := upd2_int e4 rY
  intro j hj
  rw [h4, hY] at hj
  rw [h3, uq_ne e4 (Or.inl (Ne.symm hne))]
  by_cases hjc : j = c
  · subst hjc
    rw [uq_same e3]; exact fun h => by cases h
  · rw [uq_ne e3 (Or.inr hjc), hF _ _ j hi hi1 b3, hV _ haq]
    exact h j (by omega)
