/-! the forms of a contract's end: the memory as it was (P), its kinds as they were (S), more (X) -/
def IP (K : Kmap) (V : Vmap) (post : Int → Prop) : Option Value → Kmap → Vmap → Prop := fun r K1 V1 => K = K1 ∧ V = V1 ∧ ∃ X, r = some (ti X) ∧ ir X ∧ post X
def IS (K : Kmap) (post : Int → Vmap → Prop) : Option Value → Kmap → Vmap → Prop := fun r K1 V1 => K = K1 ∧ ∃ X, r = some (ti X) ∧ ir X ∧ post X V1
def IX (post : Int → Kmap → Vmap → Prop) : Option Value → Kmap → Vmap → Prop := fun r K1 V1 => ∃ X, r = some (ti X) ∧ ir X ∧ post X K1 V1
def VS (K : Kmap) (post : Vmap → Prop) : Option Value → Kmap → Vmap → Prop := fun r K1 V1 => K = K1 ∧ r = none ∧ post V1
def VX (post : Kmap → Vmap → Prop) : Option Value → Kmap → Vmap → Prop := fun r K1 V1 => r = none ∧ post K1 V1
def JP (K : Kmap) (V : Vmap) : Option Value → Kmap → Vmap → Prop := fun r K1 V1 => K = K1 ∧ V = V1 ∧ ∃ X, r = some (.long X)
/-- null, or an object of class c -/
def RP (K : Kmap) (V : Vmap) (c : Nat) (pn : Prop) (post : Nat → Prop) : Option Value → Kmap → Vmap → Prop := fun r K1 V1 => K = K1 ∧ V = V1 ∧ ((r = some .null ∧ pn) ∨ ∃ q, r = some (.ref q) ∧ K q = some (0, c) ∧ post q)
section KK
variable {M : MRec} {K0 : Kmap} {V0 : Vmap} {Φ : Option Value → Kmap → Vmap → Prop} {K : Kmap} {V : Vmap} {cells slots pc ws : Nat} {ls : List (Option Value)} {st : List Value}
theorem k_ip {post : Int → Prop} (kk : ∀ X, ir X → post X → GO M K0 V0 Φ K V cells slots pc ls (ti X :: st)) : ∀ (r : Option Value) (K1 : Kmap) (V1 : Vmap), IP K V post r K1 V1 → ext K K1 → FR ws K V K1 V1 → GO M K0 V0 Φ K1 V1 cells slots pc ls (pushR r st) := by
  rintro r K1 V1 ⟨rfl, rfl, X, rfl, h1, h2⟩ - -
  exact kk X h1 h2
theorem k_is {post : Int → Vmap → Prop} (kk : ∀ X V1, ir X → post X V1 → FR ws K V K V1 → GO M K0 V0 Φ K V1 cells slots pc ls (ti X :: st)) : ∀ (r : Option Value) (K1 : Kmap) (V1 : Vmap), IS K post r K1 V1 → ext K K1 → FR ws K V K1 V1 → GO M K0 V0 Φ K1 V1 cells slots pc ls (pushR r st) := by
  rintro r K1 V1 ⟨rfl, X, rfl, h1, h2⟩ - h3
  exact kk X V1 h1 h2 h3
theorem k_ix {post : Int → Kmap → Vmap → Prop} (kk : ∀ X K1 V1, ir X → post X K1 V1 → ext K K1 → FR ws K V K1 V1 → GO M K0 V0 Φ K1 V1 cells slots pc ls (ti X :: st)) : ∀ (r : Option Value) (K1 : Kmap) (V1 : Vmap), IX post r K1 V1 → ext K K1 → FR ws K V K1 V1 → GO M K0 V0 Φ K1 V1 cells slots pc ls (pushR r st) := by
  rintro r K1 V1 ⟨X, rfl, h1, h2⟩ h4 h3
  exact kk X K1 V1 h1 h2 h4 h3
theorem k_vs {post : Vmap → Prop} (kk : ∀ V1, post V1 → FR ws K V K V1 → GO M K0 V0 Φ K V1 cells slots pc ls st) : ∀ (r : Option Value) (K1 : Kmap) (V1 : Vmap), VS K post r K1 V1 → ext K K1 → FR ws K V K1 V1 → GO M K0 V0 Φ K1 V1 cells slots pc ls (pushR r st) := by
  rintro r K1 V1 ⟨rfl, rfl, h2⟩ - h3
  exact kk V1 h2 h3
theorem k_vx {post : Kmap → Vmap → Prop} (kk : ∀ K1 V1, post K1 V1 → ext K K1 → FR ws K V K1 V1 → GO M K0 V0 Φ K1 V1 cells slots pc ls st) : ∀ (r : Option Value) (K1 : Kmap) (V1 : Vmap), VX post r K1 V1 → ext K K1 → FR ws K V K1 V1 → GO M K0 V0 Φ K1 V1 cells slots pc ls (pushR r st) := by
  rintro r K1 V1 ⟨rfl, h2⟩ h4 h3
  exact kk K1 V1 h2 h4 h3
theorem k_lp (kk : ∀ X, GO M K0 V0 Φ K V cells slots pc ls (.long X :: st)) : ∀ (r : Option Value) (K1 : Kmap) (V1 : Vmap), JP K V r K1 V1 → ext K K1 → FR ws K V K1 V1 → GO M K0 V0 Φ K1 V1 cells slots pc ls (pushR r st) := by
  rintro r K1 V1 ⟨rfl, rfl, X, rfl⟩ - -
  exact kk X
theorem k_rp {c : Nat} {pn : Prop} {post : Nat → Prop} (kn : pn → GO M K0 V0 Φ K V cells slots pc ls (.null :: st)) (kk : ∀ q, K q = some (0, c) → post q → GO M K0 V0 Φ K V cells slots pc ls (.ref q :: st)) : ∀ (r : Option Value) (K1 : Kmap) (V1 : Vmap), RP K V c pn post r K1 V1 → ext K K1 → FR ws K V K1 V1 → GO M K0 V0 Φ K1 V1 cells slots pc ls (pushR r st) := by
  rintro r K1 V1 ⟨rfl, rfl, h⟩ - -
  rcases h with ⟨rfl, h⟩ | ⟨q, rfl, h1, h2⟩
  · exact kn h
  · exact kk q h1 h2
theorem GO.iincN {i : Nat} {n X : Int} (d : Dc M pc (.iinc i n) 3) (hl : ls[i]? = some (some (ti X))) (hn : Nat.ble (i + 1) (m_nL M) = true) (kk : ∀ Z, ir Z → GO M K0 V0 Φ K V cells slots (pc + 3) (setL ls i (some (ti Z))) st) : GO M K0 V0 Φ K V cells slots pc ls st := by
  refine GO.iinc (Y := X + n) d hl hn rfl rfl ?_
  have h := kk (Int32.ofInt (X + n)).toInt (th_rng _)
  have e : ti (Int32.ofInt (X + n)).toInt = ti (X + n) := by rw [← ti_of]; rfl
  rwa [e] at h
/-- a number that is too large for the machine, by what the machine has -/
theorem GO.norm {X : Int} (kk : ∀ Z, ir Z → (ir X → Z = X) → GO M K0 V0 Φ K V cells slots pc ls (ti Z :: st)) : GO M K0 V0 Φ K V cells slots pc ls (ti X :: st) := by
  have h := kk (Int32.ofInt X).toInt (th_rng _) (fun h => ti_int h)
  have e : ti (Int32.ofInt X).toInt = ti X := by rw [← ti_of]; rfl
  rwa [e] at h
/-- a shorter name for the number on top -/
theorem GO.name {X : Int} (kk : ∀ Z, Z = X → GO M K0 V0 Φ K V cells slots pc ls (ti Z :: st)) : GO M K0 V0 Φ K V cells slots pc ls (ti X :: st) := kk X rfl
/-- any number on top -/
theorem GO.any {X : Int} (hX : ir X) (kk : ∀ Z, ir Z → GO M K0 V0 Φ K V cells slots pc ls (ti Z :: st)) : GO M K0 V0 Φ K V cells slots pc ls (ti X :: st) := kk X hX
theorem GO.anyL {X : Int64} (kk : ∀ Z, GO M K0 V0 Φ K V cells slots pc ls (.long Z :: st)) : GO M K0 V0 Φ K V cells slots pc ls (.long X :: st) := kk X
end KK
theorem mul_rng {a b A B : Int} (h1 : 0 ≤ a) (h2 : a ≤ A) (h3 : 0 ≤ b) (h4 : b ≤ B) : 0 ≤ a * b ∧ a * b ≤ A * B := ⟨Int.mul_nonneg h1 h3, Int.le_trans (Int.mul_le_mul_of_nonneg_right h2 h3) (Int.mul_le_mul_of_nonneg_left h4 (Int.le_trans h1 h2))⟩
theorem mul_low {a b m n : Int} (h1 : m ≤ a) (h2 : n ≤ b) (h3 : 0 ≤ m) (h4 : 0 ≤ n) : m * n ≤ a * b := Int.le_trans (Int.mul_le_mul_of_nonneg_right h1 h4) (Int.mul_le_mul_of_nonneg_left h2 (Int.le_trans h3 h1))
theorem div_rng {a b : Int} (h1 : 0 ≤ a) (h2 : 0 < b) : 0 ≤ a / b ∧ a / b ≤ a := ⟨Int.ediv_nonneg h1 (Int.le_of_lt h2), Int.ediv_le_self _ h1⟩
theorem rem_rng {a b : Int} (h2 : 0 < b) : 0 ≤ a % b ∧ a % b < b := ⟨Int.emod_nonneg _ (by omega), Int.emod_lt_of_pos _ h2⟩
/-- what a call leaves of a place -/
theorem vi_fr {ws : Nat} {K K1 : Kmap} {V V1 : Vmap} (h : FR ws K V K1 V1) {a k : Nat} {kd : Nat × Nat} (ha : K a = some kd) (ha1 : K1 a = some kd) (hb : ws.testBit (keyK kd k) = false) : vi V1 a k = vi V a k := by
  unfold vi; rw [h a kd k ha ha1 hb]
theorem vi_frA {ws : Nat} {K K1 : Kmap} {V V1 : Vmap} (h : FR ws K V K1 V1) {a k t n : Nat} (ha : K a = some (t + 1, n)) (ha1 : K1 a = some (t + 1, n)) (hb : ws.testBit (abase + (t + 1)) = false) : vi V1 a k = vi V a k := vi_fr h ha ha1 hb
theorem vi_nw {V V1 : Vmap} {q x k : Nat} (h : ∀ b, b ≠ q → V1 b = V b) (hx : x ≠ q) : vi V1 x k = vi V x k := by
  unfold vi; rw [h x hx]
theorem vi_up {V V1 : Vmap} {a k b j : Nat} {v : Value} (e : V1 = upd2 V a k v) (h : b ≠ a ∨ j ≠ k) : vi V1 b j = vi V b j := by
  unfold vi; rw [uq_ne e h]
theorem ir_c {n : Int} (h : decide (-2147483648 ≤ n ∧ n ≤ 2147483647) = true) : ir n := (of_decide_eq_true h : -2147483648 ≤ n ∧ n ≤ 2147483647)
theorem ls_args : ∀ (av : List Value) (n i : Nat), av.all (fun v => v.category == 1) = true → ∀ (j : Nat) (w : Value), (av.map some ++ List.replicate n none)[j]? = some (some w) → (i + j, w) ∈ lv_args i av := by
  intro av
  induction av with
  | nil =>
    intro n i _ j w h
    simp at h
    rw [List.getElem?_replicate] at h
    split at h <;> cases h
  | cons v t ih =>
    intro n i hc j w h
    simp only [List.all_cons, Bool.and_eq_true, beq_iff_eq] at hc
    cases j with
    | zero =>
      simp at h
      subst h
      simp [lv_args]
    | succ j =>
      have h1 := ih n (i + 1) hc.2 j w (by simpa using h)
      simp only [lv_args, hc.1]
      have e : i + (j + 1) = i + 1 + j := by omega
      rw [e]
      exact List.mem_cons_of_mem _ h1
theorem MC.start {M : MRec} {K : Kmap} {V : Vmap} {Φ : Option Value → Kmap → Vmap → Prop} {av : List Value} {ls0 : List (Option Value)} (n : Nat) (hy : plainFor (m_y M) = true) (ho : (m_y M).cls = m_own M) (hc : av.all (fun v => v.category == 1) = true) (hlen : Nat.ble (lg_sl av).length (m_nL M) = true) (hls : av.map some ++ List.replicate n none = ls0) (body : GO M K V Φ K V 0 0 0 ls0 []) : MC M K V av Φ :=
  MC.of hy ho hlen (fun j w h => by have := ls_args av n 0 hc j w (hls ▸ h); simpa using this) body
section LO
variable {M : MRec} {K0 : Kmap} {V0 : Vmap} {Φ : Option Value → Kmap → Vmap → Prop} {K : Kmap} {V : Vmap} {cells slots pc : Nat} {ls : List (Option Value)} {st : List Value}
/-- some locals aren't asked for any more -/
def dropL (ms : List Bool) (ls : List (Option Value)) : List (Option Value) := match ms, ls with
  | b :: ms, w :: ls => (if b then w else none) :: dropL ms ls
  | _, _ => []
theorem dropL_get : ∀ (ms : List Bool) (ls : List (Option Value)) (j : Nat) (w : Value), (dropL ms ls)[j]? = some (some w) → ls[j]? = some (some w) := by
  intro ms
  induction ms with
  | nil => intro ls j w h; simp [dropL] at h
  | cons b ms ih =>
    intro ls j w h
    cases ls with
    | nil => simp [dropL] at h
    | cons u ls =>
      cases j with
      | zero =>
        simp only [dropL, List.getElem?_cons_zero, Option.some.injEq] at h
        split at h
        · simp [h]
        · cases h
      | succ j =>
        simp only [dropL, List.getElem?_cons_succ] at h
        simpa using ih ls j w h
theorem GO.drop {ls1 : List (Option Value)} (ms : List Bool) (h : dropL ms ls = ls1) (kk : GO M K0 V0 Φ K V cells slots pc ls1 st) : GO M K0 V0 Φ K V cells slots pc ls st := fun p l e s m args below meth c D dA H locs lsA C hn S hW hF hS hL => kk p l e s m args below meth c D dA H locs lsA C hn S hW hF hS ⟨hL.1, hL.2.1, fun q hq => hL.2.2 q (enumL_mem.mpr (dropL_get ms ls q.1 q.2 (h ▸ enumL_mem.mp hq)))⟩
theorem GO.loop0 (P : Vmap → Prop) (μ : Vmap → Nat) (h0 : P V) (step : ∀ (V : Vmap), P V → (∀ (V' : Vmap), P V' → μ V' < μ V → GO M K0 V0 Φ K V' cells slots pc ls st) → GO M K0 V0 Φ K V cells slots pc ls st) : GO M K0 V0 Φ K V cells slots pc ls st :=
  GO.loop (α := Unit) (fun _ => P) (fun _ => ls) (fun _ => μ) () h0 rfl (fun _ V h ih => step V h (fun V' h' hl => ih () V' h' hl))
theorem GO.loop1 (P : Int → Vmap → Prop) (lf : Int → List (Option Value)) (μ : Int → Vmap → Nat) (i0 : Int) (h0 : P i0 V) (hls : lf i0 = ls) (step : ∀ (i : Int) (V : Vmap), P i V → (∀ (i' : Int) (V' : Vmap), P i' V' → μ i' V' < μ i V → GO M K0 V0 Φ K V' cells slots pc (lf i') st) → GO M K0 V0 Φ K V cells slots pc (lf i) st) : GO M K0 V0 Φ K V cells slots pc ls st := GO.loop P lf μ i0 h0 hls step
theorem GO.loop2 (P : Int → Int → Vmap → Prop) (lf : Int → Int → List (Option Value)) (μ : Int → Int → Vmap → Nat) (i0 j0 : Int) (h0 : P i0 j0 V) (hls : lf i0 j0 = ls) (step : ∀ (i j : Int) (V : Vmap), P i j V → (∀ (i' j' : Int) (V' : Vmap), P i' j' V' → μ i' j' V' < μ i j V → GO M K0 V0 Φ K V' cells slots pc (lf i' j') st) → GO M K0 V0 Φ K V cells slots pc (lf i j) st) : GO M K0 V0 Φ K V cells slots pc ls st :=
  GO.loop (α := Int × Int) (fun a => P a.1 a.2) (fun a => lf a.1 a.2) (fun a => μ a.1 a.2) (i0, j0) h0 hls (fun a V h ih => step a.1 a.2 V h (fun i' j' V' h' hl => ih (i', j') V' h' hl))
theorem GO.loop3 (P : Int → Int → Int → Vmap → Prop) (lf : Int → Int → Int → List (Option Value)) (μ : Int → Int → Int → Vmap → Nat) (i0 j0 k0 : Int) (h0 : P i0 j0 k0 V) (hls : lf i0 j0 k0 = ls) (step : ∀ (i j k : Int) (V : Vmap), P i j k V → (∀ (i' j' k' : Int) (V' : Vmap), P i' j' k' V' → μ i' j' k' V' < μ i j k V → GO M K0 V0 Φ K V' cells slots pc (lf i' j' k') st) → GO M K0 V0 Φ K V cells slots pc (lf i j k) st) : GO M K0 V0 Φ K V cells slots pc ls st :=
  GO.loop (α := Int × Int × Int) (fun a => P a.1 a.2.1 a.2.2) (fun a => lf a.1 a.2.1 a.2.2) (fun a => μ a.1 a.2.1 a.2.2) (i0, j0, k0) h0 hls (fun a V h ih => step a.1 a.2.1 a.2.2 V h (fun i' j' k' V' h' hl => ih (i', j', k') V' h' hl))
theorem GO.loop4 (P : Int → Int → Int → Int → Vmap → Prop) (lf : Int → Int → Int → Int → List (Option Value)) (μ : Int → Int → Int → Int → Vmap → Nat) (i0 j0 k0 m0 : Int) (h0 : P i0 j0 k0 m0 V) (hls : lf i0 j0 k0 m0 = ls) (step : ∀ (i j k m : Int) (V : Vmap), P i j k m V → (∀ (i' j' k' m' : Int) (V' : Vmap), P i' j' k' m' V' → μ i' j' k' m' V' < μ i j k m V → GO M K0 V0 Φ K V' cells slots pc (lf i' j' k' m') st) → GO M K0 V0 Φ K V cells slots pc (lf i j k m) st) : GO M K0 V0 Φ K V cells slots pc ls st :=
  GO.loop (α := Int × Int × Int × Int) (fun a => P a.1 a.2.1 a.2.2.1 a.2.2.2) (fun a => lf a.1 a.2.1 a.2.2.1 a.2.2.2) (fun a => μ a.1 a.2.1 a.2.2.1 a.2.2.2) (i0, j0, k0, m0) h0 hls (fun a V h ih => step a.1 a.2.1 a.2.2.1 a.2.2.2 V h (fun i' j' k' m' V' h' hl => ih (i', j', k', m') V' h' hl))
theorem GO.loop5 (P : Int → Int → Int → Int → Int → Vmap → Prop) (lf : Int → Int → Int → Int → Int → List (Option Value)) (μ : Int → Int → Int → Int → Int → Vmap → Nat) (i0 j0 k0 m0 n0 : Int) (h0 : P i0 j0 k0 m0 n0 V) (hls : lf i0 j0 k0 m0 n0 = ls) (step : ∀ (i j k m n : Int) (V : Vmap), P i j k m n V → (∀ (i' j' k' m' n' : Int) (V' : Vmap), P i' j' k' m' n' V' → μ i' j' k' m' n' V' < μ i j k m n V → GO M K0 V0 Φ K V' cells slots pc (lf i' j' k' m' n') st) → GO M K0 V0 Φ K V cells slots pc (lf i j k m n) st) : GO M K0 V0 Φ K V cells slots pc ls st :=
  GO.loop (α := Int × Int × Int × Int × Int) (fun a => P a.1 a.2.1 a.2.2.1 a.2.2.2.1 a.2.2.2.2) (fun a => lf a.1 a.2.1 a.2.2.1 a.2.2.2.1 a.2.2.2.2) (fun a => μ a.1 a.2.1 a.2.2.1 a.2.2.2.1 a.2.2.2.2) (i0, j0, k0, m0, n0) h0 hls (fun a V h ih => step a.1 a.2.1 a.2.2.1 a.2.2.2.1 a.2.2.2.2 V h (fun i' j' k' m' n' V' h' hl => ih (i', j', k', m', n') V' h' hl))
theorem GO.loop1L (P : Int → Vmap → Prop) (lf : Int → Int64 → List (Option Value)) (μ : Int → Vmap → Nat) (i0 : Int) (s0 : Int64) (h0 : P i0 V) (hls : lf i0 s0 = ls) (step : ∀ (i : Int) (s : Int64) (V : Vmap), P i V → (∀ (i' : Int) (s' : Int64) (V' : Vmap), P i' V' → μ i' V' < μ i V → GO M K0 V0 Φ K V' cells slots pc (lf i' s') st) → GO M K0 V0 Φ K V cells slots pc (lf i s) st) : GO M K0 V0 Φ K V cells slots pc ls st :=
  GO.loop (α := Int × Int64) (fun a => P a.1) (fun a => lf a.1 a.2) (fun a => μ a.1) (i0, s0) h0 hls (fun a V h ih => step a.1 a.2 V h (fun i' s' V' h' hl => ih (i', s') V' h' hl))
/-- an element of some int array -/
def eltC (t : Nat) : Bool := bt t != 0 || match eltab.getD t (3, 0, 0, 0, 0) with
  | (0, 0, 0, _, _) => true
  | _ => false
theorem eltC_all : (List.range NT).all eltC = true := by decide +kernel
theorem elt_int {t : Nat} (h : bt t = 0) (ht : t < NT) : ∃ lo hi, eltab.getD t (3, 0, 0, 0, 0) = (0, 0, 0, lo, hi) := by
  have h1 := List.all_eq_true.mp eltC_all t (List.mem_range.mpr ht)
  unfold eltC at h1
  rw [h] at h1
  generalize eltab.getD t (3, 0, 0, 0, 0) = f at h1 ⊢
  obtain ⟨a, b, c, lo, hi⟩ := f
  match a, b, c, h1 with
  | 0, 0, 0, _ => exact ⟨lo, hi, rfl⟩
theorem GO.ialdG {a t n : Nat} {X : Int} (ht : bt t = 0) (ha : K a = some (t + 1, n)) (hX : ir X) (h0 : 0 ≤ X) (h1 : X < n) (d : Dc M pc .iaload 1) (kk : GO M K0 V0 Φ K V cells slots (pc + 1) ls (ti (vi V a X.toNat) :: st)) : GO M K0 V0 Φ K V cells slots pc ls (ti X :: .ref a :: st) := fun p l e s m args below meth c D dA H locs lsA C hn S hW hF hS hL => by
  obtain ⟨lo, hi, he⟩ := elt_int ht (hW.len ha).1
  exact GO.iald ht he ha hX h0 h1 d (fun _ _ => kk) p l e s m args below meth c D dA H locs lsA C hn S hW hF hS hL
theorem GO.lookupK {dflt : Int} {ps : Array (Int × Int)} {len tgt : Nat} {X off n : Int} (d : Dc M pc (.lookupswitch dflt ps) len) (hn : ir n) (hX : X = n) (hp : (ps.toList.zip (ps.toList.drop 1)).all (fun (a, next) => a.1 < next.1) = true) (ho : Op.lookupswitch.offset ps.toList dflt n = off) (ht : (pc : Int) + off = (tgt : Int)) (kk : GO M K0 V0 Φ K V cells slots tgt ls st) : GO M K0 V0 Φ K V cells slots pc ls (ti X :: st) := by
  subst hX
  exact GO.lookup d hn hp ho ht kk
end LO
/-- K1 knows of all but x what K knows, word for word -/
def KE (K K1 : Kmap) (x : Nat) : Prop := ∀ b k, b ≠ x → K b = some k → K1 b = some k
theorem KE.rf {K : Kmap} {x : Nat} : KE K K x := fun _ _ _ h => h
theorem KE.nw {K K1 : Kmap} {x q c : Nat} (h : KE K K1 x) (hx : K1 x = some (0, c)) (hq : K1 q = none) : K q = none ∧ q ≠ x := by
  have hne : q ≠ x := fun e => by rw [e, hx] at hq; cases hq
  refine ⟨?_, hne⟩
  cases e : K q with
  | none => rfl
  | some k => rw [h q k hne e] at hq; cases hq
theorem KE.new {K K1 K2 : Kmap} {x q : Nat} {k : Nat × Nat} (h : KE K K1 x) (hq : K1 q = none) (hK : K2 = updK K1 q k) : KE K K2 x := fun b kb hb e => by
  have := h b kb hb e
  rw [hK, updK_ne (K_old this hq)]; exact this
theorem KE.call {K K1 K2 : Kmap} {x y : Nat} (h : KE K K1 x) (h2 : KE K1 K2 y) (hy : K y = none ∧ y ≠ x) : KE K K2 x := fun b kb hb e => h2 b kb (fun e2 => by subst e2; rw [hy.1] at e; cases e) (h b kb hb e)
theorem KE.promote {K K1 K2 : Kmap} {x c : Nat} (h : KE K K1 x) (e : K2 = updK K1 x (0, c)) : KE K K2 x := fun b kb hb eb => by
  rw [e, updK_ne hb]; exact h b kb hb eb
theorem uq_at {V V1 : Vmap} {a k : Nat} {v : Value} (e : V1 = upd2 V a k v) : V1 a k = v := uq_same e
theorem okv_any {K : Kmap} {V : Vmap} {a j : Nat} {X : Int} (h : V a j = ti X) {t c : Nat} : okv K (0, t, c, -2147483648, 2147483647) (V a j) := ⟨_, h, th_rng _⟩
theorem okv_at {K : Kmap} {V : Vmap} {a j : Nat} {X lo hi : Int} (h : V a j = ti X) (hX : ir X) (h1 : lo ≤ X) (h2 : X ≤ hi) {t c : Nat} : okv K (0, t, c, lo, hi) (V a j) := by rw [h]; exact okv_int hX h1 h2
