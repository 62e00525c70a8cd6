/-! constructors: rows, tables, objects that become whole -/
section CT
variable {M : MRec} {K0 : Kmap} {V0 : Vmap} {Φ : Option Value → Kmap → Vmap → Prop} {K : Kmap} {V : Vmap} {cells slots pc : Nat} {ls : List (Option Value)} {st : List Value}
theorem GO.newT {X : Int} {atype : ArrayType} (t N : Nat) (hw : Cond.arrayClass (newarray.typeOf atype) ∈ gw) (ht : Nat.ble (t + 1) NT = true) (hty : tyOf t = newarray.typeOf atype) (hnr : ∀ U cA, va_RA U cA (newarray.typeOf atype) → U.vm.findClass ("[" ++ (newarray.typeOf atype).toString) = some cA) (hX : X = (N : Int)) (hN : Nat.ble N 5000 = true) (hb : Nat.ble (componentBytes (newarray.typeOf atype)) 8 = true) (hl : lentab.getD t 0 = 0 ∨ N = lentab.getD t 0) (hd : ∀ K, okv K (fT (t + 1, N) 0) (defaultValue (newarray.typeOf atype))) (hcells : Nat.ble (cells + 1) (m_mc M) = true) (hslots : Nat.ble (slots + N) (m_ms M) = true) (d : Dc M pc (.newarray atype) 2)
    (kk : ∀ (q : Nat) (K1 : Kmap) (V1 : Vmap), K q = none → K1 = updK K q (t + 1, N) → ext K K1 → K1 q = some (t + 1, N) → (∀ j, V1 q j = defaultValue (newarray.typeOf atype)) → (∀ b, b ≠ q → V1 b = V b) → GO M K0 V0 Φ K1 V1 (cells + 1) (slots + N) (pc + 2) ls (.ref q :: st)) : GO M K0 V0 Φ K V cells slots pc ls (ti X :: st) := fun p l e s m args below meth c D dA H locs lsA C hn S hW hF hS hL => by
  have ht := Nat.le_of_ble_eq_true ht
  have hN := Nat.le_of_ble_eq_true hN
  have hb := Nat.le_of_ble_eq_true hb
  have hX1 : ir X := ⟨by omega, by omega⟩
  refine sg_newa (N := N) C S (atype := atype) t (by omega) hty hw hnr (by rw [ti_int hX1]; exact hX) (by
    have := Nat.mul_le_mul hN hb
    omega) (Nat.le_of_ble_eq_true hcells) (Nat.le_of_ble_eq_true hslots) d fun q K1 V1 H1 h3 h4 h5 h6 S1 => ?_
  exact kk q K1 V1 h3 h4 (h4 ▸ ext.upd h3) (by rw [h4]; exact updK_same) h5 h6 p l e s m args below meth c D dA H1 locs lsA C hn S1 (hW.new h3 h4 ⟨by omega, hN, hl⟩ (fun j _ => by rw [h5 j]; exact hd K) h6) (hF.new S.2.2.2 h3 h4 h6) hS hL
theorem GO.newQ {X : Int} {Cn : String} {index : Nat} (t N ci : Nat) (ht : Nat.ble (t + 1) NT = true) (hty : tyOf t = .object Cn) (hw1 : Cond.classLink (m_own M) index Cn ∈ gw) (hw : Cn ∈ aoC) (hX : X = (N : Int)) (hN : Nat.ble N 5000 = true) (hl : lentab.getD t 0 = 0 ∨ N = lentab.getD t 0) (hd : fT (t + 1, N) 0 = (2, 0, ci, 0, 0)) (hcells : Nat.ble (cells + 1) (m_mc M) = true) (hslots : Nat.ble (slots + N) (m_ms M) = true) (d : Dc M pc (.anewarray index) 3)
    (kk : ∀ (q : Nat) (K1 : Kmap) (V1 : Vmap), K q = none → K1 = updK K q (t + 1, N) → ext K K1 → K1 q = some (t + 1, N) → (∀ j, V1 q j = .null) → (∀ b, b ≠ q → V1 b = V b) → GO M K0 V0 Φ K1 V1 (cells + 1) (slots + N) (pc + 3) ls (.ref q :: st)) : GO M K0 V0 Φ K V cells slots pc ls (ti X :: st) := fun p l e s m args below meth c D dA H locs lsA C hn S hW hF hS hL => by
  have ht := Nat.le_of_ble_eq_true ht
  have hN := Nat.le_of_ble_eq_true hN
  have hX1 : ir X := ⟨by omega, by omega⟩
  refine sg_newq (N := N) C S t (by omega) hty hw1 hw (by rw [ti_int hX1]; exact hX) (by omega) (Nat.le_of_ble_eq_true hcells) (Nat.le_of_ble_eq_true hslots) d fun q K1 V1 H1 h3 h4 h5 h6 S1 => ?_
  exact kk q K1 V1 h3 h4 (h4 ▸ ext.upd h3) (by rw [h4]; exact updK_same) h5 h6 p l e s m args below meth c D dA H1 locs lsA C hn S1 (hW.new h3 h4 ⟨by omega, hN, hl⟩ (fun j _ => by rw [h5 j, show fT (t + 1, N) j = fT (t + 1, N) 0 from rfl, hd]; exact Or.inl rfl) h6) (hF.new S.2.2.2 h3 h4 h6) hS hL
/-- a raw table becomes a table of its own kind -/
theorem GO.promoteT {x : Nat} (c : Nat) (hc : (Nat.ble 24 c && Nat.ble (c + 1) 35) = true) (hT : TCl[c]? = TCl[19]?) (ha : K x = some (0, 19)) (hf : ∀ j, j < szK (0, c) → okv K (fT (0, c) j) (V x j)) (kk : ∀ K1 : Kmap, K1 = updK K x (0, c) → ext K K1 → K1 x = some (0, c) → GO M K0 V0 Φ K1 V cells slots pc ls st) : GO M K0 V0 Φ K V cells slots pc ls st := fun p l e s m args below meth cc D dA H locs lsA C hn S hW hF hS hL => by
  have h24 := Nat.le_of_ble_eq_true (le_and hc).1
  have hNK := Nat.le_of_ble_eq_true (le_and hc).2
  have hE : ext K (updK K x (0, c)) := fun a k h => by
    by_cases hax : a = x
    · subst hax
      rw [ha] at h; cases h
      exact Or.inr ⟨19, c, by omega, rfl, Or.inr h24, updK_same⟩
    · exact Or.inl (by rw [updK_ne hax]; exact h)
  have hD1 := C.2.2.2.2.2.2.2.2.2.2.2.1 7 (by decide)
  have hD2 := C.2.2.2.2.2.2.2.2.2.2.2.2 c h24 hNK
  refine kk _ rfl hE updK_same p l e s m args below meth cc D dA H locs lsA C hn ⟨fun a k hk => ?_, S.2.1, fun a k hk => ?_, S.2.2.2.tr hE⟩ (fun a kd hk => ?_) (fun a kd j h0 h1 hb => ?_) hS hL
  · by_cases hax : a = x
    · subst hax
      rw [updK_same] at hk; cases hk
      obtain ⟨r, h1, h2⟩ := S.1 a _ ha
      exact ⟨r, hT.trans h1, by rw [hD2.1, hD2.2, ← hD1.1, ← hD1.2]; exact h2⟩
    · rw [updK_ne hax] at hk
      exact S.1 a k hk
  · by_cases hax : a = x
    · subst hax; exact S.2.2.1 a _ ha
    · rw [updK_ne hax] at hk
      exact S.2.2.1 a k hk
  · by_cases hax : a = x
    · subst hax
      rw [updK_same] at hk; cases hk
      exact ⟨trivial, fun j hj => (hf j hj).ext hE (fT_clean _ _)⟩
    · rw [updK_ne hax] at hk
      exact ⟨(hW a kd hk).1, fun j hj => ((hW a kd hk).2 j hj).ext hE (fT_clean _ _)⟩
  · by_cases hax : a = x
    · subst hax
      rw [updK_same] at h1; cases h1
      have := S.2.2.2.obj (Or.inr h24) h0
      rw [ha] at this; cases this; omega
    · rw [updK_ne hax] at h1
      exact hF a kd j h0 h1 hb
end CT
/-- what was put into a raw object, and what it was born with -/
def PF (f : Nat → Value) (V : Vmap) (x : Nat) (L : List (Nat × Value)) : Prop := (∀ p ∈ L, V x p.1 = p.2) ∧ ∀ j, L.all (fun p => !(p.1 == j)) = true → V x j = f j
section PF
variable {f : Nat → Value} {V V1 : Vmap} {x q k : Nat} {v : Value} {L : List (Nat × Value)}
theorem PF.nil (h : ∀ j, V x j = f j) : PF f V x [] := ⟨fun p hp => absurd hp List.not_mem_nil, fun j _ => h j⟩
theorem PF.put (h : PF f V x L) (e : V1 = upd2 V x k v) (hk : L.all (fun p => !(p.1 == k)) = true) : PF f V1 x ((k, v) :: L) := by
  subst e
  refine ⟨fun p hp => ?_, fun j hj => ?_⟩
  · rcases List.mem_cons.mp hp with rfl | hp
    · exact upd2_same V x k v
    · have h1 := List.all_eq_true.mp hk p hp
      have h2 : p.1 ≠ k := by simpa using h1
      rw [upd2_ne (Or.inr h2)]; exact h.1 p hp
  · simp only [List.all_cons, Bool.and_eq_true] at hj
    have h2 : k ≠ j := by simpa using hj.1
    rw [upd2_ne (Or.inr (Ne.symm h2))]; exact h.2 j hj.2
theorem PF.nw (h : PF f V x L) (hV : ∀ b, b ≠ q → V1 b = V b) (hx : x ≠ q) : PF f V1 x L := ⟨fun p hp => by rw [hV x hx]; exact h.1 p hp, fun j hj => by rw [hV x hx]; exact h.2 j hj⟩
theorem PF.at (h : PF f V x L) (i : Nat) (hi : L[i]? = some (k, v)) : V x k = v := h.1 (k, v) (List.mem_of_getElem? hi)
theorem PF.df (h : PF f V x L) (j : Nat) (hj : L.all (fun p => !(p.1 == j)) = true) (hv : f j = v) : V x j = v := (h.2 j hj).trans hv
end PF
theorem okv_df {K : Kmap} {lo hi : Int} (h1 : decide (lo ≤ 0) = true) (h2 : decide (0 ≤ hi) = true) {t c : Nat} {v : Value} (e : v = .int 0) : okv K (0, t, c, lo, hi) v := ⟨0, e, of_decide_eq_true h1, of_decide_eq_true h2⟩
theorem GX.nil {V : Vmap} {x : Nat} (h1 : vi V x 47 = 0) (h2 : vi V x 48 = 0) : GX V x := ⟨fun i j a b => by rw [h1] at b; omega, fun r a b => by rw [h2] at b; omega⟩
theorem PX0.nil {V : Vmap} {x : Nat} (h : vi V x 10 = 0) : PX0 V x := fun j hj => by rw [h] at hj; omega
section CN
variable {M : MRec} {K0 : Kmap} {V0 : Vmap} {Φ : Option Value → Kmap → Vmap → Prop} {K : Kmap} {V : Vmap} {cells slots pc : Nat} {ls : List (Option Value)} {st : List Value}
theorem GO.callN {N : MRec} {n x : Nat} {As : List Value} {Ψ : Option Value → Kmap → Vmap → Prop} (d : Dc M pc (.invokespecial nestI) 3) (ho : m_own M = nestO) (hG : GN (m_y N) (m_cc N) (m_nL N) n) (hy : m_y N = nestY) (hrt : m_rt N = none) (hM : MC N K V (.ref x :: As) Ψ) (hn : As.length = n) (rest : List Value) (hst : st = As.reverse ++ .ref x :: rest) (hR : fitsR M N cells slots = true) (hl : lowS rest) (hs : subW (m_ws N) (m_ws M) = true)
    (kk : ∀ (r : Option Value) (K1 : Kmap) (V1 : Vmap), Ψ r K1 V1 → ext K K1 → FR (m_ws N) K V K1 V1 → GO M K0 V0 Φ K1 V1 (cells + m_mc N) (slots + m_ms N) (pc + 3) ls (pushR r rest)) : GO M K0 V0 Φ K V cells slots pc ls st := fun p l e s m args below meth c D dA H locs lsA C hn1 S hW hF hS hL => by
  obtain ⟨hx0, hb, hml, -, -, hown, hts, hKN⟩ := id C
  rw [ho] at hown
  have hf := fits_use hR
  have hM1 := hM hW l D dA H.size
  rw [hrt] at hM1
  rw [hy] at hM1 hG
  refine th_go (N := N) S (va_runIN ⟨hx0, hb, hml, hown, hts⟩ hM1 ⟨va_cnB n hts hG.1 rfl rfl rfl hKN.2.1 (hts _ hG.2.1) hG.2.2.2.2 hf.1, hG.2.2.2.1, hts _ hG.2.2.1⟩ ⟨PX.blind, PX.at hKN S.1 (hS.next S)⟩ rfl hn hL.1 hst (lv_room hl) d hf.2) (fun r K1 V1 H1 locs1 hp hK hW1 hF1 S1 => ?_)
  exact kk r K1 V1 hp hK hF1 p l e s m args below meth c D dA H1 locs1 lsA C hn1 S1 hW1 (hF.call S.2.2.2 hK hs hF1) hS hL
end CN
