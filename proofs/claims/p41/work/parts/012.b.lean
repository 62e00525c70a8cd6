abbrev TCl : List vw_C := [(RX0, TX0, 13), (RX1, TX1, 13), (RX2, TX2, 5), (RX3, TX3, 16), (RX5, TX5, 7), (RX6, TX6, 10), (RX7, TX7, 11), (RX8, TX8, 4), (RX9, TX9, 5), (RX10, TX10, 15), (RX11, TX11, 20), (RX12, TX12, 151), (RX0, TX0, 13), (RX1, TX1, 13), (RX2, TX2, 5), (RX3, TX3, 16), (RX5, TX5, 7), (RX6, TX6, 10), (RX7, TX7, 11), (RX8, TX8, 4), (RX9, TX9, 5), (RX10, TX10, 15), (RX11, TX11, 20), (RX12, TX12, 151), (RX8, TX8, 4), (RX8, TX8, 4), (RX8, TX8, 4), (RX8, TX8, 4), (RX8, TX8, 4), (RX8, TX8, 4), (RX8, TX8, 4), (RX8, TX8, 4), (RX8, TX8, 4), (RX8, TX8, 4), (RX8, TX8, 4)]
abbrev nestO : String := RX11
abbrev nestI : Nat := 18
abbrev nestY : MethodName := yX1_init
abbrev nestW : Cond := .methodLinkNest nestO nestI nestY RX11
def bt (t : Nat) : Nat := [0, 1, 2, 3, 4, 5, 6, 7, 8, 0, 0, 0, 0, 0, 0, 0, 0, 0, 0, 0, 0, 0, 0, 0, 0, 0, 0, 0, 0, 0, 3, 2, 0, 0, 0, 0, 0, 0, 0, 0, 0, 0, 0, 0, 0, 0, 0, 0, 0, 0, 0, 0, 0, 0, 0, 3, 3, 0, 0, 0, 0, 0, 0, 0, 0, 0, 0, 0, 0, 0, 0, 0, 0, 0, 0, 0, 0, 0, 0, 0, 0, 0, 0, 0, 0, 0, 0, 0, 0, 3, 0, 0, 0, 0, 0, 0, 0, 0, 0, 0, 0, 0, 0, 0, 0, 0, 0, 0, 0, 3, 3, 0, 0, 0, 0, 0, 0, 0, 0, 0, 0, 3, 0, 0, 0, 0, 0, 0, 0, 0, 0, 0, 0, 0, 0, 0, 0, 0, 0, 0, 0, 0, 0, 0, 0, 0, 0, 0, 0, 0, 0, 0, 0, 0, 0, 0, 0, 8].getD t 0
abbrev NT : Nat := 158
def tyOf (t : Nat) : FieldType := match bt t with
  | 0 => .int
  | 1 => .long
  | 2 => .byte
  | 3 => .boolean
  | 4 => .object RX2
  | 5 => .object RX3
  | 6 => .object RX10
  | 7 => .object RX7
  | _ => .object RX9
def aoC : List String := [RX2, RX3, RX10, RX7, RX9]
/-! a memory as two functions: what stands at an address (0: an object of a kind; t + 1: an array), and what its places hold -/
def gw : List Cond := lw_tbl.filter goodWord
theorem gw_mem {w : Cond} (h : w ∈ lw_tbl) (hg : goodWord w = true) : w ∈ gw := List.mem_filter.mpr ⟨h, hg⟩
theorem gw_tbl {w : Cond} (h : w ∈ gw) : w ∈ lw_tbl := (List.mem_filter.mp h).1
theorem gw_ok {w : Cond} (h : w ∈ gw) : (w.onTables && w.keeps) = true ∨ ∃ ty, w = .arrayClass ty := good_of_word (List.mem_filter.mp h).2
theorem gw_hts {args : Array Value} {s : State} (h : ∀ w ∈ lw_tbl, w.before args s = true) : ∀ w ∈ gw, w.before args s = true := fun w hw => h w (gw_tbl hw)
/-- a contract's words: its own code, and the tables -/
abbrev wsOf (y : MethodName) (b : ByteArray) (n : Nat) (rt : Option FieldType) : List Cond := .code y b n rt :: gw
theorem gi_ws {y : MethodName} {b : ByteArray} {n : Nat} {rt : Option FieldType} (h : Cond.code y b n rt ∈ gw) : GoodIn gw (wsOf y b n rt) := fun w hw => by
  rcases List.mem_cons.mp hw with rfl | hw
  · exact ⟨h, gw_ok h⟩
  · exact ⟨hw, gw_ok hw⟩
theorem gi_app {a b : List Cond} (ha : ∀ w ∈ a, w ∈ gw) (hb : GoodIn gw b) : GoodIn gw (a ++ b) := fun w hw => by
  rcases List.mem_append.mp hw with hw | hw
  · exact ⟨ha w hw, gw_ok (ha w hw)⟩
  · exact hb w hw
def upd2 (V : Nat → Nat → Value) (a k : Nat) (v : Value) : Nat → Nat → Value := fun b j => if b = a ∧ j = k then v else V b j
theorem upd2_same (V : Nat → Nat → Value) (a k : Nat) (v : Value) : upd2 V a k v a k = v := by simp [upd2]
theorem upd2_ne {V : Nat → Nat → Value} {a k b j : Nat} {v : Value} (h : b ≠ a ∨ j ≠ k) : upd2 V a k v b j = V b j := by
  unfold upd2
  rw [if_neg]
  rintro ⟨h1, h2⟩
  rcases h with h | h
  · exact h h1
  · exact h h2
theorem upd2_row {V : Nat → Nat → Value} {a k : Nat} {v : Value} : upd2 V a k v a = updV (V a) k v := by
  funext j
  simp [upd2, updV]
theorem upd2_other {V : Nat → Nat → Value} {a k b : Nat} {v : Value} (h : b ≠ a) : upd2 V a k v b = V b := by
  funext j
  exact upd2_ne (Or.inl h)
theorem uq_ne {V V1 : Nat → Nat → Value} {a k b j : Nat} {v : Value} (e : V1 = upd2 V a k v) (h : b ≠ a ∨ j ≠ k) : V1 b j = V b j := by rw [e]; exact upd2_ne h
theorem uq_same {V V1 : Nat → Nat → Value} {a k : Nat} {v : Value} (e : V1 = upd2 V a k v) : V1 a k = v := by rw [e]; exact upd2_same V a k v
theorem uq_other {V V1 : Nat → Nat → Value} {a k b : Nat} {v : Value} (e : V1 = upd2 V a k v) (h : b ≠ a) : V1 b = V b := by rw [e]; exact upd2_other h
abbrev Kmap : Type := Nat → Option (Nat × Nat)
abbrev Vmap : Type := Nat → Nat → Value
def updK (K : Kmap) (q : Nat) (k : Nat × Nat) : Kmap := fun b => if b = q then some k else K b
theorem updK_same {K : Kmap} {q : Nat} {k : Nat × Nat} : updK K q k q = some k := by simp [updK]
theorem updK_ne {K : Kmap} {q b : Nat} {k : Nat × Nat} (h : b ≠ q) : updK K q k b = K b := by simp [updK, h]
theorem K_ne {K : Kmap} {a b : Nat} {k1 k2 : Nat × Nat} (ha : K a = some k1) (hb : K b = some k2) (h : k1 ≠ k2) : a ≠ b := fun e => h (Option.some.inj (by rw [← ha, ← hb, e]))
/-- what is here is not what is new -/
theorem K_old {K : Kmap} {a q : Nat} {k : Nat × Nat} (ha : K a = some k) (hq : K q = none) : a ≠ q := fun e => by rw [e, hq] at ha; cases ha
theorem th_some {K K1 : Kmap} {b : Nat} (hE : ∀ a k, K a = some k → K1 a = some k) (h : K b ≠ none) : K1 b ≠ none := by
  cases hk : K b with
  | none => exact absurd hk h
  | some k => rw [hE b k hk]; exact fun h => by cases h
theorem th_bold {K : Kmap} {b q : Nat} (h : K b ≠ none) (hq : K q = none) : b ≠ q := fun e => h (by rw [e]; exact hq)
def thC (D : va_G) (dA : Nat → ClassId) (k : Nat × Nat) (V : Nat → Value) (a : Nat) (H : Heap) : Prop :=
  match k.1 with
  | 0 => ∃ r : vw_C, TCl[k.2]? = some r ∧ t_OB a (D.1 k.2) r.2.2 (D.2 k.2) H V
  | t + 1 => H[a]? = some (arrV (dA (bt t)) k.2 V)
theorem thC.kept {D : va_G} {dA : Nat → ClassId} {k : Nat × Nat} {V : Nat → Value} {a : Nat} {H H1 : Heap} (h : thC D dA k V a H) (hq : H1[a]? = H[a]?) : thC D dA k V a H1 := by
  obtain ⟨t, n⟩ := k
  cases t with
  | zero =>
    obtain ⟨r, h1, h2⟩ := h
    exact ⟨r, h1, h2.kept hq⟩
  | succ t => exact hq.trans h
theorem thC.lt {D : va_G} {dA : Nat → ClassId} {k : Nat × Nat} {V : Nat → Value} {a : Nat} {H : Heap} (h : thC D dA k V a H) : a < H.size := by
  obtain ⟨t, n⟩ := k
  cases t with
  | zero =>
    obtain ⟨r, h1, cell, h2, -⟩ := h
    exact (Array.getElem?_eq_some_iff.mp h2).1
  | succ t => exact (Array.getElem?_eq_some_iff.mp h).1
def Rep (D : va_G) (dA : Nat → ClassId) (K : Kmap) (V : Vmap) (H : Heap) : Prop := ∀ (a : Nat) (k : Nat × Nat), K a = some k → thC D dA k (V a) a H
theorem Rep.fresh {D : va_G} {dA : Nat → ClassId} {K : Kmap} {V : Vmap} {H : Heap} (h : Rep D dA K V H) {q : Nat} (hq : H.size ≤ q) : K q = none := by
  cases hk : K q with
  | none => rfl
  | some k => exact absurd (h q k hk).lt (Nat.not_lt.mpr hq)
/-- the classes and array classes that the tables know -/
def KN (D : va_G) (dA : Nat → ClassId) (U : State) : Prop := va_K D TCl [] U ∧ va_Nw nestW U ∧ (∀ t, t < NT → ArrOfT U (dA (bt t)) (tyOf t) ∧ va_RA U (dA (bt t)) (tyOf t)) ∧ (∀ Cn ∈ aoC, va_AO Cn U) ∧ (∀ c, c < 12 → D.1 (c + 12) = D.1 c ∧ D.2 (c + 12) = D.2 c) ∧ ∀ c, 24 ≤ c → c < 35 → D.1 c = D.1 7 ∧ D.2 c = D.2 7
theorem KN.moved {D : va_G} {dA : Nat → ClassId} {s U : State} (h : KN D dA s) (hW : s.WarmedH U.vm) : KN D dA U :=
  ⟨va_K.moved hW.alike h.1, va_Nw.warmM hW h.2.1, fun t ht => ⟨arrOfT_moved hW.alike (h.2.2.1 t ht).1, (h.2.2.1 t ht).2.moved hW.alike⟩, fun Cn hC => (h.2.2.2.1 Cn hC).moved hW.alike, h.2.2.2.2⟩
theorem KN.same {D : va_G} {dA : Nat → ClassId} {s U : State} (h : KN D dA s) (hv : s.vm = U.vm) : KN D dA U := by
  have ha : s.vm.Alike U.vm := by rw [← hv]; exact Vm.Alike.refl _
  exact ⟨va_K.moved ha h.1, va_Nw.same rfl hv h.2.1, fun t ht => ⟨arrOfT_moved ha (h.2.2.1 t ht).1, (h.2.2.1 t ht).2.moved ha⟩, fun Cn hC => (h.2.2.2.1 Cn hC).moved ha, h.2.2.2.2⟩
/-- what a walk knows of its method -/
def CX (p : Program) (s : State) (m : MethodId) (args : Array Value) (meth : Method) (c : Code) (cc : ByteArray) (nL : Nat) (rt : Option FieldType) (own : String) (D : va_G) (dA : Nat → ClassId) : Prop :=
  p.tables.exec = Jvm.exec ∧ c.code = cc ∧ c.maxLocals = nL ∧ meth.sig.returnType = rt ∧ meth.locks = false ∧ s.vm.findClass own = some m.cls ∧ (∀ w ∈ gw, w.before args s = true) ∧ KN D dA s
/-- which cells a method may change -/
def AK (K : Kmap) (sz : Nat) : Nat → Prop := fun q => (∃ k, K q = some k) ∨ sz ≤ q
/-- where a walk stands: the memory, and what has been kept since the start (K0, H0) -/
def ST (D : va_G) (dA : Nat → ClassId) (K0 : Kmap) (H0 : Heap) (K : Kmap) (V : Vmap) (H : Heap) (locs : List Loc) : Prop :=
  Rep D dA K V H ∧ va_S (AK K0 H0.size) H0 H locs ∧ (∀ a k, K a = some k → AK K0 H0.size a) ∧ ∀ a k, K0 a = some k → K a = some k
theorem ST.rf {D : va_G} {dA : Nat → ClassId} {K : Kmap} {V : Vmap} {H : Heap} (h : Rep D dA K V H) : ST D dA K H K V H [] := ⟨h, va_S.rf, fun _ k hk => Or.inl ⟨k, hk⟩, fun _ _ h => h⟩
theorem ST.put {D : va_G} {dA : Nat → ClassId} {K0 : Kmap} {H0 H H1 : Heap} {K : Kmap} {V V1 : Vmap} {locs : List Loc} {a i : Nat} {k : Nat × Nat} (h : ST D dA K0 H0 K V H locs) (ha : K a = some k) (hc : thC D dA k (V1 a) a H1) (hV : ∀ b, b ≠ a → V1 b = V b) (z : H1.size = H.size) (oq : ∀ q : Nat, q ≠ a → H1[q]? = H[q]?) : ST D dA K0 H0 K V1 H1 (locs ++ [⟨a, i⟩]) := by
  refine ⟨fun b kb hb => ?_, h.2.1.put z oq (h.2.2.1 a k ha), h.2.2.1, h.2.2.2⟩
  by_cases hba : b = a
  · subst hba
    cases ha.symm.trans hb
    exact hc
  · rw [hV b hba]
    exact (h.1 b kb hb).kept (oq b hba)
theorem ST.push {D : va_G} {dA : Nat → ClassId} {K0 : Kmap} {H0 H H1 : Heap} {K : Kmap} {V V1 : Vmap} {locs : List Loc} {k : Nat × Nat} (h : ST D dA K0 H0 K V H locs) (hc : thC D dA k (V1 H.size) H.size H1) (hV : ∀ b, b ≠ H.size → V1 b = V b) (z : H1.size = H.size + 1) (oq : ∀ q : Nat, q < H.size → H1[q]? = H[q]?) : ST D dA K0 H0 (updK K H.size k) V1 H1 locs := by
  have hs := h.2.1.1
  refine ⟨fun b kb hb => ?_, ⟨by omega, fun q h1 h2 => (oq q (by omega)).trans (h.2.1.2.1 q h1 h2), h.2.1.2.2⟩, fun a kk ha => ?_, fun a kk ha => ?_⟩
  · by_cases hba : b = H.size
    · subst hba
      rw [updK_same] at hb
      cases hb
      exact hc
    · rw [updK_ne hba] at hb
      rw [hV b hba]
      exact (h.1 b kb hb).kept (oq b (h.1 b kb hb).lt)
  · by_cases hba : a = H.size
    · exact Or.inr (by omega)
    · rw [updK_ne hba] at ha
      exact h.2.2.1 a kk ha
  · have h1 := h.2.2.2 a kk ha
    have h2 := (h.1 a kk h1).lt
    rw [updK_ne (by omega)]
    exact h1
/-- a field by its link: the kind of its object, its place -/
def FL (own : String) (index ci k : Nat) : Prop := ∃ T : vw_C, TCl[ci]? = some T ∧ k < T.2.2 ∧ (∀ w ∈ u_ws T.1 T.2.1 T.2.2, w ∈ gw) ∧ Cond.fieldLink own index (T.2.1 k).1 (T.2.1 k).2.1 (T.2.1 k).2.2.1 ∈ gw
def FP (own : String) (index ci k : Nat) (ty : FieldType) (fin : Bool) : Prop := ∃ (T : vw_C) (ty0 : Nat → FieldType), TCl[ci]? = some T ∧ k < T.2.2 ∧ (∀ w ∈ u_ws T.1 T.2.1 T.2.2, w ∈ gw) ∧ Cond.fieldLink own index (T.2.1 k).1 (T.2.1 k).2.1 (T.2.1 k).2.2.1 ∈ gw ∧ (∀ j, j < T.2.2 → parseFieldDescriptor (T.2.1 j).2.2.1 = some (ty0 j)) ∧ (∀ a, a < T.2.2 → ∀ b, b < T.2.2 → a ≠ b → (T.2.1 a).2.1 ≠ (T.2.1 b).2.1) ∧ (T.2.1 k).2.2.2 = fin ∧ parseFieldDescriptor (T.2.1 k).2.2.1 = some ty ∧ (fin = true → (T.2.1 k).1 = own)
/-! ints by what they are as numbers -/
section TI
variable {p : Program} {l : Launch} {e : Env} {R : Room} {s : State} {m : MethodId} {args : Array Value} {below : List Frame} {meth : Method} {c : Code} {H : Heap} {locs : List Loc} {cells slots : Nat} {Q : State → Prop}
variable {cc : ByteArray} {pc : Nat} {ls : Array Slot} {rest : List Value}
theorem th_top {x : Int32} {X : Int} (h : x.toInt = X) (k : ∀ y : Int32, y.toInt = X → W p l e R s m args below meth c H locs cells slots Q (F0 m pc ls (.int y :: rest))) : W p l e R s m args below meth c H locs cells slots Q (F0 m pc ls (.int x :: rest)) := k x h
theorem th_is {v w : Value} (h : v = w) (k : W p l e R s m args below meth c H locs cells slots Q (F0 m pc ls (w :: rest))) : W p l e R s m args below meth c H locs cells slots Q (F0 m pc ls (v :: rest)) := h ▸ k
theorem th_if_eq (hexec : p.tables.exec = Jvm.exec) (hb : c.code = cc) {x : Int32} {X : Int} {off : Int} {tgt : Nat} (hdg : decode cc pc = .ok (.ifCond .eq off, 3)) (ht : (pc : Int) + off = (tgt : Int)) (hX : x.toInt = X)
    (kt : X = 0 → W p l e R s m args below meth c H locs cells slots Q (F0 m tgt ls rest)) (kf : X ≠ 0 → W p l e R s m args below meth c H locs cells slots Q (F0 m (pc + 3) ls rest)) : W p l e R s m args below meth c H locs cells slots Q (F0 m pc ls (.int x :: rest)) := by
  subst hX
  exact lv_if_eq hexec hb hdg ht (fun h => kt (by rw [h]; rfl)) (fun h => kf (fun q => h (Int32.toInt_inj.mp (by rw [q]; rfl))))
theorem th_icmp_eq (hexec : p.tables.exec = Jvm.exec) (hb : c.code = cc) {x : Int32} {X : Int} {y : Int32} {Y : Int} {off : Int} {tgt : Nat} (hdg : decode cc pc = .ok (.if_icmp .eq off, 3)) (ht : (pc : Int) + off = (tgt : Int)) (hX : x.toInt = X) (hY : y.toInt = Y)
    (kt : X = Y → W p l e R s m args below meth c H locs cells slots Q (F0 m tgt ls rest)) (kf : X ≠ Y → W p l e R s m args below meth c H locs cells slots Q (F0 m (pc + 3) ls rest)) : W p l e R s m args below meth c H locs cells slots Q (F0 m pc ls (.int y :: .int x :: rest)) := by
  subst hX
  subst hY
  exact lv_icmp_eq hexec hb hdg ht (fun h => kt (by rw [h])) (fun h => kf (fun q => h (Int32.toInt_inj.mp (by rw [q]))))
theorem th_if_ne (hexec : p.tables.exec = Jvm.exec) (hb : c.code = cc) {x : Int32} {X : Int} {off : Int} {tgt : Nat} (hdg : decode cc pc = .ok (.ifCond .ne off, 3)) (ht : (pc : Int) + off = (tgt : Int)) (hX : x.toInt = X)
    (kt : X ≠ 0 → W p l e R s m args below meth c H locs cells slots Q (F0 m tgt ls rest)) (kf : X = 0 → W p l e R s m args below meth c H locs cells slots Q (F0 m (pc + 3) ls rest)) : W p l e R s m args below meth c H locs cells slots Q (F0 m pc ls (.int x :: rest)) := by
  subst hX
  exact lv_if_ne hexec hb hdg ht (fun h => kt (fun q => h (Int32.toInt_inj.mp (by rw [q]; rfl)))) (fun h => kf (by rw [h]; rfl))
theorem th_icmp_ne (hexec : p.tables.exec = Jvm.exec) (hb : c.code = cc) {x : Int32} {X : Int} {y : Int32} {Y : Int} {off : Int} {tgt : Nat} (hdg : decode cc pc = .ok (.if_icmp .ne off, 3)) (ht : (pc : Int) + off = (tgt : Int)) (hX : x.toInt = X) (hY : y.toInt = Y)
    (kt : X ≠ Y → W p l e R s m args below meth c H locs cells slots Q (F0 m tgt ls rest)) (kf : X = Y → W p l e R s m args below meth c H locs cells slots Q (F0 m (pc + 3) ls rest)) : W p l e R s m args below meth c H locs cells slots Q (F0 m pc ls (.int y :: .int x :: rest)) := by
  subst hX
  subst hY
  exact lv_icmp_ne hexec hb hdg ht (fun h => kt (fun q => h (Int32.toInt_inj.mp (by rw [q])))) (fun h => kf (by rw [h]))
theorem th_if_lt (hexec : p.tables.exec = Jvm.exec) (hb : c.code = cc) {x : Int32} {X : Int} {off : Int} {tgt : Nat} (hdg : decode cc pc = .ok (.ifCond .lt off, 3)) (ht : (pc : Int) + off = (tgt : Int)) (hX : x.toInt = X)
    (kt : X < 0 → W p l e R s m args below meth c H locs cells slots Q (F0 m tgt ls rest)) (kf : X ≥ 0 → W p l e R s m args below meth c H locs cells slots Q (F0 m (pc + 3) ls rest)) : W p l e R s m args below meth c H locs cells slots Q (F0 m pc ls (.int x :: rest)) := by
  subst hX
  exact lv_if_lt hexec hb hdg ht (fun h => kt (by rw [Int32.lt_iff_toInt_lt, Int32.toInt_zero] at h; omega)) (fun h => kf (by rw [Int32.lt_iff_toInt_lt, Int32.toInt_zero] at h; omega))
theorem th_icmp_lt (hexec : p.tables.exec = Jvm.exec) (hb : c.code = cc) {x : Int32} {X : Int} {y : Int32} {Y : Int} {off : Int} {tgt : Nat} (hdg : decode cc pc = .ok (.if_icmp .lt off, 3)) (ht : (pc : Int) + off = (tgt : Int)) (hX : x.toInt = X) (hY : y.toInt = Y)
    (kt : X < Y → W p l e R s m args below meth c H locs cells slots Q (F0 m tgt ls rest)) (kf : X ≥ Y → W p l e R s m args below meth c H locs cells slots Q (F0 m (pc + 3) ls rest)) : W p l e R s m args below meth c H locs cells slots Q (F0 m pc ls (.int y :: .int x :: rest)) := by
  subst hX
  subst hY
  exact lv_icmp_lt hexec hb hdg ht (fun h => kt (by rw [Int32.lt_iff_toInt_lt] at h; omega)) (fun h => kf (by rw [Int32.lt_iff_toInt_lt] at h; omega))
theorem th_if_ge (hexec : p.tables.exec = Jvm.exec) (hb : c.code = cc) {x : Int32} {X : Int} {off : Int} {tgt : Nat} (hdg : decode cc pc = .ok (.ifCond .ge off, 3)) (ht : (pc : Int) + off = (tgt : Int)) (hX : x.toInt = X)
    (kt : X ≥ 0 → W p l e R s m args below meth c H locs cells slots Q (F0 m tgt ls rest)) (kf : X < 0 → W p l e R s m args below meth c H locs cells slots Q (F0 m (pc + 3) ls rest)) : W p l e R s m args below meth c H locs cells slots Q (F0 m pc ls (.int x :: rest)) := by
  subst hX
  exact lv_if_ge hexec hb hdg ht (fun h => kt (by rw [Int32.le_iff_toInt_le, Int32.toInt_zero] at h; omega)) (fun h => kf (by rw [Int32.le_iff_toInt_le, Int32.toInt_zero] at h; omega))
theorem th_icmp_ge (hexec : p.tables.exec = Jvm.exec) (hb : c.code = cc) {x : Int32} {X : Int} {y : Int32} {Y : Int} {off : Int} {tgt : Nat} (hdg : decode cc pc = .ok (.if_icmp .ge off, 3)) (ht : (pc : Int) + off = (tgt : Int)) (hX : x.toInt = X) (hY : y.toInt = Y)
    (kt : X ≥ Y → W p l e R s m args below meth c H locs cells slots Q (F0 m tgt ls rest)) (kf : X < Y → W p l e R s m args below meth c H locs cells slots Q (F0 m (pc + 3) ls rest)) : W p l e R s m args below meth c H locs cells slots Q (F0 m pc ls (.int y :: .int x :: rest)) := by
  subst hX
  subst hY
  exact lv_icmp_ge hexec hb hdg ht (fun h => kt (by rw [Int32.le_iff_toInt_le] at h; omega)) (fun h => kf (by rw [Int32.le_iff_toInt_le] at h; omega))
theorem th_if_gt (hexec : p.tables.exec = Jvm.exec) (hb : c.code = cc) {x : Int32} {X : Int} {off : Int} {tgt : Nat} (hdg : decode cc pc = .ok (.ifCond .gt off, 3)) (ht : (pc : Int) + off = (tgt : Int)) (hX : x.toInt = X)
    (kt : X > 0 → W p l e R s m args below meth c H locs cells slots Q (F0 m tgt ls rest)) (kf : X ≤ 0 → W p l e R s m args below meth c H locs cells slots Q (F0 m (pc + 3) ls rest)) : W p l e R s m args below meth c H locs cells slots Q (F0 m pc ls (.int x :: rest)) := by
  subst hX
  exact lv_if_gt hexec hb hdg ht (fun h => kt (by rw [Int32.lt_iff_toInt_lt, Int32.toInt_zero] at h; omega)) (fun h => kf (by rw [Int32.lt_iff_toInt_lt, Int32.toInt_zero] at h; omega))
theorem th_icmp_gt (hexec : p.tables.exec = Jvm.exec) (hb : c.code = cc) {x : Int32} {X : Int} {y : Int32} {Y : Int} {off : Int} {tgt : Nat} (hdg : decode cc pc = .ok (.if_icmp .gt off, 3)) (ht : (pc : Int) + off = (tgt : Int)) (hX : x.toInt = X) (hY : y.toInt = Y)
    (kt : X > Y → W p l e R s m args below meth c H locs cells slots Q (F0 m tgt ls rest)) (kf : X ≤ Y → W p l e R s m args below meth c H locs cells slots Q (F0 m (pc + 3) ls rest)) : W p l e R s m args below meth c H locs cells slots Q (F0 m pc ls (.int y :: .int x :: rest)) := by
  subst hX
  subst hY
  exact lv_icmp_gt hexec hb hdg ht (fun h => kt (by rw [Int32.lt_iff_toInt_lt] at h; omega)) (fun h => kf (by rw [Int32.lt_iff_toInt_lt] at h; omega))
theorem th_if_le (hexec : p.tables.exec = Jvm.exec) (hb : c.code = cc) {x : Int32} {X : Int} {off : Int} {tgt : Nat} (hdg : decode cc pc = .ok (.ifCond .le off, 3)) (ht : (pc : Int) + off = (tgt : Int)) (hX : x.toInt = X)
    (kt : X ≤ 0 → W p l e R s m args below meth c H locs cells slots Q (F0 m tgt ls rest)) (kf : X > 0 → W p l e R s m args below meth c H locs cells slots Q (F0 m (pc + 3) ls rest)) : W p l e R s m args below meth c H locs cells slots Q (F0 m pc ls (.int x :: rest)) := by
  subst hX
  exact lv_if_le hexec hb hdg ht (fun h => kt (by rw [Int32.le_iff_toInt_le, Int32.toInt_zero] at h; omega)) (fun h => kf (by rw [Int32.le_iff_toInt_le, Int32.toInt_zero] at h; omega))
theorem th_icmp_le (hexec : p.tables.exec = Jvm.exec) (hb : c.code = cc) {x : Int32} {X : Int} {y : Int32} {Y : Int} {off : Int} {tgt : Nat} (hdg : decode cc pc = .ok (.if_icmp .le off, 3)) (ht : (pc : Int) + off = (tgt : Int)) (hX : x.toInt = X) (hY : y.toInt = Y)
    (kt : X ≤ Y → W p l e R s m args below meth c H locs cells slots Q (F0 m tgt ls rest)) (kf : X > Y → W p l e R s m args below meth c H locs cells slots Q (F0 m (pc + 3) ls rest)) : W p l e R s m args below meth c H locs cells slots Q (F0 m pc ls (.int y :: .int x :: rest)) := by
  subst hX
  subst hY
  exact lv_icmp_le hexec hb hdg ht (fun h => kt (by rw [Int32.le_iff_toInt_le] at h; omega)) (fun h => kf (by rw [Int32.le_iff_toInt_le] at h; omega))
theorem th_rng0 (x : Int32) : -2147483648 ≤ x.toInt ∧ x.toInt ≤ 2147483647 := ⟨Int32.le_toInt x, by have := Int32.toInt_lt x; omega⟩
theorem th_add {x y : Int32} {X Y : Int} (hx : x.toInt = X) (hy : y.toInt = Y) (h1 : -2147483648 ≤ X + Y) (h2 : X + Y ≤ 2147483647) : (x + y).toInt = X + Y := by
  subst hx; subst hy
  rw [Int32.toInt_add]
  exact Int.bmod_eq_of_le (by omega) (by omega)
theorem th_sub {x y : Int32} {X Y : Int} (hx : x.toInt = X) (hy : y.toInt = Y) (h1 : -2147483648 ≤ X - Y) (h2 : X - Y ≤ 2147483647) : (x - y).toInt = X - Y := by
  subst hx; subst hy
  rw [Int32.toInt_sub]
  exact Int.bmod_eq_of_le (by omega) (by omega)
theorem th_mul {x y : Int32} {X Y : Int} (hx : x.toInt = X) (hy : y.toInt = Y) (h1 : -2147483648 ≤ X * Y) (h2 : X * Y ≤ 2147483647) : (x * y).toInt = X * Y := by
  subst hx; subst hy
  rw [Int32.toInt_mul]
  exact Int.bmod_eq_of_le (by omega) (by omega)
theorem th_div {x y : Int32} {X Y : Int} (hx : x.toInt = X) (hy : y.toInt = Y) (h1 : 0 ≤ X) (h2 : 0 < Y) : (x / y).toInt = X / Y := by
  subst hx; subst hy
  rw [Int32.toInt_div]
  rw [Int.tdiv_eq_ediv_of_nonneg h1]
  have h3 := Int.ediv_nonneg h1 (Int.le_of_lt h2)
  have h4 : x.toInt / y.toInt ≤ x.toInt := Int.ediv_le_self _ h1
  have h5 := Int32.toInt_lt x
  exact Int.bmod_eq_of_le (by omega) (by omega)
theorem th_rem {x y : Int32} {X Y : Int} (hx : x.toInt = X) (hy : y.toInt = Y) (h1 : 0 ≤ X) (h2 : 0 < Y) : (x - x / y * y).toInt = X % Y := by
  have hX := th_rng0 x
  rw [hx] at hX
  have hd := th_div hx hy h1 h2
  have h3 : 0 ≤ X / Y * Y := Int.mul_nonneg (Int.ediv_nonneg h1 (Int.le_of_lt h2)) (Int.le_of_lt h2)
  have h4 : X / Y * Y ≤ X := Int.ediv_mul_le X (by omega)
  have hm := th_mul hd hy (by omega) (by omega)
  have hs := th_sub hx hm (by omega) (by omega)
  rw [hs, Int.emod_def, Int.mul_comm]
theorem th_rng (x : Int32) : -2147483648 ≤ x.toInt ∧ x.toInt ≤ 2147483647 := ⟨Int32.le_toInt x, by have := Int32.toInt_lt x; omega⟩
end TI
section TH
variable {p : Program} {l : Launch} {e : Env} {R : Room} {s : State} {m : MethodId} {args : Array Value} {below : List Frame} {meth : Method} {c : Code} {H : Heap} {locs : List Loc} {cells slots : Nat} {Q : State → Prop}
variable {cc : ByteArray} {nL : Nat} {rt : Option FieldType} {own : String} {D : va_G} {dA : Nat → ClassId} {K0 K : Kmap} {H0 : Heap} {V : Vmap} {pc : Nat} {ls : Array Slot} {rest : List Value}
theorem th_get (C : CX p s m args meth c cc nL rt own D dA) (S : Rep D dA K V H) {a ci k index : Nat} {v : Value} (ha : K a = some (0, ci)) (hf : FL own index ci k) (hv : V a k = v) (hdg : decode cc pc = .ok (.getfield index, 3))
    (kk : W p l e R s m args below meth c H locs cells slots Q (F0 m (pc + 3) ls (v :: rest))) : W p l e R s m args below meth c H locs cells slots Q (F0 m pc ls (.ref a :: rest)) := by
  obtain ⟨hx, hb, -, -, -, hown, hts, hKN⟩ := C
  obtain ⟨T, hc, hk, hin, hl⟩ := hf
  obtain ⟨r, h1, cell, q1, q2, q3, q4⟩ := S a _ ha
  have hr : r = T := Option.some.inj (h1.symm.trans hc)
  subst hr
  obtain ⟨hS, hfc, kC, hkC, hkind⟩ := hKN.1.1 ci _ hc
  obtain ⟨cf, kf, fi, f, hi, hsl⟩ := hS k hk
  refine W.getf hx hb hown (hts _ hl) hi (u_facts hfc hkC (u_lays hts hin hk) hi).1 q1 (by rw [q3]; exact fun h => by cases h) (v := v) ?_ rfl rfl hdg kk
  rw [hsl, q4 k hk, hv]
theorem th_put (C : CX p s m args meth c cc nL rt own D dA) (S : ST D dA K0 H0 K V H locs) {a ci k index : Nat} {v : Value} {ty : FieldType} (ha : K a = some (0, ci)) (hf : FP own index ci k ty false) (hn : narrow ty v = v) (hfit : fits ty v = true) (hdg : decode cc pc = .ok (.putfield index, 3))
    (kk : ∀ (V1 : Vmap) (H1 : Heap) (locs1 : List Loc), V1 = upd2 V a k v → ST D dA K0 H0 K V1 H1 locs1 → W p l e R s m args below meth c H1 locs1 cells slots Q (F0 m (pc + 3) ls rest)) : W p l e R s m args below meth c H locs cells slots Q (F0 m pc ls (v :: .ref a :: rest)) := by
  obtain ⟨hx, hb, -, -, -, hown, hts, hKN⟩ := C
  obtain ⟨T, ty0, hc, hk, hin, hlink, hty, hnm, hfin, hd, -⟩ := hf
  have hap := va_apart (own := own) hts hin ty0 hty hnm hKN.1 hc
  obtain ⟨r, h1, cell, q1, q2, q3, q4⟩ := S.1 a _ ha
  have hr : r = T := Option.some.inj (h1.symm.trans hc)
  subst hr
  obtain ⟨hS, hfc, kC, hkC, hkind⟩ := hKN.1.1 ci _ hc
  obtain ⟨cf, kf, fi, f, hi, hsl⟩ := hS k hk
  have hlay := hts _ (hin _ (u_in_lay hk))
  unfold u_lay at hlay
  rw [if_neg (by rw [hfin]; decide)] at hlay
  have hst := (u_facts hfc hkC (u_lays hts hin hk) hi).1
  have h6 := u_store hfc hkC hkind hlay hi hd hn hfit
  refine W.putK hx hb (f := f) ⟨hown, hts _ hlink, ⟨_, _, _, hi⟩, hst⟩ (by rw [q2]; exact h6) q1 q3 (by rw [hsl]; exact k2_hasslot (q4 k hk)) rfl rfl hdg fun H' e1 e2 e3 => ?_
  rw [hsl] at e1 ⊢
  refine kk _ H' _ rfl (S.put ha ⟨_, hc, ?_⟩ (fun b hb => upd2_other hb) e2 e3)
  exact t_OB.to (V := updV (V a) k v) ⟨_, e1, q2, q3, t_set q4 hap hk v⟩ (fun j _ => by rw [upd2_row])
theorem th_putF (C : CX p s m args meth c cc nL rt own D dA) (S : ST D dA K0 H0 K V H locs) (hin2 : meth.name = "<init>") {a ci k index : Nat} {v : Value} {ty : FieldType} (ha : K a = some (0, ci)) (hf : FP own index ci k ty true) (hn : narrow ty v = v) (hfit : fits ty v = true) (hdg : decode cc pc = .ok (.putfield index, 3))
    (kk : ∀ (V1 : Vmap) (H1 : Heap) (locs1 : List Loc), V1 = upd2 V a k v → ST D dA K0 H0 K V1 H1 locs1 → W p l e R s m args below meth c H1 locs1 cells slots Q (F0 m (pc + 3) ls rest)) : W p l e R s m args below meth c H locs cells slots Q (F0 m pc ls (v :: .ref a :: rest)) := by
  obtain ⟨hx, hb, -, -, -, hown, hts, hKN⟩ := C
  obtain ⟨T, ty0, hc, hk, hin, hlink, hty, hnm, hfin, hd, hdecl⟩ := hf
  have hap := va_apart (own := own) hts hin ty0 hty hnm hKN.1 hc
  obtain ⟨r, h1, cell, q1, q2, q3, q4⟩ := S.1 a _ ha
  have hr : r = T := Option.some.inj (h1.symm.trans hc)
  subst hr
  obtain ⟨hS, hfc, kC, hkC, hkind⟩ := hKN.1.1 ci _ hc
  obtain ⟨cf, kf, fi, f, hi, hsl⟩ := hS k hk
  have hlay := hts _ (hin _ (u_in_lay hk))
  unfold u_lay at hlay
  rw [if_pos hfin] at hlay
  have hst := (u_facts hfc hkC (u_lays hts hin hk) hi).1
  have hcf : m.cls = cf := by
    obtain ⟨_, _, c', _, _, _, -, -, hf', -, -, -, hown2, -⟩ := Cond.laysFinal_spec hlay
    have e1 : c' = cf := by have := hi.symm.trans hf'; simp at this; exact this.1.symm
    rw [hdecl rfl] at hown2
    rw [← e1]; exact Option.some.inj (hown.symm.trans hown2)
  have h6 := u_fits hfc hkC hkind (Or.inr hlay) hi hd hn hfit
  refine W.putFinK hx hb hown (hts _ hlink) hi hst hcf hin2 (by rw [q2]; exact h6) q1 q3 (by rw [hsl]; exact k2_hasslot (q4 k hk)) rfl rfl hdg fun H' e1 e2 e3 => ?_
  rw [hsl] at e1 ⊢
  refine kk _ H' _ rfl (S.put ha ⟨_, hc, ?_⟩ (fun b hb => upd2_other hb) e2 e3)
  exact t_OB.to (V := updV (V a) k v) ⟨_, e1, q2, q3, t_set q4 hap hk v⟩ (fun j _ => by rw [upd2_row])
theorem th_new (C : CX p s m args meth c cc nL rt own D dA) (S : ST D dA K0 H0 K V H locs) {ci index : Nat} (T : vw_C) (ty : Nat → FieldType) (hc : TCl[ci]? = some T) (hin : ∀ w ∈ u_ws T.1 T.2.1 T.2.2, w ∈ gw) (hty : ∀ k, k < T.2.2 → parseFieldDescriptor (T.2.1 k).2.2.1 = some (ty k)) (hw1 : Cond.classLink own index T.1 ∈ gw) (hw2 : Cond.instantiable T.1 T.2.2 ∈ gw) (hw3 : Cond.initialized T.1 ∈ gw) (hcells : cells + 1 ≤ R.cells) (hslots : slots + T.2.2 ≤ R.slots) (hdg : decode cc pc = .ok (.new index, 3))
    (kk : ∀ (q : Nat) (K1 : Kmap) (V1 : Vmap) (H1 : Heap), K q = none → K1 = updK K q (0, ci) → (∀ j, V1 q j = defaultValue (ty j)) → (∀ b, b ≠ q → V1 b = V b) → ST D dA K0 H0 K1 V1 H1 locs →
      W p l e R s m args below meth c H1 locs (cells + 1) (slots + T.2.2) Q (F0 m (pc + 3) ls (.ref q :: rest))) : W p l e R s m args below meth c H locs cells slots Q (F0 m pc ls rest) := by
  obtain ⟨hx, hb, -, -, -, hown, hts, hKN⟩ := C
  have hKn := hKN.1.1 ci _ hc
  refine W.newcK hx hb hown (hts _ hw1) (hts _ hw2) (hts _ hw3) rfl hdg hcells hslots hKn.2.1 rfl fun H1 kC hkC e1 z1 o1 => ?_
  refine kk H.size _ (fun b j => if b = H.size then defaultValue (ty j) else V b j) H1 (S.1.fresh (Nat.le_refl _)) rfl (fun j => by simp) (fun b hb => by funext j; simp [hb]) (S.push ?_ (fun b hb => by funext j; simp [hb]) z1 o1)
  refine ⟨T, hc, (u_born ty hts hin hKn hkC e1 hty).to fun j hj => ?_⟩
  simp
theorem th_newa (C : CX p s m args meth c cc nL rt own D dA) (S : ST D dA K0 H0 K V H locs) {atype : ArrayType} (t : Nat) (ht : t < NT) (hty : tyOf t = newarray.typeOf atype) (hw : Cond.arrayClass (newarray.typeOf atype) ∈ gw) (hnr : ∀ U cA, va_RA U cA (newarray.typeOf atype) → U.vm.findClass ("[" ++ (newarray.typeOf atype).toString) = some cA)
    {n : Int32} {N : Nat} (hN : n.toInt = N) (hbytes : N * componentBytes (newarray.typeOf atype) ≤ 536870912) (hcells : cells + 1 ≤ R.cells) (hslots : slots + N ≤ R.slots) (hdg : decode cc pc = .ok (.newarray atype, 2))
    (kk : ∀ (q : Nat) (K1 : Kmap) (V1 : Vmap) (H1 : Heap), K q = none → K1 = updK K q (t + 1, N) → (∀ j, V1 q j = defaultValue (newarray.typeOf atype)) → (∀ b, b ≠ q → V1 b = V b) → ST D dA K0 H0 K1 V1 H1 locs →
      W p l e R s m args below meth c H1 locs (cells + 1) (slots + N) Q (F0 m (pc + 2) ls (.ref q :: rest))) : W p l e R s m args below meth c H locs cells slots Q (F0 m pc ls (.int n :: rest)) := by
  obtain ⟨hx, hb, -, -, -, hown, hts, hKN⟩ := C
  have hn : ¬ n < 0 := by rw [Int32.lt_iff_toInt_lt, Int32.toInt_zero]; omega
  have hN' : n.toNatClampNeg = N := by show n.toInt.toNat = N; omega
  refine va_newaK hx hb (hts _ hw) rfl hdg rfl hn hN' hbytes hcells hslots rfl fun H1 cA e1 z1 o1 hAr hNm => ?_
  have h9 := (hKN.2.2.1 t ht).2
  rw [hty] at h9
  have hcA : cA = dA (bt t) := Option.some.inj (hNm.symm.trans (hnr _ _ h9))
  subst hcA
  refine kk H.size _ (fun b j => if b = H.size then defaultValue (newarray.typeOf atype) else V b j) H1 (S.1.fresh (Nat.le_refl _)) rfl (fun j => by simp) (fun b hb => by funext j; simp [hb]) (S.push ?_ (fun b hb => by funext j; simp [hb]) z1 o1)
  show H1[H.size]? = some (arrV (dA (bt t)) N _)
  rw [e1]
  congr 2
  funext j
  simp
theorem th_newq (C : CX p s m args meth c cc nL rt own D dA) (S : ST D dA K0 H0 K V H locs) {Cn : String} {index : Nat} (t : Nat) (ht : t < NT) (hty : tyOf t = .object Cn) (hw1 : Cond.classLink own index Cn ∈ gw) (hw : Cn ∈ aoC)
    {n : Int32} {N : Nat} (hN : n.toInt = N) (hbytes : N * 4 ≤ 536870912) (hcells : cells + 1 ≤ R.cells) (hslots : slots + N ≤ R.slots) (hdg : decode cc pc = .ok (.anewarray index, 3))
    (kk : ∀ (q : Nat) (K1 : Kmap) (V1 : Vmap) (H1 : Heap), K q = none → K1 = updK K q (t + 1, N) → (∀ j, V1 q j = .null) → (∀ b, b ≠ q → V1 b = V b) → ST D dA K0 H0 K1 V1 H1 locs →
      W p l e R s m args below meth c H1 locs (cells + 1) (slots + N) Q (F0 m (pc + 3) ls (.ref q :: rest))) : W p l e R s m args below meth c H locs cells slots Q (F0 m pc ls (.int n :: rest)) := by
  obtain ⟨hx, hb, -, -, -, hown, hts, hKN⟩ := C
  have hn : ¬ n < 0 := by rw [Int32.lt_iff_toInt_lt, Int32.toInt_zero]; omega
  have hN' : n.toNatClampNeg = N := by show n.toInt.toNat = N; omega
  subst hN'
  refine W.anew hx hb hown (hts _ hw1) (va_AO.use (hKN.2.2.2.1 _ hw)) rfl hdg rfl hn hbytes hcells hslots fun cA kA comp f1 f2 f3 f4 => ?_
  have h9 := (hKN.2.2.1 t ht).2
  rw [hty] at h9
  obtain ⟨kA', comp', g1, g2, g3, g4⟩ := h9
  have hcA : cA = dA (bt t) := Option.some.inj (f1.symm.trans g4)
  subst hcA
  refine kk H.size _ (fun b j => if b = H.size then .null else V b j) _ (S.1.fresh (Nat.le_refl _)) rfl (fun j => by simp) (fun b hb => by funext j; simp [hb]) (S.push (H1 := H.push _) ?_ (fun b hb => by funext j; simp [hb]) (by simp) (fun q hq => by rw [Array.getElem?_push, if_neg (Nat.ne_of_lt hq)]))
  show (H.push _)[H.size]? = some (arrV (dA (bt t)) _ _)
  rw [Array.getElem?_push_size, arrV_new]
  congr 2
  funext j
  simp
theorem th_hin {x : Int32} {n : Nat} (h0 : 0 ≤ x.toInt) (h1 : x.toInt < n) : ¬ (x < 0 ∨ n ≤ x.toNatClampNeg) := vp_in_iff.mpr ⟨h0, h1⟩
theorem th_iald (C : CX p s m args meth c cc nL rt own D dA) (S : Rep D dA K V H) {a n : Nat} {i : Int32} {v : Value} (ha : K a = some (1, n)) (h0 : 0 ≤ i.toInt) (h1 : i.toInt < n) (hv : V a i.toInt.toNat = v) (hdg : decode cc pc = .ok (.iaload, 1))
    (kk : W p l e R s m args below meth c H locs cells slots Q (F0 m (pc + 1) ls (v :: rest))) : W p l e R s m args below meth c H locs cells slots Q (F0 m pc ls (.int i :: .ref a :: rest)) := by
  obtain ⟨hx, hb, -, -, -, hown, hts, hKN⟩ := C
  have hlt : i.toNatClampNeg < n := by show i.toInt.toNat < n; omega
  exact W.iald (v := v) hx hb (S a _ ha) ((hKN.2.2.1 0 (by decide)).1 n (V a)) (fun q => by cases q) (by rw [arrV_size]; exact th_hin h0 h1) (by rw [arrV_read _ _ hlt]; exact congrArg some hv) rfl rfl hdg kk
theorem th_lald (C : CX p s m args meth c cc nL rt own D dA) (S : Rep D dA K V H) {a n : Nat} {i : Int32} {v : Value} (ha : K a = some (2, n)) (h0 : 0 ≤ i.toInt) (h1 : i.toInt < n) (hv : V a i.toInt.toNat = v) (hdg : decode cc pc = .ok (.laload, 1))
    (kk : W p l e R s m args below meth c H locs cells slots Q (F0 m (pc + 1) ls (v :: rest))) : W p l e R s m args below meth c H locs cells slots Q (F0 m pc ls (.int i :: .ref a :: rest)) := by
  obtain ⟨hx, hb, -, -, -, hown, hts, hKN⟩ := C
  have hlt : i.toNatClampNeg < n := by show i.toInt.toNat < n; omega
  exact W.lald (v := v) hx hb (S a _ ha) ((hKN.2.2.1 1 (by decide)).1 n (V a)) (fun q => by cases q) (by rw [arrV_size]; exact th_hin h0 h1) (by rw [arrV_read _ _ hlt]; exact congrArg some hv) rfl rfl hdg kk
theorem th_iast (C : CX p s m args meth c cc nL rt own D dA) (S : ST D dA K0 H0 K V H locs) {a n : Nat} {i x : Int32} (ha : K a = some (1, n)) (h0 : 0 ≤ i.toInt) (h1 : i.toInt < n) (hdg : decode cc pc = .ok (.iastore, 1))
    (kk : ∀ (V1 : Vmap) (H1 : Heap) (locs1 : List Loc), V1 = upd2 V a i.toInt.toNat (.int x) → ST D dA K0 H0 K V1 H1 locs1 → W p l e R s m args below meth c H1 locs1 cells slots Q (F0 m (pc + 1) ls rest)) : W p l e R s m args below meth c H locs cells slots Q (F0 m pc ls (.int x :: .int i :: .ref a :: rest)) := by
  obtain ⟨hx, hb, -, -, -, hown, hts, hKN⟩ := C
  refine W.iast hx hb (S.1 a _ ha) ((hKN.2.2.1 0 (by decide)).1 n (V a)) (fun q => by cases q) (by rw [arrV_size]; exact th_hin h0 h1) rfl rfl hdg fun H1 e z oq => ?_
  refine kk _ H1 _ rfl (S.put ha ?_ (fun b hb => upd2_other hb) z oq)
  show H1[a]? = some (arrV (dA 0) n (upd2 V a _ _ a))
  rw [e, arrV_store, upd2_row]
  rfl
theorem th_bast (C : CX p s m args meth c cc nL rt own D dA) (S : ST D dA K0 H0 K V H locs) {a n : Nat} {i x : Int32} (ha : K a = some (3, n)) (h0 : 0 ≤ i.toInt) (h1 : i.toInt < n) (hdg : decode cc pc = .ok (.bastore, 1))
    (kk : ∀ (V1 : Vmap) (H1 : Heap) (locs1 : List Loc), V1 = upd2 V a i.toInt.toNat (.int x.toInt8.toInt32) → ST D dA K0 H0 K V1 H1 locs1 → W p l e R s m args below meth c H1 locs1 cells slots Q (F0 m (pc + 1) ls rest)) : W p l e R s m args below meth c H locs cells slots Q (F0 m pc ls (.int x :: .int i :: .ref a :: rest)) := by
  obtain ⟨hx, hb, -, -, -, hown, hts, hKN⟩ := C
  refine W.bast hx hb (S.1 a _ ha) ((hKN.2.2.1 2 (by decide)).1 n (V a)) (fun q => by cases q) (by rw [arrV_size]; exact th_hin h0 h1) rfl rfl hdg fun H1 e z oq => ?_
  refine kk _ H1 _ rfl (S.put ha ?_ (fun b hb => upd2_other hb) z oq)
  show H1[a]? = some (arrV (dA 2) n (upd2 V a _ _ a))
  rw [e, arrV_store, upd2_row]
  rfl
theorem th_alen (C : CX p s m args meth c cc nL rt own D dA) (S : Rep D dA K V H) {a t n : Nat} (ht : t < NT) (ha : K a = some (t + 1, n)) (hdg : decode cc pc = .ok (.arraylength, 1))
    (kk : W p l e R s m args below meth c H locs cells slots Q (F0 m (pc + 1) ls (.int (Int32.ofNat n) :: rest))) : W p l e R s m args below meth c H locs cells slots Q (F0 m pc ls (.ref a :: rest)) := by
  obtain ⟨hx, hb, -, -, -, hown, hts, hKN⟩ := C
  exact W.alen (n := Int32.ofNat n) hx hb (S a _ ha) ((hKN.2.2.1 t ht).1 n (V a)) (by rw [arrV_size] <;> rfl) rfl rfl hdg kk
theorem th_aast (C : CX p s m args meth c cc nL rt own D dA) (S : ST D dA K0 H0 K V H locs) {a t ci n v : Nat} {i : Int32} (ht : t < NT) (T : vw_C) (hc : TCl[ci]? = some T) (hty : tyOf t = .object T.1) (ha : K a = some (t + 1, n)) (hv : K v = some (0, ci)) (h0 : 0 ≤ i.toInt) (h1 : i.toInt < n) (hdg : decode cc pc = .ok (.aastore, 1))
    (kk : ∀ (V1 : Vmap) (H1 : Heap) (locs1 : List Loc), V1 = upd2 V a i.toInt.toNat (.ref v) → ST D dA K0 H0 K V1 H1 locs1 → W p l e R s m args below meth c H1 locs1 cells slots Q (F0 m (pc + 1) ls rest)) : W p l e R s m args below meth c H locs cells slots Q (F0 m pc ls (.ref v :: .int i :: .ref a :: rest)) := by
  obtain ⟨hx, hb, -, -, -, hown, hts, hKN⟩ := C
  obtain ⟨r', hr', cellV, g1, g2, g3, -⟩ := S.1 v _ hv
  have hcls := (hKN.1.1 ci T hc).2
  have h9 := (hKN.2.2.1 t ht).2
  rw [hty] at h9
  obtain ⟨kA, comp, k1, k2, k3, -⟩ := h9
  have hcomp : comp = D.1 ci := Option.some.inj (k3.symm.trans hcls.1)
  subst hcomp
  obtain ⟨kC, hkC, -⟩ := hcls.2
  have hlt : i.toNatClampNeg < n := by show i.toInt.toNat < n; omega
  have h00 : ¬ i < 0 := by rw [Int32.lt_iff_toInt_lt, Int32.toInt_zero]; omega
  refine W.aast hx hb (S.1 a _ ha) (fun q h => by cases h) (fun h => by cases h) k1 k2 rfl hkC ⟨h00, by rw [arrV_size]; exact hlt⟩ g1 (fun q h => by rw [g3] at h; cases h) (by rw [g2]; exact hkC) (by rw [g2]; exact va_assign hcls) rfl rfl hdg fun H1 e z oq => ?_
  refine kk _ H1 _ rfl (S.put ha ?_ (fun b hb => upd2_other hb) z oq)
  show H1[a]? = some (arrV (dA (bt t)) n (upd2 V a _ _ a))
  rw [e, arrV_store, upd2_row]
  rfl
/-! starts and ends of methods -/
def PC (D : va_G) (dA : Nat → ClassId) (K : Kmap) (V : Vmap) (sz : Nat) (av : List Value) : Array Value → State → Prop := fun v U => v = av.toArray ∧ U.heap.size = sz ∧ KN D dA U ∧ Rep D dA K V U.heap
theorem PC.blind {D : va_G} {dA : Nat → ClassId} {K : Kmap} {V : Vmap} {sz : Nat} {av : List Value} : FrameBlind (PC D dA K V sz av) := fun a U g mk q => ⟨q.1, q.2.1, q.2.2.1.same rfl, q.2.2.2⟩
theorem PC.at {D : va_G} {dA : Nat → ClassId} {K : Kmap} {V : Vmap} {av : List Value} (hK : KN D dA s) (hR : Rep D dA K V H) : ∀ U : State, U.heap = H → s.WarmedH U.vm → PC D dA K V H.size av av.toArray U := fun U hU hW => ⟨rfl, by rw [hU], hK.moved hW, by rw [hU]; exact hR⟩
/-- an answer, and nothing is changed -/
def PQi (post : Int32 → Prop) : Array Value → State → Outcome → State → Prop := fun _ st o t => ∃ r : Int32, o = .returned (some (.int r)) ∧ post r ∧ t.heap = st.heap
def PQr (v : Value) : Array Value → State → Outcome → State → Prop := fun _ st o t => o = .returned (some v) ∧ t.heap = st.heap
def PQv : Array Value → State → Outcome → State → Prop := fun _ st o t => o = .returned none ∧ t.heap = st.heap
/-- an answer, and a memory behind it -/
def HQi (D : va_G) (dA : Nat → ClassId) (K : Kmap) (post : Int32 → Kmap → Vmap → Prop) : Array Value → State → Outcome → State → Prop := fun _ st o t => (∃ (r : Int32) (K1 : Kmap) (V1 : Vmap), o = .returned (some (.int r)) ∧ post r K1 V1 ∧ Rep D dA K1 V1 t.heap ∧ (∀ a k, K a = some k → K1 a = some k) ∧ (∀ a k, K1 a = some k → AK K st.heap.size a)) ∧ va_F (AK K st.heap.size) st t
def HQl (D : va_G) (dA : Nat → ClassId) (K : Kmap) (post : Int64 → Kmap → Vmap → Prop) : Array Value → State → Outcome → State → Prop := fun _ st o t => (∃ (r : Int64) (K1 : Kmap) (V1 : Vmap), o = .returned (some (.long r)) ∧ post r K1 V1 ∧ Rep D dA K1 V1 t.heap ∧ (∀ a k, K a = some k → K1 a = some k) ∧ (∀ a k, K1 a = some k → AK K st.heap.size a)) ∧ va_F (AK K st.heap.size) st t
def HQv (D : va_G) (dA : Nat → ClassId) (K : Kmap) (post : Kmap → Vmap → Prop) : Array Value → State → Outcome → State → Prop := fun _ st o t => (∃ (K1 : Kmap) (V1 : Vmap), o = .returned none ∧ post K1 V1 ∧ Rep D dA K1 V1 t.heap ∧ (∀ a k, K a = some k → K1 a = some k) ∧ (∀ a k, K1 a = some k → AK K st.heap.size a)) ∧ va_F (AK K st.heap.size) st t
abbrev noFree : Addr → Prop := fun _ => False
theorem th_nz {r : Int32} (h : r.toInt = 0 ∨ r.toInt = 1) : narrow .boolean (.int r) = .int r := by
  have h2 : r = 0 ∨ r = 1 := by
    rcases h with h | h
    · exact Or.inl (Int32.toInt_inj.mp (by rw [h]; rfl))
    · exact Or.inr (Int32.toInt_inj.mp (by rw [h]; rfl))
  rcases h2 with rfl | rfl <;> rfl
theorem th_reti (C : CX p s m args meth c cc nL (some .int) own D dA) {post : Int32 → Prop} {v : Int32} (hp : post v) (hdg : decode cc pc = .ok (.ireturn, 1)) : W p l e R s m args below meth c s.heap [] 0 0 (MQ below (PQi post) args s 0 0 noFree) (F0 m pc ls [.int v]) :=
  W.iret C.1 C.2.1 C.2.2.2.1 (fun t ht _ => ⟨v, rfl, hp, ht⟩) (fun _ h => by cases h) hdg (hlocks := C.2.2.2.2.1)
theorem th_retz (C : CX p s m args meth c cc nL (some .boolean) own D dA) {post : Int32 → Prop} {v : Int32} (hz : v.toInt = 0 ∨ v.toInt = 1) (hp : post v) (hdg : decode cc pc = .ok (.ireturn, 1)) : W p l e R s m args below meth c s.heap [] 0 0 (MQ below (PQi post) args s 0 0 noFree) (F0 m pc ls [.int v]) :=
  W.zret C.1 C.2.1 C.2.2.2.1 (th_nz hz) (fun t ht _ => ⟨v, rfl, hp, ht⟩) (fun _ h => by cases h) hdg (hlocks := C.2.2.2.2.1)
theorem th_retr {rty : FieldType} (C : CX p s m args meth c cc nL (some rty) own D dA) {v : Value} (hrt : (∃ n, rty = .object n) ∨ ∃ t, rty = .array t) (hv : v = .null ∨ ∃ a, v = .ref a) (hdg : decode cc pc = .ok (.areturn, 1)) : W p l e R s m args below meth c s.heap [] 0 0 (MQ below (PQr v) args s 0 0 noFree) (F0 m pc ls [v]) :=
  W.aret C.1 C.2.1 C.2.2.2.1 hrt hv (fun t ht _ => ⟨rfl, ht⟩) (fun _ h => by cases h) hdg (hlocks := C.2.2.2.2.1)
theorem th_retv (C : CX p s m args meth c cc nL none own D dA) (hdg : decode cc pc = .ok (.return_, 1)) : W p l e R s m args below meth c s.heap [] 0 0 (MQ below PQv args s 0 0 noFree) (F0 m pc ls []) :=
  W.vret C.1 C.2.1 C.2.2.2.1 (fun t ht _ => ⟨rfl, ht⟩) (fun _ h => by cases h) hdg (hlocks := C.2.2.2.2.1)
theorem th_retiH (C : CX p s m args meth c cc nL (some .int) own D dA) (S : ST D dA K s.heap K0 V H locs) {post : Int32 → Kmap → Vmap → Prop} {v : Int32} {mc ms : Nat} (hp : post v K0 V) (h1 : cells ≤ mc) (h2 : slots ≤ ms) (hdg : decode cc pc = .ok (.ireturn, 1)) : W p l e R s m args below meth c H locs cells slots (MQ below (HQi D dA K post) args s mc ms (AK K s.heap.size)) (F0 m pc ls [.int v]) :=
  W.widen h1 h2 (W.iret C.1 C.2.1 C.2.2.2.1 (fun t ht _ => ⟨⟨v, K0, V, rfl, hp, by rw [ht]; exact S.1, S.2.2.2, S.2.2.1⟩, S.2.1.F ht⟩) S.2.1.2.2 hdg (hlocks := C.2.2.2.2.1))
theorem th_retzH (C : CX p s m args meth c cc nL (some .boolean) own D dA) (S : ST D dA K s.heap K0 V H locs) {post : Int32 → Kmap → Vmap → Prop} {v : Int32} {mc ms : Nat} (hz : v.toInt = 0 ∨ v.toInt = 1) (hp : post v K0 V) (h1 : cells ≤ mc) (h2 : slots ≤ ms) (hdg : decode cc pc = .ok (.ireturn, 1)) : W p l e R s m args below meth c H locs cells slots (MQ below (HQi D dA K post) args s mc ms (AK K s.heap.size)) (F0 m pc ls [.int v]) :=
  W.widen h1 h2 (W.zret C.1 C.2.1 C.2.2.2.1 (th_nz hz) (fun t ht _ => ⟨⟨v, K0, V, rfl, hp, by rw [ht]; exact S.1, S.2.2.2, S.2.2.1⟩, S.2.1.F ht⟩) S.2.1.2.2 hdg (hlocks := C.2.2.2.2.1))
theorem th_retlH (C : CX p s m args meth c cc nL (some .long) own D dA) (S : ST D dA K s.heap K0 V H locs) {post : Int64 → Kmap → Vmap → Prop} {v : Int64} {mc ms : Nat} (hp : post v K0 V) (h1 : cells ≤ mc) (h2 : slots ≤ ms) (hdg : decode cc pc = .ok (.lreturn, 1)) : W p l e R s m args below meth c H locs cells slots (MQ below (HQl D dA K post) args s mc ms (AK K s.heap.size)) (F0 m pc ls [.long v]) :=
  W.widen h1 h2 (W.lret C.1 C.2.1 C.2.2.2.1 (fun t ht _ => ⟨⟨v, K0, V, rfl, hp, by rw [ht]; exact S.1, S.2.2.2, S.2.2.1⟩, S.2.1.F ht⟩) S.2.1.2.2 hdg (hlocks := C.2.2.2.2.1))
theorem th_retvH (C : CX p s m args meth c cc nL none own D dA) (S : ST D dA K s.heap K0 V H locs) {post : Kmap → Vmap → Prop} {mc ms : Nat} (hp : post K0 V) (h1 : cells ≤ mc) (h2 : slots ≤ ms) (hdg : decode cc pc = .ok (.return_, 1)) : W p l e R s m args below meth c H locs cells slots (MQ below (HQv D dA K post) args s mc ms (AK K s.heap.size)) (F0 m pc ls []) :=
  W.widen h1 h2 (W.vret C.1 C.2.1 C.2.2.2.1 (fun t ht _ => ⟨⟨K0, V, rfl, hp, by rw [ht]; exact S.1, S.2.2.2, S.2.2.1⟩, S.2.1.F ht⟩) S.2.1.2.2 hdg (hlocks := C.2.2.2.2.1))
/-! behind a call -/
variable {mc ms : Nat} {st0 : List Value} {aa : Array Value}
theorem th_nil {L : List Loc} (h : ∀ q ∈ L, noFree q.base) : L = [] := by
  cases L with
  | nil => rfl
  | cons q t => exact (h q List.mem_cons_self).elim
theorem th_goi {post : Int32 → Prop} (hr : va_Run p l e R s m args below meth c H locs cells slots 0 0 (F0 m pc ls st0) rest (PQi post aa) noFree) (kk : ∀ r : Int32, post r → W p l e R s m args below meth c H locs cells slots Q (F0 m (pc + 3) ls (.int r :: rest))) : W p l e R s m args below meth c H locs cells slots Q (F0 m pc ls st0) := by
  intro T hT X
  obtain ⟨v, st₀, t, T', L, h0, X', hL, e1, e2, ⟨r, hv, hp, hh⟩, st⟩ := hr T hT X
  cases hv
  obtain rfl := th_nil hL
  rw [List.append_nil] at X'
  obtain ⟨t2, a1, b1⟩ := kk r hp T' (by rw [e1, hh, h0]) X'
  exact ⟨t2, st t2 a1, b1⟩
theorem th_gor {w : Value} (hr : va_Run p l e R s m args below meth c H locs cells slots 0 0 (F0 m pc ls st0) rest (PQr w aa) noFree) (kk : W p l e R s m args below meth c H locs cells slots Q (F0 m (pc + 3) ls (w :: rest))) : W p l e R s m args below meth c H locs cells slots Q (F0 m pc ls st0) := by
  intro T hT X
  obtain ⟨v, st₀, t, T', L, h0, X', hL, e1, e2, ⟨hv, hh⟩, st⟩ := hr T hT X
  cases hv
  obtain rfl := th_nil hL
  rw [List.append_nil] at X'
  obtain ⟨t2, a1, b1⟩ := kk T' (by rw [e1, hh, h0]) X'
  exact ⟨t2, st t2 a1, b1⟩
theorem th_gov (hr : va_Run p l e R s m args below meth c H locs cells slots 0 0 (F0 m pc ls st0) rest (PQv aa) noFree) (kk : W p l e R s m args below meth c H locs cells slots Q (F0 m (pc + 3) ls rest)) : W p l e R s m args below meth c H locs cells slots Q (F0 m pc ls st0) := by
  intro T hT X
  obtain ⟨v, st₀, t, T', L, h0, X', hL, e1, e2, ⟨hv, hh⟩, st⟩ := hr T hT X
  cases hv
  obtain rfl := th_nil hL
  rw [List.append_nil] at X'
  obtain ⟨t2, a1, b1⟩ := kk T' (by rw [e1, hh, h0]) X'
  exact ⟨t2, st t2 a1, b1⟩
theorem ST.call {K1 : Kmap} {V1 : Vmap} {t st₀ : State} {L : List Loc} (S : ST D dA K0 H0 K V H locs) (h0 : st₀.heap = H) (hR : Rep D dA K1 V1 t.heap) (hK : ∀ a k, K a = some k → K1 a = some k) (hA : ∀ a k, K1 a = some k → AK K st₀.heap.size a) (hF : va_F (AK K st₀.heap.size) st₀ t) (hL : ∀ q ∈ L, AK K st₀.heap.size q.base) : ST D dA K0 H0 K1 V1 t.heap (locs ++ L) := by
  obtain ⟨hz, hk⟩ := hF
  rw [h0] at hA hz hk hL
  have hs := S.2.1.1
  have up : ∀ q, AK K H.size q → AK K0 H0.size q := fun q h => by
    rcases h with ⟨k, h⟩ | h
    · exact S.2.2.1 q k h
    · exact Or.inr (Nat.le_trans hs h)
  refine ⟨hR, ⟨Nat.le_trans hs hz, fun q h1 h2 => ?_, fun q hq => ?_⟩, fun a k h => up a (hA a k h), fun a k h => hK a k (S.2.2.2 a k h)⟩
  · rw [hk q (Nat.lt_of_lt_of_le h1 hs) (fun z => h2 (up q z))]
    exact S.2.1.2.1 q h1 h2
  · rcases List.mem_append.mp hq with h | h
    · exact S.2.1.2.2 q h
    · exact up _ (hL q h)
theorem th_goiH (S : ST D dA K0 H0 K V H locs) {sz : Nat} (hsz : H.size = sz) {post : Int32 → Kmap → Vmap → Prop} (hr : va_Run p l e R s m args below meth c H locs cells slots mc ms (F0 m pc ls st0) rest (HQi D dA K post aa) (AK K sz)) (kk : ∀ (r : Int32) (K1 : Kmap) (V1 : Vmap) (H1 : Heap) (locs1 : List Loc), post r K1 V1 → (∀ a k, K a = some k → K1 a = some k) → ST D dA K0 H0 K1 V1 H1 locs1 → W p l e R s m args below meth c H1 locs1 (cells + mc) (slots + ms) Q (F0 m (pc + 3) ls (.int r :: rest))) : W p l e R s m args below meth c H locs cells slots Q (F0 m pc ls st0) := by
  intro T hT X
  obtain ⟨v, st₀, t, T', L, h0, X', hL, e1, e2, ⟨⟨r, K1, V1, hv, hp, hR, hK, hA⟩, hF⟩, st⟩ := hr T hT X
  cases hv
  obtain ⟨t2, a1, b1⟩ := kk r K1 V1 t.heap _ hp hK (S.call h0 hR hK hA hF (by rw [h0, hsz]; exact hL)) T' e1 X'
  exact ⟨t2, st t2 a1, b1⟩
theorem th_golH (S : ST D dA K0 H0 K V H locs) {sz : Nat} (hsz : H.size = sz) {post : Int64 → Kmap → Vmap → Prop} (hr : va_Run p l e R s m args below meth c H locs cells slots mc ms (F0 m pc ls st0) rest (HQl D dA K post aa) (AK K sz)) (kk : ∀ (r : Int64) (K1 : Kmap) (V1 : Vmap) (H1 : Heap) (locs1 : List Loc), post r K1 V1 → (∀ a k, K a = some k → K1 a = some k) → ST D dA K0 H0 K1 V1 H1 locs1 → W p l e R s m args below meth c H1 locs1 (cells + mc) (slots + ms) Q (F0 m (pc + 3) ls (.long r :: rest))) : W p l e R s m args below meth c H locs cells slots Q (F0 m pc ls st0) := by
  intro T hT X
  obtain ⟨v, st₀, t, T', L, h0, X', hL, e1, e2, ⟨⟨r, K1, V1, hv, hp, hR, hK, hA⟩, hF⟩, st⟩ := hr T hT X
  cases hv
  obtain ⟨t2, a1, b1⟩ := kk r K1 V1 t.heap _ hp hK (S.call h0 hR hK hA hF (by rw [h0, hsz]; exact hL)) T' e1 X'
  exact ⟨t2, st t2 a1, b1⟩
theorem th_govH (S : ST D dA K0 H0 K V H locs) {sz : Nat} (hsz : H.size = sz) {post : Kmap → Vmap → Prop} (hr : va_Run p l e R s m args below meth c H locs cells slots mc ms (F0 m pc ls st0) rest (HQv D dA K post aa) (AK K sz)) (kk : ∀ (K1 : Kmap) (V1 : Vmap) (H1 : Heap) (locs1 : List Loc), post K1 V1 → (∀ a k, K a = some k → K1 a = some k) → ST D dA K0 H0 K1 V1 H1 locs1 → W p l e R s m args below meth c H1 locs1 (cells + mc) (slots + ms) Q (F0 m (pc + 3) ls rest)) : W p l e R s m args below meth c H locs cells slots Q (F0 m pc ls st0) := by
  intro T hT X
  obtain ⟨v, st₀, t, T', L, h0, X', hL, e1, e2, ⟨⟨K1, V1, hv, hp, hR, hK, hA⟩, hF⟩, st⟩ := hr T hT X
  cases hv
  obtain ⟨t2, a1, b1⟩ := kk K1 V1 t.heap _ hp hK (S.call h0 hR hK hA hF (by rw [h0, hsz]; exact hL)) T' e1 X'
  exact ⟨t2, st t2 a1, b1⟩
/-! calls: what the tables say of one, and the run -/
def GV (own : String) (index : Nat) (Cn : String) (y : MethodName) (b : ByteArray) (mL : Nat) (yt : Option FieldType) (n : Nat) : Prop := GoodIn gw (wsV own index Cn y (wsOf y b mL yt)) ∧ y.cls = Cn ∧ y.cls ≠ "java/lang/invoke/MethodHandle" ∧ y.cls ≠ "java/lang/invoke/VarHandle" ∧ (parseMethodDescriptor y.desc).map (fun d => d.parameters.length) = some n
def GS (own : String) (index : Nat) (y : MethodName) (b : ByteArray) (mL : Nat) (yt : Option FieldType) (n : Nat) : Prop := GoodIn gw (va_wsS own index y (wsOf y b mL yt)) ∧ y.cls ≠ "java/lang/invoke/MethodHandle" ∧ y.cls ≠ "java/lang/invoke/VarHandle" ∧ (parseMethodDescriptor y.desc).map (fun d => d.parameters.length) = some n
def GI (own : String) (index : Nat) (y : MethodName) (b : ByteArray) (mL : Nat) (n : Nat) : Prop := GoodIn gw (wsOf y b mL none) ∧ Cond.initialized y.cls ∈ gw ∧ Cond.methodLink own index y ∈ gw ∧ Cond.instanceMethod y ∈ gw ∧ y.name = "<init>" ∧ y.cls ≠ "java/lang/invoke/MethodHandle" ∧ y.cls ≠ "java/lang/invoke/VarHandle" ∧ (parseMethodDescriptor y.desc).map (fun d => d.parameters.length) = some n
variable {index mL n ci : Nat} {y : MethodName} {b : ByteArray} {yt : Option FieldType} {rm : Room} {Qc : Array Value → State → Outcome → State → Prop} {free : Addr → Prop} {As : List Value} {x : Nat} {lv : List (Nat × Value)}
theorem th_runV (C : CX p s m args meth c cc nL rt own D dA) (S : Rep D dA K V H) (T : vw_C) (hc : TCl[ci]? = some T) (hG : GV own index T.1 y b mL yt n) (hx : K x = some (0, ci)) (hM : Met l y (wsOf y b mL yt) rm (PC D dA K V H.size (.ref x :: As)) Qc mc ms free) (hl : lv_has ls nL lv) (hn : As.length = n) (hst : st0 = As.reverse ++ .ref x :: rest) (hrc : rm.cells = mc) (hrs : rm.slots = ms) (hRm : rm.frames + 1 ≤ R.frames ∧ 8 + (mL + 11) + rm.locals ≤ R.locals) (hW : (rest.map fun v => v.category).sum ≤ 8) (hf : cells + mc ≤ R.cells ∧ slots + ms ≤ R.slots) (hdg : decode cc pc = .ok (.invokevirtual index, 3)) : va_Run p l e R s m args below meth c H locs cells slots mc ms (F0 m pc ls st0) rest (Qc (Value.ref x :: As).toArray) free := by
  obtain ⟨hx0, hb, hml, -, -, hown, hts, hKN⟩ := C
  obtain ⟨r', hr', cellV, g1, g2, g3, -⟩ := S x _ hx
  have hcls := (hKN.1.1 ci T hc).2
  exact va_runV ⟨hx0, hb, hml, hown, hts⟩ hM (cwV n hts hG.1 rfl hrc hrs hG.2 hRm) ⟨PC.blind, ⟨cellV, g1, by rw [g3]; rfl, by rw [g2]; exact hcls.1⟩, PC.at hKN S⟩ rfl hn hl.1 hst (lv_room hW) hdg hf
theorem th_runS (C : CX p s m args meth c cc nL rt own D dA) (S : Rep D dA K V H) (hG : GS own index y b mL yt n) (hM : Met l y (wsOf y b mL yt) rm (PC D dA K V H.size As) Qc mc ms free) (hl : lv_has ls nL lv) (hn : As.length = n) (hst : st0 = As.reverse ++ rest) (hrc : rm.cells = mc) (hrs : rm.slots = ms) (hRm : rm.frames + 1 ≤ R.frames ∧ 8 + (mL + 11) + rm.locals ≤ R.locals) (hW : (rest.map fun v => v.category).sum ≤ 8) (hf : cells + mc ≤ R.cells ∧ slots + ms ≤ R.slots) (hdg : decode cc pc = .ok (.invokestatic index, 3)) : va_Run p l e R s m args below meth c H locs cells slots mc ms (F0 m pc ls st0) rest (Qc As.toArray) free := by
  obtain ⟨hx0, hb, hml, -, -, hown, hts, hKN⟩ := C
  exact va_runS ⟨hx0, hb, hml, hown, hts⟩ hM (va_cwS n hts hG.1 rfl hrc hrs hG.2 hRm) ⟨PC.blind, PC.at hKN S⟩ rfl hn hl.1 hst (lv_room hW) hdg hf
theorem th_runI (C : CX p s m args meth c cc nL rt own D dA) (S : Rep D dA K V H) (hG : GI own index y b mL n) (hM : Met l y (wsOf y b mL none) rm (PC D dA K V H.size (.ref x :: As)) Qc mc ms free) (hl : lv_has ls nL lv) (hn : As.length = n) (hst : st0 = As.reverse ++ .ref x :: rest) (hrc : rm.cells = mc) (hrs : rm.slots = ms) (hRm : rm.frames + 1 ≤ R.frames ∧ 8 + (mL + 11) + rm.locals ≤ R.locals) (hW : (rest.map fun v => v.category).sum ≤ 8) (hf : cells + mc ≤ R.cells ∧ slots + ms ≤ R.slots) (hdg : decode cc pc = .ok (.invokespecial index, 3)) : va_Run p l e R s m args below meth c H locs cells slots mc ms (F0 m pc ls st0) rest (Qc (Value.ref x :: As).toArray) free := by
  obtain ⟨hx0, hb, hml, -, -, hown, hts, hKN⟩ := C
  exact va_runI ⟨hx0, hb, hml, hown, hts⟩ hM (cwI n hts hG.1 rfl hrc hrs (hts _ hG.2.1) (hts _ hG.2.2.1) (hts _ hG.2.2.2.1) hG.2.2.2.2.1 hG.2.2.2.2.2 hRm) ⟨PC.blind, PC.at hKN S⟩ rfl hn hl.1 hst (lv_room hW) hdg hf
/-- a private constructor of a nest mate -/
def GN (y : MethodName) (b : ByteArray) (mL : Nat) (n : Nat) : Prop := GoodIn gw (wsOf y b mL none) ∧ Cond.initialized y.cls ∈ gw ∧ Cond.instanceMethod y ∈ gw ∧ y.name = "<init>" ∧ y.cls ≠ "java/lang/invoke/MethodHandle" ∧ y.cls ≠ "java/lang/invoke/VarHandle" ∧ (parseMethodDescriptor y.desc).map (fun d => d.parameters.length) = some n
theorem th_runIN (C : CX p s m args meth c cc nL rt nestO D dA) (S : Rep D dA K V H) (hG : GN nestY b mL n) (hM : Met l nestY (wsOf nestY b mL none) rm (PC D dA K V H.size (.ref x :: As)) Qc mc ms free) (hl : lv_has ls nL lv) (hn : As.length = n) (hst : st0 = As.reverse ++ .ref x :: rest) (hrc : rm.cells = mc) (hrs : rm.slots = ms) (hRm : rm.frames + 1 ≤ R.frames ∧ 8 + (mL + 11) + rm.locals ≤ R.locals) (hW : (rest.map fun v => v.category).sum ≤ 8) (hf : cells + mc ≤ R.cells ∧ slots + ms ≤ R.slots) (hdg : decode cc pc = .ok (.invokespecial nestI, 3)) : va_Run p l e R s m args below meth c H locs cells slots mc ms (F0 m pc ls st0) rest (Qc (Value.ref x :: As).toArray) free := by
  obtain ⟨hx0, hb, hml, -, -, hown, hts, hKN⟩ := C
  exact va_runIN ⟨hx0, hb, hml, hown, hts⟩ hM ⟨va_cnB n hts hG.1 rfl hrc hrs hKN.2.1 (hts _ hG.2.1) hG.2.2.2.2 hRm, hG.2.2.2.1, hts _ hG.2.2.1⟩ ⟨PC.blind, PC.at hKN S⟩ rfl hn hl.1 hst (lv_room hW) hdg hf
/-- a loop: a measure that falls, an invariant of locals and memory -/
theorem th_loop (I : Nat → Array Slot → Vmap → Heap → List Loc → Prop) (n0 : Nat) (h0 : I n0 ls V H locs) (hs : ∀ (n : Nat) (ls : Array Slot) (V : Vmap) (H : Heap) (locs : List Loc), I n ls V H locs → (∀ n', n' < n → ∀ (ls' : Array Slot) (V' : Vmap) (H' : Heap) (locs' : List Loc), I n' ls' V' H' locs' → W p l e R s m args below meth c H' locs' cells slots Q (F0 m pc ls' rest)) → W p l e R s m args below meth c H locs cells slots Q (F0 m pc ls rest)) : W p l e R s m args below meth c H locs cells slots Q (F0 m pc ls rest) := by
  have key : ∀ n, ∀ (ls' : Array Slot) (V' : Vmap) (H' : Heap) (locs' : List Loc), I n ls' V' H' locs' → W p l e R s m args below meth c H' locs' cells slots Q (F0 m pc ls' rest) := by
    intro n
    induction n using Nat.strongRecOn with
    | ind n ih => exact fun ls' V' H' locs' h => hs n ls' V' H' locs' h (fun n' hn' => ih n' hn')
  exact key n0 _ _ _ _ h0
end TH
/-- a contract's body, from its entry -/
theorem th_body {l : Launch} {y : MethodName} {b : ByteArray} {n : Nat} {rt : Option FieldType} {rm : Room} {D : va_G} {dA : Nat → ClassId} {K : Kmap} {V : Vmap} {sz : Nat} {av : List Value} {Qc : Array Value → State → Outcome → State → Prop} {mc ms : Nat} {free : Addr → Prop} (hy : plainName y.cls = true) (hlen : (lg_sl av).length ≤ n)
    (body : ∀ p e s m below meth c, CX p s m av.toArray meth c b n rt y.cls D dA → Rep D dA K V s.heap → s.heap.size = sz → meth.name = y.name → ∀ ls, lv_has ls n (lv_args 0 av) → W p l e rm s m av.toArray below meth c s.heap [] 0 0 (MQ below Qc av.toArray s mc ms free) (F0 m 0 ls [])) : Met l y (wsOf y b n rt) rm (PC D dA K V sz av) Qc mc ms free := by
  refine Met.ofW (cc := b) (maxL := n) (ret := rt) hy rfl ?_
  intro p e s m args below meth c s₁ B hml hv
  obtain ⟨rfl, hsz, hK, hR⟩ := hv
  have hts := atoms_spec (ws := wsOf y b n rt) B.pre
  rw [lg_entry_eq]
  exact body p e s m below meth c ⟨B.exec, B.bytes, hml, B.returns, B.notSynchronized, findClass_of_methodNamed B.named, fun w hw => hts w (List.mem_cons_of_mem _ hw), hK⟩ hR hsz (name_of_methodNamed B.named B.method).1 _ (lv_entry av hlen)
