/-- a method: its class, bytes, locals, answer, name; the room of its calls (frames, locals, cells, slots) and what it may write -/
abbrev MRec : Type := String × ByteArray × Nat × Option FieldType × MethodName × Nat × Nat × Nat × Nat × Nat
def m_own (M : MRec) : String := M.1
def m_cc (M : MRec) : ByteArray := M.2.1
def m_nL (M : MRec) : Nat := M.2.2.1
def m_rt (M : MRec) : Option FieldType := M.2.2.2.1
def m_y (M : MRec) : MethodName := M.2.2.2.2.1
def m_fr (M : MRec) : Nat := M.2.2.2.2.2.1
def m_lo (M : MRec) : Nat := M.2.2.2.2.2.2.1
def m_mc (M : MRec) : Nat := M.2.2.2.2.2.2.2.1
def m_ms (M : MRec) : Nat := M.2.2.2.2.2.2.2.2.1
def m_ws (M : MRec) : Nat := M.2.2.2.2.2.2.2.2.2
def m_rm (M : MRec) : Room := { frames := m_fr M, cells := m_mc M, slots := m_ms M, locals := m_lo M }
def Dc (M : MRec) (pc : Nat) (i : Instr) (n : Nat) : Prop := decode (m_cc M) pc = .ok (i, n)
/-- where a walk stands: as ST, but raw objects may have become whole -/
def SG (D : va_G) (dA : Nat → ClassId) (K0 : Kmap) (H0 : Heap) (K : Kmap) (V : Vmap) (H : Heap) (locs : List Loc) : Prop :=
  Rep D dA K V H ∧ va_S (AK K0 H0.size) H0 H locs ∧ (∀ a k, K a = some k → AK K0 H0.size a) ∧ ext K0 K
theorem SG.rf {D : va_G} {dA : Nat → ClassId} {K : Kmap} {V : Vmap} {H : Heap} (h : Rep D dA K V H) : SG D dA K H K V H [] := ⟨h, va_S.rf, fun _ k hk => Or.inl ⟨k, hk⟩, ext.rf⟩
theorem SG.put {D : va_G} {dA : Nat → ClassId} {K0 : Kmap} {H0 H H1 : Heap} {K : Kmap} {V V1 : Vmap} {locs : List Loc} {a i : Nat} {k : Nat × Nat} (h : SG D dA K0 H0 K V H locs) (ha : K a = some k) (hc : thC D dA k (V1 a) a H1) (hV : ∀ b, b ≠ a → V1 b = V b) (z : H1.size = H.size) (oq : ∀ q : Nat, q ≠ a → H1[q]? = H[q]?) : SG D dA K0 H0 K V1 H1 (locs ++ [⟨a, i⟩]) := by
  refine ⟨fun b kb hb => ?_, h.2.1.put z oq (h.2.2.1 a k ha), h.2.2.1, h.2.2.2⟩
  by_cases hba : b = a
  · subst hba
    cases ha.symm.trans hb
    exact hc
  · rw [hV b hba]
    exact (h.1 b kb hb).kept (oq b hba)
theorem SG.push {D : va_G} {dA : Nat → ClassId} {K0 : Kmap} {H0 H H1 : Heap} {K : Kmap} {V V1 : Vmap} {locs : List Loc} {k : Nat × Nat} (h : SG D dA K0 H0 K V H locs) (hc : thC D dA k (V1 H.size) H.size H1) (hV : ∀ b, b ≠ H.size → V1 b = V b) (z : H1.size = H.size + 1) (oq : ∀ q : Nat, q < H.size → H1[q]? = H[q]?) : SG D dA K0 H0 (updK K H.size k) V1 H1 locs := by
  have hs := h.2.1.1
  refine ⟨fun b kb hb => ?_, ⟨by omega, fun q h1 h2 => (oq q (by omega)).trans (h.2.1.2.1 q h1 h2), h.2.1.2.2⟩, fun a kk ha => ?_, h.2.2.2.tr (ext.upd (h.1.fresh (Nat.le_refl _)))⟩
  · by_cases hba : b = H.size
    · subst hba
      rw [updK_same] at hb
      cases hb
      exact hc
    · rw [updK_ne hba] at hb
      rw [hV b hba]
      exact (h.1 b kb hb).kept (oq b (h.1 b kb hb).lt)
  · by_cases hba : a = H.size
    · exact Or.inr (by omega)
    · rw [updK_ne hba] at ha
      exact h.2.2.1 a kk ha
theorem SG.call {D : va_G} {dA : Nat → ClassId} {K0 K : Kmap} {H0 H : Heap} {V : Vmap} {locs : List Loc} {K1 : Kmap} {V1 : Vmap} {t st₀ : State} {L : List Loc} (S : SG D dA K0 H0 K V H locs) (h0 : st₀.heap = H) (hR : Rep D dA K1 V1 t.heap) (hK : ext K K1) (hA : ∀ a k, K1 a = some k → AK K st₀.heap.size a) (hF : va_F (AK K st₀.heap.size) st₀ t) (hL : ∀ q ∈ L, AK K st₀.heap.size q.base) : SG D dA K0 H0 K1 V1 t.heap (locs ++ L) := by
  obtain ⟨hz, hk⟩ := hF
  rw [h0] at hA hz hk hL
  have hs := S.2.1.1
  have up : ∀ q, AK K H.size q → AK K0 H0.size q := fun q h => by
    rcases h with ⟨k, h⟩ | h
    · exact S.2.2.1 q k h
    · exact Or.inr (Nat.le_trans hs h)
  refine ⟨hR, ⟨Nat.le_trans hs hz, fun q h1 h2 => ?_, fun q hq => ?_⟩, fun a k h => up a (hA a k h), S.2.2.2.tr hK⟩
  · rw [hk q (Nat.lt_of_lt_of_le h1 hs) (fun z => h2 (up q z))]
    exact S.2.1.2.1 q h1 h2
  · rcases List.mem_append.mp hq with h | h
    · exact S.2.1.2.2 q h
    · exact up _ (hL q h)
def rowB : List Int32 := [-1, -1, 0, 1, 1, 1, 0, -1]
def colB : List Int32 := [0, 1, 1, 1, 0, -1, -1, -1]
/-- what stands outside: two rows of steps, the letters -/
def litB : List Int32 := [97, 112, 98, 104, 105, 114, 115, 110, 111, 116, 101, 100, 121, 109]
def SF (K : Kmap) (U : State) (H : Heap) : Prop := ∃ (t1 t2 : Nat) (adK adV : Nat → Nat), va_Z RX0 "ROW_STEPS" "[I" (.ref t1) (AK K H.size) U H ∧ va_T .int t1 8 (fun j => .int (rowB.getD j 0)) (AK K H.size) U H ∧ va_Z RX0 "COLUMN_STEPS" "[I" (.ref t2) (AK K H.size) U H ∧ va_T .int t2 8 (fun j => .int (colB.getD j 0)) (AK K H.size) U H ∧ va_Z "java/lang/String" "COMPACT_STRINGS" "Z" (.int 1) (AK K H.size) U H ∧ vk_S 1 [14] [litB] adK adV (AK K H.size) U H ∧ vk_R "IceTreaty$Scribe" 117 "apbhirsnotedym" (adK 0) U
theorem SF.moved {K : Kmap} {s U : State} {H : Heap} (h : SF K s H) (hW : s.WarmedH U.vm) : SF K U H := by
  obtain ⟨t1, t2, adK, adV, h1, h2, h3, h4, h5, h6, h7⟩ := h
  exact ⟨t1, t2, adK, adV, va_Z.moved hW.alike h1, va_T.moved hW.alike h2, va_Z.moved hW.alike h3, va_T.moved hW.alike h4, va_Z.moved hW.alike h5, vk_S.moved hW.alike h6, vk_R.warm hW h7⟩
theorem SF.next {D : va_G} {dA : Nat → ClassId} {K0 K : Kmap} {V : Vmap} {s : State} {H : Heap} {locs : List Loc} (h : SF K0 s s.heap) (S : SG D dA K0 s.heap K V H locs) : SF K s H := by
  obtain ⟨t1, t2, adK, adV, h1, h2, h3, h4, h5, h6, h7⟩ := h
  have hk := S.2.1.2.1
  have up : ∀ q, AK K H.size q → AK K0 s.heap.size q := fun q h => by
    rcases h with ⟨k, h⟩ | h
    · exact S.2.2.1 q k h
    · exact Or.inr (Nat.le_trans S.2.1.1 h)
  exact ⟨t1, t2, adK, adV, (h1.kept hk).narrow up, (h2.kept hk).narrow up, (h3.kept hk).narrow up, (h4.kept hk).narrow up, (h5.kept hk).narrow up, (h6.kept hk).narrow up, h7⟩
theorem SF.same {K : Kmap} {s U : State} {H : Heap} (h : SF K s H) (hv : s.vm = U.vm) : SF K U H := by
  obtain ⟨t1, t2, adK, adV, h1, h2, h3, h4, h5, h6, h7⟩ := h
  have ha : s.vm.Alike U.vm := by rw [← hv]; exact Vm.Alike.refl _
  exact ⟨t1, t2, adK, adV, va_Z.moved ha h1, va_T.moved ha h2, va_Z.moved ha h3, va_T.moved ha h4, va_Z.moved ha h5, vk_S.moved ha h6, vk_R.same hv.symm h7⟩
/-- a contract's start: as PC, with what stands outside -/
def PX (D : va_G) (dA : Nat → ClassId) (K : Kmap) (V : Vmap) (sz : Nat) (av : List Value) : Array Value → State → Prop := fun v U => PC D dA K V sz av v U ∧ SF K U U.heap
theorem PX.blind {D : va_G} {dA : Nat → ClassId} {K : Kmap} {V : Vmap} {sz : Nat} {av : List Value} : FrameBlind (PX D dA K V sz av) := fun a U g mk q => ⟨PC.blind a U g mk q.1, q.2.same rfl⟩
/-- what a method leaves: an answer and a memory -/
def HQ (D : va_G) (dA : Nat → ClassId) (K : Kmap) (V : Vmap) (ws : Nat) (Φ : Option Value → Kmap → Vmap → Prop) : Array Value → State → Outcome → State → Prop := fun _ st o t => (∃ (r : Option Value) (K1 : Kmap) (V1 : Vmap), o = .returned r ∧ Φ r K1 V1 ∧ WT K1 V1 ∧ FR ws K V K1 V1 ∧ Rep D dA K1 V1 t.heap ∧ ext K K1 ∧ (∀ a k, K1 a = some k → AK K st.heap.size a)) ∧ va_F (AK K st.heap.size) st t
/-- a contract of M, from the memory K, V and these values on -/
def MC (M : MRec) (K : Kmap) (V : Vmap) (av : List Value) (Φ : Option Value → Kmap → Vmap → Prop) : Prop := WT K V → ∀ (l : Launch) (D : va_G) (dA : Nat → ClassId) (sz : Nat), Met l (m_y M) (wsOf (m_y M) (m_cc M) (m_nL M) (m_rt M)) (m_rm M) (PX D dA K V sz av) (HQ D dA K V (m_ws M) Φ) (m_mc M) (m_ms M) (AK K sz)
/-- from here on the method M ends well -/
def GO (M : MRec) (K0 : Kmap) (V0 : Vmap) (Φ : Option Value → Kmap → Vmap → Prop) (K : Kmap) (V : Vmap) (cells slots pc : Nat) (ls : List (Option Value)) (st : List Value) : Prop :=
  ∀ (p : Program) (l : Launch) (e : Env) (s : State) (m : MethodId) (args : Array Value) (below : List Frame) (meth : Method) (c : Code) (D : va_G) (dA : Nat → ClassId) (H : Heap) (locs : List Loc) (lsA : Array Slot),
    CX p s m args meth c (m_cc M) (m_nL M) (m_rt M) (m_own M) D dA → meth.name = (m_y M).name → SG D dA K0 s.heap K V H locs → WT K V → FR (m_ws M) K0 V0 K V → SF K0 s s.heap → lvH lsA (m_nL M) ls →
    W p l e (m_rm M) s m args below meth c H locs cells slots (MQ below (HQ D dA K0 V0 (m_ws M) Φ) args s (m_mc M) (m_ms M) (AK K0 s.heap.size)) (F0 m pc lsA st)
section TH
variable {p : Program} {l : Launch} {e : Env} {R : Room} {s : State} {m : MethodId} {args : Array Value} {below : List Frame} {meth : Method} {c : Code} {H : Heap} {locs : List Loc} {cells slots : Nat} {Q : State → Prop}
variable {cc : ByteArray} {nL : Nat} {rt : Option FieldType} {own : String} {D : va_G} {dA : Nat → ClassId} {K0 K : Kmap} {H0 : Heap} {V : Vmap} {pc : Nat} {ls : Array Slot} {rest : List Value}
theorem sg_put (C : CX p s m args meth c cc nL rt own D dA) (S : SG D dA K0 H0 K V H locs) {a ci k index : Nat} {v : Value} {ty : FieldType} (ha : K a = some (0, ci)) (hf : FP own index ci k ty false) (hn : narrow ty v = v) (hfit : fits ty v = true) (hdg : decode cc pc = .ok (.putfield index, 3))
    (kk : ∀ (V1 : Vmap) (H1 : Heap) (locs1 : List Loc), V1 = upd2 V a k v → SG D dA K0 H0 K V1 H1 locs1 → W p l e R s m args below meth c H1 locs1 cells slots Q (F0 m (pc + 3) ls rest)) : W p l e R s m args below meth c H locs cells slots Q (F0 m pc ls (v :: .ref a :: rest)) := by
  obtain ⟨hx, hb, -, -, -, hown, hts, hKN⟩ := C
  obtain ⟨T, ty0, hc, hk, hin, hlink, hty, hnm, hfin, hd, -⟩ := hf
  have hap := va_apart (own := own) hts hin ty0 hty hnm hKN.1 hc
  obtain ⟨r, h1, cell, q1, q2, q3, q4⟩ := S.1 a _ ha
  have hr : r = T := Option.some.inj (h1.symm.trans hc)
  subst hr
  obtain ⟨hS, hfc, kC, hkC, hkind⟩ := hKN.1.1 ci _ hc
  obtain ⟨cf, kf, fi, f, hi, hsl⟩ := hS k hk
  have hlay := hts _ (hin _ (u_in_lay hk))
  unfold u_lay at hlay
  rw [if_neg (by rw [hfin]; decide)] at hlay
  have hst := (u_facts hfc hkC (u_lays hts hin hk) hi).1
  have h6 := u_store hfc hkC hkind hlay hi hd hn hfit
  refine W.putK hx hb (f := f) ⟨hown, hts _ hlink, ⟨_, _, _, hi⟩, hst⟩ (by rw [q2]; exact h6) q1 q3 (by rw [hsl]; exact k2_hasslot (q4 k hk)) rfl rfl hdg fun H' e1 e2 e3 => ?_
  rw [hsl] at e1 ⊢
  refine kk _ H' _ rfl (S.put ha ⟨_, hc, ?_⟩ (fun b hb => upd2_other hb) e2 e3)
  exact t_OB.to (V := updV (V a) k v) ⟨_, e1, q2, q3, t_set q4 hap hk v⟩ (fun j _ => by rw [upd2_row])
theorem sg_putF (C : CX p s m args meth c cc nL rt own D dA) (S : SG D dA K0 H0 K V H locs) (hin2 : meth.name = "<init>") {a ci k index : Nat} {v : Value} {ty : FieldType} (ha : K a = some (0, ci)) (hf : FP own index ci k ty true) (hn : narrow ty v = v) (hfit : fits ty v = true) (hdg : decode cc pc = .ok (.putfield index, 3))
    (kk : ∀ (V1 : Vmap) (H1 : Heap) (locs1 : List Loc), V1 = upd2 V a k v → SG D dA K0 H0 K V1 H1 locs1 → W p l e R s m args below meth c H1 locs1 cells slots Q (F0 m (pc + 3) ls rest)) : W p l e R s m args below meth c H locs cells slots Q (F0 m pc ls (v :: .ref a :: rest)) := by
  obtain ⟨hx, hb, -, -, -, hown, hts, hKN⟩ := C
  obtain ⟨T, ty0, hc, hk, hin, hlink, hty, hnm, hfin, hd, hdecl⟩ := hf
  have hap := va_apart (own := own) hts hin ty0 hty hnm hKN.1 hc
  obtain ⟨r, h1, cell, q1, q2, q3, q4⟩ := S.1 a _ ha
  have hr : r = T := Option.some.inj (h1.symm.trans hc)
  subst hr
  obtain ⟨hS, hfc, kC, hkC, hkind⟩ := hKN.1.1 ci _ hc
  obtain ⟨cf, kf, fi, f, hi, hsl⟩ := hS k hk
  have hlay := hts _ (hin _ (u_in_lay hk))
  unfold u_lay at hlay
  rw [if_pos hfin] at hlay
  have hst := (u_facts hfc hkC (u_lays hts hin hk) hi).1
  have hcf : m.cls = cf := by
    obtain ⟨_, _, c', _, _, _, -, -, hf', -, -, -, hown2, -⟩ := Cond.laysFinal_spec hlay
    have e1 : c' = cf := by have := hi.symm.trans hf'; simp at this; exact this.1.symm
    rw [hdecl rfl] at hown2
    rw [← e1]; exact Option.some.inj (hown.symm.trans hown2)
  have h6 := u_fits hfc hkC hkind (Or.inr hlay) hi hd hn hfit
  refine W.putFinK hx hb hown (hts _ hlink) hi hst hcf hin2 (by rw [q2]; exact h6) q1 q3 (by rw [hsl]; exact k2_hasslot (q4 k hk)) rfl rfl hdg fun H' e1 e2 e3 => ?_
  rw [hsl] at e1 ⊢
  refine kk _ H' _ rfl (S.put ha ⟨_, hc, ?_⟩ (fun b hb => upd2_other hb) e2 e3)
  exact t_OB.to (V := updV (V a) k v) ⟨_, e1, q2, q3, t_set q4 hap hk v⟩ (fun j _ => by rw [upd2_row])
theorem sg_new (C : CX p s m args meth c cc nL rt own D dA) (S : SG D dA K0 H0 K V H locs) {ci index : Nat} (T : vw_C) (ty : Nat → FieldType) (hc : TCl[ci]? = some T) (hin : ∀ w ∈ u_ws T.1 T.2.1 T.2.2, w ∈ gw) (hty : ∀ k, k < T.2.2 → parseFieldDescriptor (T.2.1 k).2.2.1 = some (ty k)) (hw1 : Cond.classLink own index T.1 ∈ gw) (hw2 : Cond.instantiable T.1 T.2.2 ∈ gw) (hw3 : Cond.initialized T.1 ∈ gw) (hcells : cells + 1 ≤ R.cells) (hslots : slots + T.2.2 ≤ R.slots) (hdg : decode cc pc = .ok (.new index, 3))
    (kk : ∀ (q : Nat) (K1 : Kmap) (V1 : Vmap) (H1 : Heap), K q = none → K1 = updK K q (0, ci) → (∀ j, V1 q j = defaultValue (ty j)) → (∀ b, b ≠ q → V1 b = V b) → SG D dA K0 H0 K1 V1 H1 locs →
      W p l e R s m args below meth c H1 locs (cells + 1) (slots + T.2.2) Q (F0 m (pc + 3) ls (.ref q :: rest))) : W p l e R s m args below meth c H locs cells slots Q (F0 m pc ls rest) := by
  obtain ⟨hx, hb, -, -, -, hown, hts, hKN⟩ := C
  have hKn := hKN.1.1 ci _ hc
  refine W.newcK hx hb hown (hts _ hw1) (hts _ hw2) (hts _ hw3) rfl hdg hcells hslots hKn.2.1 rfl fun H1 kC hkC e1 z1 o1 => ?_
  refine kk H.size _ (fun b j => if b = H.size then defaultValue (ty j) else V b j) H1 (S.1.fresh (Nat.le_refl _)) rfl (fun j => by simp) (fun b hb => by funext j; simp [hb]) (S.push ?_ (fun b hb => by funext j; simp [hb]) z1 o1)
  refine ⟨T, hc, (u_born ty hts hin hKn hkC e1 hty).to fun j hj => ?_⟩
  simp
theorem sg_newa (C : CX p s m args meth c cc nL rt own D dA) (S : SG D dA K0 H0 K V H locs) {atype : ArrayType} (t : Nat) (ht : t < NT) (hty : tyOf t = newarray.typeOf atype) (hw : Cond.arrayClass (newarray.typeOf atype) ∈ gw) (hnr : ∀ U cA, va_RA U cA (newarray.typeOf atype) → U.vm.findClass ("[" ++ (newarray.typeOf atype).toString) = some cA)
    {n : Int32} {N : Nat} (hN : n.toInt = N) (hbytes : N * componentBytes (newarray.typeOf atype) ≤ 536870912) (hcells : cells + 1 ≤ R.cells) (hslots : slots + N ≤ R.slots) (hdg : decode cc pc = .ok (.newarray atype, 2))
    (kk : ∀ (q : Nat) (K1 : Kmap) (V1 : Vmap) (H1 : Heap), K q = none → K1 = updK K q (t + 1, N) → (∀ j, V1 q j = defaultValue (newarray.typeOf atype)) → (∀ b, b ≠ q → V1 b = V b) → SG D dA K0 H0 K1 V1 H1 locs →
      W p l e R s m args below meth c H1 locs (cells + 1) (slots + N) Q (F0 m (pc + 2) ls (.ref q :: rest))) : W p l e R s m args below meth c H locs cells slots Q (F0 m pc ls (.int n :: rest)) := by
  obtain ⟨hx, hb, -, -, -, hown, hts, hKN⟩ := C
  have hn : ¬ n < 0 := by rw [Int32.lt_iff_toInt_lt, Int32.toInt_zero]; omega
  have hN' : n.toNatClampNeg = N := by show n.toInt.toNat = N; omega
  refine va_newaK hx hb (hts _ hw) rfl hdg rfl hn hN' hbytes hcells hslots rfl fun H1 cA e1 z1 o1 hAr hNm => ?_
  have h9 := (hKN.2.2.1 t ht).2
  rw [hty] at h9
  have hcA : cA = dA (bt t) := Option.some.inj (hNm.symm.trans (hnr _ _ h9))
  subst hcA
  refine kk H.size _ (fun b j => if b = H.size then defaultValue (newarray.typeOf atype) else V b j) H1 (S.1.fresh (Nat.le_refl _)) rfl (fun j => by simp) (fun b hb => by funext j; simp [hb]) (S.push ?_ (fun b hb => by funext j; simp [hb]) z1 o1)
  show H1[H.size]? = some (arrV (dA (bt t)) N _)
  rw [e1]
  congr 2
  funext j
  simp
theorem sg_newq (C : CX p s m args meth c cc nL rt own D dA) (S : SG D dA K0 H0 K V H locs) {Cn : String} {index : Nat} (t : Nat) (ht : t < NT) (hty : tyOf t = .object Cn) (hw1 : Cond.classLink own index Cn ∈ gw) (hw : Cn ∈ aoC)
    {n : Int32} {N : Nat} (hN : n.toInt = N) (hbytes : N * 4 ≤ 536870912) (hcells : cells + 1 ≤ R.cells) (hslots : slots + N ≤ R.slots) (hdg : decode cc pc = .ok (.anewarray index, 3))
    (kk : ∀ (q : Nat) (K1 : Kmap) (V1 : Vmap) (H1 : Heap), K q = none → K1 = updK K q (t + 1, N) → (∀ j, V1 q j = .null) → (∀ b, b ≠ q → V1 b = V b) → SG D dA K0 H0 K1 V1 H1 locs →
      W p l e R s m args below meth c H1 locs (cells + 1) (slots + N) Q (F0 m (pc + 3) ls (.ref q :: rest))) : W p l e R s m args below meth c H locs cells slots Q (F0 m pc ls (.int n :: rest)) := by
  obtain ⟨hx, hb, -, -, -, hown, hts, hKN⟩ := C
  have hn : ¬ n < 0 := by rw [Int32.lt_iff_toInt_lt, Int32.toInt_zero]; omega
  have hN' : n.toNatClampNeg = N := by show n.toInt.toNat = N; omega
  subst hN'
  refine W.anew hx hb hown (hts _ hw1) (va_AO.use (hKN.2.2.2.1 _ hw)) rfl hdg rfl hn hbytes hcells hslots fun cA kA comp f1 f2 f3 f4 => ?_
  have h9 := (hKN.2.2.1 t ht).2
  rw [hty] at h9
  obtain ⟨kA', comp', g1, g2, g3, g4⟩ := h9
  have hcA : cA = dA (bt t) := Option.some.inj (f1.symm.trans g4)
  subst hcA
  refine kk H.size _ (fun b j => if b = H.size then .null else V b j) _ (S.1.fresh (Nat.le_refl _)) rfl (fun j => by simp) (fun b hb => by funext j; simp [hb]) (S.push (H1 := H.push _) ?_ (fun b hb => by funext j; simp [hb]) (by simp) (fun q hq => by rw [Array.getElem?_push, if_neg (Nat.ne_of_lt hq)]))
  show (H.push _)[H.size]? = some (arrV (dA (bt t)) _ _)
  rw [Array.getElem?_push_size, arrV_new]
  congr 2
  funext j
  simp
theorem sg_iast (C : CX p s m args meth c cc nL rt own D dA) (S : SG D dA K0 H0 K V H locs) {a n : Nat} {i x : Int32} (ha : K a = some (1, n)) (h0 : 0 ≤ i.toInt) (h1 : i.toInt < n) (hdg : decode cc pc = .ok (.iastore, 1))
    (kk : ∀ (V1 : Vmap) (H1 : Heap) (locs1 : List Loc), V1 = upd2 V a i.toInt.toNat (.int x) → SG D dA K0 H0 K V1 H1 locs1 → W p l e R s m args below meth c H1 locs1 cells slots Q (F0 m (pc + 1) ls rest)) : W p l e R s m args below meth c H locs cells slots Q (F0 m pc ls (.int x :: .int i :: .ref a :: rest)) := by
  obtain ⟨hx, hb, -, -, -, hown, hts, hKN⟩ := C
  refine W.iast hx hb (S.1 a _ ha) ((hKN.2.2.1 0 (by decide)).1 n (V a)) (fun q => by cases q) (by rw [arrV_size]; exact th_hin h0 h1) rfl rfl hdg fun H1 e z oq => ?_
  refine kk _ H1 _ rfl (S.put ha ?_ (fun b hb => upd2_other hb) z oq)
  show H1[a]? = some (arrV (dA 0) n (upd2 V a _ _ a))
  rw [e, arrV_store, upd2_row]
  rfl
theorem sg_bast (C : CX p s m args meth c cc nL rt own D dA) (S : SG D dA K0 H0 K V H locs) {a n : Nat} {i x : Int32} (ha : K a = some (3, n)) (h0 : 0 ≤ i.toInt) (h1 : i.toInt < n) (hdg : decode cc pc = .ok (.bastore, 1))
    (kk : ∀ (V1 : Vmap) (H1 : Heap) (locs1 : List Loc), V1 = upd2 V a i.toInt.toNat (.int x.toInt8.toInt32) → SG D dA K0 H0 K V1 H1 locs1 → W p l e R s m args below meth c H1 locs1 cells slots Q (F0 m (pc + 1) ls rest)) : W p l e R s m args below meth c H locs cells slots Q (F0 m pc ls (.int x :: .int i :: .ref a :: rest)) := by
  obtain ⟨hx, hb, -, -, -, hown, hts, hKN⟩ := C
  refine W.bast hx hb (S.1 a _ ha) ((hKN.2.2.1 2 (by decide)).1 n (V a)) (fun q => by cases q) (by rw [arrV_size]; exact th_hin h0 h1) rfl rfl hdg fun H1 e z oq => ?_
  refine kk _ H1 _ rfl (S.put ha ?_ (fun b hb => upd2_other hb) z oq)
  show H1[a]? = some (arrV (dA 2) n (upd2 V a _ _ a))
  rw [e, arrV_store, upd2_row]
  rfl
theorem sg_aast (C : CX p s m args meth c cc nL rt own D dA) (S : SG D dA K0 H0 K V H locs) {a t ci n v : Nat} {i : Int32} (ht : t < NT) (T : vw_C) (hc : TCl[ci]? = some T) (hty : tyOf t = .object T.1) (ha : K a = some (t + 1, n)) (hv : K v = some (0, ci)) (h0 : 0 ≤ i.toInt) (h1 : i.toInt < n) (hdg : decode cc pc = .ok (.aastore, 1))
    (kk : ∀ (V1 : Vmap) (H1 : Heap) (locs1 : List Loc), V1 = upd2 V a i.toInt.toNat (.ref v) → SG D dA K0 H0 K V1 H1 locs1 → W p l e R s m args below meth c H1 locs1 cells slots Q (F0 m (pc + 1) ls rest)) : W p l e R s m args below meth c H locs cells slots Q (F0 m pc ls (.ref v :: .int i :: .ref a :: rest)) := by
  obtain ⟨hx, hb, -, -, -, hown, hts, hKN⟩ := C
  obtain ⟨r', hr', cellV, g1, g2, g3, -⟩ := S.1 v _ hv
  have hcls := (hKN.1.1 ci T hc).2
  have h9 := (hKN.2.2.1 t ht).2
  rw [hty] at h9
  obtain ⟨kA, comp, k1, k2, k3, -⟩ := h9
  have hcomp : comp = D.1 ci := Option.some.inj (k3.symm.trans hcls.1)
  subst hcomp
  obtain ⟨kC, hkC, -⟩ := hcls.2
  have hlt : i.toNatClampNeg < n := by show i.toInt.toNat < n; omega
  have h00 : ¬ i < 0 := by rw [Int32.lt_iff_toInt_lt, Int32.toInt_zero]; omega
  refine W.aast hx hb (S.1 a _ ha) (fun q h => by cases h) (fun h => by cases h) k1 k2 rfl hkC ⟨h00, by rw [arrV_size]; exact hlt⟩ g1 (fun q h => by rw [g3] at h; cases h) (by rw [g2]; exact hkC) (by rw [g2]; exact va_assign hcls) rfl rfl hdg fun H1 e z oq => ?_
  refine kk _ H1 _ rfl (S.put ha ?_ (fun b hb => upd2_other hb) z oq)
  show H1[a]? = some (arrV (dA (bt t)) n (upd2 V a _ _ a))
  rw [e, arrV_store, upd2_row]
  rfl

end TH
theorem of_mem {l : List (Nat × Value)} {q : Nat × Value} (h : q ∈ l) : ∃ k : Nat, l[k]? = some q := List.mem_iff_getElem?.mp h
section GOR
variable {M : MRec} {K0 : Kmap} {V0 : Vmap} {Φ : Option Value → Kmap → Vmap → Prop} {K : Kmap} {V : Vmap} {cells slots pc : Nat} {ls : List (Option Value)} {st : List Value}
/-! loads and stores -/
theorem GO.iload_n {k : Fin 4} {i : Nat} {X : Int} (d : Dc M pc (.iload_n k) 1) (hi : (k : Nat) = i) (hl : ls[i]? = some (some (ti X))) (kk : GO M K0 V0 Φ K V cells slots (pc + 1) ls (ti X :: st)) : GO M K0 V0 Φ K V cells slots pc ls st := fun p l e s m args below meth c D dA H locs lsA C hn S hW hF hS hL => lv_iload_n C.1 C.2.1 d hi (hL.at hl) (kk p l e s m args below meth c D dA H locs lsA C hn S hW hF hS hL)
theorem GO.iload {i : Nat} {X : Int} (d : Dc M pc (.iload i) 2) (hl : ls[i]? = some (some (ti X))) (kk : GO M K0 V0 Φ K V cells slots (pc + 2) ls (ti X :: st)) : GO M K0 V0 Φ K V cells slots pc ls st := fun p l e s m args below meth c D dA H locs lsA C hn S hW hF hS hL => lv_iload C.1 C.2.1 d (hL.at hl) (kk p l e s m args below meth c D dA H locs lsA C hn S hW hF hS hL)
theorem GO.lload_n {k : Fin 4} {i : Nat} {X : Int64} (d : Dc M pc (.lload_n k) 1) (hi : (k : Nat) = i) (hl : ls[i]? = some (some (.long X))) (kk : GO M K0 V0 Φ K V cells slots (pc + 1) ls (.long X :: st)) : GO M K0 V0 Φ K V cells slots pc ls st := fun p l e s m args below meth c D dA H locs lsA C hn S hW hF hS hL => lv_lload_n C.1 C.2.1 d hi (hL.at hl) (kk p l e s m args below meth c D dA H locs lsA C hn S hW hF hS hL)
theorem GO.aload_n {k : Fin 4} {i a : Nat} (d : Dc M pc (.aload_n k) 1) (hi : (k : Nat) = i) (hl : ls[i]? = some (some (.ref a))) (kk : GO M K0 V0 Φ K V cells slots (pc + 1) ls (.ref a :: st)) : GO M K0 V0 Φ K V cells slots pc ls st := fun p l e s m args below meth c D dA H locs lsA C hn S hW hF hS hL => lv_aload_n C.1 C.2.1 d hi (hL.at hl) (kk p l e s m args below meth c D dA H locs lsA C hn S hW hF hS hL)
theorem GO.aload_nN {k : Fin 4} {i : Nat} (d : Dc M pc (.aload_n k) 1) (hi : (k : Nat) = i) (hl : ls[i]? = some (some .null)) (kk : GO M K0 V0 Φ K V cells slots (pc + 1) ls (.null :: st)) : GO M K0 V0 Φ K V cells slots pc ls st := fun p l e s m args below meth c D dA H locs lsA C hn S hW hF hS hL => lv_aload_nN C.1 C.2.1 d hi (hL.at hl) (kk p l e s m args below meth c D dA H locs lsA C hn S hW hF hS hL)
theorem GO.aload {i a : Nat} (d : Dc M pc (.aload i) 2) (hl : ls[i]? = some (some (.ref a))) (kk : GO M K0 V0 Φ K V cells slots (pc + 2) ls (.ref a :: st)) : GO M K0 V0 Φ K V cells slots pc ls st := fun p l e s m args below meth c D dA H locs lsA C hn S hW hF hS hL => lv_aload C.1 C.2.1 d (hL.at hl) (kk p l e s m args below meth c D dA H locs lsA C hn S hW hF hS hL)
theorem GO.aloadN {i : Nat} (d : Dc M pc (.aload i) 2) (hl : ls[i]? = some (some .null)) (kk : GO M K0 V0 Φ K V cells slots (pc + 2) ls (.null :: st)) : GO M K0 V0 Φ K V cells slots pc ls st := fun p l e s m args below meth c D dA H locs lsA C hn S hW hF hS hL => lv_aloadN C.1 C.2.1 d (hL.at hl) (kk p l e s m args below meth c D dA H locs lsA C hn S hW hF hS hL)
theorem GO.istore_n {k : Fin 4} {i : Nat} {X : Int} {ls1 : List (Option Value)} (d : Dc M pc (.istore_n k) 1) (hi : (k : Nat) = i) (hn : Nat.ble (i + 1) (m_nL M) = true) (hl : setL ls i (some (ti X)) = ls1) (kk : GO M K0 V0 Φ K V cells slots (pc + 1) ls1 st) : GO M K0 V0 Φ K V cells slots pc ls (ti X :: st) := fun p l e s m args below meth c D dA H locs lsA C hn1 S hW hF hS hL => lv_istore_n C.1 C.2.1 d hi hL (Nat.le_of_ble_eq_true hn) rfl (fun ls' h' => kk p l e s m args below meth c D dA H locs ls' C hn1 S hW hF hS (hl ▸ lvH.store h'))
theorem GO.istore {i : Nat} {X : Int} {ls1 : List (Option Value)} (d : Dc M pc (.istore i) 2) (hn : Nat.ble (i + 1) (m_nL M) = true) (hl : setL ls i (some (ti X)) = ls1) (kk : GO M K0 V0 Φ K V cells slots (pc + 2) ls1 st) : GO M K0 V0 Φ K V cells slots pc ls (ti X :: st) := fun p l e s m args below meth c D dA H locs lsA C hn1 S hW hF hS hL => lv_istore C.1 C.2.1 d hL (Nat.le_of_ble_eq_true hn) rfl (fun ls' h' => kk p l e s m args below meth c D dA H locs ls' C hn1 S hW hF hS (hl ▸ lvH.store h'))
theorem GO.astore_n {k : Fin 4} {i a : Nat} {ls1 : List (Option Value)} (d : Dc M pc (.astore_n k) 1) (hi : (k : Nat) = i) (hn : Nat.ble (i + 1) (m_nL M) = true) (hl : setL ls i (some (.ref a)) = ls1) (kk : GO M K0 V0 Φ K V cells slots (pc + 1) ls1 st) : GO M K0 V0 Φ K V cells slots pc ls (.ref a :: st) := fun p l e s m args below meth c D dA H locs lsA C hn1 S hW hF hS hL => lv_astore_n C.1 C.2.1 d hi hL (Nat.le_of_ble_eq_true hn) rfl (fun ls' h' => kk p l e s m args below meth c D dA H locs ls' C hn1 S hW hF hS (hl ▸ lvH.store h'))
theorem GO.astore {i a : Nat} {ls1 : List (Option Value)} (d : Dc M pc (.astore i) 2) (hn : Nat.ble (i + 1) (m_nL M) = true) (hl : setL ls i (some (.ref a)) = ls1) (kk : GO M K0 V0 Φ K V cells slots (pc + 2) ls1 st) : GO M K0 V0 Φ K V cells slots pc ls (.ref a :: st) := fun p l e s m args below meth c D dA H locs lsA C hn1 S hW hF hS hL => lv_astore C.1 C.2.1 d hL (Nat.le_of_ble_eq_true hn) rfl (fun ls' h' => kk p l e s m args below meth c D dA H locs ls' C hn1 S hW hF hS (hl ▸ lvH.store h'))
theorem GO.astore_nN {k : Fin 4} {i : Nat} {ls1 : List (Option Value)} (d : Dc M pc (.astore_n k) 1) (hi : (k : Nat) = i) (hn : Nat.ble (i + 1) (m_nL M) = true) (hl : setL ls i (some .null) = ls1) (kk : GO M K0 V0 Φ K V cells slots (pc + 1) ls1 st) : GO M K0 V0 Φ K V cells slots pc ls (.null :: st) := fun p l e s m args below meth c D dA H locs lsA C hn1 S hW hF hS hL => lv_astore_nN C.1 C.2.1 d hi hL (Nat.le_of_ble_eq_true hn) rfl (fun ls' h' => kk p l e s m args below meth c D dA H locs ls' C hn1 S hW hF hS (hl ▸ lvH.store h'))
theorem GO.astoreN {i : Nat} {ls1 : List (Option Value)} (d : Dc M pc (.astore i) 2) (hn : Nat.ble (i + 1) (m_nL M) = true) (hl : setL ls i (some .null) = ls1) (kk : GO M K0 V0 Φ K V cells slots (pc + 2) ls1 st) : GO M K0 V0 Φ K V cells slots pc ls (.null :: st) := fun p l e s m args below meth c D dA H locs lsA C hn1 S hW hF hS hL => lv_astoreN C.1 C.2.1 d hL (Nat.le_of_ble_eq_true hn) rfl (fun ls' h' => kk p l e s m args below meth c D dA H locs ls' C hn1 S hW hF hS (hl ▸ lvH.store h'))
theorem GO.iinc {i : Nat} {n X Y : Int} {ls1 : List (Option Value)} (d : Dc M pc (.iinc i n) 3) (hl : ls[i]? = some (some (ti X))) (hn : Nat.ble (i + 1) (m_nL M) = true) (hY : X + n = Y) (h1 : setL ls i (some (ti Y)) = ls1) (kk : GO M K0 V0 Φ K V cells slots (pc + 3) ls1 st) : GO M K0 V0 Φ K V cells slots pc ls st := fun p l e s m args below meth c D dA H locs lsA C hn1 S hW hF hS hL => by
  obtain ⟨k, hk⟩ := of_mem (enumL_mem.mpr hl)
  exact lv_iinc C.1 C.2.1 d hL hk (by rw [← Int32.ofInt_add, hY]) (Nat.le_of_ble_eq_true hn) rfl (fun ls' h' => kk p l e s m args below meth c D dA H locs ls' C hn1 S hW hF hS (h1 ▸ lvH.store h'))
/-! constants -/
theorem GO.iconst {n : Int} (d : Dc M pc (.iconst n) 1) (kk : GO M K0 V0 Φ K V cells slots (pc + 1) ls (ti n :: st)) : GO M K0 V0 Φ K V cells slots pc ls st := fun p l e s m args below meth c D dA H locs lsA C hn S hW hF hS hL => lv_iconst C.1 C.2.1 d rfl (kk p l e s m args below meth c D dA H locs lsA C hn S hW hF hS hL)
theorem GO.bipush {n : Int} (d : Dc M pc (.bipush n) 2) (hv : (Int8.ofInt n).toInt32 = Int32.ofInt n) (kk : GO M K0 V0 Φ K V cells slots (pc + 2) ls (ti n :: st)) : GO M K0 V0 Φ K V cells slots pc ls st := fun p l e s m args below meth c D dA H locs lsA C hn S hW hF hS hL => lv_bipush C.1 C.2.1 d hv (kk p l e s m args below meth c D dA H locs lsA C hn S hW hF hS hL)
theorem GO.sipush {n : Int} (d : Dc M pc (.sipush n) 3) (hv : (Int16.ofInt n).toInt32 = Int32.ofInt n) (kk : GO M K0 V0 Φ K V cells slots (pc + 3) ls (ti n :: st)) : GO M K0 V0 Φ K V cells slots pc ls st := fun p l e s m args below meth c D dA H locs lsA C hn S hW hF hS hL => lv_sipush C.1 C.2.1 d hv (kk p l e s m args below meth c D dA H locs lsA C hn S hW hF hS hL)
theorem GO.ldc {index : Nat} {v : Int32} {X : Int} (d : Dc M pc (.ldc index) 2) (hw : Cond.constant (m_own M) index v ∈ gw) (hv : v = Int32.ofInt X) (kk : GO M K0 V0 Φ K V cells slots (pc + 2) ls (ti X :: st)) : GO M K0 V0 Φ K V cells slots pc ls st := fun p l e s m args below meth c D dA H locs lsA C hn S hW hF hS hL => by
  subst hv
  exact lv_ldc C.1 C.2.1 C.2.2.2.2.2.1 (C.2.2.2.2.2.2.1 _ hw) d (kk p l e s m args below meth c D dA H locs lsA C hn S hW hF hS hL)
theorem GO.ldcw {index : Nat} {v : Int32} {X : Int} (d : Dc M pc (.ldc_w index) 3) (hw : Cond.constant (m_own M) index v ∈ gw) (hv : v = Int32.ofInt X) (kk : GO M K0 V0 Φ K V cells slots (pc + 3) ls (ti X :: st)) : GO M K0 V0 Φ K V cells slots pc ls st := fun p l e s m args below meth c D dA H locs lsA C hn S hW hF hS hL => by
  subst hv
  exact lv_ldcw C.1 C.2.1 C.2.2.2.2.2.1 (C.2.2.2.2.2.2.1 _ hw) d (kk p l e s m args below meth c D dA H locs lsA C hn S hW hF hS hL)
theorem GO.ldc2 {index : Nat} {v : Int64} (d : Dc M pc (.ldc2_w index) 3) (hw : Cond.constantLong (m_own M) index v ∈ gw) (kk : GO M K0 V0 Φ K V cells slots (pc + 3) ls (.long v :: st)) : GO M K0 V0 Φ K V cells slots pc ls st := fun p l e s m args below meth c D dA H locs lsA C hn S hW hF hS hL => lv_ldc2 C.1 C.2.1 C.2.2.2.2.2.1 (C.2.2.2.2.2.2.1 _ hw) d (kk p l e s m args below meth c D dA H locs lsA C hn S hW hF hS hL)
theorem GO.null (d : Dc M pc .aconst_null 1) (kk : GO M K0 V0 Φ K V cells slots (pc + 1) ls (.null :: st)) : GO M K0 V0 Φ K V cells slots pc ls st := fun p l e s m args below meth c D dA H locs lsA C hn S hW hF hS hL => lv_null C.1 C.2.1 d (kk p l e s m args below meth c D dA H locs lsA C hn S hW hF hS hL)
theorem GO.lconst {n : Fin 2} {v : Int64} (d : Dc M pc (.lconst n) 1) (hv : Int64.ofNat (n : Nat) = v) (kk : GO M K0 V0 Φ K V cells slots (pc + 1) ls (.long v :: st)) : GO M K0 V0 Φ K V cells slots pc ls st := fun p l e s m args below meth c D dA H locs lsA C hn S hW hF hS hL => lv_lconst C.1 C.2.1 d hv (kk p l e s m args below meth c D dA H locs lsA C hn S hW hF hS hL)
/-! arithmetic -/
theorem GO.iadd {X Y : Int} (d : Dc M pc .iadd 1) (kk : GO M K0 V0 Φ K V cells slots (pc + 1) ls (ti (X + Y) :: st)) : GO M K0 V0 Φ K V cells slots pc ls (ti Y :: ti X :: st) := fun p l e s m args below meth c D dA H locs lsA C hn S hW hF hS hL => lv_iadd C.1 C.2.1 d (by have h := kk p l e s m args below meth c D dA H locs lsA C hn S hW hF hS hL; rwa [ti, Int32.ofInt_add] at h)
theorem GO.isub {X Y : Int} (d : Dc M pc .isub 1) (kk : GO M K0 V0 Φ K V cells slots (pc + 1) ls (ti (X - Y) :: st)) : GO M K0 V0 Φ K V cells slots pc ls (ti Y :: ti X :: st) := fun p l e s m args below meth c D dA H locs lsA C hn S hW hF hS hL => lv_isub C.1 C.2.1 d (by have h := kk p l e s m args below meth c D dA H locs lsA C hn S hW hF hS hL; rwa [ti, Int32.ofInt_sub] at h)
theorem GO.imul {X Y : Int} (d : Dc M pc .imul 1) (kk : GO M K0 V0 Φ K V cells slots (pc + 1) ls (ti (X * Y) :: st)) : GO M K0 V0 Φ K V cells slots pc ls (ti Y :: ti X :: st) := fun p l e s m args below meth c D dA H locs lsA C hn S hW hF hS hL => lv_imul C.1 C.2.1 d (by have h := kk p l e s m args below meth c D dA H locs lsA C hn S hW hF hS hL; rwa [ti, Int32.ofInt_mul] at h)
theorem GO.ineg {X : Int} (d : Dc M pc .ineg 1) (kk : GO M K0 V0 Φ K V cells slots (pc + 1) ls (ti (-X) :: st)) : GO M K0 V0 Φ K V cells slots pc ls (ti X :: st) := fun p l e s m args below meth c D dA H locs lsA C hn S hW hF hS hL => lv_ineg C.1 C.2.1 d (by have h := kk p l e s m args below meth c D dA H locs lsA C hn S hW hF hS hL; rwa [ti, Int32.ofInt_neg] at h)
theorem of_ne0 {Y : Int} (h : ir Y) (h0 : Y ≠ 0) : ¬ Int32.ofInt Y = 0 := fun e => h0 (by rw [← ti_int h, e]; rfl)
/-- by a number above 0, of one that isn't below it -/
theorem GO.idivP {X Y : Int} (d : Dc M pc .idiv 1) (hX : ir X) (hY : ir Y) (h0 : 0 ≤ X) (h1 : 0 < Y) (kk : GO M K0 V0 Φ K V cells slots (pc + 1) ls (ti (X / Y) :: st)) : GO M K0 V0 Φ K V cells slots pc ls (ti Y :: ti X :: st) := fun p l e s m args below meth c D dA H locs lsA C hn S hW hF hS hL => by
  have h := kk p l e s m args below meth c D dA H locs lsA C hn S hW hF hS hL
  have e1 := th_div (ti_int hX) (ti_int hY) h0 h1
  rw [← e1, ← ti_of] at h
  exact lv_idiv C.1 C.2.1 d (of_ne0 hY (by omega)) h
theorem GO.iremP {X Y : Int} (d : Dc M pc .irem 1) (hX : ir X) (hY : ir Y) (h0 : 0 ≤ X) (h1 : 0 < Y) (kk : GO M K0 V0 Φ K V cells slots (pc + 1) ls (ti (X % Y) :: st)) : GO M K0 V0 Φ K V cells slots pc ls (ti Y :: ti X :: st) := fun p l e s m args below meth c D dA H locs lsA C hn S hW hF hS hL => by
  have h := kk p l e s m args below meth c D dA H locs lsA C hn S hW hF hS hL
  have e1 := th_rem (ti_int hX) (ti_int hY) h0 h1
  rw [← e1, ← ti_of] at h
  exact lv_irem C.1 C.2.1 d (of_ne0 hY (by omega)) h
def wdiv (X Y : Int) : Int := (Int32.ofInt X / Int32.ofInt Y).toInt
def wrem (X Y : Int) : Int := (Int32.ofInt X - Int32.ofInt X / Int32.ofInt Y * Int32.ofInt Y).toInt
def wand (X Y : Int) : Int := (Int32.ofInt X &&& Int32.ofInt Y).toInt
def wor (X Y : Int) : Int := (Int32.ofInt X ||| Int32.ofInt Y).toInt
def wxor (X Y : Int) : Int := (Int32.ofInt X ^^^ Int32.ofInt Y).toInt
def wshl (X Y : Int) : Int := (Int32.ofInt X <<< (Int32.ofInt Y &&& 31)).toInt
def wshr (X Y : Int) : Int := (Int32.ofInt X >>> (Int32.ofInt Y &&& 31)).toInt
def wushr (X Y : Int) : Int := ((Int32.ofInt X).toUInt32 >>> ((Int32.ofInt Y).toUInt32 &&& Int32.toUInt32 31)).toInt32.toInt
def wi2b (X : Int) : Int := ((Int32.ofInt X).toInt8.toInt32).toInt
def wi2c (X : Int) : Int := ((Int32.ofInt X).toUInt32 % 65536).toInt32.toInt
theorem GO.idiv {X Y : Int} (d : Dc M pc .idiv 1) (hY : ir Y) (h1 : Y ≠ 0) (kk : GO M K0 V0 Φ K V cells slots (pc + 1) ls (ti (wdiv X Y) :: st)) : GO M K0 V0 Φ K V cells slots pc ls (ti Y :: ti X :: st) := fun p l e s m args below meth c D dA H locs lsA C hn S hW hF hS hL => by
  have h := kk p l e s m args below meth c D dA H locs lsA C hn S hW hF hS hL
  rw [wdiv, ← ti_of] at h
  exact lv_idiv C.1 C.2.1 d (of_ne0 hY h1) h
theorem GO.irem {X Y : Int} (d : Dc M pc .irem 1) (hY : ir Y) (h1 : Y ≠ 0) (kk : GO M K0 V0 Φ K V cells slots (pc + 1) ls (ti (wrem X Y) :: st)) : GO M K0 V0 Φ K V cells slots pc ls (ti Y :: ti X :: st) := fun p l e s m args below meth c D dA H locs lsA C hn S hW hF hS hL => by
  have h := kk p l e s m args below meth c D dA H locs lsA C hn S hW hF hS hL
  rw [wrem, ← ti_of] at h
  exact lv_irem C.1 C.2.1 d (of_ne0 hY h1) h
theorem GO.iand {X Y : Int} (d : Dc M pc .iand 1) (kk : GO M K0 V0 Φ K V cells slots (pc + 1) ls (ti (wand X Y) :: st)) : GO M K0 V0 Φ K V cells slots pc ls (ti Y :: ti X :: st) := fun p l e s m args below meth c D dA H locs lsA C hn S hW hF hS hL => by
  have h := kk p l e s m args below meth c D dA H locs lsA C hn S hW hF hS hL
  rw [wand, ← ti_of] at h
  exact lv_iand C.1 C.2.1 d h
theorem GO.ior {X Y : Int} (d : Dc M pc .ior 1) (kk : GO M K0 V0 Φ K V cells slots (pc + 1) ls (ti (wor X Y) :: st)) : GO M K0 V0 Φ K V cells slots pc ls (ti Y :: ti X :: st) := fun p l e s m args below meth c D dA H locs lsA C hn S hW hF hS hL => by
  have h := kk p l e s m args below meth c D dA H locs lsA C hn S hW hF hS hL
  rw [wor, ← ti_of] at h
  exact lv_ior C.1 C.2.1 d h
theorem GO.ixor {X Y : Int} (d : Dc M pc .ixor 1) (kk : GO M K0 V0 Φ K V cells slots (pc + 1) ls (ti (wxor X Y) :: st)) : GO M K0 V0 Φ K V cells slots pc ls (ti Y :: ti X :: st) := fun p l e s m args below meth c D dA H locs lsA C hn S hW hF hS hL => by
  have h := kk p l e s m args below meth c D dA H locs lsA C hn S hW hF hS hL
  rw [wxor, ← ti_of] at h
  exact lv_ixor C.1 C.2.1 d h
theorem GO.ishl {X Y : Int} (d : Dc M pc .ishl 1) (kk : GO M K0 V0 Φ K V cells slots (pc + 1) ls (ti (wshl X Y) :: st)) : GO M K0 V0 Φ K V cells slots pc ls (ti Y :: ti X :: st) := fun p l e s m args below meth c D dA H locs lsA C hn S hW hF hS hL => by
  have h := kk p l e s m args below meth c D dA H locs lsA C hn S hW hF hS hL
  rw [wshl, ← ti_of] at h
  exact lv_ishl C.1 C.2.1 d h
theorem GO.ishr {X Y : Int} (d : Dc M pc .ishr 1) (kk : GO M K0 V0 Φ K V cells slots (pc + 1) ls (ti (wshr X Y) :: st)) : GO M K0 V0 Φ K V cells slots pc ls (ti Y :: ti X :: st) := fun p l e s m args below meth c D dA H locs lsA C hn S hW hF hS hL => by
  have h := kk p l e s m args below meth c D dA H locs lsA C hn S hW hF hS hL
  rw [wshr, ← ti_of] at h
  exact lv_ishr C.1 C.2.1 d h
theorem wand_ir {X Y : Int} : ir (wand X Y) := th_rng _
theorem wor_ir {X Y : Int} : ir (wor X Y) := th_rng _
theorem wxor_ir {X Y : Int} : ir (wxor X Y) := th_rng _
theorem wshl_ir {X Y : Int} : ir (wshl X Y) := th_rng _
theorem wshr_ir {X Y : Int} : ir (wshr X Y) := th_rng _
theorem wdiv_ir {X Y : Int} : ir (wdiv X Y) := th_rng _
theorem wrem_ir {X Y : Int} : ir (wrem X Y) := th_rng _
theorem wushr_ir {X Y : Int} : ir (wushr X Y) := th_rng _
theorem wi2b_ir {X : Int} : ir (wi2b X) := th_rng _
theorem wi2c_ir {X : Int} : ir (wi2c X) := th_rng _

theorem GO.iushr {X Y : Int} (d : Dc M pc .iushr 1) (kk : GO M K0 V0 Φ K V cells slots (pc + 1) ls (ti (wushr X Y) :: st)) : GO M K0 V0 Φ K V cells slots pc ls (ti Y :: ti X :: st) := fun p l e s m args below meth c D dA H locs lsA C hn S hW hF hS hL => by
  have h := kk p l e s m args below meth c D dA H locs lsA C hn S hW hF hS hL
  rw [wushr, ← ti_of] at h
  exact lv_iushr C.1 C.2.1 d rfl h
theorem GO.i2b {X : Int} (d : Dc M pc .i2b 1) (kk : GO M K0 V0 Φ K V cells slots (pc + 1) ls (ti (wi2b X) :: st)) : GO M K0 V0 Φ K V cells slots pc ls (ti X :: st) := fun p l e s m args below meth c D dA H locs lsA C hn S hW hF hS hL => by
  have h := kk p l e s m args below meth c D dA H locs lsA C hn S hW hF hS hL
  rw [wi2b, ← ti_of] at h
  exact lv_i2b C.1 C.2.1 d rfl h
theorem GO.i2c {X : Int} (d : Dc M pc .i2c 1) (kk : GO M K0 V0 Φ K V cells slots (pc + 1) ls (ti (wi2c X) :: st)) : GO M K0 V0 Φ K V cells slots pc ls (ti X :: st) := fun p l e s m args below meth c D dA H locs lsA C hn S hW hF hS hL => by
  have h := kk p l e s m args below meth c D dA H locs lsA C hn S hW hF hS hL
  rw [wi2c, ← ti_of] at h
  exact lv_i2c C.1 C.2.1 d rfl h
theorem GO.i2l {X : Int} (d : Dc M pc .i2l 1) (kk : GO M K0 V0 Φ K V cells slots (pc + 1) ls (.long (Int32.ofInt X).toInt64 :: st)) : GO M K0 V0 Φ K V cells slots pc ls (ti X :: st) := fun p l e s m args below meth c D dA H locs lsA C hn S hW hF hS hL => lv_i2l C.1 C.2.1 d rfl (kk p l e s m args below meth c D dA H locs lsA C hn S hW hF hS hL)
theorem GO.ladd {X Y : Int64} (d : Dc M pc .ladd 1) (kk : GO M K0 V0 Φ K V cells slots (pc + 1) ls (.long (X + Y) :: st)) : GO M K0 V0 Φ K V cells slots pc ls (.long Y :: .long X :: st) := fun p l e s m args below meth c D dA H locs lsA C hn S hW hF hS hL => lv_ladd C.1 C.2.1 d (kk p l e s m args below meth c D dA H locs lsA C hn S hW hF hS hL)
theorem GO.lcmp {X Y : Int64} (d : Dc M pc .lcmp 1) (kk : GO M K0 V0 Φ K V cells slots (pc + 1) ls (ti (lg_cmp X Y).toInt :: st)) : GO M K0 V0 Φ K V cells slots pc ls (.long Y :: .long X :: st) := fun p l e s m args below meth c D dA H locs lsA C hn S hW hF hS hL => by
  have h := kk p l e s m args below meth c D dA H locs lsA C hn S hW hF hS hL
  rw [← ti_of] at h
  exact W.lcmp C.1 C.2.1 d h
def setN (ls : List (Option Value)) (i : Nat) : List (Option Value) := match ls, i with
  | [], _ => []
  | _ :: t, 0 => none :: t
  | w :: t, n + 1 => w :: setN t n
theorem setN_get : ∀ (ls : List (Option Value)) (i j : Nat) (w : Value), (setN ls i)[j]? = some (some w) → j ≠ i ∧ ls[j]? = some (some w) := by
  intro ls
  induction ls with
  | nil => intro i j w h; simp [setN] at h
  | cons u t ih =>
    intro i j w h
    cases i with
    | zero =>
      cases j with
      | zero => simp [setN] at h
      | succ j => simp [setN] at h; exact ⟨by omega, by simpa using h⟩
    | succ i =>
      cases j with
      | zero => simp [setN] at h; exact ⟨by omega, by simp [h]⟩
      | succ j =>
        simp only [setN, List.getElem?_cons_succ] at h
        obtain ⟨h1, h2⟩ := ih i j w h
        exact ⟨by omega, by simpa using h2⟩
theorem GO.lstore_n {k : Fin 4} {i : Nat} {X : Int64} {ls1 : List (Option Value)} (d : Dc M pc (.lstore_n k) 1) (hi : (k : Nat) = i) (hn : Nat.ble (i + 2) (m_nL M) = true) (hl : setN (setL ls i (some (.long X))) (i + 1) = ls1) (kk : GO M K0 V0 Φ K V cells slots (pc + 1) ls1 st) : GO M K0 V0 Φ K V cells slots pc ls (.long X :: st) := fun p l e s m args below meth c D dA H locs lsA C hn1 S hW hF hS hL => lv_lstore_n C.1 C.2.1 d hi hL (Nat.le_of_ble_eq_true hn) rfl (fun ls' h' => by
    refine kk p l e s m args below meth c D dA H locs ls' C hn1 S hW hF hS (lvH.to h' fun j w hj => ?_)
    rw [← hl] at hj
    obtain ⟨h1, h2⟩ := setN_get _ _ _ _ hj
    rcases setL_get ls i _ w j h2 with ⟨rfl, rfl⟩ | ⟨h3, h4, h5⟩
    · exact List.mem_cons_self
    · refine List.mem_cons_of_mem _ (List.mem_filter.mpr ⟨enumL_mem.mpr h4, ?_⟩)
      simp only [Bool.and_eq_true, Bool.not_eq_true', beq_eq_false_iff_ne, ne_eq, Bool.and_eq_false_iff]
      refine ⟨h3, h1, ?_⟩
      by_cases e : j + 1 = i
      · exact Or.inr fun q => h5 ⟨e, q⟩
      · exact Or.inl e)
/-! the stack -/
theorem GO.dup {v : Value} (d : Dc M pc .dup 1) (hv : v.category = 1) (kk : GO M K0 V0 Φ K V cells slots (pc + 1) ls (v :: v :: st)) : GO M K0 V0 Φ K V cells slots pc ls (v :: st) := fun p l e s m args below meth c D dA H locs lsA C hn S hW hF hS hL => lv_dup C.1 C.2.1 d hv (kk p l e s m args below meth c D dA H locs lsA C hn S hW hF hS hL)
theorem GO.pop {v : Value} (d : Dc M pc .pop 1) (hv : v.category = 1) (kk : GO M K0 V0 Φ K V cells slots (pc + 1) ls st) : GO M K0 V0 Φ K V cells slots pc ls (v :: st) := fun p l e s m args below meth c D dA H locs lsA C hn S hW hF hS hL => lv_pop C.1 C.2.1 d hv (kk p l e s m args below meth c D dA H locs lsA C hn S hW hF hS hL)
theorem GO.pop2 {v : Value} (d : Dc M pc .pop2 1) (hv : v.category = 2) (kk : GO M K0 V0 Φ K V cells slots (pc + 1) ls st) : GO M K0 V0 Φ K V cells slots pc ls (v :: st) := fun p l e s m args below meth c D dA H locs lsA C hn S hW hF hS hL => lv_pop2_2 C.1 C.2.1 d hv (kk p l e s m args below meth c D dA H locs lsA C hn S hW hF hS hL)
theorem GO.dup_x1 {v w : Value} (d : Dc M pc .dup_x1 1) (hv : v.category = 1) (hw : w.category = 1) (kk : GO M K0 V0 Φ K V cells slots (pc + 1) ls (v :: w :: v :: st)) : GO M K0 V0 Φ K V cells slots pc ls (v :: w :: st) := fun p l e s m args below meth c D dA H locs lsA C hn S hW hF hS hL => lv_dup_x1 C.1 C.2.1 d hv hw (kk p l e s m args below meth c D dA H locs lsA C hn S hW hF hS hL)
theorem GO.dup2 {v w : Value} (d : Dc M pc .dup2 1) (hv : v.category = 1) (hw : w.category = 1) (kk : GO M K0 V0 Φ K V cells slots (pc + 1) ls (v :: w :: v :: w :: st)) : GO M K0 V0 Φ K V cells slots pc ls (v :: w :: st) := fun p l e s m args below meth c D dA H locs lsA C hn S hW hF hS hL => lv_dup2_11 C.1 C.2.1 d hv hw (kk p l e s m args below meth c D dA H locs lsA C hn S hW hF hS hL)
/-! branches -/
theorem GO.if_eq {X : Int} {off : Int} {tgt : Nat} (d : Dc M pc (.ifCond .eq off) 3) (ht : (pc : Int) + off = (tgt : Int)) (hX : ir X) (kt : X = 0 → GO M K0 V0 Φ K V cells slots tgt ls st) (kf : X ≠ 0 → GO M K0 V0 Φ K V cells slots (pc + 3) ls st) : GO M K0 V0 Φ K V cells slots pc ls (ti X :: st) := fun p l e s m args below meth c D dA H locs lsA C hn S hW hF hS hL => th_if_eq C.1 C.2.1 d ht (ti_int hX) (fun h => kt (by omega) p l e s m args below meth c D dA H locs lsA C hn S hW hF hS hL) (fun h => kf (by omega) p l e s m args below meth c D dA H locs lsA C hn S hW hF hS hL)
theorem GO.icmp_eq {X Y : Int} {off : Int} {tgt : Nat} (d : Dc M pc (.if_icmp .eq off) 3) (ht : (pc : Int) + off = (tgt : Int)) (hX : ir X) (hY : ir Y) (kt : X = Y → GO M K0 V0 Φ K V cells slots tgt ls st) (kf : X ≠ Y → GO M K0 V0 Φ K V cells slots (pc + 3) ls st) : GO M K0 V0 Φ K V cells slots pc ls (ti Y :: ti X :: st) := fun p l e s m args below meth c D dA H locs lsA C hn S hW hF hS hL => th_icmp_eq C.1 C.2.1 d ht (ti_int hX) (ti_int hY) (fun h => kt (by omega) p l e s m args below meth c D dA H locs lsA C hn S hW hF hS hL) (fun h => kf (by omega) p l e s m args below meth c D dA H locs lsA C hn S hW hF hS hL)
theorem GO.if_ne {X : Int} {off : Int} {tgt : Nat} (d : Dc M pc (.ifCond .ne off) 3) (ht : (pc : Int) + off = (tgt : Int)) (hX : ir X) (kt : X ≠ 0 → GO M K0 V0 Φ K V cells slots tgt ls st) (kf : X = 0 → GO M K0 V0 Φ K V cells slots (pc + 3) ls st) : GO M K0 V0 Φ K V cells slots pc ls (ti X :: st) := fun p l e s m args below meth c D dA H locs lsA C hn S hW hF hS hL => th_if_ne C.1 C.2.1 d ht (ti_int hX) (fun h => kt (by omega) p l e s m args below meth c D dA H locs lsA C hn S hW hF hS hL) (fun h => kf (by omega) p l e s m args below meth c D dA H locs lsA C hn S hW hF hS hL)
theorem GO.icmp_ne {X Y : Int} {off : Int} {tgt : Nat} (d : Dc M pc (.if_icmp .ne off) 3) (ht : (pc : Int) + off = (tgt : Int)) (hX : ir X) (hY : ir Y) (kt : X ≠ Y → GO M K0 V0 Φ K V cells slots tgt ls st) (kf : X = Y → GO M K0 V0 Φ K V cells slots (pc + 3) ls st) : GO M K0 V0 Φ K V cells slots pc ls (ti Y :: ti X :: st) := fun p l e s m args below meth c D dA H locs lsA C hn S hW hF hS hL => th_icmp_ne C.1 C.2.1 d ht (ti_int hX) (ti_int hY) (fun h => kt (by omega) p l e s m args below meth c D dA H locs lsA C hn S hW hF hS hL) (fun h => kf (by omega) p l e s m args below meth c D dA H locs lsA C hn S hW hF hS hL)
theorem GO.if_lt {X : Int} {off : Int} {tgt : Nat} (d : Dc M pc (.ifCond .lt off) 3) (ht : (pc : Int) + off = (tgt : Int)) (hX : ir X) (kt : X < 0 → GO M K0 V0 Φ K V cells slots tgt ls st) (kf : 0 ≤ X → GO M K0 V0 Φ K V cells slots (pc + 3) ls st) : GO M K0 V0 Φ K V cells slots pc ls (ti X :: st) := fun p l e s m args below meth c D dA H locs lsA C hn S hW hF hS hL => th_if_lt C.1 C.2.1 d ht (ti_int hX) (fun h => kt (by omega) p l e s m args below meth c D dA H locs lsA C hn S hW hF hS hL) (fun h => kf (by omega) p l e s m args below meth c D dA H locs lsA C hn S hW hF hS hL)
theorem GO.icmp_lt {X Y : Int} {off : Int} {tgt : Nat} (d : Dc M pc (.if_icmp .lt off) 3) (ht : (pc : Int) + off = (tgt : Int)) (hX : ir X) (hY : ir Y) (kt : X < Y → GO M K0 V0 Φ K V cells slots tgt ls st) (kf : Y ≤ X → GO M K0 V0 Φ K V cells slots (pc + 3) ls st) : GO M K0 V0 Φ K V cells slots pc ls (ti Y :: ti X :: st) := fun p l e s m args below meth c D dA H locs lsA C hn S hW hF hS hL => th_icmp_lt C.1 C.2.1 d ht (ti_int hX) (ti_int hY) (fun h => kt (by omega) p l e s m args below meth c D dA H locs lsA C hn S hW hF hS hL) (fun h => kf (by omega) p l e s m args below meth c D dA H locs lsA C hn S hW hF hS hL)
theorem GO.if_ge {X : Int} {off : Int} {tgt : Nat} (d : Dc M pc (.ifCond .ge off) 3) (ht : (pc : Int) + off = (tgt : Int)) (hX : ir X) (kt : 0 ≤ X → GO M K0 V0 Φ K V cells slots tgt ls st) (kf : X < 0 → GO M K0 V0 Φ K V cells slots (pc + 3) ls st) : GO M K0 V0 Φ K V cells slots pc ls (ti X :: st) := fun p l e s m args below meth c D dA H locs lsA C hn S hW hF hS hL => th_if_ge C.1 C.2.1 d ht (ti_int hX) (fun h => kt (by omega) p l e s m args below meth c D dA H locs lsA C hn S hW hF hS hL) (fun h => kf (by omega) p l e s m args below meth c D dA H locs lsA C hn S hW hF hS hL)
theorem GO.icmp_ge {X Y : Int} {off : Int} {tgt : Nat} (d : Dc M pc (.if_icmp .ge off) 3) (ht : (pc : Int) + off = (tgt : Int)) (hX : ir X) (hY : ir Y) (kt : Y ≤ X → GO M K0 V0 Φ K V cells slots tgt ls st) (kf : X < Y → GO M K0 V0 Φ K V cells slots (pc + 3) ls st) : GO M K0 V0 Φ K V cells slots pc ls (ti Y :: ti X :: st) := fun p l e s m args below meth c D dA H locs lsA C hn S hW hF hS hL => th_icmp_ge C.1 C.2.1 d ht (ti_int hX) (ti_int hY) (fun h => kt (by omega) p l e s m args below meth c D dA H locs lsA C hn S hW hF hS hL) (fun h => kf (by omega) p l e s m args below meth c D dA H locs lsA C hn S hW hF hS hL)
theorem GO.if_gt {X : Int} {off : Int} {tgt : Nat} (d : Dc M pc (.ifCond .gt off) 3) (ht : (pc : Int) + off = (tgt : Int)) (hX : ir X) (kt : 0 < X → GO M K0 V0 Φ K V cells slots tgt ls st) (kf : X ≤ 0 → GO M K0 V0 Φ K V cells slots (pc + 3) ls st) : GO M K0 V0 Φ K V cells slots pc ls (ti X :: st) := fun p l e s m args below meth c D dA H locs lsA C hn S hW hF hS hL => th_if_gt C.1 C.2.1 d ht (ti_int hX) (fun h => kt (by omega) p l e s m args below meth c D dA H locs lsA C hn S hW hF hS hL) (fun h => kf (by omega) p l e s m args below meth c D dA H locs lsA C hn S hW hF hS hL)
theorem GO.icmp_gt {X Y : Int} {off : Int} {tgt : Nat} (d : Dc M pc (.if_icmp .gt off) 3) (ht : (pc : Int) + off = (tgt : Int)) (hX : ir X) (hY : ir Y) (kt : Y < X → GO M K0 V0 Φ K V cells slots tgt ls st) (kf : X ≤ Y → GO M K0 V0 Φ K V cells slots (pc + 3) ls st) : GO M K0 V0 Φ K V cells slots pc ls (ti Y :: ti X :: st) := fun p l e s m args below meth c D dA H locs lsA C hn S hW hF hS hL => th_icmp_gt C.1 C.2.1 d ht (ti_int hX) (ti_int hY) (fun h => kt (by omega) p l e s m args below meth c D dA H locs lsA C hn S hW hF hS hL) (fun h => kf (by omega) p l e s m args below meth c D dA H locs lsA C hn S hW hF hS hL)
theorem GO.if_le {X : Int} {off : Int} {tgt : Nat} (d : Dc M pc (.ifCond .le off) 3) (ht : (pc : Int) + off = (tgt : Int)) (hX : ir X) (kt : X ≤ 0 → GO M K0 V0 Φ K V cells slots tgt ls st) (kf : 0 < X → GO M K0 V0 Φ K V cells slots (pc + 3) ls st) : GO M K0 V0 Φ K V cells slots pc ls (ti X :: st) := fun p l e s m args below meth c D dA H locs lsA C hn S hW hF hS hL => th_if_le C.1 C.2.1 d ht (ti_int hX) (fun h => kt (by omega) p l e s m args below meth c D dA H locs lsA C hn S hW hF hS hL) (fun h => kf (by omega) p l e s m args below meth c D dA H locs lsA C hn S hW hF hS hL)
theorem GO.icmp_le {X Y : Int} {off : Int} {tgt : Nat} (d : Dc M pc (.if_icmp .le off) 3) (ht : (pc : Int) + off = (tgt : Int)) (hX : ir X) (hY : ir Y) (kt : X ≤ Y → GO M K0 V0 Φ K V cells slots tgt ls st) (kf : Y < X → GO M K0 V0 Φ K V cells slots (pc + 3) ls st) : GO M K0 V0 Φ K V cells slots pc ls (ti Y :: ti X :: st) := fun p l e s m args below meth c D dA H locs lsA C hn S hW hF hS hL => th_icmp_le C.1 C.2.1 d ht (ti_int hX) (ti_int hY) (fun h => kt (by omega) p l e s m args below meth c D dA H locs lsA C hn S hW hF hS hL) (fun h => kf (by omega) p l e s m args below meth c D dA H locs lsA C hn S hW hF hS hL)

theorem GO.goto {off : Int} {tgt : Nat} (d : Dc M pc (.goto off) 3) (ht : (pc : Int) + off = (tgt : Int)) (kk : GO M K0 V0 Φ K V cells slots tgt ls st) : GO M K0 V0 Φ K V cells slots pc ls st := fun p l e s m args below meth c D dA H locs lsA C hn S hW hF hS hL => lv_goto C.1 C.2.1 d ht (kk p l e s m args below meth c D dA H locs lsA C hn S hW hF hS hL)
theorem GO.ifnull {off : Int} {a : Nat} (d : Dc M pc (.ifnull off) 3) (kk : GO M K0 V0 Φ K V cells slots (pc + 3) ls st) : GO M K0 V0 Φ K V cells slots pc ls (.ref a :: st) := fun p l e s m args below meth c D dA H locs lsA C hn S hW hF hS hL => lv_ifnull C.1 C.2.1 d (kk p l e s m args below meth c D dA H locs lsA C hn S hW hF hS hL)
theorem GO.ifnullN {off : Int} {tgt : Nat} (d : Dc M pc (.ifnull off) 3) (ht : (pc : Int) + off = (tgt : Int)) (kk : GO M K0 V0 Φ K V cells slots tgt ls st) : GO M K0 V0 Φ K V cells slots pc ls (.null :: st) := fun p l e s m args below meth c D dA H locs lsA C hn S hW hF hS hL => lv_ifnullN C.1 C.2.1 d ht (kk p l e s m args below meth c D dA H locs lsA C hn S hW hF hS hL)
theorem GO.ifnonnull {off : Int} {tgt a : Nat} (d : Dc M pc (.ifnonnull off) 3) (ht : (pc : Int) + off = (tgt : Int)) (kk : GO M K0 V0 Φ K V cells slots tgt ls st) : GO M K0 V0 Φ K V cells slots pc ls (.ref a :: st) := fun p l e s m args below meth c D dA H locs lsA C hn S hW hF hS hL => lv_ifnonnull C.1 C.2.1 d ht (kk p l e s m args below meth c D dA H locs lsA C hn S hW hF hS hL)
theorem GO.ifnonnullN {off : Int} (d : Dc M pc (.ifnonnull off) 3) (kk : GO M K0 V0 Φ K V cells slots (pc + 3) ls st) : GO M K0 V0 Φ K V cells slots pc ls (.null :: st) := fun p l e s m args below meth c D dA H locs lsA C hn S hW hF hS hL => lv_ifnonnullN C.1 C.2.1 d (kk p l e s m args below meth c D dA H locs lsA C hn S hW hF hS hL)
theorem GO.tableOut {dflt lo hi : Int} {offs : Array Int} {len tgt : Nat} {X : Int} (d : Dc M pc (.tableswitch dflt lo hi offs) len) (hX : ir X) (h : X < lo ∨ hi < X) (ht : (pc : Int) + dflt = (tgt : Int)) (kk : GO M K0 V0 Φ K V cells slots tgt ls st) : GO M K0 V0 Φ K V cells slots pc ls (ti X :: st) := fun p l e s m args below meth c D dA H locs lsA C hn S hW hF hS hL => lv_tableOut C.1 C.2.1 d (by rw [ti_int hX]; exact h) ht (kk p l e s m args below meth c D dA H locs lsA C hn S hW hF hS hL)
/-- one case of a table -/
theorem GO.tableAt {dflt lo hi : Int} {offs : Array Int} {len tgt : Nat} {X n : Int} {off : Int} (d : Dc M pc (.tableswitch dflt lo hi offs) len) (hn : ir n) (hX : X = n) (h1 : ¬ n < lo) (h2 : ¬ hi < n) (ho : offs[(n - lo).toNat]? = some off) (ht : (pc : Int) + off = (tgt : Int)) (kk : GO M K0 V0 Φ K V cells slots tgt ls st) : GO M K0 V0 Φ K V cells slots pc ls (ti X :: st) := fun p l e s m args below meth c D dA H locs lsA C hn' S hW hF hS hL => by
  subst hX
  exact lv_tableIn C.1 C.2.1 d (by rw [ti_int hn]; exact h1) (by rw [ti_int hn]; exact h2) (by rw [ti_int hn]; exact ho) ht (kk p l e s m args below meth c D dA H locs lsA C hn' S hW hF hS hL)
theorem GO.lookup {dflt : Int} {ps : Array (Int × Int)} {len tgt : Nat} {X off : Int} (d : Dc M pc (.lookupswitch dflt ps) len) (hX : ir X) (hp : (ps.toList.zip (ps.toList.drop 1)).all (fun (a, next) => a.1 < next.1) = true) (ho : Op.lookupswitch.offset ps.toList dflt X = off) (ht : (pc : Int) + off = (tgt : Int)) (kk : GO M K0 V0 Φ K V cells slots tgt ls st) : GO M K0 V0 Φ K V cells slots pc ls (ti X :: st) := fun p l e s m args below meth c D dA H locs lsA C hn S hW hF hS hL => lv_lookup C.1 C.2.1 d hp (by rw [ti_int hX]; exact ho) ht (kk p l e s m args below meth c D dA H locs lsA C hn S hW hF hS hL)
/-! answers -/
theorem HQ.of {D : va_G} {dA : Nat → ClassId} {H : Heap} {locs : List Loc} {s t : State} {args : Array Value} {ws : Nat} {r : Option Value} (S : SG D dA K0 s.heap K V H locs) (hW : WT K V) (hF : FR ws K0 V0 K V) (ht : t.heap = H) (hp : Φ r K V) : HQ D dA K0 V0 ws Φ args s (.returned r) t := ⟨⟨r, K, V, rfl, hp, hW, hF, by rw [ht]; exact S.1, S.2.2.2, S.2.2.1⟩, S.2.1.F ht⟩
theorem GO.reti {X : Int} (hc : (Nat.ble cells (m_mc M) && Nat.ble slots (m_ms M)) = true) (hr : m_rt M = some .int) (d : Dc M pc .ireturn 1) (hp : Φ (some (ti X)) K V) : GO M K0 V0 Φ K V cells slots pc ls [ti X] := fun p l e s m args below meth c D dA H locs lsA C hn S hW hF hS hL => by
  simp only [Bool.and_eq_true] at hc
  exact W.widen (Nat.le_of_ble_eq_true hc.1) (Nat.le_of_ble_eq_true hc.2) (W.iret C.1 C.2.1 (C.2.2.2.1.trans hr) (fun t ht _ => HQ.of S hW hF ht hp) S.2.1.2.2 d (hlocks := C.2.2.2.2.1))
theorem GO.retz {X : Int} (hc : (Nat.ble cells (m_mc M) && Nat.ble slots (m_ms M)) = true) (hr : m_rt M = some .boolean) (d : Dc M pc .ireturn 1) (hz : X = 0 ∨ X = 1) (hp : Φ (some (ti X)) K V) : GO M K0 V0 Φ K V cells slots pc ls [ti X] := fun p l e s m args below meth c D dA H locs lsA C hn S hW hF hS hL => by
  simp only [Bool.and_eq_true] at hc
  have hn2 : narrow .boolean (.int (Int32.ofInt X)) = .int (Int32.ofInt X) := by rcases hz with rfl | rfl <;> rfl
  exact W.widen (Nat.le_of_ble_eq_true hc.1) (Nat.le_of_ble_eq_true hc.2) (W.zret C.1 C.2.1 (C.2.2.2.1.trans hr) hn2 (fun t ht _ => HQ.of S hW hF ht hp) S.2.1.2.2 d (hlocks := C.2.2.2.2.1))
theorem GO.retl {X : Int64} (hc : (Nat.ble cells (m_mc M) && Nat.ble slots (m_ms M)) = true) (hr : m_rt M = some .long) (d : Dc M pc .lreturn 1) (hp : Φ (some (.long X)) K V) : GO M K0 V0 Φ K V cells slots pc ls [.long X] := fun p l e s m args below meth c D dA H locs lsA C hn S hW hF hS hL => by
  simp only [Bool.and_eq_true] at hc
  exact W.widen (Nat.le_of_ble_eq_true hc.1) (Nat.le_of_ble_eq_true hc.2) (W.lret C.1 C.2.1 (C.2.2.2.1.trans hr) (fun t ht _ => HQ.of S hW hF ht hp) S.2.1.2.2 d (hlocks := C.2.2.2.2.1))
theorem GO.retv (hc : (Nat.ble cells (m_mc M) && Nat.ble slots (m_ms M)) = true) (hr : m_rt M = none) (d : Dc M pc .return_ 1) (hp : Φ none K V) : GO M K0 V0 Φ K V cells slots pc ls [] := fun p l e s m args below meth c D dA H locs lsA C hn S hW hF hS hL => by
  simp only [Bool.and_eq_true] at hc
  exact W.widen (Nat.le_of_ble_eq_true hc.1) (Nat.le_of_ble_eq_true hc.2) (W.vret C.1 C.2.1 (C.2.2.2.1.trans hr) (fun t ht _ => HQ.of S hW hF ht hp) S.2.1.2.2 d (hlocks := C.2.2.2.2.1))
theorem GO.reta {v : Value} {rty : FieldType} (hc : (Nat.ble cells (m_mc M) && Nat.ble slots (m_ms M)) = true) (hr : m_rt M = some rty) (hrt : (∃ n, rty = .object n) ∨ ∃ t, rty = .array t) (d : Dc M pc .areturn 1) (hv : v = .null ∨ ∃ a, v = .ref a) (hp : Φ (some v) K V) : GO M K0 V0 Φ K V cells slots pc ls [v] := fun p l e s m args below meth c D dA H locs lsA C hn S hW hF hS hL => by
  simp only [Bool.and_eq_true] at hc
  exact W.widen (Nat.le_of_ble_eq_true hc.1) (Nat.le_of_ble_eq_true hc.2) (W.aret C.1 C.2.1 (C.2.2.2.1.trans hr) hrt hv (fun t ht _ => HQ.of S hW hF ht hp) S.2.1.2.2 d (hlocks := C.2.2.2.2.1))
theorem GO.widen {k n : Nat} (h : (Nat.ble cells k && Nat.ble slots n) = true) (kk : GO M K0 V0 Φ K V k n pc ls st) : GO M K0 V0 Φ K V cells slots pc ls st := fun p l e s m args below meth c D dA H locs lsA C hn S hW hF hS hL => by
  simp only [Bool.and_eq_true] at h
  exact W.widen (Nat.le_of_ble_eq_true h.1) (Nat.le_of_ble_eq_true h.2) (kk p l e s m args below meth c D dA H locs lsA C hn S hW hF hS hL)
/-- a loop: a measure that falls -/
theorem GO.loop {α : Type} (P : α → Vmap → Prop) (lf : α → List (Option Value)) (μ : α → Vmap → Nat) (a0 : α) (h0 : P a0 V) (hls : lf a0 = ls) (step : ∀ (a : α) (V : Vmap), P a V → (∀ (a' : α) (V' : Vmap), P a' V' → μ a' V' < μ a V → GO M K0 V0 Φ K V' cells slots pc (lf a') st) → GO M K0 V0 Φ K V cells slots pc (lf a) st) : GO M K0 V0 Φ K V cells slots pc ls st := by
  have key : ∀ (n : Nat) (a : α) (V : Vmap), μ a V = n → P a V → GO M K0 V0 Φ K V cells slots pc (lf a) st := by
    intro n
    induction n using Nat.strongRecOn with
    | ind n ih => exact fun a V e h => step a V h (fun a' V' h' hlt => ih _ (e ▸ hlt) a' V' rfl h')
  subst hls
  exact key _ a0 V rfl h0
end GOR
