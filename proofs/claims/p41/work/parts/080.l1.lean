/-! the Scribe's own text -/
section LT
variable {adK adV : Nat → Nat} {K : Kmap} {V : Vmap} {s U : State} {H : Heap} {D : va_G} {dA : Nat → ClassId} {sz : Nat} {av : List Value}
def LT (adK adV : Nat → Nat) (K : Kmap) (U : State) (H : Heap) : Prop := va_Z "java/lang/String" "COMPACT_STRINGS" "Z" (.int 1) (AK K H.size) U H ∧ vk_S 1 [14] [litB] adK adV (AK K H.size) U H
theorem LT.moved (h : LT adK adV K s H) (hW : s.WarmedH U.vm) : LT adK adV K U H := ⟨va_Z.moved hW.alike h.1, vk_S.moved hW.alike h.2⟩
theorem LT.next {K0 : Kmap} {locs : List Loc} (h : LT adK adV K0 s s.heap) (S : SG D dA K0 s.heap K V H locs) : LT adK adV K s H := by
  have hk := S.2.1.2.1
  have up : ∀ q, AK K H.size q → AK K0 s.heap.size q := fun q h => by
    rcases h with ⟨k, h⟩ | h
    · exact S.2.2.1 q k h
    · exact Or.inr (Nat.le_trans S.2.1.1 h)
  exact ⟨(h.1.kept hk).narrow up, (h.2.kept hk).narrow up⟩
theorem LT.same (h : LT adK adV K s H) (hv : s.vm = U.vm) : LT adK adV K U H := by
  have ha : s.vm.Alike U.vm := by rw [← hv]; exact Vm.Alike.refl _
  exact ⟨va_Z.moved ha h.1, vk_S.moved ha h.2⟩
end LT
/-- facts of the start that stay -/
def YC (YY : Kmap → State → Heap → Prop) : Prop := (∀ (K : Kmap) (s U : State) (H : Heap), YY K s H → s.WarmedH U.vm → YY K U H) ∧ (∀ (K : Kmap) (s U : State) (H : Heap), YY K s H → s.vm = U.vm → YY K U H) ∧ ∀ (D : va_G) (dA : Nat → ClassId) (K0 K : Kmap) (V : Vmap) (s : State) (H : Heap) (locs : List Loc), YY K0 s s.heap → SG D dA K0 s.heap K V H locs → YY K s H
theorem yc_lt {adK adV : Nat → Nat} : YC (LT adK adV) := ⟨fun _ _ _ _ h hW => h.moved hW, fun _ _ _ _ h hv => h.same hv, fun _ _ _ _ _ _ _ _ h S => h.next S⟩
def TT (t : Nat) (f : Nat → Int32) (K : Kmap) (U : State) (H : Heap) : Prop := va_T .int t 8 (fun j => .int (f j)) (AK K H.size) U H
theorem yc_tt {t : Nat} {f : Nat → Int32} : YC (TT t f) := ⟨fun _ _ _ _ h hW => va_T.moved hW.alike h, fun _ _ U _ h hv => va_T.moved (by rw [← hv]; exact Vm.Alike.refl _) h, fun _ _ K0 K _ s H _ h S => by
  have up : ∀ q, AK K H.size q → AK K0 s.heap.size q := fun q h => by
    rcases h with ⟨k, h⟩ | h
    · exact S.2.2.1 q k h
    · exact Or.inr (Nat.le_trans S.2.1.1 h)
  exact (va_T.kept h S.2.1.2.1).narrow up⟩
section GLD
variable {YY : Kmap → State → Heap → Prop} {K : Kmap} {V : Vmap} {s U : State} {H : Heap} {D : va_G} {dA : Nat → ClassId} {sz : Nat} {av : List Value}
def PL (YY : Kmap → State → Heap → Prop) (D : va_G) (dA : Nat → ClassId) (K : Kmap) (V : Vmap) (sz : Nat) (av : List Value) : Array Value → State → Prop := fun v U => PX D dA K V sz av v U ∧ YY K U U.heap
theorem PL.blind (c : YC YY) : FrameBlind (PL YY D dA K V sz av) := fun a U g mk q => ⟨PX.blind a U g mk q.1, c.2.1 _ _ _ _ q.2 rfl⟩
theorem PL.at (c : YC YY) (hK : KN D dA s) (hR : Rep D dA K V H) (hS : SF K s H) (hY : YY K s H) : ∀ U : State, U.heap = H → s.WarmedH U.vm → PL YY D dA K V H.size av av.toArray U := fun U hU hW => ⟨PX.at hK hR hS U hU hW, by rw [hU]; exact c.1 _ _ _ _ hY hW⟩
def ML (YY : Kmap → State → Heap → Prop) (M : MRec) (K : Kmap) (V : Vmap) (av : List Value) (Φ : Option Value → Kmap → Vmap → Prop) : Prop := WT K V → ∀ (l : Launch) (D : va_G) (dA : Nat → ClassId) (sz : Nat), Met l (m_y M) (wsOf (m_y M) (m_cc M) (m_nL M) (m_rt M)) (m_rm M) (PL YY D dA K V sz av) (HQ D dA K V (m_ws M) Φ) (m_mc M) (m_ms M) (AK K sz)
def GL (YY : Kmap → State → Heap → Prop) (M : MRec) (K0 : Kmap) (V0 : Vmap) (Φ : Option Value → Kmap → Vmap → Prop) (K : Kmap) (V : Vmap) (cells slots pc : Nat) (ls : List (Option Value)) (st : List Value) : Prop :=
  ∀ (p : Program) (l : Launch) (e : Env) (s : State) (m : MethodId) (args : Array Value) (below : List Frame) (meth : Method) (c : Code) (D : va_G) (dA : Nat → ClassId) (H : Heap) (locs : List Loc) (lsA : Array Slot),
    CX p s m args meth c (m_cc M) (m_nL M) (m_rt M) (m_own M) D dA → meth.name = (m_y M).name → SG D dA K0 s.heap K V H locs → WT K V → FR (m_ws M) K0 V0 K V → SF K0 s s.heap → lvH lsA (m_nL M) ls → YY K0 s s.heap →
    W p l e (m_rm M) s m args below meth c H locs cells slots (MQ below (HQ D dA K0 V0 (m_ws M) Φ) args s (m_mc M) (m_ms M) (AK K0 s.heap.size)) (F0 m pc lsA st)
end GLD
section GLR
variable {YY : Kmap → State → Heap → Prop} {adK adV : Nat → Nat} {M : MRec} {K0 : Kmap} {V0 : Vmap} {Φ : Option Value → Kmap → Vmap → Prop} {K : Kmap} {V : Vmap} {cells slots pc : Nat} {ls : List (Option Value)} {st : List Value}
theorem GL.iload_n {k : Fin 4} {i : Nat} {X : Int} (d : Dc M pc (.iload_n k) 1) (hi : (k : Nat) = i) (hl : ls[i]? = some (some (ti X))) (kk : GL YY M K0 V0 Φ K V cells slots (pc + 1) ls (ti X :: st)) : GL YY M K0 V0 Φ K V cells slots pc ls st := fun p l e s m args below meth c D dA H locs lsA C hn S hW hF hS hL hYY => lv_iload_n C.1 C.2.1 d hi (hL.at hl) (kk p l e s m args below meth c D dA H locs lsA C hn S hW hF hS hL hYY)
theorem GL.iload {i : Nat} {X : Int} (d : Dc M pc (.iload i) 2) (hl : ls[i]? = some (some (ti X))) (kk : GL YY M K0 V0 Φ K V cells slots (pc + 2) ls (ti X :: st)) : GL YY M K0 V0 Φ K V cells slots pc ls st := fun p l e s m args below meth c D dA H locs lsA C hn S hW hF hS hL hYY => lv_iload C.1 C.2.1 d (hL.at hl) (kk p l e s m args below meth c D dA H locs lsA C hn S hW hF hS hL hYY)
theorem GL.aload_n {k : Fin 4} {i a : Nat} (d : Dc M pc (.aload_n k) 1) (hi : (k : Nat) = i) (hl : ls[i]? = some (some (.ref a))) (kk : GL YY M K0 V0 Φ K V cells slots (pc + 1) ls (.ref a :: st)) : GL YY M K0 V0 Φ K V cells slots pc ls st := fun p l e s m args below meth c D dA H locs lsA C hn S hW hF hS hL hYY => lv_aload_n C.1 C.2.1 d hi (hL.at hl) (kk p l e s m args below meth c D dA H locs lsA C hn S hW hF hS hL hYY)
theorem GL.istore_n {k : Fin 4} {i : Nat} {X : Int} {ls1 : List (Option Value)} (d : Dc M pc (.istore_n k) 1) (hi : (k : Nat) = i) (hn : Nat.ble (i + 1) (m_nL M) = true) (hl : setL ls i (some (ti X)) = ls1) (kk : GL YY M K0 V0 Φ K V cells slots (pc + 1) ls1 st) : GL YY M K0 V0 Φ K V cells slots pc ls (ti X :: st) := fun p l e s m args below meth c D dA H locs lsA C hn1 S hW hF hS hL hYY => lv_istore_n C.1 C.2.1 d hi hL (Nat.le_of_ble_eq_true hn) rfl (fun ls' h' => kk p l e s m args below meth c D dA H locs ls' C hn1 S hW hF hS (hl ▸ lvH.store h') hYY)
theorem GL.istore {i : Nat} {X : Int} {ls1 : List (Option Value)} (d : Dc M pc (.istore i) 2) (hn : Nat.ble (i + 1) (m_nL M) = true) (hl : setL ls i (some (ti X)) = ls1) (kk : GL YY M K0 V0 Φ K V cells slots (pc + 2) ls1 st) : GL YY M K0 V0 Φ K V cells slots pc ls (ti X :: st) := fun p l e s m args below meth c D dA H locs lsA C hn1 S hW hF hS hL hYY => lv_istore C.1 C.2.1 d hL (Nat.le_of_ble_eq_true hn) rfl (fun ls' h' => kk p l e s m args below meth c D dA H locs ls' C hn1 S hW hF hS (hl ▸ lvH.store h') hYY)
theorem GL.iconst {n : Int} (d : Dc M pc (.iconst n) 1) (kk : GL YY M K0 V0 Φ K V cells slots (pc + 1) ls (ti n :: st)) : GL YY M K0 V0 Φ K V cells slots pc ls st := fun p l e s m args below meth c D dA H locs lsA C hn S hW hF hS hL hYY => lv_iconst C.1 C.2.1 d rfl (kk p l e s m args below meth c D dA H locs lsA C hn S hW hF hS hL hYY)
theorem GL.if_eq {X : Int} {off : Int} {tgt : Nat} (d : Dc M pc (.ifCond .eq off) 3) (ht : (pc : Int) + off = (tgt : Int)) (hX : ir X) (kt : X = 0 → GL YY M K0 V0 Φ K V cells slots tgt ls st) (kf : X ≠ 0 → GL YY M K0 V0 Φ K V cells slots (pc + 3) ls st) : GL YY M K0 V0 Φ K V cells slots pc ls (ti X :: st) := fun p l e s m args below meth c D dA H locs lsA C hn S hW hF hS hL hYY => th_if_eq C.1 C.2.1 d ht (ti_int hX) (fun h => kt (by omega) p l e s m args below meth c D dA H locs lsA C hn S hW hF hS hL hYY) (fun h => kf (by omega) p l e s m args below meth c D dA H locs lsA C hn S hW hF hS hL hYY)
theorem GL.if_ne {X : Int} {off : Int} {tgt : Nat} (d : Dc M pc (.ifCond .ne off) 3) (ht : (pc : Int) + off = (tgt : Int)) (hX : ir X) (kt : X ≠ 0 → GL YY M K0 V0 Φ K V cells slots tgt ls st) (kf : X = 0 → GL YY M K0 V0 Φ K V cells slots (pc + 3) ls st) : GL YY M K0 V0 Φ K V cells slots pc ls (ti X :: st) := fun p l e s m args below meth c D dA H locs lsA C hn S hW hF hS hL hYY => th_if_ne C.1 C.2.1 d ht (ti_int hX) (fun h => kt (by omega) p l e s m args below meth c D dA H locs lsA C hn S hW hF hS hL hYY) (fun h => kf (by omega) p l e s m args below meth c D dA H locs lsA C hn S hW hF hS hL hYY)
theorem GL.if_lt {X : Int} {off : Int} {tgt : Nat} (d : Dc M pc (.ifCond .lt off) 3) (ht : (pc : Int) + off = (tgt : Int)) (hX : ir X) (kt : X < 0 → GL YY M K0 V0 Φ K V cells slots tgt ls st) (kf : 0 ≤ X → GL YY M K0 V0 Φ K V cells slots (pc + 3) ls st) : GL YY M K0 V0 Φ K V cells slots pc ls (ti X :: st) := fun p l e s m args below meth c D dA H locs lsA C hn S hW hF hS hL hYY => th_if_lt C.1 C.2.1 d ht (ti_int hX) (fun h => kt (by omega) p l e s m args below meth c D dA H locs lsA C hn S hW hF hS hL hYY) (fun h => kf (by omega) p l e s m args below meth c D dA H locs lsA C hn S hW hF hS hL hYY)
theorem GL.ifnull {off : Int} {a : Nat} (d : Dc M pc (.ifnull off) 3) (kk : GL YY M K0 V0 Φ K V cells slots (pc + 3) ls st) : GL YY M K0 V0 Φ K V cells slots pc ls (.ref a :: st) := fun p l e s m args below meth c D dA H locs lsA C hn S hW hF hS hL hYY => lv_ifnull C.1 C.2.1 d (kk p l e s m args below meth c D dA H locs lsA C hn S hW hF hS hL hYY)
theorem GL.icmp_ge {X Y : Int} {off : Int} {tgt : Nat} (d : Dc M pc (.if_icmp .ge off) 3) (ht : (pc : Int) + off = (tgt : Int)) (hX : ir X) (hY : ir Y) (kt : Y ≤ X → GL YY M K0 V0 Φ K V cells slots tgt ls st) (kf : X < Y → GL YY M K0 V0 Φ K V cells slots (pc + 3) ls st) : GL YY M K0 V0 Φ K V cells slots pc ls (ti Y :: ti X :: st) := fun p l e s m args below meth c D dA H locs lsA C hn S hW hF hS hL hYY => th_icmp_ge C.1 C.2.1 d ht (ti_int hX) (ti_int hY) (fun h => kt (by omega) p l e s m args below meth c D dA H locs lsA C hn S hW hF hS hL hYY) (fun h => kf (by omega) p l e s m args below meth c D dA H locs lsA C hn S hW hF hS hL hYY)
theorem GL.icmp_ne {X Y : Int} {off : Int} {tgt : Nat} (d : Dc M pc (.if_icmp .ne off) 3) (ht : (pc : Int) + off = (tgt : Int)) (hX : ir X) (hY : ir Y) (kt : X ≠ Y → GL YY M K0 V0 Φ K V cells slots tgt ls st) (kf : X = Y → GL YY M K0 V0 Φ K V cells slots (pc + 3) ls st) : GL YY M K0 V0 Φ K V cells slots pc ls (ti Y :: ti X :: st) := fun p l e s m args below meth c D dA H locs lsA C hn S hW hF hS hL hYY => th_icmp_ne C.1 C.2.1 d ht (ti_int hX) (ti_int hY) (fun h => kt (by omega) p l e s m args below meth c D dA H locs lsA C hn S hW hF hS hL hYY) (fun h => kf (by omega) p l e s m args below meth c D dA H locs lsA C hn S hW hF hS hL hYY)
theorem GL.icmp_lt {X Y : Int} {off : Int} {tgt : Nat} (d : Dc M pc (.if_icmp .lt off) 3) (ht : (pc : Int) + off = (tgt : Int)) (hX : ir X) (hY : ir Y) (kt : X < Y → GL YY M K0 V0 Φ K V cells slots tgt ls st) (kf : Y ≤ X → GL YY M K0 V0 Φ K V cells slots (pc + 3) ls st) : GL YY M K0 V0 Φ K V cells slots pc ls (ti Y :: ti X :: st) := fun p l e s m args below meth c D dA H locs lsA C hn S hW hF hS hL hYY => th_icmp_lt C.1 C.2.1 d ht (ti_int hX) (ti_int hY) (fun h => kt (by omega) p l e s m args below meth c D dA H locs lsA C hn S hW hF hS hL hYY) (fun h => kf (by omega) p l e s m args below meth c D dA H locs lsA C hn S hW hF hS hL hYY)
theorem GL.goto {off : Int} {tgt : Nat} (d : Dc M pc (.goto off) 3) (ht : (pc : Int) + off = (tgt : Int)) (kk : GL YY M K0 V0 Φ K V cells slots tgt ls st) : GL YY M K0 V0 Φ K V cells slots pc ls st := fun p l e s m args below meth c D dA H locs lsA C hn S hW hF hS hL hYY => lv_goto C.1 C.2.1 d ht (kk p l e s m args below meth c D dA H locs lsA C hn S hW hF hS hL hYY)
theorem GL.ishr {X Y : Int} (d : Dc M pc .ishr 1) (kk : GL YY M K0 V0 Φ K V cells slots (pc + 1) ls (ti (wshr X Y) :: st)) : GL YY M K0 V0 Φ K V cells slots pc ls (ti Y :: ti X :: st) := fun p l e s m args below meth c D dA H locs lsA C hn S hW hF hS hL hYY => by
  have h := kk p l e s m args below meth c D dA H locs lsA C hn S hW hF hS hL hYY
  rw [wshr, ← ti_of] at h
  exact lv_ishr C.1 C.2.1 d h
theorem GL.i2b {X : Int} (d : Dc M pc .i2b 1) (kk : GL YY M K0 V0 Φ K V cells slots (pc + 1) ls (ti (wi2b X) :: st)) : GL YY M K0 V0 Φ K V cells slots pc ls (ti X :: st) := fun p l e s m args below meth c D dA H locs lsA C hn S hW hF hS hL hYY => by
  have h := kk p l e s m args below meth c D dA H locs lsA C hn S hW hF hS hL hYY
  rw [wi2b, ← ti_of] at h
  exact lv_i2b C.1 C.2.1 d rfl h
theorem GL.i2c {X : Int} (d : Dc M pc .i2c 1) (kk : GL YY M K0 V0 Φ K V cells slots (pc + 1) ls (ti (wi2c X) :: st)) : GL YY M K0 V0 Φ K V cells slots pc ls (ti X :: st) := fun p l e s m args below meth c D dA H locs lsA C hn S hW hF hS hL hYY => by
  have h := kk p l e s m args below meth c D dA H locs lsA C hn S hW hF hS hL hYY
  rw [wi2c, ← ti_of] at h
  exact lv_i2c C.1 C.2.1 d rfl h
theorem GL.iinc {i : Nat} {n X Y : Int} {ls1 : List (Option Value)} (d : Dc M pc (.iinc i n) 3) (hl : ls[i]? = some (some (ti X))) (hn : Nat.ble (i + 1) (m_nL M) = true) (hY : X + n = Y) (h1 : setL ls i (some (ti Y)) = ls1) (kk : GL YY M K0 V0 Φ K V cells slots (pc + 3) ls1 st) : GL YY M K0 V0 Φ K V cells slots pc ls st := fun p l e s m args below meth c D dA H locs lsA C hn1 S hW hF hS hL hYY => by
  obtain ⟨k, hk⟩ := of_mem (enumL_mem.mpr hl)
  exact lv_iinc C.1 C.2.1 d hL hk (by rw [← Int32.ofInt_add, hY]) (Nat.le_of_ble_eq_true hn) rfl (fun ls' h' => kk p l e s m args below meth c D dA H locs ls' C hn1 S hW hF hS (h1 ▸ lvH.store h') hYY)
theorem GL.reti {X : Int} (hc : (Nat.ble cells (m_mc M) && Nat.ble slots (m_ms M)) = true) (hr : m_rt M = some .int) (d : Dc M pc .ireturn 1) (hp : Φ (some (ti X)) K V) : GL YY M K0 V0 Φ K V cells slots pc ls [ti X] := fun p l e s m args below meth c D dA H locs lsA C hn S hW hF hS hL hYY => by
  simp only [Bool.and_eq_true] at hc
  exact W.widen (Nat.le_of_ble_eq_true hc.1) (Nat.le_of_ble_eq_true hc.2) (W.iret C.1 C.2.1 (C.2.2.2.1.trans hr) (fun t ht _ => HQ.of S hW hF ht hp) S.2.1.2.2 d (hlocks := C.2.2.2.2.1))
theorem GL.retz {X : Int} (hc : (Nat.ble cells (m_mc M) && Nat.ble slots (m_ms M)) = true) (hr : m_rt M = some .boolean) (d : Dc M pc .ireturn 1) (hz : X = 0 ∨ X = 1) (hp : Φ (some (ti X)) K V) : GL YY M K0 V0 Φ K V cells slots pc ls [ti X] := fun p l e s m args below meth c D dA H locs lsA C hn S hW hF hS hL hYY => by
  simp only [Bool.and_eq_true] at hc
  have hn2 : narrow .boolean (.int (Int32.ofInt X)) = .int (Int32.ofInt X) := by rcases hz with rfl | rfl <;> rfl
  exact W.widen (Nat.le_of_ble_eq_true hc.1) (Nat.le_of_ble_eq_true hc.2) (W.zret C.1 C.2.1 (C.2.2.2.1.trans hr) hn2 (fun t ht _ => HQ.of S hW hF ht hp) S.2.1.2.2 d (hlocks := C.2.2.2.2.1))
theorem GL.loop {α : Type} (P : α → Vmap → Prop) (lf : α → List (Option Value)) (μ : α → Vmap → Nat) (a0 : α) (h0 : P a0 V) (hls : lf a0 = ls) (step : ∀ (a : α) (V : Vmap), P a V → (∀ (a' : α) (V' : Vmap), P a' V' → μ a' V' < μ a V → GL YY M K0 V0 Φ K V' cells slots pc (lf a') st) → GL YY M K0 V0 Φ K V cells slots pc (lf a) st) : GL YY M K0 V0 Φ K V cells slots pc ls st := by
  have key : ∀ (n : Nat) (a : α) (V : Vmap), μ a V = n → P a V → GL YY M K0 V0 Φ K V cells slots pc (lf a) st := by
    intro n
    induction n using Nat.strongRecOn with
    | ind n ih => exact fun a V e h => step a V h (fun a' V' h' hlt => ih _ (e ▸ hlt) a' V' rfl h')
  subst hls
  exact key _ a0 V rfl h0
theorem GL.name {X : Int} (kk : ∀ Z, Z = X → GL YY M K0 V0 Φ K V cells slots pc ls (ti Z :: st)) : GL YY M K0 V0 Φ K V cells slots pc ls (ti X :: st) := kk X rfl
theorem ML.of {av : List Value} {ls0 : List (Option Value)} (n : Nat) (hy : plainFor (m_y M) = true) (ho : (m_y M).cls = m_own M) (hc : av.all (fun v => v.category == 1) = true) (hlen : Nat.ble (lg_sl av).length (m_nL M) = true) (hls : av.map some ++ List.replicate n none = ls0) (body : GL YY M K V Φ K V 0 0 0 ls0 []) : ML YY M K V av Φ := by
  intro hW l D dA sz
  refine va_MetF (cc := m_cc M) (maxL := m_nL M) (ret := m_rt M) hy rfl ?_
  intro p e s m args below meth c s₁ B hml hv
  obtain ⟨⟨⟨rfl, hsz, hK, hR⟩, hS⟩, hY⟩ := hv
  have hts := atoms_spec (ws := wsOf (m_y M) (m_cc M) (m_nL M) (m_rt M)) B.pre
  rw [lg_entry_eq]
  subst hsz
  exact body p l e s m _ below meth c D dA s.heap [] _ ⟨B.exec, B.bytes, hml, B.returns, B.notSynchronized, ho ▸ findClass_of_methodNamed B.named, fun w hw => hts w (List.mem_cons_of_mem _ hw), hK⟩ (name_of_methodNamed B.named B.method).1 (SG.rf hR) hW FR.rf hS (lvH.to (lv_entry av (Nat.le_of_ble_eq_true hlen)) (fun j w h => by have := ls_args av n 0 hc j w (hls ▸ h); simpa using this)) hY
theorem GL.cs {index : Nat} (d : Dc M pc (.getstatic index) 3) (hw : Cond.fieldLink (m_own M) index "java/lang/String" "COMPACT_STRINGS" "Z" ∈ gw) (kk : GL (LT adK adV) M K0 V0 Φ K V cells slots (pc + 3) ls (ti 1 :: st)) : GL (LT adK adV) M K0 V0 Φ K V cells slots pc ls st := fun p l e s m args below meth c D dA H locs lsA C hn S hW hF hS hL hY =>
  va_gets C.1 C.2.1 hY.1 S.2.1 C.2.2.2.2.2.1 (C.2.2.2.2.2.2.1 _ hw) (fun _ h => h) d (kk p l e s m args below meth c D dA H locs lsA C hn S hW hF hS hL hY)
theorem GL.coder {index : Nat} (d : Dc M pc (.getfield index) 3) (hw : Cond.fieldLink (m_own M) index "java/lang/String" "coder" "B" ∈ gw) (kk : GL (LT adK adV) M K0 V0 Φ K V cells slots (pc + 3) ls (ti 0 :: st)) : GL (LT adK adV) M K0 V0 Φ K V cells slots pc ls (.ref (adK 0) :: st) := fun p l e s m args below meth c D dA H locs lsA C hn S hW hF hS hL hY =>
  vk_getf C.1 C.2.1 (hY.2.1 0 (by decide)).2.1 S.2.1 C.2.2.2.2.2.1 (C.2.2.2.2.2.2.1 _ hw) (fun _ h => h) d (kk p l e s m args below meth c D dA H locs lsA C hn S hW hF hS hL hY)
theorem GL.value {index : Nat} (d : Dc M pc (.getfield index) 3) (hw : Cond.fieldLink (m_own M) index "java/lang/String" "value" "[B" ∈ gw) (kk : GL (LT adK adV) M K0 V0 Φ K V cells slots (pc + 3) ls (.ref (adV 0) :: st)) : GL (LT adK adV) M K0 V0 Φ K V cells slots pc ls (.ref (adK 0) :: st) := fun p l e s m args below meth c D dA H locs lsA C hn S hW hF hS hL hY =>
  vk_getf C.1 C.2.1 (hY.2.1 0 (by decide)).2.2.1 S.2.1 C.2.2.2.2.2.1 (C.2.2.2.2.2.2.1 _ hw) (fun _ h => h) d (kk p l e s m args below meth c D dA H locs lsA C hn S hW hF hS hL hY)
theorem GL.blen (d : Dc M pc .arraylength 1) (kk : GL (LT adK adV) M K0 V0 Φ K V cells slots (pc + 1) ls (ti 14 :: st)) : GL (LT adK adV) M K0 V0 Φ K V cells slots pc ls (.ref (adV 0) :: st) := fun p l e s m args below meth c D dA H locs lsA C hn S hW hF hS hL hY => by
  obtain ⟨cell, h1, h2, h3, h4, h5, h6, h7⟩ := (hY.2.1 0 (by decide)).2.2.2
  exact W.alen (n := Int32.ofNat 14) C.1 C.2.1 (by rw [S.2.1.2.1 _ (Array.getElem?_eq_some_iff.mp h1).1 h7]; exact h1) h2 h5 rfl rfl d (kk p l e s m args below meth c D dA H locs lsA C hn S hW hF hS hL hY)
/-- the text's signs -/
def LBv (j : Nat) : Int := (litB.getD j 0).toInt
theorem GL.bload {X : Int} (d : Dc M pc .baload 1) (hX : ir X) (h0 : 0 ≤ X) (h1 : X < 14) (kk : GL (LT adK adV) M K0 V0 Φ K V cells slots (pc + 1) ls (ti (LBv X.toNat) :: st)) : GL (LT adK adV) M K0 V0 Φ K V cells slots pc ls (ti X :: .ref (adV 0) :: st) := fun p l e s m args below meth c D dA H locs lsA C hn S hW hF hS hL hY => by
  have hin : vp_in (Int32.ofInt X) 14 := by
    intro q
    have e := ti_int hX
    rcases q with q | q
    · rw [Int32.lt_iff_toInt_lt, Int32.toInt_zero] at q; omega
    · have e2 : (Int32.ofInt X).toNatClampNeg = X.toNat := by show (Int32.ofInt X).toInt.toNat = _; rw [e]
      omega
  have e2 : (Int32.ofInt X).toNatClampNeg = X.toNat := by show (Int32.ofInt X).toInt.toNat = _; rw [ti_int hX]
  exact va_tb (v := ti (LBv X.toNat)) C.1 C.2.1 (hY.2.1 0 (by decide)).2.2.2 S.2.1 hin (by
    show Value.int (litB.getD (Int32.ofInt X).toNatClampNeg 0) = _
    rw [e2, ti_of]
    rfl) d (kk p l e s m args below meth c D dA H locs lsA C hn S hW hF hS hL hY)
theorem GL.callS {N : MRec} {n index : Nat} {As : List Value} {Ψ : Option Value → Kmap → Vmap → Prop} (d : Dc M pc (.invokestatic index) 3) (hG : GS (m_own M) index (m_y N) (m_cc N) (m_nL N) (m_rt N) n) (hM : MC N K V As Ψ) (hn : As.length = n) (rest : List Value) (hst : st = As.reverse ++ rest) (hR : fitsR M N cells slots = true) (hl : lowS rest) (hs : subW (m_ws N) (m_ws M) = true)
    (kk : ∀ (r : Option Value) (K1 : Kmap) (V1 : Vmap), Ψ r K1 V1 → ext K K1 → FR (m_ws N) K V K1 V1 → GL YY M K0 V0 Φ K1 V1 (cells + m_mc N) (slots + m_ms N) (pc + 3) ls (pushR r rest)) : GL YY M K0 V0 Φ K V cells slots pc ls st := fun p l e s m args below meth c D dA H locs lsA C hn1 S hW hF hS hL hY => by
  obtain ⟨hx0, hb, hml, -, -, hown, hts, hKN⟩ := id C
  have hf := fits_use hR
  refine th_go (N := N) S (va_runS ⟨hx0, hb, hml, hown, hts⟩ (hM hW l D dA H.size) (va_cwS n hts hG.1 rfl rfl rfl hG.2 hf.1) ⟨PX.blind, PX.at hKN S.1 (hS.next S)⟩ rfl hn hL.1 hst (lv_room hl) d hf.2) (fun r K1 V1 H1 locs1 hp hK hW1 hF1 S1 => ?_)
  exact kk r K1 V1 hp hK hF1 p l e s m args below meth c D dA H1 locs1 lsA C hn1 S1 hW1 (hF.call S.2.2.2 hK hs hF1) hS hL hY
theorem GL.callT (yc : YC YY) {N : MRec} {n index : Nat} {As : List Value} {Ψ : Option Value → Kmap → Vmap → Prop} (d : Dc M pc (.invokestatic index) 3) (hG : GS (m_own M) index (m_y N) (m_cc N) (m_nL N) (m_rt N) n) (hM : ML YY N K V As Ψ) (hn : As.length = n) (rest : List Value) (hst : st = As.reverse ++ rest) (hR : fitsR M N cells slots = true) (hl : lowS rest) (hs : subW (m_ws N) (m_ws M) = true)
    (kk : ∀ (r : Option Value) (K1 : Kmap) (V1 : Vmap), Ψ r K1 V1 → ext K K1 → FR (m_ws N) K V K1 V1 → GL YY M K0 V0 Φ K1 V1 (cells + m_mc N) (slots + m_ms N) (pc + 3) ls (pushR r rest)) : GL YY M K0 V0 Φ K V cells slots pc ls st := fun p l e s m args below meth c D dA H locs lsA C hn1 S hW hF hS hL hY => by
  obtain ⟨hx0, hb, hml, -, -, hown, hts, hKN⟩ := id C
  have hf := fits_use hR
  refine th_go (N := N) S (va_runS ⟨hx0, hb, hml, hown, hts⟩ (hM hW l D dA H.size) (va_cwS n hts hG.1 rfl rfl rfl hG.2 hf.1) ⟨PL.blind yc, PL.at yc hKN S.1 (hS.next S) (yc.2.2 _ _ _ _ _ _ _ _ hY S)⟩ rfl hn hL.1 hst (lv_room hl) d hf.2) (fun r K1 V1 H1 locs1 hp hK hW1 hF1 S1 => ?_)
  exact kk r K1 V1 hp hK hF1 p l e s m args below meth c D dA H1 locs1 lsA C hn1 S1 hW1 (hF.call S.2.2.2 hK hs hF1) hS hL hY
theorem GL.callV {N : MRec} {n index : Nat} {As : List Value} {Ψ : Option Value → Kmap → Vmap → Prop} (d : Dc M pc (.invokevirtual index) 3) (hG : GV (m_own M) index "java/lang/String" (m_y N) (m_cc N) (m_nL N) (m_rt N) n) (hM : ML (LT adK adV) N K V (.ref (adK 0) :: As) Ψ) (hn : As.length = n) (rest : List Value) (hst : st = As.reverse ++ .ref (adK 0) :: rest) (hR : fitsR M N cells slots = true) (hl : lowS rest) (hs : subW (m_ws N) (m_ws M) = true)
    (kk : ∀ (r : Option Value) (K1 : Kmap) (V1 : Vmap), Ψ r K1 V1 → ext K K1 → FR (m_ws N) K V K1 V1 → GL (LT adK adV) M K0 V0 Φ K1 V1 (cells + m_mc N) (slots + m_ms N) (pc + 3) ls (pushR r rest)) : GL (LT adK adV) M K0 V0 Φ K V cells slots pc ls st := fun p l e s m args below meth c D dA H locs lsA C hn1 S hW hF hS hL hY => by
  obtain ⟨hx0, hb, hml, -, -, hown, hts, hKN⟩ := id C
  have hf := fits_use hR
  refine th_go (N := N) S (va_runV ⟨hx0, hb, hml, hown, hts⟩ (hM hW l D dA H.size) (cwV n hts hG.1 rfl rfl rfl hG.2 hf.1) ⟨PL.blind yc_lt, vk_recv hY.2 (by decide) S.2.1, PL.at yc_lt hKN S.1 (hS.next S) (hY.next S)⟩ rfl hn hL.1 hst (lv_room hl) d hf.2) (fun r K1 V1 H1 locs1 hp hK hW1 hF1 S1 => ?_)
  exact kk r K1 V1 hp hK hF1 p l e s m args below meth c D dA H1 locs1 lsA C hn1 S1 hW1 (hF.call S.2.2.2 hK hs hF1) hS hL hY
theorem l_ip {N : Nat} {post : Int → Prop} (kk : ∀ X, ir X → post X → GL YY M K0 V0 Φ K V cells slots pc ls (ti X :: st)) : ∀ (r : Option Value) (K1 : Kmap) (V1 : Vmap), IP K V post r K1 V1 → ext K K1 → FR N K V K1 V1 → GL YY M K0 V0 Φ K1 V1 cells slots pc ls (pushR r st) := by
  rintro r K1 V1 ⟨rfl, rfl, X, rfl, h1, h2⟩ - -
  exact kk X h1 h2
theorem GL.retb (hc : (Nat.ble cells (m_mc M) && Nat.ble slots (m_ms M)) = true) (hr : m_rt M = some .byte) (d : Dc M pc .ireturn 1) (hp : Φ (some (ti 0)) K V) : GL YY M K0 V0 Φ K V cells slots pc ls [ti 0] := fun p l e s m args below meth c D dA H locs lsA C hn S hW hF hS hL hY => by
  simp only [Bool.and_eq_true] at hc
  exact W.widen (Nat.le_of_ble_eq_true hc.1) (Nat.le_of_ble_eq_true hc.2) (W.zret C.1 C.2.1 (C.2.2.2.1.trans hr) rfl (fun t ht _ => HQ.of S hW hF ht hp) S.2.1.2.2 d (hlocks := C.2.2.2.2.1))
end GLR
/-- the first place of c from f on, below t -/
def LX (c f t X : Int) : Prop := (X = -1 ∧ ∀ j : Int, f ≤ j → j < t → LBv j.toNat ≠ wi2b c) ∨ (f ≤ X ∧ X < t ∧ LBv X.toNat = wi2b c)
theorem LX.let1 : ∀ c : Nat, c < 256 → ∀ z : Nat, z < 14 → LBv z = wi2b (c : Int) → (z : Int) = letN (c : Int) := by decide +kernel
theorem LX.let2 : ∀ c : Nat, c < 256 → (∀ j : Nat, j < 14 → LBv j ≠ wi2b (c : Int)) → letN (c : Int) = -1 := by decide +kernel
theorem LX.is {c X : Int} (h : LX c 0 14 X) (h0 : 0 ≤ c) (h1 : c ≤ 255) : X = letN c := by
  obtain ⟨c, rfl⟩ := Int.eq_ofNat_of_zero_le h0
  rcases h with ⟨h, h2⟩ | ⟨h, h2, h3⟩
  · rw [h, LX.let2 c (by omega) (fun j hj => h2 (j : Int) (by omega) (by omega))]
  · obtain ⟨z, rfl⟩ := Int.eq_ofNat_of_zero_le h
    exact LX.let1 c (by omega) z (by omega) h3
theorem wi2c_id {c : Int} (h0 : 0 ≤ c) (h1 : c ≤ 255) : wi2c c = c := by
  obtain ⟨c, rfl⟩ := Int.eq_ofNat_of_zero_le h0
  exact (by decide +kernel : ∀ c : Nat, c < 256 → wi2c (c : Int) = (c : Int)) c (by omega)
def mJ0_coder : MRec := (RJ0, cJ0_coder_7d493, 1, some .byte, yJ0_coder_7d493, 0, 0, 0, 0, 0)
def mJ0_isLatin1 : MRec := (RJ0, cJ0_isLatin1_aae02, 1, some .boolean, yJ0_isLatin1_aae02, 0, 0, 0, 0, 0)
def mJ0_length : MRec := (RJ0, cJ0_length_8abf5, 1, some .int, yJ0_length_8abf5, 1, 20, 0, 0, 0)
def mJ1_indexOfChar : MRec := (RJ1, cJ1_indexOfChar_4cfef, 6, some .int, yJ1_indexOfChar_4cfef, 0, 0, 0, 0, 0)
def mJ1_indexOf : MRec := (RJ1, cJ1_indexOf_4cfef, 4, some .int, yJ1_indexOf_4cfef, 1, 25, 0, 0, 0)
def mJ0_indexOf2 : MRec := (RJ0, cJ0_indexOf_7cf53, 3, some .int, yJ0_indexOf_7cf53, 2, 48, 0, 0, 0)
def mJ0_indexOf1 : MRec := (RJ0, cJ0_indexOf_0f7a4, 2, some .int, yJ0_indexOf_0f7a4, 3, 70, 0, 0, 0)
section JT
variable {adK adV : Nat → Nat} {K : Kmap} {V : Vmap}
theorem t_J0_coder : ML (LT adK adV) mJ0_coder K V [.ref (adK 0)] (IP K V (fun X => X = 0)) := by
  refine ML.of 0 (by decide +kernel) rfl rfl rfl (ls0 := [some (.ref (adK 0))]) rfl ?_
  refine GL.cs dJ0_coder_7d493_0 gw_718 ?_
  refine GL.if_eq (tgt := 13) dJ0_coder_7d493_3 (by decide) (ir_c rfl) (fun h => by exfalso; omega) (fun _ => ?_)
  refine GL.aload_n dJ0_coder_7d493_6 rfl rfl ?_
  refine GL.coder dJ0_coder_7d493_7 gw_2541 ?_
  refine GL.goto (tgt := 14) dJ0_coder_7d493_10 (by decide) ?_
  exact GL.retb rfl rfl dJ0_coder_7d493_14 ⟨rfl, rfl, _, rfl, ir_c rfl, rfl⟩
theorem t_J0_isLatin1 : ML (LT adK adV) mJ0_isLatin1 K V [.ref (adK 0)] (IP K V (fun X => X = 1)) := by
  refine ML.of 0 (by decide +kernel) rfl rfl rfl (ls0 := [some (.ref (adK 0))]) rfl ?_
  refine GL.cs dJ0_isLatin1_aae02_0 gw_718 ?_
  refine GL.if_eq (tgt := 17) dJ0_isLatin1_aae02_3 (by decide) (ir_c rfl) (fun h => by exfalso; omega) (fun _ => ?_)
  refine GL.aload_n dJ0_isLatin1_aae02_6 rfl rfl ?_
  refine GL.coder dJ0_isLatin1_aae02_7 gw_2541 ?_
  refine GL.if_ne (tgt := 17) dJ0_isLatin1_aae02_10 (by decide) (ir_c rfl) (fun h => by exfalso; omega) (fun _ => ?_)
  refine GL.iconst dJ0_isLatin1_aae02_13 ?_
  refine GL.goto (tgt := 18) dJ0_isLatin1_aae02_14 (by decide) ?_
  exact GL.retz rfl rfl dJ0_isLatin1_aae02_18 (Or.inr rfl) ⟨rfl, rfl, _, rfl, ir_c rfl, rfl⟩
theorem t_J0_length : ML (LT adK adV) mJ0_length K V [.ref (adK 0)] (IP K V (fun X => X = 14)) := by
  refine ML.of 0 (by decide +kernel) rfl rfl rfl (ls0 := [some (.ref (adK 0))]) rfl ?_
  refine GL.aload_n dJ0_length_8abf5_0 rfl rfl ?_
  refine GL.value dJ0_length_8abf5_1 gw_2542 ?_
  refine GL.blen dJ0_length_8abf5_4 ?_
  refine GL.aload_n dJ0_length_8abf5_5 rfl rfl ?_
  refine GL.callV (N := mJ0_coder) dJ0_length_8abf5_6 gV_RJ0_335 t_J0_coder rfl [ti 14] rfl rfl (Nat.le_of_ble_eq_true rfl) rfl (l_ip fun X r h => ?_)
  subst h
  refine GL.ishr dJ0_length_8abf5_9 ?_
  exact GL.reti rfl rfl dJ0_length_8abf5_10 ⟨rfl, rfl, _, rfl, wshr_ir, by decide +kernel⟩
theorem t_J1_indexOfChar {c f t : Int} (rc : ir c) (rf : ir f) (rt : ir t) (h0 : 0 ≤ f) (h1 : t ≤ 14) : ML (LT adK adV) mJ1_indexOfChar K V [.ref (adV 0), ti c, ti f, ti t] (IP K V (fun X => (-1 ≤ X ∧ X ≤ 13) ∧ LX c f t X)) := by
  refine ML.of 2 (by decide +kernel) rfl rfl rfl (ls0 := [some (.ref (adV 0)), some (ti c), some (ti f), some (ti t), none, none]) rfl ?_
  refine GL.iload_n dJ1_indexOfChar_4cfef_0 rfl rfl ?_
  refine GL.i2b dJ1_indexOfChar_4cfef_1 ?_
  refine GL.istore (ls1 := [some (.ref (adV 0)), some (ti c), some (ti f), some (ti t), some (ti (wi2b c)), none]) dJ1_indexOfChar_4cfef_2 rfl rfl ?_
  refine GL.iload_n dJ1_indexOfChar_4cfef_4 rfl rfl ?_
  refine GL.istore (ls1 := [some (.ref (adV 0)), some (ti c), some (ti f), some (ti t), some (ti (wi2b c)), some (ti f)]) dJ1_indexOfChar_4cfef_5 rfl rfl ?_
  refine GL.loop (α := Int) (fun i W => f ≤ i ∧ ir i ∧ (∀ j : Int, f ≤ j → j < i → LBv j.toNat ≠ wi2b c) ∧ V = W) (fun i => [some (.ref (adV 0)), some (ti c), some (ti f), some (ti t), some (ti (wi2b c)), some (ti i)]) (fun i _ => (2147483647 - i).toNat) f ⟨Int.le_refl _, rf, fun j h1 h2 => by omega, rfl⟩ rfl (fun i W hp ih => ?_)
  obtain ⟨hif, hir, hno, rfl⟩ := hp
  have hi0 : 0 ≤ i := by omega
  refine GL.iload dJ1_indexOfChar_4cfef_7 rfl ?_
  refine GL.iload_n dJ1_indexOfChar_4cfef_9 rfl rfl ?_
  refine GL.icmp_ge (tgt := 31) dJ1_indexOfChar_4cfef_10 (by decide) hir rt (fun hge => ?_) (fun hlt => ?_)
  · refine GL.iconst dJ1_indexOfChar_4cfef_31 ?_
    exact GL.reti rfl rfl dJ1_indexOfChar_4cfef_32 ⟨rfl, rfl, _, rfl, ir_c rfl, ⟨by decide, by decide⟩, Or.inl ⟨rfl, fun j h1 h2 => hno j h1 (by omega)⟩⟩
  · refine GL.aload_n dJ1_indexOfChar_4cfef_13 rfl rfl ?_
    refine GL.iload dJ1_indexOfChar_4cfef_14 rfl ?_
    refine GL.bload dJ1_indexOfChar_4cfef_16 hir hi0 (by omega) ?_
    refine GL.iload dJ1_indexOfChar_4cfef_17 rfl ?_
    refine GL.icmp_ne (tgt := 25) dJ1_indexOfChar_4cfef_19 (by decide) (th_rng _) wi2b_ir (fun hne => ?_) (fun heq => ?_)
    · refine GL.iinc (X := i) (n := 1) (Y := i + 1) (ls1 := [some (.ref (adV 0)), some (ti c), some (ti f), some (ti t), some (ti (wi2b c)), some (ti (i + 1))]) dJ1_indexOfChar_4cfef_25 rfl rfl rfl rfl ?_
      refine GL.goto (tgt := 7) dJ1_indexOfChar_4cfef_28 (by decide) ?_
      unfold ir at hir
      exact ih (i + 1) _ ⟨by omega, ⟨by omega, by omega⟩, fun j h1 h2 => by
        by_cases hj : j = i
        · subst hj; exact hne
        · exact hno j h1 (by omega), rfl⟩ (by show (2147483647 - (i + 1)).toNat < (2147483647 - i).toNat; omega)
    · refine GL.iload dJ1_indexOfChar_4cfef_22 rfl ?_
      exact GL.reti rfl rfl dJ1_indexOfChar_4cfef_24 ⟨rfl, rfl, _, rfl, hir, ⟨by omega, by omega⟩, Or.inr ⟨hif, hlt, heq⟩⟩
theorem t_J1_indexOf {c : Int} (rc : ir c) : ML (LT adK adV) mJ1_indexOf K V [.ref (adV 0), ti c, ti 0, ti 14] (IP K V (fun X => (-1 ≤ X ∧ X ≤ 13) ∧ (0 ≤ c → c ≤ 255 → LX c 0 14 X))) := by
  refine ML.of 0 (by decide +kernel) rfl rfl rfl (ls0 := [some (.ref (adV 0)), some (ti c), some (ti 0), some (ti 14)]) rfl ?_
  refine GL.iload_n dJ1_indexOf_4cfef_0 rfl rfl ?_
  refine GL.callS (N := mJ1_canEncode_9a6ad) dJ1_indexOf_4cfef_1 gS_RJ1_88 (t_J1_canEncode_9a6ad rc) rfl [] rfl rfl (Nat.le_of_ble_eq_true rfl) rfl (l_ip fun X r h => ?_)
  refine GL.if_ne (tgt := 9) dJ1_indexOf_4cfef_4 (by decide) r (fun _ => ?_) (fun hX0 => ?_)
  · refine GL.iload_n dJ1_indexOf_4cfef_9 rfl rfl ?_
    refine GL.iconst dJ1_indexOf_4cfef_10 ?_
    refine GL.callS (N := mJ9_max_7cf53) dJ1_indexOf_4cfef_11 gS_RJ1_92 (t_J9_max_7cf53 (ir_c rfl) (ir_c rfl)) rfl [] rfl rfl (Nat.le_of_ble_eq_true rfl) rfl (l_ip fun F rF hF => ?_)
    refine GL.istore_n (ls1 := [some (.ref (adV 0)), some (ti c), some (ti F), some (ti 14)]) dJ1_indexOf_4cfef_14 rfl rfl rfl ?_
    refine GL.iload_n dJ1_indexOf_4cfef_15 rfl rfl ?_
    refine GL.aload_n dJ1_indexOf_4cfef_16 rfl rfl ?_
    refine GL.blen dJ1_indexOf_4cfef_17 ?_
    refine GL.callS (N := mJ9_min_7cf53) dJ1_indexOf_4cfef_18 gS_RJ1_38 (t_J9_min_7cf53 (ir_c rfl) (ir_c rfl)) rfl [] rfl rfl (Nat.le_of_ble_eq_true rfl) rfl (l_ip fun T rT hT => ?_)
    refine GL.istore_n (ls1 := [some (.ref (adV 0)), some (ti c), some (ti F), some (ti T)]) dJ1_indexOf_4cfef_21 rfl rfl rfl ?_
    refine GL.iload_n dJ1_indexOf_4cfef_22 rfl rfl ?_
    refine GL.iload_n dJ1_indexOf_4cfef_23 rfl rfl ?_
    refine GL.icmp_lt (tgt := 29) dJ1_indexOf_4cfef_24 (by decide) rF rT (fun _ => ?_) (fun hFT => ?_)
    · refine GL.aload_n dJ1_indexOf_4cfef_29 rfl rfl ?_
      refine GL.iload_n dJ1_indexOf_4cfef_30 rfl rfl ?_
      refine GL.iload_n dJ1_indexOf_4cfef_31 rfl rfl ?_
      refine GL.iload_n dJ1_indexOf_4cfef_32 rfl rfl ?_
      refine GL.callT yc_lt (N := mJ1_indexOfChar) dJ1_indexOf_4cfef_33 gS_RJ1_95 (t_J1_indexOfChar rc rF rT (by omega) (by omega)) rfl [] rfl rfl (Nat.le_of_ble_eq_true rfl) rfl (l_ip fun Y rY hY => ?_)
      exact GL.reti rfl rfl dJ1_indexOf_4cfef_36 ⟨rfl, rfl, _, rfl, rY, hY.1, fun _ _ => by
        have e1 : F = 0 := by omega
        have e2 : T = 14 := by omega
        subst e1 e2
        exact hY.2⟩
    · refine GL.iconst dJ1_indexOf_4cfef_27 ?_
      exact GL.reti rfl rfl dJ1_indexOf_4cfef_28 ⟨rfl, rfl, _, rfl, ir_c rfl, ⟨by decide, by decide⟩, fun _ _ => by exfalso; omega⟩
  · refine GL.iconst dJ1_indexOf_4cfef_7 ?_
    exact GL.reti rfl rfl dJ1_indexOf_4cfef_8 ⟨rfl, rfl, _, rfl, ir_c rfl, ⟨by decide, by decide⟩, fun g0 g1 => absurd ⟨g0, g1⟩ (h.2.2.2 hX0)⟩
theorem t_J0_indexOf2 {c : Int} (rc : ir c) : ML (LT adK adV) mJ0_indexOf2 K V [.ref (adK 0), ti c, ti 0] (IP K V (fun X => (-1 ≤ X ∧ X ≤ 13) ∧ (0 ≤ c → c ≤ 255 → LX c 0 14 X))) := by
  refine ML.of 0 (by decide +kernel) rfl rfl rfl (ls0 := [some (.ref (adK 0)), some (ti c), some (ti 0)]) rfl ?_
  refine GL.aload_n dJ0_indexOf_7cf53_0 rfl rfl ?_
  refine GL.callV (N := mJ0_isLatin1) dJ0_indexOf_7cf53_1 gV_RJ0_492 t_J0_isLatin1 rfl [] rfl rfl (Nat.le_of_ble_eq_true rfl) rfl (l_ip fun X r h => ?_)
  refine GL.if_eq (tgt := 23) dJ0_indexOf_7cf53_4 (by decide) r (fun h => by exfalso; omega) (fun _ => ?_)
  refine GL.aload_n dJ0_indexOf_7cf53_7 rfl rfl ?_
  refine GL.value dJ0_indexOf_7cf53_8 gw_2542 ?_
  refine GL.iload_n dJ0_indexOf_7cf53_11 rfl rfl ?_
  refine GL.iload_n dJ0_indexOf_7cf53_12 rfl rfl ?_
  refine GL.aload_n dJ0_indexOf_7cf53_13 rfl rfl ?_
  refine GL.callV (N := mJ0_length) dJ0_indexOf_7cf53_14 gV_RJ0_505 t_J0_length rfl [ti 0, ti c, .ref (adV 0)] rfl rfl (Nat.le_of_ble_eq_true rfl) rfl (l_ip fun N rN hN => ?_)
  subst hN
  refine GL.callT yc_lt (N := mJ1_indexOf) dJ0_indexOf_7cf53_17 gS_RJ0_637 (t_J1_indexOf rc) rfl [] rfl rfl (Nat.le_of_ble_eq_true rfl) rfl (l_ip fun Y rY hY => ?_)
  refine GL.goto (tgt := 36) dJ0_indexOf_7cf53_20 (by decide) ?_
  exact GL.reti rfl rfl dJ0_indexOf_7cf53_36 ⟨rfl, rfl, _, rfl, rY, hY⟩
theorem t_J0_indexOf1 {c : Int} (rc : ir c) : ML (LT adK adV) mJ0_indexOf1 K V [.ref (adK 0), ti c] (IP K V (fun X => (-1 ≤ X ∧ X ≤ 13) ∧ (0 ≤ c → c ≤ 255 → LX c 0 14 X))) := by
  refine ML.of 0 (by decide +kernel) rfl rfl rfl (ls0 := [some (.ref (adK 0)), some (ti c)]) rfl ?_
  refine GL.aload_n dJ0_indexOf_0f7a4_0 rfl rfl ?_
  refine GL.iload_n dJ0_indexOf_0f7a4_1 rfl rfl ?_
  refine GL.iconst dJ0_indexOf_0f7a4_2 ?_
  refine GL.callV (N := mJ0_indexOf2) dJ0_indexOf_0f7a4_3 gV_RJ0_633 (t_J0_indexOf2 rc) rfl [] rfl rfl (Nat.le_of_ble_eq_true rfl) rfl (l_ip fun Y rY hY => ?_)
  exact GL.reti rfl rfl dJ0_indexOf_0f7a4_6 ⟨rfl, rfl, _, rfl, rY, hY⟩
end JT
section ST8
variable {t : Nat} {f : Nat → Int32} {M : MRec} {K0 : Kmap} {V0 : Vmap} {Φ : Option Value → Kmap → Vmap → Prop} {K : Kmap} {V : Vmap} {cells slots pc : Nat} {ls : List (Option Value)} {st : List Value}
theorem GL.slen (d : Dc M pc .arraylength 1) (kk : GL (TT t f) M K0 V0 Φ K V cells slots (pc + 1) ls (ti 8 :: st)) : GL (TT t f) M K0 V0 Φ K V cells slots pc ls (.ref t :: st) := fun p l e s m args below meth c D dA H locs lsA C hn S hW hF hS hL hY => by
  obtain ⟨cell, h1, h2, h3, h4, h5, h6, h7⟩ := id hY
  exact W.alen (n := Int32.ofNat 8) C.1 C.2.1 (by rw [S.2.1.2.1 _ (Array.getElem?_eq_some_iff.mp h1).1 h7]; exact h1) h2 h5 rfl rfl d (kk p l e s m args below meth c D dA H locs lsA C hn S hW hF hS hL hY)
theorem GL.sload {X : Int} (d : Dc M pc .iaload 1) (hX : ir X) (h0 : 0 ≤ X) (h1 : X < 8) (kk : ∀ Z : Int, ir Z → Z = (f X.toNat).toInt → GL (TT t f) M K0 V0 Φ K V cells slots (pc + 1) ls (ti Z :: st)) : GL (TT t f) M K0 V0 Φ K V cells slots pc ls (ti X :: .ref t :: st) := fun p l e s m args below meth c D dA H locs lsA C hn S hW hF hS hL hY => by
  have hin : vp_in (Int32.ofInt X) 8 := by
    intro q
    have e := ti_int hX
    rcases q with q | q
    · rw [Int32.lt_iff_toInt_lt, Int32.toInt_zero] at q; omega
    · have e2 : (Int32.ofInt X).toNatClampNeg = X.toNat := by show (Int32.ofInt X).toInt.toNat = _; rw [e]
      omega
  refine va_ti C.1 C.2.1 hY S.2.1 hin rfl d ?_
  rw [ti_of]
  exact kk _ (th_rng _) (by rw [show (Int32.ofInt X).toNatClampNeg = X.toNat by show (Int32.ofInt X).toInt.toNat = _; rw [ti_int hX]]) p l e s m args below meth c D dA H locs lsA C hn S hW hF hS hL hY
theorem t_X4_getS {p1 : Int} (r_p1 : ir p1) : ML (TT t f) mX4_get K V [.ref t, ti p1] (IP K V (fun Z => 0 ≤ p1 → p1 < 8 → Z = (f p1.toNat).toInt)) := by
  refine ML.of 0 (by decide +kernel) rfl rfl rfl (ls0 := [some (.ref t), some (ti p1)]) rfl ?_
  refine GL.aload_n dX4_get_0 rfl rfl ?_
  refine GL.ifnull dX4_get_1 ?_
  refine GL.iload_n dX4_get_4 rfl rfl ?_
  refine GL.if_lt (tgt := 20) dX4_get_5 (by decide) r_p1 (fun c1 => ?_) (fun c1 => ?_)
  · refine GL.iconst dX4_get_20 ?_
    exact GL.reti rfl rfl dX4_get_21 ⟨rfl, rfl, _, rfl, (ir_c rfl), fun h0 h8 => by exfalso; omega⟩
  · refine GL.iload_n dX4_get_8 rfl rfl ?_
    refine GL.aload_n dX4_get_9 rfl rfl ?_
    refine GL.slen dX4_get_10 ?_
    refine GL.icmp_ge (tgt := 20) dX4_get_11 (by decide) r_p1 (ir_c rfl) (fun c3 => ?_) (fun c3 => ?_)
    · refine GL.iconst dX4_get_20 ?_
      exact GL.reti rfl rfl dX4_get_21 ⟨rfl, rfl, _, rfl, (ir_c rfl), fun h0 h8 => by exfalso; omega⟩
    · refine GL.aload_n dX4_get_14 rfl rfl ?_
      refine GL.iload_n dX4_get_15 rfl rfl ?_
      refine GL.sload dX4_get_16 r_p1 c1 c3 (fun Z rZ eZ => ?_)
      refine GL.goto (tgt := 21) dX4_get_17 (by decide) ?_
      exact GL.reti rfl rfl dX4_get_21 ⟨rfl, rfl, _, rfl, rZ, fun _ _ => eZ⟩
theorem GO.stepGet {nm : String} {index j i : Nat} {k : Fin 4} {X : Int} (d1 : Dc M pc (.getstatic index) 3) (d2 : Dc M (pc + 3) (.iload_n k) 1) (d3 : Dc M (pc + 4) (.invokestatic j) 3) (hnm : nm = "ROW_STEPS" ∨ nm = "COLUMN_STEPS") (hw : Cond.fieldLink (m_own M) index RX0 nm "[I" ∈ gw) (hG : GS (m_own M) j yX4_get cX4_get 2 (some .int) 2) (hR : fitsR M mX4_get cells slots = true) (hs : subW 0 (m_ws M) = true) (hl0 : lowS st) (hi : (k : Nat) = i) (hl : ls[i]? = some (some (ti X))) (hX : ir X) (kk : ∀ Z, ir Z → ((nm = "ROW_STEPS" → 0 ≤ X → X ≤ 7 → Z = rsv X) ∧ (nm = "COLUMN_STEPS" → 0 ≤ X → X ≤ 7 → Z = csv X)) → GO M K0 V0 Φ K V cells slots (pc + 7) ls (ti Z :: st)) : GO M K0 V0 Φ K V cells slots pc ls st := fun p l e s m args below meth c D dA H locs lsA C hn S hW hF hS hL => by
  obtain ⟨t1, t2, adK, adV, h1, h2, h3, h4, -⟩ := id hS
  have hg : ∀ (t : Nat) (f : Nat → Int32), (∀ Z : Int, (0 ≤ X → X < 8 → Z = (f X.toNat).toInt) → (nm = "ROW_STEPS" → 0 ≤ X → X ≤ 7 → Z = rsv X) ∧ (nm = "COLUMN_STEPS" → 0 ≤ X → X ≤ 7 → Z = csv X)) → TT t f K0 s s.heap → W p l e (m_rm M) s m args below meth c H locs cells slots (MQ below (HQ D dA K0 V0 (m_ws M) Φ) args s (m_mc M) (m_ms M) (AK K0 s.heap.size)) (F0 m (pc + 3) lsA (.ref t :: st)) := fun t f hE hY => by
    have hg1 : GL (TT t f) M K0 V0 Φ K V cells slots (pc + 3) ls (.ref t :: st) := by
      refine GL.iload_n d2 hi hl ?_
      refine GL.callT yc_tt (N := mX4_get) d3 hG (t_X4_getS hX) rfl st rfl hR hl0 hs (l_ip fun Z rZ eZ => ?_)
      exact fun p l e s m args below meth c D dA H locs lsA C hn S hW hF hS hL _ => kk Z rZ (hE Z eZ) p l e s m args below meth c D dA H locs lsA C hn S hW hF hS hL
    exact hg1 p l e s m args below meth c D dA H locs lsA C hn S hW hF hS hL hY
  rcases hnm with rfl | rfl
  · exact va_gets C.1 C.2.1 h1 S.2.1 C.2.2.2.2.2.1 (C.2.2.2.2.2.2.1 _ hw) (fun _ h => h) d1 (hg t1 (fun j => rowB.getD j 0) (fun Z h => ⟨fun _ h0 h7 => h h0 (by omega), fun e => absurd e (by decide)⟩) h2)
  · exact va_gets C.1 C.2.1 h3 S.2.1 C.2.2.2.2.2.1 (C.2.2.2.2.2.2.1 _ hw) (fun _ h => h) d1 (hg t2 (fun j => colB.getD j 0) (fun Z h => ⟨fun e => absurd e (by decide), fun _ h0 h7 => h h0 (by omega)⟩) h4)
end ST8
section LET
variable {M : MRec} {K0 : Kmap} {V0 : Vmap} {Φ : Option Value → Kmap → Vmap → Prop} {K : Kmap} {V : Vmap} {cells slots pc : Nat} {ls : List (Option Value)} {st : List Value}
theorem GO.letters {X : Int} {k : Fin 4} {i : Nat} (d1 : Dc M pc (.ldc 117) 2) (d2 : Dc M (pc + 2) (.iload_n k) 1) (d3 : Dc M (pc + 3) .i2c 1) (d4 : Dc M (pc + 4) (.invokevirtual 119) 3) (ho : m_own M = "IceTreaty$Scribe") (hG : GV (m_own M) 119 "java/lang/String" yJ0_indexOf_0f7a4 cJ0_indexOf_0f7a4 2 (some .int) 1) (hR : fitsR M mJ0_indexOf1 cells slots = true) (hs : subW 0 (m_ws M) = true) (hl0 : lowS st) (hi : (k : Nat) = i) (hl : ls[i]? = some (some (ti X))) (kk : ∀ Z, ir Z → -1 ≤ Z ∧ Z ≤ 13 → (0 ≤ X → X ≤ 255 → Z = letN X) → GO M K0 V0 Φ K V cells slots (pc + 7) ls (ti Z :: st)) : GO M K0 V0 Φ K V cells slots pc ls st := fun p l e s m args below meth c D dA H locs lsA C hn S hW hF hS hL => by
  obtain ⟨t1, t2, adK, adV, h1, h2, h3, h4, h5, h6, h7⟩ := id hS
  refine va_ldcS C.1 C.2.1 (ho ▸ C.2.2.2.2.2.1) h7 d1 ?_
  have hg : GL (LT adK adV) M K0 V0 Φ K V cells slots (pc + 2) ls (.ref (adK 0) :: st) := by
    refine GL.iload_n d2 hi hl ?_
    refine GL.i2c d3 ?_
    refine GL.callV (N := mJ0_indexOf1) d4 hG (t_J0_indexOf1 wi2c_ir) rfl st rfl hR hl0 hs (l_ip fun Z rZ hZ => ?_)
    exact fun p l e s m args below meth c D dA H locs lsA C hn S hW hF hS hL _ => kk Z rZ hZ.1 (fun g0 g1 => by
      have h := hZ.2 (by rw [wi2c_id g0 g1]; exact g0) (by rw [wi2c_id g0 g1]; exact g1)
      rw [wi2c_id g0 g1] at h
      exact h.is g0 g1) p l e s m args below meth c D dA H locs lsA C hn S hW hF hS hL
  exact hg p l e s m args below meth c D dA H locs lsA C hn S hW hF hS hL ⟨h5, h6⟩
end LET
