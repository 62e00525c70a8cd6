/-! THE CLAIM OUT OF ONE WALK OF THE LAW'S BODY. Your part is whole_start (and what it stands on); all else here is the same for every law, but numbers. -/
def R_law : String := "IceTreatyLaw"
def lw_P (b : Addr) (xs : List Int32) (args : Array Value) (s : State) : Prop := args = #[.ref b] ∧ s.IntsAt b xs ∧ xs.length ≤ 4096 ∧ (Jvm.Cond.and given_1 narrow_1).before args s = true
def lw_Q (_ : Array Value) (s : State) (o : Outcome) (t : State) : Prop := o = .returned (some (.int 1)) ∧ Framed s o t [] 600000 7302250
def lw_Z (below : List Frame) (a : Array Value) (s : State) : State → Prop := fun t => ∃ o, t.status = .running ∧ Ended t below o ∧ lw_Q a s o t
/-- the law's own end, with 1 on the stack, nothing written that was there before, its room as the claim has it -/
theorem lw_ret {p : Program} {l : Launch} {e : Env} {s : State} {m : MethodId} {below : List Frame} {meth : Method} {c : Code} {b : Nat} (hx : p.tables.exec = Jvm.exec) (hb : c.code = code) (hr : meth.sig.returnType = ret) (hlocks : meth.locks = false) {pc : Nat} {H : Heap} {ls : Array Slot} (hdg : decode code pc = .ok (.ireturn, 1)) : W p l e room_1 s m #[Value.ref b] below meth c H [] 600000 7302250 (lw_Z below #[Value.ref b] s) (F0 m pc ls [.int 1]) := by
  intro T hT X
  obtain ⟨fs, hret, hrun, hended, hW, hframe⟩ := X.leave (v := some (.int 1)) (hlocks := hlocks) (fun h => by rw [hr] at h; cases h)
  have hmeth' : T.vm.method? m = some meth := X.method'
  refine ⟨T.setFrames fs, ?_, .returned (some (.int 1)), hrun, hended, rfl, ⟨_, rfl⟩, hW, hframe⟩
  jvm_step X.here [X.here.top, hx, hb, hdg, hmeth', hr, ret, narrow_b1]
  (try refine ⟨rfl, ?_⟩); (try refine ⟨rfl, ?_⟩)
  first | (intro acts; rw [hret _ acts rfl rfl rfl]) | rw [hret _ _ rfl rfl rfl]
  exact Steps.refl _
/-- what holds at the law's entry: the machine, the code, the tables' words (any of lw_tbl by 'hts w (by decide +kernel)'), the script of L ints xs at the cell b, what the Statement gives of the start (any of its parts by flat_of_before) -/
def lw_At (p : Program) (s : State) (m : MethodId) (meth : Method) (c : Code) (b L : Nat) (xs : Nat → Int32) : Prop :=
  p.tables.exec = Jvm.exec ∧ c.code = code ∧ meth.sig.returnType = ret ∧ c.maxLocals = 4 ∧ s.vm.findClass R_law = some m.cls ∧ (∀ w ∈ lw_tbl, w.before #[Value.ref b] s = true) ∧ va_X b L xs s s.heap ∧ b < s.heap.size ∧ meth.locks = false ∧ (Jvm.Cond.and given_1 narrow_1).before #[Value.ref b] s = true
def kNone : Kmap := fun _ => none
def vNull : Vmap := fun _ _ => .null
section LGD
variable {p : Program} {l : Launch} {e : Env} {s : State} {m : MethodId} {below : List Frame} {meth : Method} {c : Code} {b L : Nat} {xs : Nat → Int32} {D : va_G} {dA : Nat → ClassId}
theorem law_cx (hat : lw_At p s m meth c b L xs) (hKN : KN D dA s) : CX p s m #[Value.ref b] meth c cL_law 4 ret RL D dA :=
  ⟨hat.1, hat.2.1, hat.2.2.2.1, hat.2.2.1, hat.2.2.2.2.2.2.2.2.1, hat.2.2.2.2.1, gw_hts hat.2.2.2.2.2.1, hKN⟩
theorem law_nb (hat : lw_At p s m meth c b L xs) : ¬ AK kNone s.heap.size b := fun h => by
  rcases h with ⟨k, h⟩ | h
  · cases h
  · exact absurd hat.2.2.2.2.2.2.2.1 (Nat.not_lt.mpr h)
/-- from here on the law ends well -/
def LG (p : Program) (l : Launch) (e : Env) (s : State) (m : MethodId) (below : List Frame) (meth : Method) (c : Code) (b L : Nat) (xs : Nat → Int32) (D : va_G) (dA : Nat → ClassId) (K : Kmap) (V : Vmap) (cells slots pc : Nat) (ls : List (Option Value)) (st : List Value) : Prop :=
  (CX p s m #[Value.ref b] meth c cL_law 4 ret RL D dA ∧ lw_At p s m meth c b L xs ∧ SF kNone s s.heap) → ∀ (H : Heap) (locs : List Loc) (lsA : Array Slot), SG D dA kNone s.heap K V H locs → WT K V → lvH lsA 4 ls → W p l e room_1 s m #[Value.ref b] below meth c H locs cells slots (lw_Z below #[Value.ref b] s) (F0 m pc lsA st)
/-- what a call finds -/
def LI (K : Kmap) (V : Vmap) (x m0 : Nat) : Prop := K x = some (0, 10) ∧ K m0 = some (0, 11) ∧ GX V m0 ∧ PX0 V m0 ∧ PN V x ∧ SN V x ∧ PI V x ∧ CWI K V x
def xv (xs : Nat → Int32) (Y : Int) : Int := (xs Y.toNat).toInt
theorem xv_ir {xs : Nat → Int32} {Y : Int} : ir (xv xs Y) := th_rng _
end LGD
section LGR
variable {p : Program} {l : Launch} {e : Env} {s : State} {m : MethodId} {below : List Frame} {meth : Method} {c : Code} {b L : Nat} {xs : Nat → Int32} {D : va_G} {dA : Nat → ClassId} {K : Kmap} {V : Vmap} {cells slots pc : Nat} {ls : List (Option Value)} {st : List Value}
theorem LG.iload_n {k : Fin 4} {i : Nat} {X : Int} (d : decode code pc = .ok ((.iload_n k), 1)) (hi : (k : Nat) = i) (hl : ls[i]? = some (some (ti X))) (kk : LG p l e s m below meth c b L xs D dA K V cells slots (pc + 1) ls (ti X :: st)) : LG p l e s m below meth c b L xs D dA K V cells slots pc ls st := fun A H locs lsA S hW hL => lv_iload_n A.1.1 A.1.2.1 d hi (hL.at hl) (kk A H locs lsA S hW hL)
theorem LG.aload_n {k : Fin 4} {i a : Nat} (d : decode code pc = .ok ((.aload_n k), 1)) (hi : (k : Nat) = i) (hl : ls[i]? = some (some (.ref a))) (kk : LG p l e s m below meth c b L xs D dA K V cells slots (pc + 1) ls (.ref a :: st)) : LG p l e s m below meth c b L xs D dA K V cells slots pc ls st := fun A H locs lsA S hW hL => lv_aload_n A.1.1 A.1.2.1 d hi (hL.at hl) (kk A H locs lsA S hW hL)
theorem LG.istore_n {k : Fin 4} {i : Nat} {X : Int} {ls1 : List (Option Value)} (d : decode code pc = .ok ((.istore_n k), 1)) (hi : (k : Nat) = i) (hn : Nat.ble (i + 1) (4) = true) (hl : setL ls i (some (ti X)) = ls1) (kk : LG p l e s m below meth c b L xs D dA K V cells slots (pc + 1) ls1 st) : LG p l e s m below meth c b L xs D dA K V cells slots pc ls (ti X :: st) := fun A H locs lsA S hW hL => lv_istore_n A.1.1 A.1.2.1 d hi hL (Nat.le_of_ble_eq_true hn) rfl (fun ls' h' => kk A H locs ls' S hW (hl ▸ lvH.store h'))
theorem LG.astore_n {k : Fin 4} {i a : Nat} {ls1 : List (Option Value)} (d : decode code pc = .ok ((.astore_n k), 1)) (hi : (k : Nat) = i) (hn : Nat.ble (i + 1) (4) = true) (hl : setL ls i (some (.ref a)) = ls1) (kk : LG p l e s m below meth c b L xs D dA K V cells slots (pc + 1) ls1 st) : LG p l e s m below meth c b L xs D dA K V cells slots pc ls (.ref a :: st) := fun A H locs lsA S hW hL => lv_astore_n A.1.1 A.1.2.1 d hi hL (Nat.le_of_ble_eq_true hn) rfl (fun ls' h' => kk A H locs ls' S hW (hl ▸ lvH.store h'))
theorem LG.iconst {n : Int} (d : decode code pc = .ok ((.iconst n), 1)) (kk : LG p l e s m below meth c b L xs D dA K V cells slots (pc + 1) ls (ti n :: st)) : LG p l e s m below meth c b L xs D dA K V cells slots pc ls st := fun A H locs lsA S hW hL => lv_iconst A.1.1 A.1.2.1 d rfl (kk A H locs lsA S hW hL)
theorem LG.bipush {n : Int} (d : decode code pc = .ok ((.bipush n), 2)) (hv : (Int8.ofInt n).toInt32 = Int32.ofInt n) (kk : LG p l e s m below meth c b L xs D dA K V cells slots (pc + 2) ls (ti n :: st)) : LG p l e s m below meth c b L xs D dA K V cells slots pc ls st := fun A H locs lsA S hW hL => lv_bipush A.1.1 A.1.2.1 d hv (kk A H locs lsA S hW hL)
theorem LG.iadd {X Y : Int} (d : decode code pc = .ok (.iadd, 1)) (kk : LG p l e s m below meth c b L xs D dA K V cells slots (pc + 1) ls (ti (X + Y) :: st)) : LG p l e s m below meth c b L xs D dA K V cells slots pc ls (ti Y :: ti X :: st) := fun A H locs lsA S hW hL => lv_iadd A.1.1 A.1.2.1 d (by have h := kk A H locs lsA S hW hL; rwa [ti, Int32.ofInt_add] at h)
theorem LG.isub {X Y : Int} (d : decode code pc = .ok (.isub, 1)) (kk : LG p l e s m below meth c b L xs D dA K V cells slots (pc + 1) ls (ti (X - Y) :: st)) : LG p l e s m below meth c b L xs D dA K V cells slots pc ls (ti Y :: ti X :: st) := fun A H locs lsA S hW hL => lv_isub A.1.1 A.1.2.1 d (by have h := kk A H locs lsA S hW hL; rwa [ti, Int32.ofInt_sub] at h)
theorem LG.iand {X Y : Int} (d : decode code pc = .ok (.iand, 1)) (kk : LG p l e s m below meth c b L xs D dA K V cells slots (pc + 1) ls (ti (wand X Y) :: st)) : LG p l e s m below meth c b L xs D dA K V cells slots pc ls (ti Y :: ti X :: st) := fun A H locs lsA S hW hL => by
  have h := kk A H locs lsA S hW hL
  rw [wand, ← ti_of] at h
  exact lv_iand A.1.1 A.1.2.1 d h
theorem LG.if_eq {X : Int} {off : Int} {tgt : Nat} (d : decode code pc = .ok ((.ifCond .eq off), 3)) (ht : (pc : Int) + off = (tgt : Int)) (hX : ir X) (kt : X = 0 → LG p l e s m below meth c b L xs D dA K V cells slots tgt ls st) (kf : X ≠ 0 → LG p l e s m below meth c b L xs D dA K V cells slots (pc + 3) ls st) : LG p l e s m below meth c b L xs D dA K V cells slots pc ls (ti X :: st) := fun A H locs lsA S hW hL => th_if_eq A.1.1 A.1.2.1 d ht (ti_int hX) (fun h => kt (by omega) A H locs lsA S hW hL) (fun h => kf (by omega) A H locs lsA S hW hL)
theorem LG.icmp_eq {X Y : Int} {off : Int} {tgt : Nat} (d : decode code pc = .ok ((.if_icmp .eq off), 3)) (ht : (pc : Int) + off = (tgt : Int)) (hX : ir X) (hY : ir Y) (kt : X = Y → LG p l e s m below meth c b L xs D dA K V cells slots tgt ls st) (kf : X ≠ Y → LG p l e s m below meth c b L xs D dA K V cells slots (pc + 3) ls st) : LG p l e s m below meth c b L xs D dA K V cells slots pc ls (ti Y :: ti X :: st) := fun A H locs lsA S hW hL => th_icmp_eq A.1.1 A.1.2.1 d ht (ti_int hX) (ti_int hY) (fun h => kt (by omega) A H locs lsA S hW hL) (fun h => kf (by omega) A H locs lsA S hW hL)
theorem LG.icmp_gt {X Y : Int} {off : Int} {tgt : Nat} (d : decode code pc = .ok ((.if_icmp .gt off), 3)) (ht : (pc : Int) + off = (tgt : Int)) (hX : ir X) (hY : ir Y) (kt : Y < X → LG p l e s m below meth c b L xs D dA K V cells slots tgt ls st) (kf : X ≤ Y → LG p l e s m below meth c b L xs D dA K V cells slots (pc + 3) ls st) : LG p l e s m below meth c b L xs D dA K V cells slots pc ls (ti Y :: ti X :: st) := fun A H locs lsA S hW hL => th_icmp_gt A.1.1 A.1.2.1 d ht (ti_int hX) (ti_int hY) (fun h => kt (by omega) A H locs lsA S hW hL) (fun h => kf (by omega) A H locs lsA S hW hL)
theorem LG.goto {off : Int} {tgt : Nat} (d : decode code pc = .ok ((.goto off), 3)) (ht : (pc : Int) + off = (tgt : Int)) (kk : LG p l e s m below meth c b L xs D dA K V cells slots tgt ls st) : LG p l e s m below meth c b L xs D dA K V cells slots pc ls st := fun A H locs lsA S hW hL => lv_goto A.1.1 A.1.2.1 d ht (kk A H locs lsA S hW hL)
theorem LG.pop {v : Value} (d : decode code pc = .ok (.pop, 1)) (hv : v.category = 1) (kk : LG p l e s m below meth c b L xs D dA K V cells slots (pc + 1) ls st) : LG p l e s m below meth c b L xs D dA K V cells slots pc ls (v :: st) := fun A H locs lsA S hW hL => lv_pop A.1.1 A.1.2.1 d hv (kk A H locs lsA S hW hL)
theorem LG.pop2 {v : Value} (d : decode code pc = .ok (.pop2, 1)) (hv : v.category = 2) (kk : LG p l e s m below meth c b L xs D dA K V cells slots (pc + 1) ls st) : LG p l e s m below meth c b L xs D dA K V cells slots pc ls (v :: st) := fun A H locs lsA S hW hL => lv_pop2_2 A.1.1 A.1.2.1 d hv (kk A H locs lsA S hW hL)
theorem LG.dup {v : Value} (d : decode code pc = .ok (.dup, 1)) (hv : v.category = 1) (kk : LG p l e s m below meth c b L xs D dA K V cells slots (pc + 1) ls (v :: v :: st)) : LG p l e s m below meth c b L xs D dA K V cells slots pc ls (v :: st) := fun A H locs lsA S hW hL => lv_dup A.1.1 A.1.2.1 d hv (kk A H locs lsA S hW hL)
theorem LG.iinc {i : Nat} {n X Y : Int} {ls1 : List (Option Value)} (d : decode code pc = .ok ((.iinc i n), 3)) (hl : ls[i]? = some (some (ti X))) (hn : Nat.ble (i + 1) (4) = true) (hY : X + n = Y) (h1 : setL ls i (some (ti Y)) = ls1) (kk : LG p l e s m below meth c b L xs D dA K V cells slots (pc + 3) ls1 st) : LG p l e s m below meth c b L xs D dA K V cells slots pc ls st := fun A H locs lsA S hW hL => by
  obtain ⟨k, hk⟩ := of_mem (enumL_mem.mpr hl)
  exact lv_iinc A.1.1 A.1.2.1 d hL hk (by rw [← Int32.ofInt_add, hY]) (Nat.le_of_ble_eq_true hn) rfl (fun ls' h' => kk A H locs ls' S hW (h1 ▸ lvH.store h'))
theorem LG.tableOut {dflt lo hi : Int} {offs : Array Int} {len tgt : Nat} {X : Int} (d : decode code pc = .ok ((.tableswitch dflt lo hi offs), len)) (hX : ir X) (h : X < lo ∨ hi < X) (ht : (pc : Int) + dflt = (tgt : Int)) (kk : LG p l e s m below meth c b L xs D dA K V cells slots tgt ls st) : LG p l e s m below meth c b L xs D dA K V cells slots pc ls (ti X :: st) := fun A H locs lsA S hW hL => lv_tableOut A.1.1 A.1.2.1 d (by rw [ti_int hX]; exact h) ht (kk A H locs lsA S hW hL)
theorem LG.tableAt {dflt lo hi : Int} {offs : Array Int} {len tgt : Nat} {X n : Int} {off : Int} (d : decode code pc = .ok ((.tableswitch dflt lo hi offs), len)) (hn : ir n) (hX : X = n) (h1 : ¬ n < lo) (h2 : ¬ hi < n) (ho : offs[(n - lo).toNat]? = some off) (ht : (pc : Int) + off = (tgt : Int)) (kk : LG p l e s m below meth c b L xs D dA K V cells slots tgt ls st) : LG p l e s m below meth c b L xs D dA K V cells slots pc ls (ti X :: st) := fun A H locs lsA S hW hL => by
  subst hX
  exact lv_tableIn A.1.1 A.1.2.1 d (by rw [ti_int hn]; exact h1) (by rw [ti_int hn]; exact h2) (by rw [ti_int hn]; exact ho) ht (kk A H locs lsA S hW hL)
theorem LG.useWT (kk : WT K V → LG p l e s m below meth c b L xs D dA K V cells slots pc ls st) : LG p l e s m below meth c b L xs D dA K V cells slots pc ls st := fun A H locs lsA S hW hL => kk hW A H locs lsA S hW hL
theorem LG.widen {k n : Nat} (h : (Nat.ble cells k && Nat.ble slots n) = true) (kk : LG p l e s m below meth c b L xs D dA K V k n pc ls st) : LG p l e s m below meth c b L xs D dA K V cells slots pc ls st := fun A H locs lsA S hW hL => by
  simp only [Bool.and_eq_true] at h
  exact W.widen (Nat.le_of_ble_eq_true h.1) (Nat.le_of_ble_eq_true h.2) (kk A H locs lsA S hW hL)
theorem LG.sld {Y : Int} (d : decode code pc = .ok (.iaload, 1)) (h0 : 0 ≤ Y) (h1 : Y < L) (hL4 : L ≤ 4096) (kk : LG p l e s m below meth c b L xs D dA K V cells slots (pc + 1) ls (ti (xv xs Y) :: st)) : LG p l e s m below meth c b L xs D dA K V cells slots pc ls (ti Y :: .ref b :: st) := fun A H locs lsA S hW hL => by
  have hY : ir Y := ⟨by omega, by omega⟩
  have e1 := ti_int hY
  have e2 : (Int32.ofInt Y).toNatClampNeg = Y.toNat := by show (Int32.ofInt Y).toInt.toNat = _; rw [e1]
  have hin : vp_in (Int32.ofInt Y) L := by
    intro q
    rcases q with q | q
    · rw [Int32.lt_iff_toInt_lt, Int32.toInt_zero] at q; omega
    · omega
  refine va_sld A.1.1 A.1.2.1 A.2.1.2.2.2.2.2.2.1 A.2.1.2.2.2.2.2.2.2.1 (law_nb A.2.1) S.2.1 hin d ?_
  have h := kk A H locs lsA S hW hL
  rw [e2, ti_of]
  exact h
theorem LG.slen (d : decode code pc = .ok (.arraylength, 1)) (kk : LG p l e s m below meth c b L xs D dA K V cells slots (pc + 1) ls (ti (L : Int) :: st)) : LG p l e s m below meth c b L xs D dA K V cells slots pc ls (.ref b :: st) := fun A H locs lsA S hW hL => va_slen A.1.1 A.1.2.1 A.2.1.2.2.2.2.2.2.1 A.2.1.2.2.2.2.2.2.2.1 (law_nb A.2.1) S.2.1 d (by
  have h := kk A H locs lsA S hW hL
  have e1 : Int32.ofNat L = Int32.ofInt (L : Int) := Int32.ofInt_eq_ofNat.symm
  rw [e1]; exact h)
/-- a number told as a truth -/
theorem LG.nz {X off off2 : Int} {tgt : Nat} (d1 : decode code pc = .ok (.ifCond .eq off, 3)) (ht : (pc : Int) + off = ((pc + 7 : Nat) : Int)) (d2 : decode code (pc + 3) = .ok (.iconst 1, 1)) (d3 : decode code (pc + 4) = .ok (.goto off2, 3)) (ht2 : ((pc + 4 : Nat) : Int) + off2 = (tgt : Int)) (d4 : decode code (pc + 7) = .ok (.iconst 0, 1)) (hX : ir X) (hend : pc + 8 = tgt) (kk : ∀ B : Int, ir B → (B = 0 ∨ B = 1) → (B = 0 ↔ X = 0) → LG p l e s m below meth c b L xs D dA K V cells slots tgt ls (ti B :: st)) : LG p l e s m below meth c b L xs D dA K V cells slots pc ls (ti X :: st) := by
  refine LG.if_eq (tgt := pc + 7) d1 ht hX (fun hz => ?_) (fun hz => ?_)
  · refine LG.iconst d4 ?_
    subst hend
    exact kk 0 (ir_c rfl) (Or.inl rfl) ⟨fun _ => hz, fun _ => rfl⟩
  · refine LG.iconst d2 ?_
    refine LG.goto (tgt := tgt) d3 ht2 ?_
    exact kk 1 (ir_c rfl) (Or.inr rfl) ⟨fun q => absurd q (by decide), fun q => absurd q hz⟩
/-- the callee's room fits the law's -/
def fitsL (N : MRec) : Bool := Nat.ble (m_fr N + 1) 2048 && Nat.ble (8 + (m_nL N + 11) + m_lo N) 84000
theorem fitsL_use {N : MRec} (h : fitsL N = true) : m_fr N + 1 ≤ room_1.frames ∧ 8 + (m_nL N + 11) + m_lo N ≤ room_1.locals := ⟨Nat.le_of_ble_eq_true (le_and h).1, Nat.le_of_ble_eq_true (le_and h).2⟩
theorem LG.callV {N : MRec} {n index x ci : Nat} {As : List Value} {Ψ : Option Value → Kmap → Vmap → Prop} (d : decode code pc = .ok (.invokevirtual index, 3)) (T : vw_C) (hc : TCl[ci]? = some T) (hG : GV RL index T.1 (m_y N) (m_cc N) (m_nL N) (m_rt N) n) (hx : K x = some (0, ci)) (hM : MC N K V (.ref x :: As) Ψ) (hn : As.length = n) (rest : List Value) (hst : st = As.reverse ++ .ref x :: rest) (hR : fitsL N = true) (hcs : cells + m_mc N ≤ 600000 ∧ slots + m_ms N ≤ 7302250) (hl : lowS rest)
    (kk : ∀ (r : Option Value) (K1 : Kmap) (V1 : Vmap), Ψ r K1 V1 → ext K K1 → FR (m_ws N) K V K1 V1 → LG p l e s m below meth c b L xs D dA K1 V1 (cells + m_mc N) (slots + m_ms N) (pc + 3) ls (pushR r rest)) : LG p l e s m below meth c b L xs D dA K V cells slots pc ls st := fun A H locs lsA S hW hL => by
  obtain ⟨hx0, hb, hml, -, -, hown, hts, hKN⟩ := id A.1
  have hf := fitsL_use hR
  obtain ⟨r', hr', cellV, g1, g2, g3, -⟩ := S.1 x _ hx
  have hcls := (hKN.1.1 ci T hc).2
  refine th_go (N := N) S (va_runV ⟨hx0, hb, hml, hown, hts⟩ (hM hW l D dA H.size) (cwV n hts hG.1 rfl rfl rfl hG.2 hf) ⟨PX.blind, ⟨cellV, g1, by rw [g3]; rfl, by rw [g2]; exact hcls.1⟩, PX.at hKN S.1 (A.2.2.next S)⟩ rfl hn hL.1 hst (lv_room hl) d hcs) (fun r K1 V1 H1 locs1 hp hK hW1 hF1 S1 => ?_)
  exact kk r K1 V1 hp hK hF1 A H1 locs1 lsA S1 hW1 hL
theorem LG.callI {N : MRec} {n index x : Nat} {As : List Value} {Ψ : Option Value → Kmap → Vmap → Prop} (d : decode code pc = .ok (.invokespecial index, 3)) (hG : GI RL index (m_y N) (m_cc N) (m_nL N) n) (hrt : m_rt N = none) (hM : MC N K V (.ref x :: As) Ψ) (hn : As.length = n) (rest : List Value) (hst : st = As.reverse ++ .ref x :: rest) (hR : fitsL N = true) (hcs : (Nat.ble (cells + m_mc N) 600000 && Nat.ble (slots + m_ms N) 7302250) = true) (hl : lowS rest)
    (kk : ∀ (r : Option Value) (K1 : Kmap) (V1 : Vmap), Ψ r K1 V1 → ext K K1 → FR (m_ws N) K V K1 V1 → LG p l e s m below meth c b L xs D dA K1 V1 (cells + m_mc N) (slots + m_ms N) (pc + 3) ls (pushR r rest)) : LG p l e s m below meth c b L xs D dA K V cells slots pc ls st := fun A H locs lsA S hW hL => by
  obtain ⟨hx0, hb, hml, -, -, hown, hts, hKN⟩ := id A.1
  have hf := fitsL_use hR
  have hM1 := hM hW l D dA H.size
  rw [hrt] at hM1
  refine th_go (N := N) S (va_runI ⟨hx0, hb, hml, hown, hts⟩ hM1 (cwI n hts hG.1 rfl rfl rfl (hts _ hG.2.1) (hts _ hG.2.2.1) (hts _ hG.2.2.2.1) hG.2.2.2.2.1 hG.2.2.2.2.2 hf) ⟨PX.blind, PX.at hKN S.1 (A.2.2.next S)⟩ rfl hn hL.1 hst (lv_room hl) d ⟨Nat.le_of_ble_eq_true (le_and hcs).1, Nat.le_of_ble_eq_true (le_and hcs).2⟩) (fun r K1 V1 H1 locs1 hp hK hW1 hF1 S1 => ?_)
  exact kk r K1 V1 hp hK hF1 A H1 locs1 lsA S1 hW1 hL
theorem LG.new {ci index : Nat} (T : vw_C) (ty : Nat → FieldType) (hc : TCl[ci]? = some T) (hr : rawC ci = true) (hin : ∀ w ∈ u_ws T.1 T.2.1 T.2.2, w ∈ gw) (hty : ∀ k, k < T.2.2 → parseFieldDescriptor (T.2.1 k).2.2.1 = some (ty k)) (hw1 : Cond.classLink RL index T.1 ∈ gw) (hw2 : Cond.instantiable T.1 T.2.2 ∈ gw) (hw3 : Cond.initialized T.1 ∈ gw) (hcs : (Nat.ble (cells + 1) 600000 && Nat.ble (slots + T.2.2) 7302250) = true) (d : decode code pc = .ok (.new index, 3))
    (kk : ∀ (q : Nat) (K1 : Kmap) (V1 : Vmap), K q = none → K1 = updK K q (0, ci) → ext K K1 → K1 q = some (0, ci) → (∀ j, V1 q j = defaultValue (ty j)) → (∀ b, b ≠ q → V1 b = V b) → LG p l e s m below meth c b L xs D dA K1 V1 (cells + 1) (slots + T.2.2) (pc + 3) ls (.ref q :: st)) : LG p l e s m below meth c b L xs D dA K V cells slots pc ls st := fun A H locs lsA S hW hL => by
  refine sg_new A.1 S T ty hc hin hty hw1 hw2 hw3 (Nat.le_of_ble_eq_true (le_and hcs).1) (Nat.le_of_ble_eq_true (le_and hcs).2) d fun q K1 V1 H1 h1 h2 h3 h4 S1 => ?_
  have h0 := rawC_sz hr
  exact kk q K1 V1 h1 h2 (h2 ▸ ext.upd h1) (by rw [h2]; exact updK_same) h3 h4 A H1 locs lsA S1 (hW.new h1 h2 trivial (fun j hj => by rw [h0] at hj; omega) h4) hL
theorem g_ip {ws : Nat} {post : Int → Prop} (kk : ∀ X K1 V1, ir X → post X → ext K K1 → FR ws K V K1 V1 → LG p l e s m below meth c b L xs D dA K1 V1 cells slots pc ls (ti X :: st)) : ∀ (r : Option Value) (K1 : Kmap) (V1 : Vmap), IP K V post r K1 V1 → ext K K1 → FR ws K V K1 V1 → LG p l e s m below meth c b L xs D dA K1 V1 cells slots pc ls (pushR r st) := by
  rintro r K1 V1 ⟨rfl, rfl, X, rfl, h1, h2⟩ h3 h4
  exact kk X _ _ h1 h2 h3 h4
theorem g_is {ws : Nat} {post : Int → Vmap → Prop} (kk : ∀ X K1 V1, ir X → post X V1 → ext K K1 → FR ws K V K1 V1 → LG p l e s m below meth c b L xs D dA K1 V1 cells slots pc ls (ti X :: st)) : ∀ (r : Option Value) (K1 : Kmap) (V1 : Vmap), IS K post r K1 V1 → ext K K1 → FR ws K V K1 V1 → LG p l e s m below meth c b L xs D dA K1 V1 cells slots pc ls (pushR r st) := by
  rintro r K1 V1 ⟨rfl, X, rfl, h1, h2⟩ h3 h4
  exact kk X _ V1 h1 h2 h3 h4
theorem g_ix {ws : Nat} {post : Int → Kmap → Vmap → Prop} (kk : ∀ X K1 V1, ir X → post X K1 V1 → ext K K1 → FR ws K V K1 V1 → LG p l e s m below meth c b L xs D dA K1 V1 cells slots pc ls (ti X :: st)) : ∀ (r : Option Value) (K1 : Kmap) (V1 : Vmap), IX post r K1 V1 → ext K K1 → FR ws K V K1 V1 → LG p l e s m below meth c b L xs D dA K1 V1 cells slots pc ls (pushR r st) := by
  rintro r K1 V1 ⟨X, rfl, h1, h2⟩ h3 h4
  exact kk X K1 V1 h1 h2 h3 h4
theorem g_jp {ws : Nat} (kk : ∀ X K1 V1, ext K K1 → FR ws K V K1 V1 → LG p l e s m below meth c b L xs D dA K1 V1 cells slots pc ls (.long X :: st)) : ∀ (r : Option Value) (K1 : Kmap) (V1 : Vmap), JP K V r K1 V1 → ext K K1 → FR ws K V K1 V1 → LG p l e s m below meth c b L xs D dA K1 V1 cells slots pc ls (pushR r st) := by
  rintro r K1 V1 ⟨rfl, rfl, X, rfl⟩ h3 h4
  exact kk X _ _ h3 h4
theorem g_vx {ws : Nat} {post : Kmap → Vmap → Prop} (kk : ∀ K1 V1, post K1 V1 → ext K K1 → FR ws K V K1 V1 → LG p l e s m below meth c b L xs D dA K1 V1 cells slots pc ls st) : ∀ (r : Option Value) (K1 : Kmap) (V1 : Vmap), VX post r K1 V1 → ext K K1 → FR ws K V K1 V1 → LG p l e s m below meth c b L xs D dA K1 V1 cells slots pc ls (pushR r st) := by
  rintro r K1 V1 ⟨rfl, h2⟩ h3 h4
  exact kk K1 V1 h2 h3 h4
set_option maxHeartbeats 4000000 in
theorem law_out {i : Int} {x m0 : Nat} (hL4 : L ≤ 4096) (h0 : 0 ≤ i) (h8 : i ≤ L + 8) (hg : (L : Int) - 8 < i) (h1 : cells ≤ 600000) (h2 : slots ≤ 7302250) : LG p l e s m below meth c b L xs D dA K V cells slots 18 [some (.ref b), some (.ref x), some (.ref m0), some (ti i)] [] := by
  refine LG.iload_n dL_law_18 rfl rfl ?_
  refine LG.aload_n dL_law_19 rfl rfl ?_
  refine LG.slen dL_law_20 ?_
  refine LG.bipush dL_law_21 rfl ?_
  refine LG.isub dL_law_23 ?_
  refine LG.icmp_gt (tgt := 2751) dL_law_24 (by decide) ⟨by omega, by omega⟩ ⟨by omega, by omega⟩ (fun _ => ?_) (fun q => absurd q (by omega))
  refine LG.iconst dL_law_2751 ?_
  exact fun A H locs lsA S hW hL => by
    refine va_forget (fun q hq => ?_) ?_
    · rcases S.2.1.2.2 q hq with ⟨k, h⟩ | h
      · cases h
      · exact h
    · refine W.widen h1 h2 ?_
      exact lw_ret A.2.1.1 A.2.1.2.1 A.2.1.2.2.1 A.2.1.2.2.2.2.2.2.2.2.1 dL_law_2752
end LGR
theorem le_cs {a b c d : Nat} (h : a + 8 ≤ 600000 ∧ b + 2704 ≤ 7302250) (h2 : (Nat.ble c 8 && Nat.ble d 2704) = true) : a + c ≤ 600000 ∧ b + d ≤ 7302250 := by
  have g1 := Nat.le_of_ble_eq_true (le_and h2).1
  have g2 := Nat.le_of_ble_eq_true (le_and h2).2
  omega
theorem le_csb {a b c d c1 d1 : Nat} (h : a + 8 ≤ 600000 ∧ b + 2704 ≤ 7302250) (h2 : (Nat.ble (c1 + c) 8 && Nat.ble (d1 + d) 2704) = true) : a + c1 + c ≤ 600000 ∧ b + d1 + d ≤ 7302250 := by
  have g1 := Nat.le_of_ble_eq_true (le_and h2).1
  have g2 := Nat.le_of_ble_eq_true (le_and h2).2
  omega
theorem le_cs0 {a b n k : Nat} : (Nat.ble a (a + n) && Nat.ble b (b + k)) = true := by
  rw [Nat.ble_eq_true_of_le (Nat.le_add_right a n), Nat.ble_eq_true_of_le (Nat.le_add_right b k)]; rfl
theorem le_cs3 {a b c1 d1 c d n k : Nat} (h : (Nat.ble (c1 + c) n && Nat.ble (d1 + d) k) = true) : (Nat.ble (a + c1 + c) (a + n) && Nat.ble (b + d1 + d) (b + k)) = true := by
  have g1 := Nat.le_of_ble_eq_true (le_and h).1
  have g2 := Nat.le_of_ble_eq_true (le_and h).2
  rw [Nat.ble_eq_true_of_le (show a + c1 + c ≤ a + n by omega), Nat.ble_eq_true_of_le (show b + d1 + d ≤ b + k by omega)]; rfl
theorem ar_frx {K K1 : Kmap} {V V1 : Vmap} {x ws s t n : Nat} (hF : FR ws K V K1 V1) (hE : ext K K1) (hx : K x = some (0, 11)) (hk : K (vq V x s) = some (t + 1, n)) (b1 : ws.testBit (keyK (0, 11) s) = false) (b2 : ws.testBit (abase + (t + 1)) = false) : vq V1 x s = vq V x s ∧ ar s V1 x = ar s V x := by
  have q1 : vq V1 x s = vq V x s := by unfold vq; rw [hF x _ s hx (hE.obj (Or.inl (by decide)) hx) b1]
  exact ⟨q1, funext fun j => by unfold ar; rw [q1, vi_frA hF hk (hE.arr hk) b2]⟩
theorem GX.frx {K K1 : Kmap} {V V1 : Vmap} {x ws : Nat} (hF : FR ws K V K1 V1) (hE : ext K K1) (h : GX V x) (hW : WT K V) (hx : K x = some (0, 11)) (hb : gxbits ws = true) : GX V1 x := by
  simp only [gxbits, List.all_cons, List.all_nil, Bool.and_true, Bool.and_eq_true, Bool.not_eq_true'] at hb
  obtain ⟨⟨f1, f2, f3, f4, f5, f6, f7, f8, f9⟩, t1, t2, t3, t4, t5, t6, t7⟩ := hb
  have hx1 := hE.obj (Or.inl (by decide)) hx
  exact h.mk (vi_fr hF hx hx1 f1) (vi_fr hF hx hx1 f2) (ar_frx hF hE hx (hW.arr hx 49 40 (by decide) rfl (by decide)) f3 t1).2 (ar_frx hF hE hx (hW.arr hx 50 41 (by decide) rfl (by decide)) f4 t2).2 (ar_frx hF hE hx (hW.arr hx 53 44 (by decide) rfl (by decide)) f5 t3).2 (ar_frx hF hE hx (hW.arr hx 54 45 (by decide) rfl (by decide)) f6 t4).2 (ar_frx hF hE hx (hW.arr hx 55 46 (by decide) rfl (by decide)) f7 t5).2 (ar_frx hF hE hx (hW.arr hx 60 51 (by decide) rfl (by decide)) f8 t6).2 (ar_frx hF hE hx (hW.arr hx 61 52 (by decide) rfl (by decide)) f9 t7).2
theorem PX0.frx {K K1 : Kmap} {V V1 : Vmap} {x ws : Nat} (hF : FR ws K V K1 V1) (hE : ext K K1) (h : PX0 V x) (hW : WT K V) (hx : K x = some (0, 11)) (hb : pxbits ws = true) : PX0 V1 x := by
  simp only [pxbits, List.all_cons, List.all_nil, Bool.and_true, Bool.and_eq_true, Bool.not_eq_true'] at hb
  obtain ⟨⟨f1, f2, f3⟩, t1, t2⟩ := hb
  have hx1 := hE.obj (Or.inl (by decide)) hx
  exact h.mk (vi_fr hF hx hx1 f1) (ar_frx hF hE hx (hW.arr hx 13 15 (by decide) rfl (by decide)) f2 t1).2 (ar_frx hF hE hx (hW.arr hx 14 16 (by decide) rfl (by decide)) f3 t2).2
def RLI (V : Vmap) (x m0 : Nat) : Prop := vi V x 4 = vi V m0 9 ∧ tdy V x = vi V m0 2 ∧ vi V x 10 = vi V m0 91 ∧ wsz V x = vi V m0 133 ∧ csz V x = vi V m0 120 ∧ vi V x 8 = vi V m0 66 ∧ dsz V x = vi V m0 118
def REL (K : Kmap) (V : Vmap) (x m0 : Nat) : Prop := RLI V x m0 ∧ AB V x m0 ∧ TXE K V x m0 ∧ YRL V x m0 ∧ PLE V x m0 ∧ WKE V x m0 ∧ STE V x m0
