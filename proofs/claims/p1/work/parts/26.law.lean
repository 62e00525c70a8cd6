-- ===== end of PART A; then your names; then what follows =====
/-! THE CLAIM OUT OF ONE WALK OF THE LAW'S BODY. Your part is whole_start (and what it stands on); all else here is the same for every law, but numbers. -/
def R_law : String := "IceTreatyLaw"
def lw_P (b : Addr) (xs : List Int32) (args : Array Value) (s : State) : Prop := args = #[.ref b] ∧ s.IntsAt b xs ∧ xs.length ≤ 8 ∧ (Jvm.Cond.and given_1 narrow_1).before args s = true
def lw_Q (_ : Array Value) (s : State) (o : Outcome) (t : State) : Prop := o = .returned (some (.int 1)) ∧ Framed s o t [] 600000 7302250
def lw_Z (below : List Frame) (a : Array Value) (s : State) : State → Prop := fun t => ∃ o, t.status = .running ∧ Ended t below o ∧ lw_Q a s o t
/-- the law's own end, with 1 on the stack, nothing written that was there before, its room as the claim has it -/
theorem lw_ret {p : Program} {l : Launch} {e : Env} {s : State} {m : MethodId} {below : List Frame} {meth : Method} {c : Code} {b : Nat} (hx : p.tables.exec = Jvm.exec) (hb : c.code = code) (hr : meth.sig.returnType = ret) (hlocks : meth.locks = false) {pc : Nat} {H : Heap} {ls : Array Slot} (hdg : decode code pc = .ok (.ireturn, 1)) : W p l e room_1 s m #[Value.ref b] below meth c H [] 600000 7302250 (lw_Z below #[Value.ref b] s) (F0 m pc ls [.int 1]) := by
  intro T hT X
  obtain ⟨fs, hret, hrun, hended, hW, hframe⟩ := X.leave (v := some (.int 1)) (hlocks := hlocks) (fun h => by rw [hr] at h; cases h)
  have hmeth' : T.vm.method? m = some meth := X.method'
  refine ⟨T.setFrames fs, ?_, .returned (some (.int 1)), hrun, hended, rfl, ⟨_, rfl⟩, hW, hframe⟩
  jvm_step X.here [X.here.top, hx, hb, hdg, hmeth', hr, ret, narrow_b1]
  (try refine ⟨rfl, ?_⟩); (try refine ⟨rfl, ?_⟩)
  first | (intro acts; rw [hret _ acts rfl rfl rfl]) | rw [hret _ _ rfl rfl rfl]
  exact Steps.refl _
/-- what holds at the law's entry: the machine, the code, the tables' words (any of lw_tbl by 'hts w (by decide +kernel)'), the script of L ints xs at the cell b, what the Statement gives of the start (any of its parts by flat_of_before) -/
def lw_At (p : Program) (s : State) (m : MethodId) (meth : Method) (c : Code) (b L : Nat) (xs : Nat → Int32) : Prop :=
  p.tables.exec = Jvm.exec ∧ c.code = code ∧ meth.sig.returnType = ret ∧ c.maxLocals = 4 ∧ s.vm.findClass R_law = some m.cls ∧ (∀ w ∈ lw_tbl, w.before #[Value.ref b] s = true) ∧ va_X b L xs s s.heap ∧ b < s.heap.size ∧ meth.locks = false ∧ (Jvm.Cond.and given_1 narrow_1).before #[Value.ref b] s = true
def kNone : Kmap := fun _ => none
def vNull : Vmap := fun _ _ => .null
theorem law_cx {p : Program} {s : State} {m : MethodId} {meth : Method} {c : Code} {b L : Nat} {xs : Nat → Int32} {D : va_G} {dA : Nat → ClassId} (hat : lw_At p s m meth c b L xs) (hKN : KN D dA s) : CX p s m #[Value.ref b] meth c cL_law 4 ret RL D dA :=
  ⟨hat.1, hat.2.1, hat.2.2.2.1, hat.2.2.1, hat.2.2.2.2.2.2.2.2.1, hat.2.2.2.2.1, gw_hts hat.2.2.2.2.2.1, hKN⟩
theorem law_nb {p : Program} {s : State} {m : MethodId} {meth : Method} {c : Code} {b L : Nat} {xs : Nat → Int32} (hat : lw_At p s m meth c b L xs) : ¬ AK kNone s.heap.size b := fun h => by
  rcases h with ⟨k, h⟩ | h
  · cases h
  · exact absurd hat.2.2.2.2.2.2.2.1 (Nat.not_lt.mpr h)
set_option maxHeartbeats 4000000 in
theorem law_out {p : Program} {l : Launch} {e : Env} {s : State} {m : MethodId} {below : List Frame} {meth : Method} {c : Code} {b L : Nat} {xs : Nat → Int32} {D : va_G} {dA : Nat → ClassId} {K : Kmap} {V : Vmap} {H : Heap} {locs : List Loc} {ls : Array Slot} (hat : lw_At p s m meth c b L xs) (hKN : KN D dA s) (hL : L ≤ 8) (hS : ST D dA kNone s.heap K V H locs) {i : Int32} {ii : Int} (hi : i.toInt = ii) (hg : ii > (L : Int) - 8) (hl : lv_has ls 4 [(3, .int i), (0, .ref b)]) {cells slots : Nat} (h1 : cells ≤ 600000) (h2 : slots ≤ 7302250) : W p l e room_1 s m #[Value.ref b] below meth c H locs cells slots (lw_Z below #[Value.ref b] s) (F0 m 18 ls []) := by
  have hx := hat.1; have hb := hat.2.1
  refine lv_iload_n hx hb dL_law_18 rfl (lv_at hl 0 rfl) ?_
  refine lv_aload_n hx hb dL_law_19 rfl (lv_at hl 1 rfl) ?_
  refine va_slen hx hb hat.2.2.2.2.2.2.1 hat.2.2.2.2.2.2.2.1 (law_nb hat) hS.2.1 dL_law_20 ?_
  refine th_top (X := (L : Int)) (nI_toInt (by omega)) (fun z hz => ?_)
  refine lv_bipush (v := 8) hx hb dL_law_21 (by decide) ?_
  refine lv_isub hx hb dL_law_23 ?_
  refine th_top (X := (L : Int) - 8) (th_sub hz li_8 (by omega) (by omega)) (fun w hw => ?_)
  refine th_icmp_gt (X := ii) (Y := (L : Int) - 8) (tgt := 2752) hx hb dL_law_24 (by decide) hi hw (fun _ => ?_) (fun q => absurd q (by omega))
  refine lv_iconst (v := 1) hx hb dL_law_2752 (by decide) ?_
  refine va_forget (fun q hq => ?_) ?_
  · rcases hS.2.1.2.2 q hq with ⟨k, h⟩ | h
    · cases h
    · exact h
  · refine W.widen h1 h2 ?_
    exact lw_ret hx hb hat.2.2.1 hat.2.2.2.2.2.2.2.2.1 dL_law_2753
set_option maxHeartbeats 4000000 in
theorem law_next {p : Program} {l : Launch} {e : Env} {s : State} {m : MethodId} {below : List Frame} {meth : Method} {c : Code} {b L : Nat} {xs : Nat → Int32} {D : va_G} {dA : Nat → ClassId} {K : Kmap} {V : Vmap} {H : Heap} {locs : List Loc} {ls : Array Slot} (hat : lw_At p s m meth c b L xs) (hKN : KN D dA s) (hL : L ≤ 8) (hS : ST D dA kNone s.heap K V H locs) (hl : lv_has ls 4 [(3, .int 0), (0, .ref b)]) {cells slots : Nat} (h1 : cells ≤ 600000) (h2 : slots ≤ 7302250) : W p l e room_1 s m #[Value.ref b] below meth c H locs cells slots (lw_Z below #[Value.ref b] s) (F0 m 2746 ls []) := by
  have hx := hat.1; have hb := hat.2.1
  refine lv_iinc (v := 8) (lv' := [(3, .int 8), (0, .ref b)]) hx hb dL_law_2746 hl (k := 0) rfl (by decide) (by decide) rfl (fun ls hl => ?_)
  refine lv_goto (tgt := 18) hx hb dL_law_2749 (by decide) ?_
  exact law_out hat hKN hL hS li_8 (by omega) hl h1 h2
theorem th_known {s : State} {args : Array Value} (hts : ∀ w ∈ lw_tbl, w.before args s = true) : ∃ (D : va_G) (dA : Nat → ClassId), KN D dA s := by
  have hc : ∀ k : Nat, ∃ q : ClassId × (Nat → Nat), ∀ r : vw_C, TCl[k]? = some r → u_Kn s r.1 r.2.1 r.2.2 q.1 q.2 := by
    intro k
    match k with
    | 0 =>
      obtain ⟨a, b, h⟩ := u_known (C := RX0) (T := TX0) (N := 13) (n := 13) hts (fun w hw => gw_tbl (lays_0 w hw)) (hts _ (gw_tbl gw_30))
      exact ⟨(a, b), fun r hr => by cases hr; exact h⟩
    | 1 =>
      obtain ⟨a, b, h⟩ := u_known (C := RX1) (T := TX1) (N := 13) (n := 13) hts (fun w hw => gw_tbl (lays_1 w hw)) (hts _ (gw_tbl gw_91))
      exact ⟨(a, b), fun r hr => by cases hr; exact h⟩
    | 2 =>
      obtain ⟨a, b, h⟩ := u_known (C := RX2) (T := TX2) (N := 5) (n := 5) hts (fun w hw => gw_tbl (lays_2 w hw)) (hts _ (gw_tbl gw_325))
      exact ⟨(a, b), fun r hr => by cases hr; exact h⟩
    | 3 =>
      obtain ⟨a, b, h⟩ := u_known (C := RX3) (T := TX3) (N := 16) (n := 16) hts (fun w hw => gw_tbl (lays_3 w hw)) (hts _ (gw_tbl gw_425))
      exact ⟨(a, b), fun r hr => by cases hr; exact h⟩
    | 4 =>
      obtain ⟨a, b, h⟩ := u_known (C := RX5) (T := TX5) (N := 7) (n := 7) hts (fun w hw => gw_tbl (lays_4 w hw)) (hts _ (gw_tbl gw_600))
      exact ⟨(a, b), fun r hr => by cases hr; exact h⟩
    | 5 =>
      obtain ⟨a, b, h⟩ := u_known (C := RX6) (T := TX6) (N := 10) (n := 10) hts (fun w hw => gw_tbl (lays_5 w hw)) (hts _ (gw_tbl gw_173))
      exact ⟨(a, b), fun r hr => by cases hr; exact h⟩
    | 6 =>
      obtain ⟨a, b, h⟩ := u_known (C := RX7) (T := TX7) (N := 11) (n := 11) hts (fun w hw => gw_tbl (lays_6 w hw)) (hts _ (gw_tbl gw_1045))
      exact ⟨(a, b), fun r hr => by cases hr; exact h⟩
    | 7 =>
      obtain ⟨a, b, h⟩ := u_known (C := RX8) (T := TX8) (N := 4) (n := 4) hts (fun w hw => gw_tbl (lays_7 w hw)) (hts _ (gw_tbl gw_99))
      exact ⟨(a, b), fun r hr => by cases hr; exact h⟩
    | 8 =>
      obtain ⟨a, b, h⟩ := u_known (C := RX9) (T := TX9) (N := 5) (n := 5) hts (fun w hw => gw_tbl (lays_8 w hw)) (hts _ (gw_tbl gw_571))
      exact ⟨(a, b), fun r hr => by cases hr; exact h⟩
    | 9 =>
      obtain ⟨a, b, h⟩ := u_known (C := RX10) (T := TX10) (N := 15) (n := 15) hts (fun w hw => gw_tbl (lays_9 w hw)) (hts _ (gw_tbl gw_875))
      exact ⟨(a, b), fun r hr => by cases hr; exact h⟩
    | 10 =>
      obtain ⟨a, b, h⟩ := u_known (C := RX11) (T := TX11) (N := 20) (n := 20) hts (fun w hw => gw_tbl (lays_10 w hw)) (hts _ (gw_tbl gw_22))
      exact ⟨(a, b), fun r hr => by cases hr; exact h⟩
    | 11 =>
      obtain ⟨a, b, h⟩ := u_known (C := RX12) (T := TX12) (N := 151) (n := 151) hts (fun w hw => gw_tbl (lays_11 w hw)) (hts _ (gw_tbl gw_1473))
      exact ⟨(a, b), fun r hr => by cases hr; exact h⟩
    | k + 12 => exact ⟨(0, fun _ => 0), fun r hr => by simp at hr⟩
  have ha : ∀ t : Nat, ∃ cA : ClassId, t < 9 → ArrOfT s cA (tyOf t) ∧ va_RA s cA (tyOf t) := by
    intro t
    match t with
    | 0 =>
      obtain ⟨cA, kA, comp, h1, h2, h3⟩ := Cond.arrayClass_spec (hts _ (gw_tbl gw_89))
      exact ⟨cA, fun _ => ⟨fun n z => ⟨fun k h => (by cases h), kA, h2, comp, h3⟩, h1⟩⟩
    | 1 =>
      obtain ⟨cA, kA, comp, h1, h2, h3⟩ := Cond.arrayClass_spec (hts _ (gw_tbl gw_294))
      exact ⟨cA, fun _ => ⟨fun n z => ⟨fun k h => (by cases h), kA, h2, comp, h3⟩, h1⟩⟩
    | 2 =>
      obtain ⟨cA, kA, comp, h1, h2, h3⟩ := Cond.arrayClass_spec (hts _ (gw_tbl gw_815))
      exact ⟨cA, fun _ => ⟨fun n z => ⟨fun k h => (by cases h), kA, h2, comp, h3⟩, h1⟩⟩
    | 3 =>
      obtain ⟨cA, kA, comp, h1, h2, h3⟩ := Cond.arrayClass_spec (hts _ (gw_tbl gw_1936))
      exact ⟨cA, fun _ => ⟨fun n z => ⟨fun k h => (by cases h), kA, h2, comp, h3⟩, h1⟩⟩
    | 4 =>
      obtain ⟨comp, cA, kA, f1, f0, f2, f3, f4⟩ := Cond.arrayOver_spec (hts (Jvm.Cond.arrayOver (Jvm.ClassFile.FieldType.object "IceTreaty$Party")) (tk_all (tk_1 (List.mem_of_getElem? (i := 220) (by decide +kernel)))))
      exact ⟨cA, fun _ => ⟨fun N z => ⟨(fun k h => by cases h), kA, f2, comp, f3⟩, kA, comp, f2, f3, f1, f4⟩⟩
    | 5 =>
      obtain ⟨comp, cA, kA, f1, f0, f2, f3, f4⟩ := Cond.arrayOver_spec (hts (Jvm.Cond.arrayOver (Jvm.ClassFile.FieldType.object "IceTreaty$Place")) (tk_all (tk_1 (List.mem_of_getElem? (i := 222) (by decide +kernel)))))
      exact ⟨cA, fun _ => ⟨fun N z => ⟨(fun k h => by cases h), kA, f2, comp, f3⟩, kA, comp, f2, f3, f1, f4⟩⟩
    | 6 =>
      obtain ⟨comp, cA, kA, f1, f0, f2, f3, f4⟩ := Cond.arrayOver_spec (hts (Jvm.Cond.arrayOver (Jvm.ClassFile.FieldType.object "IceTreaty$Work")) (tk_all (tk_1 (List.mem_of_getElem? (i := 224) (by decide +kernel)))))
      exact ⟨cA, fun _ => ⟨fun N z => ⟨(fun k h => by cases h), kA, f2, comp, f3⟩, kA, comp, f2, f3, f1, f4⟩⟩
    | 7 =>
      obtain ⟨comp, cA, kA, f1, f0, f2, f3, f4⟩ := Cond.arrayOver_spec (hts (Jvm.Cond.arrayOver (Jvm.ClassFile.FieldType.object "IceTreaty$Ship")) (tk_all (tk_1 (List.mem_of_getElem? (i := 226) (by decide +kernel)))))
      exact ⟨cA, fun _ => ⟨fun N z => ⟨(fun k h => by cases h), kA, f2, comp, f3⟩, kA, comp, f2, f3, f1, f4⟩⟩
    | 8 =>
      obtain ⟨comp, cA, kA, f1, f0, f2, f3, f4⟩ := Cond.arrayOver_spec (hts (Jvm.Cond.arrayOver (Jvm.ClassFile.FieldType.object "IceTreaty$Text")) (tk_all (tk_1 (List.mem_of_getElem? (i := 97) (by decide +kernel)))))
      exact ⟨cA, fun _ => ⟨fun N z => ⟨(fun k h => by cases h), kA, f2, comp, f3⟩, kA, comp, f2, f3, f1, f4⟩⟩
    | t + 9 => exact ⟨0, fun h => absurd h (by omega)⟩
  obtain ⟨fc, hfc⟩ := Classical.axiomOfChoice hc
  obtain ⟨fa, hfa⟩ := Classical.axiomOfChoice ha
  refine ⟨(fun k => (fc k).1, fun k => (fc k).2), fa, ⟨fun k r h => hfc k r h, fun k q h => by simp at h⟩, va_Nw.of rfl (hts nestW (tk_all (tk_1 (List.mem_of_getElem? (i := 92) (by decide +kernel))))), hfa, fun Cn hC => ?_⟩
  simp only [aoC, List.mem_cons, List.not_mem_nil, or_false] at hC
  rcases hC with rfl | rfl | rfl | rfl | rfl
  · exact va_AO.of (hts (Jvm.Cond.arrayOver (Jvm.ClassFile.FieldType.object "IceTreaty$Party")) (tk_all (tk_1 (List.mem_of_getElem? (i := 220) (by decide +kernel)))))
  · exact va_AO.of (hts (Jvm.Cond.arrayOver (Jvm.ClassFile.FieldType.object "IceTreaty$Place")) (tk_all (tk_1 (List.mem_of_getElem? (i := 222) (by decide +kernel)))))
  · exact va_AO.of (hts (Jvm.Cond.arrayOver (Jvm.ClassFile.FieldType.object "IceTreaty$Work")) (tk_all (tk_1 (List.mem_of_getElem? (i := 224) (by decide +kernel)))))
  · exact va_AO.of (hts (Jvm.Cond.arrayOver (Jvm.ClassFile.FieldType.object "IceTreaty$Ship")) (tk_all (tk_1 (List.mem_of_getElem? (i := 226) (by decide +kernel)))))
  · exact va_AO.of (hts (Jvm.Cond.arrayOver (Jvm.ClassFile.FieldType.object "IceTreaty$Text")) (tk_all (tk_1 (List.mem_of_getElem? (i := 97) (by decide +kernel)))))
