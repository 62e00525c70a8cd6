theorem th_known {s : State} {args : Array Value} (hts : ∀ w ∈ lw_tbl, w.before args s = true) : ∃ (D : va_G) (dA : Nat → ClassId), KN D dA s := by
  have hc : ∀ k : Nat, ∃ q : ClassId × (Nat → Nat), ∀ r : vw_C, k < 12 → TCl[k]? = some r → u_Kn s r.1 r.2.1 r.2.2 q.1 q.2 := by
    intro k
    match k with
    | 0 =>
      obtain ⟨a, b, h⟩ := u_known (C := RX0) (T := TX0) (N := 13) (n := 13) hts (fun w hw => gw_tbl (lays_0 w hw)) (hts _ (gw_tbl gw_30))
      exact ⟨(a, b), fun r _ hr => by cases hr; exact h⟩
    | 1 =>
      obtain ⟨a, b, h⟩ := u_known (C := RX1) (T := TX1) (N := 13) (n := 13) hts (fun w hw => gw_tbl (lays_1 w hw)) (hts _ (gw_tbl gw_91))
      exact ⟨(a, b), fun r _ hr => by cases hr; exact h⟩
    | 2 =>
      obtain ⟨a, b, h⟩ := u_known (C := RX2) (T := TX2) (N := 5) (n := 5) hts (fun w hw => gw_tbl (lays_2 w hw)) (hts _ (gw_tbl gw_325))
      exact ⟨(a, b), fun r _ hr => by cases hr; exact h⟩
    | 3 =>
      obtain ⟨a, b, h⟩ := u_known (C := RX3) (T := TX3) (N := 16) (n := 16) hts (fun w hw => gw_tbl (lays_3 w hw)) (hts _ (gw_tbl gw_425))
      exact ⟨(a, b), fun r _ hr => by cases hr; exact h⟩
    | 4 =>
      obtain ⟨a, b, h⟩ := u_known (C := RX5) (T := TX5) (N := 7) (n := 7) hts (fun w hw => gw_tbl (lays_4 w hw)) (hts _ (gw_tbl gw_600))
      exact ⟨(a, b), fun r _ hr => by cases hr; exact h⟩
    | 5 =>
      obtain ⟨a, b, h⟩ := u_known (C := RX6) (T := TX6) (N := 10) (n := 10) hts (fun w hw => gw_tbl (lays_5 w hw)) (hts _ (gw_tbl gw_173))
      exact ⟨(a, b), fun r _ hr => by cases hr; exact h⟩
    | 6 =>
      obtain ⟨a, b, h⟩ := u_known (C := RX7) (T := TX7) (N := 11) (n := 11) hts (fun w hw => gw_tbl (lays_6 w hw)) (hts _ (gw_tbl gw_1045))
      exact ⟨(a, b), fun r _ hr => by cases hr; exact h⟩
    | 7 =>
      obtain ⟨a, b, h⟩ := u_known (C := RX8) (T := TX8) (N := 4) (n := 4) hts (fun w hw => gw_tbl (lays_7 w hw)) (hts _ (gw_tbl gw_99))
      exact ⟨(a, b), fun r _ hr => by cases hr; exact h⟩
    | 8 =>
      obtain ⟨a, b, h⟩ := u_known (C := RX9) (T := TX9) (N := 5) (n := 5) hts (fun w hw => gw_tbl (lays_8 w hw)) (hts _ (gw_tbl gw_571))
      exact ⟨(a, b), fun r _ hr => by cases hr; exact h⟩
    | 9 =>
      obtain ⟨a, b, h⟩ := u_known (C := RX10) (T := TX10) (N := 15) (n := 15) hts (fun w hw => gw_tbl (lays_9 w hw)) (hts _ (gw_tbl gw_875))
      exact ⟨(a, b), fun r _ hr => by cases hr; exact h⟩
    | 10 =>
      obtain ⟨a, b, h⟩ := u_known (C := RX11) (T := TX11) (N := 20) (n := 20) hts (fun w hw => gw_tbl (lays_10 w hw)) (hts _ (gw_tbl gw_22))
      exact ⟨(a, b), fun r _ hr => by cases hr; exact h⟩
    | 11 =>
      obtain ⟨a, b, h⟩ := u_known (C := RX12) (T := TX12) (N := 151) (n := 151) hts (fun w hw => gw_tbl (lays_11 w hw)) (hts _ (gw_tbl gw_1473))
      exact ⟨(a, b), fun r _ hr => by cases hr; exact h⟩
    | k + 12 => exact ⟨(0, fun _ => 0), fun r h _ => absurd h (by omega)⟩
  have ha : ∀ t : Nat, ∃ cA : ClassId, t < 9 → ∀ u, bt u = t → ArrOfT s cA (tyOf u) ∧ va_RA s cA (tyOf u) := by
    intro t
    match t with
    | 0 =>
      obtain ⟨cA, kA, comp, h1, h2, h3⟩ := Cond.arrayClass_spec (hts _ (gw_tbl gw_89))
      exact ⟨cA, fun _ u hu => by
        have e : tyOf u = .int := by unfold tyOf; rw [hu]; rfl
        rw [e]
        exact ⟨fun n z => ⟨fun k h => (by cases h), kA, h2, comp, h3⟩, h1⟩⟩
    | 1 =>
      obtain ⟨cA, kA, comp, h1, h2, h3⟩ := Cond.arrayClass_spec (hts _ (gw_tbl gw_294))
      exact ⟨cA, fun _ u hu => by
        have e : tyOf u = .long := by unfold tyOf; rw [hu]; rfl
        rw [e]
        exact ⟨fun n z => ⟨fun k h => (by cases h), kA, h2, comp, h3⟩, h1⟩⟩
    | 2 =>
      obtain ⟨cA, kA, comp, h1, h2, h3⟩ := Cond.arrayClass_spec (hts _ (gw_tbl gw_815))
      exact ⟨cA, fun _ u hu => by
        have e : tyOf u = .byte := by unfold tyOf; rw [hu]; rfl
        rw [e]
        exact ⟨fun n z => ⟨fun k h => (by cases h), kA, h2, comp, h3⟩, h1⟩⟩
    | 3 =>
      obtain ⟨cA, kA, comp, h1, h2, h3⟩ := Cond.arrayClass_spec (hts _ (gw_tbl gw_1936))
      exact ⟨cA, fun _ u hu => by
        have e : tyOf u = .boolean := by unfold tyOf; rw [hu]; rfl
        rw [e]
        exact ⟨fun n z => ⟨fun k h => (by cases h), kA, h2, comp, h3⟩, h1⟩⟩
    | 4 =>
      obtain ⟨comp, cA, kA, f1, f0, f2, f3, f4⟩ := Cond.arrayOver_spec (hts (Jvm.Cond.arrayOver (Jvm.ClassFile.FieldType.object "IceTreaty$Party")) (tk_all (tk_1 (List.mem_of_getElem? (i := 220) (by decide +kernel)))))
      exact ⟨cA, fun _ u hu => by
        have e : tyOf u = .object RX2 := by unfold tyOf; rw [hu]; rfl
        rw [e]
        exact ⟨fun N z => ⟨(fun k h => by cases h), kA, f2, comp, f3⟩, kA, comp, f2, f3, f1, f4⟩⟩
    | 5 =>
      obtain ⟨comp, cA, kA, f1, f0, f2, f3, f4⟩ := Cond.arrayOver_spec (hts (Jvm.Cond.arrayOver (Jvm.ClassFile.FieldType.object "IceTreaty$Place")) (tk_all (tk_1 (List.mem_of_getElem? (i := 222) (by decide +kernel)))))
      exact ⟨cA, fun _ u hu => by
        have e : tyOf u = .object RX3 := by unfold tyOf; rw [hu]; rfl
        rw [e]
        exact ⟨fun N z => ⟨(fun k h => by cases h), kA, f2, comp, f3⟩, kA, comp, f2, f3, f1, f4⟩⟩
    | 6 =>
      obtain ⟨comp, cA, kA, f1, f0, f2, f3, f4⟩ := Cond.arrayOver_spec (hts (Jvm.Cond.arrayOver (Jvm.ClassFile.FieldType.object "IceTreaty$Work")) (tk_all (tk_1 (List.mem_of_getElem? (i := 224) (by decide +kernel)))))
      exact ⟨cA, fun _ u hu => by
        have e : tyOf u = .object RX10 := by unfold tyOf; rw [hu]; rfl
        rw [e]
        exact ⟨fun N z => ⟨(fun k h => by cases h), kA, f2, comp, f3⟩, kA, comp, f2, f3, f1, f4⟩⟩
    | 7 =>
      obtain ⟨comp, cA, kA, f1, f0, f2, f3, f4⟩ := Cond.arrayOver_spec (hts (Jvm.Cond.arrayOver (Jvm.ClassFile.FieldType.object "IceTreaty$Ship")) (tk_all (tk_1 (List.mem_of_getElem? (i := 226) (by decide +kernel)))))
      exact ⟨cA, fun _ u hu => by
        have e : tyOf u = .object RX7 := by unfold tyOf; rw [hu]; rfl
        rw [e]
        exact ⟨fun N z => ⟨(fun k h => by cases h), kA, f2, comp, f3⟩, kA, comp, f2, f3, f1, f4⟩⟩
    | 8 =>
      obtain ⟨comp, cA, kA, f1, f0, f2, f3, f4⟩ := Cond.arrayOver_spec (hts (Jvm.Cond.arrayOver (Jvm.ClassFile.FieldType.object "IceTreaty$Text")) (tk_all (tk_1 (List.mem_of_getElem? (i := 97) (by decide +kernel)))))
      exact ⟨cA, fun _ u hu => by
        have e : tyOf u = .object RX9 := by unfold tyOf; rw [hu]; rfl
        rw [e]
        exact ⟨fun N z => ⟨(fun k h => by cases h), kA, f2, comp, f3⟩, kA, comp, f2, f3, f1, f4⟩⟩
    | t + 9 => exact ⟨0, fun h => absurd h (by omega)⟩
  obtain ⟨fc, hfc⟩ := Classical.axiomOfChoice hc
  obtain ⟨fa, hfa⟩ := Classical.axiomOfChoice ha
  refine ⟨(fun k => (fc (if 24 ≤ k then 7 else k % 12)).1, fun k => (fc (if 24 ≤ k then 7 else k % 12)).2), fa, ⟨fun k r h => ?_, fun k q h => by simp at h⟩, va_Nw.of rfl (hts nestW (tk_all (tk_1 (List.mem_of_getElem? (i := 92) (by decide +kernel))))), fun u _ => hfa (bt u) (bt9 u) u rfl, fun Cn hC => ?_, fun c h => ?_, fun c h1 h2 => ?_⟩
  · have e : TCl[(if 24 ≤ k then 7 else k % 12)]? = some r := by
      match k, h with
      | 0, h => exact h
      | 1, h => exact h
      | 2, h => exact h
      | 3, h => exact h
      | 4, h => exact h
      | 5, h => exact h
      | 6, h => exact h
      | 7, h => exact h
      | 8, h => exact h
      | 9, h => exact h
      | 10, h => exact h
      | 11, h => exact h
      | 12, h => exact h
      | 13, h => exact h
      | 14, h => exact h
      | 15, h => exact h
      | 16, h => exact h
      | 17, h => exact h
      | 18, h => exact h
      | 19, h => exact h
      | 20, h => exact h
      | 21, h => exact h
      | 22, h => exact h
      | 23, h => exact h
      | 24, h => exact h
      | 25, h => exact h
      | 26, h => exact h
      | 27, h => exact h
      | 28, h => exact h
      | 29, h => exact h
      | 30, h => exact h
      | 31, h => exact h
      | 32, h => exact h
      | 33, h => exact h
      | 34, h => exact h
      | k + 35, h => simp [TCl] at h
    exact hfc _ r (by split <;> omega) e
  · simp only [aoC, List.mem_cons, List.not_mem_nil, or_false] at hC
    rcases hC with rfl | rfl | rfl | rfl | rfl
    · exact va_AO.of (hts (Jvm.Cond.arrayOver (Jvm.ClassFile.FieldType.object "IceTreaty$Party")) (tk_all (tk_1 (List.mem_of_getElem? (i := 220) (by decide +kernel)))))
    · exact va_AO.of (hts (Jvm.Cond.arrayOver (Jvm.ClassFile.FieldType.object "IceTreaty$Place")) (tk_all (tk_1 (List.mem_of_getElem? (i := 222) (by decide +kernel)))))
    · exact va_AO.of (hts (Jvm.Cond.arrayOver (Jvm.ClassFile.FieldType.object "IceTreaty$Work")) (tk_all (tk_1 (List.mem_of_getElem? (i := 224) (by decide +kernel)))))
    · exact va_AO.of (hts (Jvm.Cond.arrayOver (Jvm.ClassFile.FieldType.object "IceTreaty$Ship")) (tk_all (tk_1 (List.mem_of_getElem? (i := 226) (by decide +kernel)))))
    · exact va_AO.of (hts (Jvm.Cond.arrayOver (Jvm.ClassFile.FieldType.object "IceTreaty$Text")) (tk_all (tk_1 (List.mem_of_getElem? (i := 97) (by decide +kernel)))))
  · have e1 : (if 24 ≤ c + 12 then 7 else (c + 12) % 12) = c := by rw [if_neg (by omega)]; omega
    have e2 : (if 24 ≤ c then 7 else c % 12) = c := by rw [if_neg (by omega)]; omega
    show (fc (if 24 ≤ c + 12 then 7 else (c + 12) % 12)).1 = (fc (if 24 ≤ c then 7 else c % 12)).1 ∧ (fc (if 24 ≤ c + 12 then 7 else (c + 12) % 12)).2 = (fc (if 24 ≤ c then 7 else c % 12)).2
    rw [e1, e2]; exact ⟨rfl, rfl⟩
  · show (fc (if 24 ≤ c then 7 else c % 12)).1 = (fc 7).1 ∧ (fc (if 24 ≤ c then 7 else c % 12)).2 = (fc 7).2
    rw [if_pos h1]; exact ⟨rfl, rfl⟩
theorem law_sf {p : Program} {s : State} {m : MethodId} {meth : Method} {c : Code} {b L : Nat} {xs : Nat → Int32} (hat : lw_At p s m meth c b L xs) : SF kNone s s.heap := by
  have hs := flat_of_before _ hat.2.2.2.2.2.2.2.2.2
  have hts := hat.2.2.2.2.2.1
  have hA : ∀ a : Nat, a < s.heap.size → ¬ AK kNone s.heap.size a := fun a h q => by
    rcases q with ⟨k, h1⟩ | h1
    · cases h1
    · exact absurd h (Nat.not_lt.mpr h1)
  obtain ⟨t1, e1, T1⟩ := va_Tof (args := #[Value.ref b]) (s := s) (tm := (Jvm.Term.static "IceTreaty$Land" "ROW_STEPS" "[I")) (ty := .int) (N := 8) (f := fun j => .int (rowB.getD j 0)) (A := AK kNone s.heap.size) (by decide) (hs (Jvm.Cond.arrayOf (Jvm.Term.static "IceTreaty$Land" "ROW_STEPS" "[I") .int) (by decide +kernel)) (va_eqt (hs (Jvm.Cond.eq (Jvm.Term.length (Jvm.Term.static "IceTreaty$Land" "ROW_STEPS" "[I")) (Jvm.Term.int (8 : Int32))) (by decide +kernel))) (fun j hj => by
    match j, hj with
    | 0, _ => exact va_eqt (hs (Jvm.Cond.eq (Jvm.Term.elem (Jvm.Term.static "IceTreaty$Land" "ROW_STEPS" "[I") (Jvm.Term.int (0 : Int32))) (Jvm.Term.int (-1 : Int32))) (by decide +kernel))
    | 1, _ => exact va_eqt (hs (Jvm.Cond.eq (Jvm.Term.elem (Jvm.Term.static "IceTreaty$Land" "ROW_STEPS" "[I") (Jvm.Term.int (1 : Int32))) (Jvm.Term.int (-1 : Int32))) (by decide +kernel))
    | 2, _ => exact va_eqt (hs (Jvm.Cond.eq (Jvm.Term.elem (Jvm.Term.static "IceTreaty$Land" "ROW_STEPS" "[I") (Jvm.Term.int (2 : Int32))) (Jvm.Term.int (0 : Int32))) (by decide +kernel))
    | 3, _ => exact va_eqt (hs (Jvm.Cond.eq (Jvm.Term.elem (Jvm.Term.static "IceTreaty$Land" "ROW_STEPS" "[I") (Jvm.Term.int (3 : Int32))) (Jvm.Term.int (1 : Int32))) (by decide +kernel))
    | 4, _ => exact va_eqt (hs (Jvm.Cond.eq (Jvm.Term.elem (Jvm.Term.static "IceTreaty$Land" "ROW_STEPS" "[I") (Jvm.Term.int (4 : Int32))) (Jvm.Term.int (1 : Int32))) (by decide +kernel))
    | 5, _ => exact va_eqt (hs (Jvm.Cond.eq (Jvm.Term.elem (Jvm.Term.static "IceTreaty$Land" "ROW_STEPS" "[I") (Jvm.Term.int (5 : Int32))) (Jvm.Term.int (1 : Int32))) (by decide +kernel))
    | 6, _ => exact va_eqt (hs (Jvm.Cond.eq (Jvm.Term.elem (Jvm.Term.static "IceTreaty$Land" "ROW_STEPS" "[I") (Jvm.Term.int (6 : Int32))) (Jvm.Term.int (0 : Int32))) (by decide +kernel))
    | 7, _ => exact va_eqt (hs (Jvm.Cond.eq (Jvm.Term.elem (Jvm.Term.static "IceTreaty$Land" "ROW_STEPS" "[I") (Jvm.Term.int (7 : Int32))) (Jvm.Term.int (-1 : Int32))) (by decide +kernel))
    | j + 8, h => exact absurd h (by omega)) hA
  have Z1 := va_Zref (n := "ROW_STEPS") (d := "[I") (hts (Jvm.Cond.laysStatic "IceTreaty$Land" "ROW_STEPS" "[I") (tk_all (tk_5 (List.mem_of_getElem? (i := 162) (by decide +kernel))))) (hts _ (gw_tbl gw_2)) e1 hA
  obtain ⟨t2, e2, T2⟩ := va_Tof (args := #[Value.ref b]) (s := s) (tm := (Jvm.Term.static "IceTreaty$Land" "COLUMN_STEPS" "[I")) (ty := .int) (N := 8) (f := fun j => .int (colB.getD j 0)) (A := AK kNone s.heap.size) (by decide) (hs (Jvm.Cond.arrayOf (Jvm.Term.static "IceTreaty$Land" "COLUMN_STEPS" "[I") .int) (by decide +kernel)) (va_eqt (hs (Jvm.Cond.eq (Jvm.Term.length (Jvm.Term.static "IceTreaty$Land" "COLUMN_STEPS" "[I")) (Jvm.Term.int (8 : Int32))) (by decide +kernel))) (fun j hj => by
    match j, hj with
    | 0, _ => exact va_eqt (hs (Jvm.Cond.eq (Jvm.Term.elem (Jvm.Term.static "IceTreaty$Land" "COLUMN_STEPS" "[I") (Jvm.Term.int (0 : Int32))) (Jvm.Term.int (0 : Int32))) (by decide +kernel))
    | 1, _ => exact va_eqt (hs (Jvm.Cond.eq (Jvm.Term.elem (Jvm.Term.static "IceTreaty$Land" "COLUMN_STEPS" "[I") (Jvm.Term.int (1 : Int32))) (Jvm.Term.int (1 : Int32))) (by decide +kernel))
    | 2, _ => exact va_eqt (hs (Jvm.Cond.eq (Jvm.Term.elem (Jvm.Term.static "IceTreaty$Land" "COLUMN_STEPS" "[I") (Jvm.Term.int (2 : Int32))) (Jvm.Term.int (1 : Int32))) (by decide +kernel))
    | 3, _ => exact va_eqt (hs (Jvm.Cond.eq (Jvm.Term.elem (Jvm.Term.static "IceTreaty$Land" "COLUMN_STEPS" "[I") (Jvm.Term.int (3 : Int32))) (Jvm.Term.int (1 : Int32))) (by decide +kernel))
    | 4, _ => exact va_eqt (hs (Jvm.Cond.eq (Jvm.Term.elem (Jvm.Term.static "IceTreaty$Land" "COLUMN_STEPS" "[I") (Jvm.Term.int (4 : Int32))) (Jvm.Term.int (0 : Int32))) (by decide +kernel))
    | 5, _ => exact va_eqt (hs (Jvm.Cond.eq (Jvm.Term.elem (Jvm.Term.static "IceTreaty$Land" "COLUMN_STEPS" "[I") (Jvm.Term.int (5 : Int32))) (Jvm.Term.int (-1 : Int32))) (by decide +kernel))
    | 6, _ => exact va_eqt (hs (Jvm.Cond.eq (Jvm.Term.elem (Jvm.Term.static "IceTreaty$Land" "COLUMN_STEPS" "[I") (Jvm.Term.int (6 : Int32))) (Jvm.Term.int (-1 : Int32))) (by decide +kernel))
    | 7, _ => exact va_eqt (hs (Jvm.Cond.eq (Jvm.Term.elem (Jvm.Term.static "IceTreaty$Land" "COLUMN_STEPS" "[I") (Jvm.Term.int (7 : Int32))) (Jvm.Term.int (-1 : Int32))) (by decide +kernel))
    | j + 8, h => exact absurd h (by omega)) hA
  have Z2 := va_Zref (n := "COLUMN_STEPS") (d := "[I") (hts (Jvm.Cond.laysStatic "IceTreaty$Land" "COLUMN_STEPS" "[I") (tk_all (tk_5 (List.mem_of_getElem? (i := 164) (by decide +kernel))))) (hts _ (gw_tbl gw_2)) e2 hA
  have Z3 := va_Zof (v := .int 1) (A := AK kNone s.heap.size) (hts (Jvm.Cond.laysStatic "java/lang/String" "COMPACT_STRINGS" "Z") (tk_all (tk_3 (List.mem_of_getElem? (i := 239) (by decide +kernel))))) (hts _ (gw_tbl gw_13)) (va_eqt (hs (Jvm.Cond.eq (Jvm.Term.static "java/lang/String" "COMPACT_STRINGS" "Z") (Jvm.Term.int (1 : Int32))) (by decide +kernel))) hA
  obtain ⟨adK, adV, S4, E4⟩ := vk_Sof (args := #[Value.ref b]) (s := s) (N := 1) (tm := fun _ => (Jvm.Term.string "IceTreaty$Scribe" (117 : Nat))) (len := [14]) (byt := [litB]) (A := AK kNone s.heap.size) (fun i hi => by
      have e : i = 0 := by omega
      subst e; decide) (fun i _ => hs (Jvm.Cond.exactly (Jvm.Term.string "IceTreaty$Scribe" (117 : Nat)) "java/lang/String") (by decide +kernel)) (fun i _ => hs (Jvm.Cond.eq (Jvm.Term.field (Jvm.Term.string "IceTreaty$Scribe" (117 : Nat)) "java/lang/String" "coder" "B") (Jvm.Term.int (0 : Int32))) (by decide +kernel)) (fun i _ => hs (Jvm.Cond.arrayOf (Jvm.Term.field (Jvm.Term.string "IceTreaty$Scribe" (117 : Nat)) "java/lang/String" "value" "[B") .byte) (by decide +kernel)) (fun i hi => by
      have e : i = 0 := by omega
      subst e
      exact hs (Jvm.Cond.eq (Jvm.Term.length (Jvm.Term.field (Jvm.Term.string "IceTreaty$Scribe" (117 : Nat)) "java/lang/String" "value" "[B")) (Jvm.Term.int (14 : Int32))) (by decide +kernel)) (fun i hi j hj => by
      have e : i = 0 := by omega
      subst e
      match j, hj with
      | 0, _ => exact hs (Jvm.Cond.eq (Jvm.Term.elem (Jvm.Term.field (Jvm.Term.string "IceTreaty$Scribe" (117 : Nat)) "java/lang/String" "value" "[B") (Jvm.Term.int (0 : Int32))) (Jvm.Term.int (97 : Int32))) (by decide +kernel)
      | 1, _ => exact hs (Jvm.Cond.eq (Jvm.Term.elem (Jvm.Term.field (Jvm.Term.string "IceTreaty$Scribe" (117 : Nat)) "java/lang/String" "value" "[B") (Jvm.Term.int (1 : Int32))) (Jvm.Term.int (112 : Int32))) (by decide +kernel)
      | 2, _ => exact hs (Jvm.Cond.eq (Jvm.Term.elem (Jvm.Term.field (Jvm.Term.string "IceTreaty$Scribe" (117 : Nat)) "java/lang/String" "value" "[B") (Jvm.Term.int (2 : Int32))) (Jvm.Term.int (98 : Int32))) (by decide +kernel)
      | 3, _ => exact hs (Jvm.Cond.eq (Jvm.Term.elem (Jvm.Term.field (Jvm.Term.string "IceTreaty$Scribe" (117 : Nat)) "java/lang/String" "value" "[B") (Jvm.Term.int (3 : Int32))) (Jvm.Term.int (104 : Int32))) (by decide +kernel)
      | 4, _ => exact hs (Jvm.Cond.eq (Jvm.Term.elem (Jvm.Term.field (Jvm.Term.string "IceTreaty$Scribe" (117 : Nat)) "java/lang/String" "value" "[B") (Jvm.Term.int (4 : Int32))) (Jvm.Term.int (105 : Int32))) (by decide +kernel)
      | 5, _ => exact hs (Jvm.Cond.eq (Jvm.Term.elem (Jvm.Term.field (Jvm.Term.string "IceTreaty$Scribe" (117 : Nat)) "java/lang/String" "value" "[B") (Jvm.Term.int (5 : Int32))) (Jvm.Term.int (114 : Int32))) (by decide +kernel)
      | 6, _ => exact hs (Jvm.Cond.eq (Jvm.Term.elem (Jvm.Term.field (Jvm.Term.string "IceTreaty$Scribe" (117 : Nat)) "java/lang/String" "value" "[B") (Jvm.Term.int (6 : Int32))) (Jvm.Term.int (115 : Int32))) (by decide +kernel)
      | 7, _ => exact hs (Jvm.Cond.eq (Jvm.Term.elem (Jvm.Term.field (Jvm.Term.string "IceTreaty$Scribe" (117 : Nat)) "java/lang/String" "value" "[B") (Jvm.Term.int (7 : Int32))) (Jvm.Term.int (110 : Int32))) (by decide +kernel)
      | 8, _ => exact hs (Jvm.Cond.eq (Jvm.Term.elem (Jvm.Term.field (Jvm.Term.string "IceTreaty$Scribe" (117 : Nat)) "java/lang/String" "value" "[B") (Jvm.Term.int (8 : Int32))) (Jvm.Term.int (111 : Int32))) (by decide +kernel)
      | 9, _ => exact hs (Jvm.Cond.eq (Jvm.Term.elem (Jvm.Term.field (Jvm.Term.string "IceTreaty$Scribe" (117 : Nat)) "java/lang/String" "value" "[B") (Jvm.Term.int (9 : Int32))) (Jvm.Term.int (116 : Int32))) (by decide +kernel)
      | 10, _ => exact hs (Jvm.Cond.eq (Jvm.Term.elem (Jvm.Term.field (Jvm.Term.string "IceTreaty$Scribe" (117 : Nat)) "java/lang/String" "value" "[B") (Jvm.Term.int (10 : Int32))) (Jvm.Term.int (101 : Int32))) (by decide +kernel)
      | 11, _ => exact hs (Jvm.Cond.eq (Jvm.Term.elem (Jvm.Term.field (Jvm.Term.string "IceTreaty$Scribe" (117 : Nat)) "java/lang/String" "value" "[B") (Jvm.Term.int (11 : Int32))) (Jvm.Term.int (100 : Int32))) (by decide +kernel)
      | 12, _ => exact hs (Jvm.Cond.eq (Jvm.Term.elem (Jvm.Term.field (Jvm.Term.string "IceTreaty$Scribe" (117 : Nat)) "java/lang/String" "value" "[B") (Jvm.Term.int (12 : Int32))) (Jvm.Term.int (121 : Int32))) (by decide +kernel)
      | 13, _ => exact hs (Jvm.Cond.eq (Jvm.Term.elem (Jvm.Term.field (Jvm.Term.string "IceTreaty$Scribe" (117 : Nat)) "java/lang/String" "value" "[B") (Jvm.Term.int (13 : Int32))) (Jvm.Term.int (109 : Int32))) (by decide +kernel)
      | j + 14, h => exact absurd h (by show ¬ (j + 14 < 14); omega)) (fun i j hi hj h => absurd (by omega) h) hA
  exact ⟨t1, t2, adK, adV, Z1, T1, Z2, T2, Z3, S4, vk_R.of (A := #[Value.ref b]) (hts (Jvm.Cond.stringRef "IceTreaty$Scribe" (117 : Nat) "apbhirsnotedym") (tk_all (tk_3 (List.mem_of_getElem? (i := 225) (by decide +kernel))))) (E4 0 (by decide))⟩
