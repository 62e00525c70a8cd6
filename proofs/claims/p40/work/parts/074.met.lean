def mX12_isBlocked : MRec := (RX12, cX12_isBlocked, 5, (some .boolean), yX12_isBlocked, 0, 0, 0, 0, 0)
def mX12_blocks : MRec := (RX12, cX12_blocks, 4, (some .int), yX12_blocks, 1, 24, 0, 0, 0)
def mX12_worthOf : MRec := (RX12, cX12_worthOf, 4, (some .int), yX12_worthOf, 0, 0, 0, 0, 0)
def mX12_bits : MRec := (RX12, cX12_bits, 3, (some .int), yX12_bits, 0, 0, 0, 0, 0)
def mX12_best : MRec := (RX12, cX12_best, 5, (some .int), yX12_best, 2, 47, 0, 0, 0)
def mX12_stop : MRec := (RX12, cX12_stop, 4, (some .int), yX12_stop, 3, 64, 0, 0, 29551504647295859409209280075107710353925596542086401196384791038192979236476177943226340255203144314612884122370048)
def mX12_open : MRec := (RX12, cX12_open, 5, (some .boolean), yX12_open, 1, 22, 0, 0, 118206018589183437636837120300430841415239217811396340003844880212737165314491631834242798764654746922419883970920448)
def mX12_endOf : MRec := (RX12, cX12_endOf, 6, (some .int), yX12_endOf, 2, 44, 0, 0, 0)
def mX12_worstEnd : MRec := (RX12, cX12_worstEnd, 5, (some .int), yX12_worstEnd, 3, 69, 0, 0, 0)
set_option maxHeartbeats 1000000 in
theorem t_X12_isBlocked {K : Kmap} {V : Vmap} {x : Nat} {p0 : Int} {p1 : Int} (h_x : K x = some (0, 11)) (r_p0 : ir p0) (r_p1 : ir p1) (q_0 : p0 ≥ 0) (q_1 : p0 ≤ 8) : MC mX12_isBlocked K V [.ref x, ti p0, ti p1] (IP K V (fun X => (X = 0 ∨ X = 1) ∧ (X ≠ 0 → True) ∧ (X = 0 → True))) := by
  refine MC.start 2 (by decide +kernel) rfl rfl rfl (ls0 := [some (.ref x), some (ti p0), some (ti p1), none, none]) rfl ?_
  refine GO.iconst dX12_isBlocked_0 ?_
  refine GO.istore_n (ls1 := [some (.ref x), some (ti p0), some (ti p1), some (ti 0), none]) dX12_isBlocked_1 rfl rfl rfl ?_
  refine GO.loop1 (fun i1 W => 0 ≤ i1 ∧ i1 ≤ 7 ∧ V = W) (fun i1 => [some (.ref x), some (ti p0), some (ti p1), some (ti i1), none]) (fun i1 W => (2147483647 - i1).toNat) 0 ⟨by omega, by omega, rfl⟩ rfl (fun i1 V310 hp312 ih311 => ?_)
  obtain ⟨l_i1, u_i1, rfl⟩ := hp312
  have r_i1 : ir i1 := ⟨by omega, by omega⟩
  show GO mX12_isBlocked K V (IP K V (fun X => (X = 0 ∨ X = 1) ∧ (X ≠ 0 → True) ∧ (X = 0 → True))) K V 0 0 2 [some (.ref x), some (ti p0), some (ti p1), some (ti i1), none] []
  refine GO.iload_n dX12_isBlocked_2 rfl rfl ?_
  refine GO.aload_n dX12_isBlocked_3 rfl rfl ?_
  refine GO.getI h_x fl_RX12_718 rfl rfl dX12_isBlocked_4 (fun l313 u314 => ?_)
  refine GO.icmp_ge (tgt := 99) dX12_isBlocked_7 (by decide) r_i1 vi_ir (fun c315 => ?_) (fun c315 => ?_)
  ·
    refine GO.iconst dX12_isBlocked_99 ?_
    exact GO.retz rfl rfl dX12_isBlocked_100 (Or.inl rfl) ⟨rfl, rfl, _, rfl, (ir_c rfl), ⟨Or.inl rfl, fun _ => trivial, fun _ => trivial⟩⟩
  ·
    refine GO.iload_n dX12_isBlocked_10 rfl rfl ?_
    refine GO.iload_n dX12_isBlocked_11 rfl rfl ?_
    refine GO.ishr dX12_isBlocked_12 ?_
    refine GO.iconst dX12_isBlocked_13 ?_
    refine GO.iand dX12_isBlocked_14 ?_
    refine GO.iconst dX12_isBlocked_15 ?_
    have hj323 : GO mX12_isBlocked K V (IP K V (fun X => (X = 0 ∨ X = 1) ∧ (X ≠ 0 → True) ∧ (X = 0 → True))) K V 0 0 35 [some (.ref x), some (ti p0), some (ti p1), some (ti i1), none] [] := by
      skip
      refine GO.iconst dX12_isBlocked_35 ?_
      refine GO.istore (ls1 := [some (.ref x), some (ti p0), some (ti p1), some (ti i1), some (ti 0)]) dX12_isBlocked_36 rfl rfl ?_
      refine GO.loop1 (fun i324 W => 0 ≤ i324 ∧ i324 ≤ 7 ∧ V = W) (fun i324 => [some (.ref x), some (ti p0), some (ti p1), some (ti i1), some (ti i324)]) (fun i324 W => (2147483647 - i324).toNat) 0 ⟨by omega, by omega, rfl⟩ rfl (fun i324 V369 hp371 ih370 => ?_)
      obtain ⟨l_i324, u_i324, rfl⟩ := hp371
      have r_i324 : ir i324 := ⟨by omega, by omega⟩
      show GO mX12_isBlocked K V (IP K V (fun X => (X = 0 ∨ X = 1) ∧ (X ≠ 0 → True) ∧ (X = 0 → True))) K V 0 0 38 [some (.ref x), some (ti p0), some (ti p1), some (ti i1), some (ti i324)] []
      refine GO.iload dX12_isBlocked_38 rfl ?_
      refine GO.aload_n dX12_isBlocked_40 rfl rfl ?_
      refine GO.getI h_x fl_RX12_718 rfl rfl dX12_isBlocked_41 (fun l372 u373 => ?_)
      refine GO.icmp_ge (tgt := 93) dX12_isBlocked_44 (by decide) r_i324 vi_ir (fun c374 => ?_) (fun c374 => ?_)
      ·
        refine GO.iinc (X := i1) (n := 1) (Y := i1 + 1) (ls1 := [some (.ref x), some (ti p0), some (ti p1), some (ti (i1 + 1)), some (ti i324)]) dX12_isBlocked_93 rfl rfl rfl rfl ?_
        refine GO.goto (tgt := 2) dX12_isBlocked_96 (by decide) ?_
        refine GO.drop [true, true, true, true, false] rfl ?_
        exact ih311 (i1 + 1) V ⟨by omega, by omega, rfl⟩ (by show (2147483647 - (i1 + 1)).toNat < (2147483647 - i1).toNat; omega)
      ·
        refine GO.iload_n dX12_isBlocked_47 rfl rfl ?_
        refine GO.iload_n dX12_isBlocked_48 rfl rfl ?_
        refine GO.ishr dX12_isBlocked_49 ?_
        refine GO.iconst dX12_isBlocked_50 ?_
        refine GO.iand dX12_isBlocked_51 ?_
        refine GO.if_ne (tgt := 87) dX12_isBlocked_52 (by decide) wand_ir (fun c375 => ?_) (fun c375 => ?_)
        ·
          refine GO.iinc (X := i324) (n := 1) (Y := i324 + 1) (ls1 := [some (.ref x), some (ti p0), some (ti p1), some (ti i1), some (ti (i324 + 1))]) dX12_isBlocked_87 rfl rfl rfl rfl ?_
          refine GO.goto (tgt := 38) dX12_isBlocked_90 (by decide) ?_
          exact ih370 (i324 + 1) V ⟨by omega, by omega, rfl⟩ (by show (2147483647 - (i324 + 1)).toNat < (2147483647 - i324).toNat; omega)
        ·
          refine GO.iload_n dX12_isBlocked_55 rfl rfl ?_
          refine GO.iload dX12_isBlocked_56 rfl ?_
          refine GO.ishr dX12_isBlocked_58 ?_
          refine GO.iconst dX12_isBlocked_59 ?_
          refine GO.iand dX12_isBlocked_60 ?_
          refine GO.iconst dX12_isBlocked_61 ?_
          refine GO.icmp_ne (tgt := 87) dX12_isBlocked_62 (by decide) wand_ir (ir_c rfl) (fun c376 => ?_) (fun c376 => ?_)
          ·
            refine GO.iinc (X := i324) (n := 1) (Y := i324 + 1) (ls1 := [some (.ref x), some (ti p0), some (ti p1), some (ti i1), some (ti (i324 + 1))]) dX12_isBlocked_87 rfl rfl rfl rfl ?_
            refine GO.goto (tgt := 38) dX12_isBlocked_90 (by decide) ?_
            exact ih370 (i324 + 1) V ⟨by omega, by omega, rfl⟩ (by show (2147483647 - (i324 + 1)).toNat < (2147483647 - i324).toNat; omega)
          ·
            refine GO.aload_n dX12_isBlocked_65 rfl rfl ?_
            refine GO.getA (n := 441) h_x fl_RX12_325 rfl rfl rfl rfl dX12_isBlocked_66 (fun hv378 h377 => ?_)
            refine GO.bipush dX12_isBlocked_69 rfl ?_
            refine GO.bipush dX12_isBlocked_71 rfl ?_
            refine GO.iload_n dX12_isBlocked_73 rfl rfl ?_
            refine GO.imul dX12_isBlocked_74 ?_
            refine GO.iload_n dX12_isBlocked_75 rfl rfl ?_
            refine GO.iadd dX12_isBlocked_76 ?_
            refine GO.imul dX12_isBlocked_77 ?_
            refine GO.iload dX12_isBlocked_78 rfl ?_
            refine GO.iadd dX12_isBlocked_80 ?_
            have q379 : -2147483648 ≤ p0 ∧ p0 ≤ 2147483647 := r_p0
            refine GO.zald (t := 110) rfl rfl h377 ⟨by omega, by omega⟩ (by omega) (by omega) dX12_isBlocked_81 (fun l380 u381 => ?_)
            refine GO.if_eq (tgt := 87) dX12_isBlocked_82 (by decide) vi_ir (fun c382 => ?_) (fun c382 => ?_)
            ·
              refine GO.iinc (X := i324) (n := 1) (Y := i324 + 1) (ls1 := [some (.ref x), some (ti p0), some (ti p1), some (ti i1), some (ti (i324 + 1))]) dX12_isBlocked_87 rfl rfl rfl rfl ?_
              refine GO.goto (tgt := 38) dX12_isBlocked_90 (by decide) ?_
              exact ih370 (i324 + 1) V ⟨by omega, by omega, rfl⟩ (by show (2147483647 - (i324 + 1)).toNat < (2147483647 - i324).toNat; omega)
            ·
              refine GO.iconst dX12_isBlocked_85 ?_
              exact GO.retz rfl rfl dX12_isBlocked_86 (Or.inr rfl) ⟨rfl, rfl, _, rfl, (ir_c rfl), ⟨Or.inr rfl, fun _ => trivial, fun _ => trivial⟩⟩
    refine GO.icmp_ne (tgt := 35) dX12_isBlocked_16 (by decide) wand_ir (ir_c rfl) (fun c383 => ?_) (fun c383 => ?_)
    ·
      exact hj323 
    ·
      refine GO.aload_n dX12_isBlocked_19 rfl rfl ?_
      refine GO.getA (n := 63) h_x fl_RX12_322 rfl rfl rfl rfl dX12_isBlocked_20 (fun hv385 h384 => ?_)
      refine GO.bipush dX12_isBlocked_23 rfl ?_
      refine GO.iload_n dX12_isBlocked_25 rfl rfl ?_
      refine GO.imul dX12_isBlocked_26 ?_
      refine GO.iload_n dX12_isBlocked_27 rfl rfl ?_
      refine GO.iadd dX12_isBlocked_28 ?_
      have q386 : -2147483648 ≤ p0 ∧ p0 ≤ 2147483647 := r_p0
      refine GO.zald (t := 109) rfl rfl h384 ⟨by omega, by omega⟩ (by omega) (by omega) dX12_isBlocked_29 (fun l387 u388 => ?_)
      refine GO.if_eq (tgt := 35) dX12_isBlocked_30 (by decide) vi_ir (fun c389 => ?_) (fun c389 => ?_)
      ·
        exact hj323 
      ·
        refine GO.iconst dX12_isBlocked_33 ?_
        exact GO.retz rfl rfl dX12_isBlocked_34 (Or.inr rfl) ⟨rfl, rfl, _, rfl, (ir_c rfl), ⟨Or.inr rfl, fun _ => trivial, fun _ => trivial⟩⟩

set_option maxHeartbeats 1000000 in
theorem t_X12_blocks {K : Kmap} {V : Vmap} {x : Nat} {p0 : Int} (h_x : K x = some (0, 11)) (r_p0 : ir p0) : MC mX12_blocks K V [.ref x, ti p0] (IP K V (fun X => True)) := by
  refine MC.start 2 (by decide +kernel) rfl rfl rfl (ls0 := [some (.ref x), some (ti p0), none, none]) rfl ?_
  refine GO.iload_n dX12_blocks_0 rfl rfl ?_
  refine GO.iconst dX12_blocks_1 ?_
  refine GO.iconst dX12_blocks_2 ?_
  refine GO.aload_n dX12_blocks_3 rfl rfl ?_
  refine GO.getI h_x fl_RX12_718 rfl rfl dX12_blocks_4 (fun l1 u2 => ?_)
  refine GO.ishl dX12_blocks_7 ?_
  refine GO.iconst dX12_blocks_8 ?_
  refine GO.isub dX12_blocks_9 ?_
  refine GO.norm (fun z3 r4 _ => ?_)
  refine GO.callS (N := mX12_in) dX12_blocks_10 gS_RX12_371 (t_X12_in r_p0 (ir_c rfl) r4) rfl [] rfl rfl (Nat.le_of_ble_eq_true rfl) rfl (k_ip fun X5 r6 h7 => ?_)
  refine GO.if_ne (tgt := 18) dX12_blocks_13 (by decide) r6 (fun c8 => ?_) (fun c8 => ?_)
  ·
    have q9 := h7.2.1 (by omega)
    refine GO.iconst dX12_blocks_18 ?_
    refine GO.istore_n (ls1 := [some (.ref x), some (ti p0), some (ti 0), none]) dX12_blocks_19 rfl rfl rfl ?_
    refine GO.iconst dX12_blocks_20 ?_
    refine GO.istore_n (ls1 := [some (.ref x), some (ti p0), some (ti 0), some (ti 0)]) dX12_blocks_21 rfl rfl rfl ?_
    refine GO.loop2 (fun i10 i11 W => (-2147483648) ≤ i10 ∧ i10 ≤ 2147483647 ∧ 0 ≤ i11 ∧ i11 ≤ 9 ∧ V = W) (fun i10 i11 => [some (.ref x), some (ti p0), some (ti i10), some (ti i11)]) (fun i10 i11 W => (2147483647 - i11).toNat) 0 0 ⟨by omega, by omega, by omega, by omega, rfl⟩ rfl (fun i10 i11 V376 hp378 ih377 => ?_)
    obtain ⟨l_i10, u_i10, l_i11, u_i11, rfl⟩ := hp378
    have r_i10 : ir i10 := ⟨by omega, by omega⟩
    have r_i11 : ir i11 := ⟨by omega, by omega⟩
    show GO mX12_blocks K V (IP K V (fun X => True)) K V 0 0 22 [some (.ref x), some (ti p0), some (ti i10), some (ti i11)] []
    refine GO.iload_n dX12_blocks_22 rfl rfl ?_
    refine GO.aload_n dX12_blocks_23 rfl rfl ?_
    refine GO.getI h_x fl_RX12_393 rfl rfl dX12_blocks_24 (fun l379 u380 => ?_)
    refine GO.icmp_ge (tgt := 55) dX12_blocks_27 (by decide) r_i11 vi_ir (fun c381 => ?_) (fun c381 => ?_)
    ·
      refine GO.iload_n dX12_blocks_55 rfl rfl ?_
      exact GO.reti rfl rfl dX12_blocks_56 ⟨rfl, rfl, _, rfl, r_i10, trivial⟩
    ·
      refine GO.iload_n dX12_blocks_30 rfl rfl ?_
      refine GO.aload_n dX12_blocks_31 rfl rfl ?_
      refine GO.iload_n dX12_blocks_32 rfl rfl ?_
      refine GO.iload_n dX12_blocks_33 rfl rfl ?_
      refine GO.callV (ci := 11) (N := mX12_isBlocked) dX12_blocks_34 (RX12, TX12, 151) rfl gV_RX12_724 h_x (t_X12_isBlocked h_x r_i11 r_p0 (by omega) (by omega)) rfl [ti i10] rfl rfl (Nat.le_of_ble_eq_true rfl) rfl (k_ip fun X382 r383 h384 => ?_)
      refine GO.if_eq (tgt := 46) dX12_blocks_37 (by decide) r383 (fun c385 => ?_) (fun c385 => ?_)
      ·
        refine GO.iconst dX12_blocks_46 ?_
        refine GO.ior dX12_blocks_47 ?_
        refine GO.name (fun z386 hz387 => ?_)
        have r388 : ir z386 := hz387 ▸ wor_ir
        refine GO.istore_n (ls1 := [some (.ref x), some (ti p0), some (ti z386), some (ti i11)]) dX12_blocks_48 rfl rfl rfl ?_
        refine GO.iinc (X := i11) (n := 1) (Y := i11 + 1) (ls1 := [some (.ref x), some (ti p0), some (ti z386), some (ti (i11 + 1))]) dX12_blocks_49 rfl rfl rfl rfl ?_
        refine GO.goto (tgt := 22) dX12_blocks_52 (by decide) ?_
        have q389 : -2147483648 ≤ z386 ∧ z386 ≤ 2147483647 := r388
        have q390 : -2147483648 ≤ wor i10 0 ∧ wor i10 0 ≤ 2147483647 := wor_ir
        exact ih377 z386 (i11 + 1) V ⟨by omega, by omega, by omega, by omega, rfl⟩ (by show (2147483647 - (i11 + 1)).toNat < (2147483647 - i11).toNat; omega)
      ·
        refine GO.iconst dX12_blocks_40 ?_
        refine GO.iload_n dX12_blocks_41 rfl rfl ?_
        refine GO.ishl dX12_blocks_42 ?_
        refine GO.goto (tgt := 47) dX12_blocks_43 (by decide) ?_
        refine GO.ior dX12_blocks_47 ?_
        refine GO.name (fun z391 hz392 => ?_)
        have r393 : ir z391 := hz392 ▸ wor_ir
        refine GO.istore_n (ls1 := [some (.ref x), some (ti p0), some (ti z391), some (ti i11)]) dX12_blocks_48 rfl rfl rfl ?_
        refine GO.iinc (X := i11) (n := 1) (Y := i11 + 1) (ls1 := [some (.ref x), some (ti p0), some (ti z391), some (ti (i11 + 1))]) dX12_blocks_49 rfl rfl rfl rfl ?_
        refine GO.goto (tgt := 22) dX12_blocks_52 (by decide) ?_
        have q394 : -2147483648 ≤ z391 ∧ z391 ≤ 2147483647 := r393
        have q395 : -2147483648 ≤ wor i10 (wshl 1 i11) ∧ wor i10 (wshl 1 i11) ≤ 2147483647 := wor_ir
        exact ih377 z391 (i11 + 1) V ⟨by omega, by omega, by omega, by omega, rfl⟩ (by show (2147483647 - (i11 + 1)).toNat < (2147483647 - i11).toNat; omega)
  ·
    have q396 := h7.2.2 (by omega)
    refine GO.iconst dX12_blocks_16 ?_
    exact GO.reti rfl rfl dX12_blocks_17 ⟨rfl, rfl, _, rfl, (ir_c rfl), trivial⟩

set_option maxHeartbeats 1000000 in
theorem t_X12_worthOf {K : Kmap} {V : Vmap} {x : Nat} {p0 : Int} (h_x : K x = some (0, 11)) (r_p0 : ir p0) : MC mX12_worthOf K V [.ref x, ti p0] (IP K V (fun X => True)) := by
  refine MC.start 2 (by decide +kernel) rfl rfl rfl (ls0 := [some (.ref x), some (ti p0), none, none]) rfl ?_
  refine GO.iconst dX12_worthOf_0 ?_
  refine GO.istore_n (ls1 := [some (.ref x), some (ti p0), some (ti 0), none]) dX12_worthOf_1 rfl rfl rfl ?_
  refine GO.iconst dX12_worthOf_2 ?_
  refine GO.istore_n (ls1 := [some (.ref x), some (ti p0), some (ti 0), some (ti 0)]) dX12_worthOf_3 rfl rfl rfl ?_
  refine GO.loop2 (fun i1 i2 W => (-2147483648) ≤ i1 ∧ i1 ≤ 2147483647 ∧ 0 ≤ i2 ∧ i2 ≤ 7 ∧ V = W) (fun i1 i2 => [some (.ref x), some (ti p0), some (ti i1), some (ti i2)]) (fun i1 i2 W => (2147483647 - i2).toNat) 0 0 ⟨by omega, by omega, by omega, by omega, rfl⟩ rfl (fun i1 i2 V263 hp265 ih264 => ?_)
  obtain ⟨l_i1, u_i1, l_i2, u_i2, rfl⟩ := hp265
  have r_i1 : ir i1 := ⟨by omega, by omega⟩
  have r_i2 : ir i2 := ⟨by omega, by omega⟩
  show GO mX12_worthOf K V (IP K V (fun X => True)) K V 0 0 4 [some (.ref x), some (ti p0), some (ti i1), some (ti i2)] []
  refine GO.iload_n dX12_worthOf_4 rfl rfl ?_
  refine GO.aload_n dX12_worthOf_5 rfl rfl ?_
  refine GO.getI h_x fl_RX12_718 rfl rfl dX12_worthOf_6 (fun l266 u267 => ?_)
  refine GO.icmp_ge (tgt := 40) dX12_worthOf_9 (by decide) r_i2 vi_ir (fun c268 => ?_) (fun c268 => ?_)
  ·
    refine GO.iload_n dX12_worthOf_40 rfl rfl ?_
    exact GO.reti rfl rfl dX12_worthOf_41 ⟨rfl, rfl, _, rfl, r_i1, trivial⟩
  ·
    refine GO.iload_n dX12_worthOf_12 rfl rfl ?_
    refine GO.iload_n dX12_worthOf_13 rfl rfl ?_
    refine GO.iload_n dX12_worthOf_14 rfl rfl ?_
    refine GO.ishr dX12_worthOf_15 ?_
    refine GO.iconst dX12_worthOf_16 ?_
    refine GO.iand dX12_worthOf_17 ?_
    refine GO.iconst dX12_worthOf_18 ?_
    refine GO.icmp_ne (tgt := 31) dX12_worthOf_19 (by decide) wand_ir (ir_c rfl) (fun c269 => ?_) (fun c269 => ?_)
    ·
      refine GO.iconst dX12_worthOf_31 ?_
      refine GO.iadd dX12_worthOf_32 ?_
      refine GO.name (fun z270 hz271 => ?_)
      refine GO.istore_n (ls1 := [some (.ref x), some (ti p0), some (ti z270), some (ti i2)]) dX12_worthOf_33 rfl rfl rfl ?_
      refine GO.iinc (X := i2) (n := 1) (Y := i2 + 1) (ls1 := [some (.ref x), some (ti p0), some (ti z270), some (ti (i2 + 1))]) dX12_worthOf_34 rfl rfl rfl rfl ?_
      refine GO.goto (tgt := 4) dX12_worthOf_37 (by decide) ?_
      exact ih264 z270 (i2 + 1) V ⟨by omega, by omega, by omega, by omega, rfl⟩ (by show (2147483647 - (i2 + 1)).toNat < (2147483647 - i2).toNat; omega)
    ·
      refine GO.aload_n dX12_worthOf_22 rfl rfl ?_
      refine GO.getA (n := 7) h_x fl_RX12_319 rfl rfl rfl rfl dX12_worthOf_23 (fun hv273 h272 => ?_)
      refine GO.iload_n dX12_worthOf_26 rfl rfl ?_
      refine GO.iald (t := 108) rfl rfl h272 r_i2 (by omega) (by omega) dX12_worthOf_27 (fun _ _ => ?_)
      refine GO.goto (tgt := 32) dX12_worthOf_28 (by decide) ?_
      refine GO.iadd dX12_worthOf_32 ?_
      refine GO.norm (fun z274 r275 _ => ?_)
      refine GO.istore_n (ls1 := [some (.ref x), some (ti p0), some (ti z274), some (ti i2)]) dX12_worthOf_33 rfl rfl rfl ?_
      refine GO.iinc (X := i2) (n := 1) (Y := i2 + 1) (ls1 := [some (.ref x), some (ti p0), some (ti z274), some (ti (i2 + 1))]) dX12_worthOf_34 rfl rfl rfl rfl ?_
      refine GO.goto (tgt := 4) dX12_worthOf_37 (by decide) ?_
      have q276 : -2147483648 ≤ z274 ∧ z274 ≤ 2147483647 := r275
      exact ih264 z274 (i2 + 1) V ⟨by omega, by omega, by omega, by omega, rfl⟩ (by show (2147483647 - (i2 + 1)).toNat < (2147483647 - i2).toNat; omega)

set_option maxHeartbeats 1000000 in
theorem t_X12_bits {K : Kmap} {V : Vmap} {p0 : Int} (r_p0 : ir p0) : MC mX12_bits K V [ti p0] (IP K V (fun X => True)) := by
  refine MC.start 2 (by decide +kernel) rfl rfl rfl (ls0 := [some (ti p0), none, none]) rfl ?_
  refine GO.iconst dX12_bits_0 ?_
  refine GO.istore_n (ls1 := [some (ti p0), some (ti 0), none]) dX12_bits_1 rfl rfl rfl ?_
  refine GO.iconst dX12_bits_2 ?_
  refine GO.istore_n (ls1 := [some (ti p0), some (ti 0), some (ti 0)]) dX12_bits_3 rfl rfl rfl ?_
  refine GO.loop2 (fun i1 i2 W => (-2147483648) ≤ i1 ∧ i1 ≤ 2147483647 ∧ 0 ≤ i2 ∧ i2 ≤ 9 ∧ V = W) (fun i1 i2 => [some (ti p0), some (ti i1), some (ti i2)]) (fun i1 i2 W => (2147483647 - i2).toNat) 0 0 ⟨by omega, by omega, by omega, by omega, rfl⟩ rfl (fun i1 i2 V87 hp89 ih88 => ?_)
  obtain ⟨l_i1, u_i1, l_i2, u_i2, rfl⟩ := hp89
  have r_i1 : ir i1 := ⟨by omega, by omega⟩
  have r_i2 : ir i2 := ⟨by omega, by omega⟩
  show GO mX12_bits K V (IP K V (fun X => True)) K V 0 0 4 [some (ti p0), some (ti i1), some (ti i2)] []
  refine GO.iload_n dX12_bits_4 rfl rfl ?_
  refine GO.bipush dX12_bits_5 rfl ?_
  refine GO.icmp_ge (tgt := 24) dX12_bits_7 (by decide) r_i2 (ir_c rfl) (fun c90 => ?_) (fun c90 => ?_)
  ·
    refine GO.iload_n dX12_bits_24 rfl rfl ?_
    exact GO.reti rfl rfl dX12_bits_25 ⟨rfl, rfl, _, rfl, r_i1, trivial⟩
  ·
    refine GO.iload_n dX12_bits_10 rfl rfl ?_
    refine GO.iload_n dX12_bits_11 rfl rfl ?_
    refine GO.iload_n dX12_bits_12 rfl rfl ?_
    refine GO.ishr dX12_bits_13 ?_
    refine GO.iconst dX12_bits_14 ?_
    refine GO.iand dX12_bits_15 ?_
    refine GO.iadd dX12_bits_16 ?_
    refine GO.norm (fun z91 r92 _ => ?_)
    refine GO.istore_n (ls1 := [some (ti p0), some (ti z91), some (ti i2)]) dX12_bits_17 rfl rfl rfl ?_
    refine GO.iinc (X := i2) (n := 1) (Y := i2 + 1) (ls1 := [some (ti p0), some (ti z91), some (ti (i2 + 1))]) dX12_bits_18 rfl rfl rfl rfl ?_
    refine GO.goto (tgt := 4) dX12_bits_21 (by decide) ?_
    have q93 : -2147483648 ≤ z91 ∧ z91 ≤ 2147483647 := r92
    exact ih88 z91 (i2 + 1) V ⟨by omega, by omega, by omega, by omega, rfl⟩ (by show (2147483647 - (i2 + 1)).toNat < (2147483647 - i2).toNat; omega)

set_option maxHeartbeats 1000000 in
theorem t_X12_best {K : Kmap} {V : Vmap} {x : Nat} (h_x : K x = some (0, 11)) : MC mX12_best K V [.ref x] (IP K V (fun X => True)) := by
  refine MC.start 4 (by decide +kernel) rfl rfl rfl (ls0 := [some (.ref x), none, none, none, none]) rfl ?_
  refine GO.iconst dX12_best_0 ?_
  refine GO.istore_n (ls1 := [some (.ref x), some (ti 0), none, none, none]) dX12_best_1 rfl rfl rfl ?_
  refine GO.iconst dX12_best_2 ?_
  refine GO.istore_n (ls1 := [some (.ref x), some (ti 0), some (ti 0), none, none]) dX12_best_3 rfl rfl rfl ?_
  refine GO.loop2 (fun i1 i2 W => (-2147483648) ≤ i1 ∧ i1 ≤ 2147483647 ∧ 0 ≤ i2 ∧ i2 ≤ 9 ∧ V = W) (fun i1 i2 => [some (.ref x), some (ti i1), some (ti i2), none, none]) (fun i1 i2 W => (2147483647 - i2).toNat) 0 0 ⟨by omega, by omega, by omega, by omega, rfl⟩ rfl (fun i1 i2 V19519 hp19521 ih19520 => ?_)
  obtain ⟨l_i1, u_i1, l_i2, u_i2, rfl⟩ := hp19521
  have r_i1 : ir i1 := ⟨by omega, by omega⟩
  have r_i2 : ir i2 := ⟨by omega, by omega⟩
  show GO mX12_best K V (IP K V (fun X => True)) K V 0 0 4 [some (.ref x), some (ti i1), some (ti i2), none, none] []
  refine GO.iload_n dX12_best_4 rfl rfl ?_
  refine GO.aload_n dX12_best_5 rfl rfl ?_
  refine GO.getI h_x fl_RX12_393 rfl rfl dX12_best_6 (fun l19522 u19523 => ?_)
  refine GO.icmp_ge (tgt := 40) dX12_best_9 (by decide) r_i2 vi_ir (fun c19524 => ?_) (fun c19524 => ?_)
  ·
    refine GO.iconst dX12_best_40 ?_
    refine GO.istore_n (ls1 := [some (.ref x), some (ti i1), some (ti 0), none, none]) dX12_best_41 rfl rfl rfl ?_
    refine GO.iconst dX12_best_42 ?_
    refine GO.istore_n (ls1 := [some (.ref x), some (ti i1), some (ti 0), some (ti 1), none]) dX12_best_43 rfl rfl rfl ?_
    refine GO.loop2 (fun i19525 i19526 W => 0 ≤ i19525 ∧ i19525 ≤ 2147483646 ∧ 1 ≤ i19526 ∧ i19526 ≤ 2147483647 ∧ V = W) (fun i19525 i19526 => [some (.ref x), some (ti i1), some (ti i19525), some (ti i19526), none]) (fun i19525 i19526 W => (2147483647 - i19526).toNat) 0 1 ⟨by omega, by omega, by omega, by omega, rfl⟩ rfl (fun i19525 i19526 V20175 hp20177 ih20176 => ?_)
    obtain ⟨l_i19525, u_i19525, l_i19526, u_i19526, rfl⟩ := hp20177
    have r_i19525 : ir i19525 := ⟨by omega, by omega⟩
    have r_i19526 : ir i19526 := ⟨by omega, by omega⟩
    show GO mX12_best K V (IP K V (fun X => True)) K V 0 0 44 [some (.ref x), some (ti i1), some (ti i19525), some (ti i19526), none] []
    refine GO.iload_n dX12_best_44 rfl rfl ?_
    refine GO.iconst dX12_best_45 ?_
    refine GO.aload_n dX12_best_46 rfl rfl ?_
    refine GO.getI h_x fl_RX12_718 rfl rfl dX12_best_47 (fun l20178 u20179 => ?_)
    refine GO.ishl dX12_best_50 ?_
    refine GO.icmp_ge (tgt := 109) dX12_best_51 (by decide) r_i19526 wshl_ir (fun c20180 => ?_) (fun c20180 => ?_)
    ·
      refine GO.iload_n dX12_best_109 rfl rfl ?_
      exact GO.reti rfl rfl dX12_best_110 ⟨rfl, rfl, _, rfl, r_i19525, trivial⟩
    ·
      refine GO.aload_n dX12_best_54 rfl rfl ?_
      refine GO.iload_n dX12_best_55 rfl rfl ?_
      refine GO.callV (ci := 11) (N := mX12_blocks) dX12_best_56 (RX12, TX12, 151) rfl gV_RX12_727 h_x (t_X12_blocks h_x r_i19526) rfl [] rfl rfl (Nat.le_of_ble_eq_true rfl) rfl (k_ip fun X20181 r20182 h20183 => ?_)
      refine GO.iload_n dX12_best_59 rfl rfl ?_
      refine GO.iand dX12_best_60 ?_
      refine GO.if_eq (tgt := 67) dX12_best_61 (by decide) wand_ir (fun c20184 => ?_) (fun c20184 => ?_)
      ·
        refine GO.aload_n dX12_best_67 rfl rfl ?_
        refine GO.iload_n dX12_best_68 rfl rfl ?_
        refine GO.callV (ci := 11) (N := mX12_worthOf) dX12_best_69 (RX12, TX12, 151) rfl gV_RX12_730 h_x (t_X12_worthOf h_x r_i19526) rfl [] rfl rfl (Nat.le_of_ble_eq_true rfl) rfl (k_ip fun X20185 r20186 h20187 => ?_)
        refine GO.aload_n dX12_best_72 rfl rfl ?_
        refine GO.iload_n dX12_best_73 rfl rfl ?_
        refine GO.callV (ci := 11) (N := mX12_worthOf) dX12_best_74 (RX12, TX12, 151) rfl gV_RX12_730 h_x (t_X12_worthOf h_x r_i19525) rfl [ti X20185] rfl rfl (Nat.le_of_ble_eq_true rfl) rfl (k_ip fun X20188 r20189 h20190 => ?_)
        refine GO.isub dX12_best_77 ?_
        refine GO.norm (fun z20191 r20192 _ => ?_)
        refine GO.istore (ls1 := [some (.ref x), some (ti i1), some (ti i19525), some (ti i19526), some (ti z20191)]) dX12_best_78 rfl rfl ?_
        refine GO.iload dX12_best_80 rfl ?_
        refine GO.if_gt (tgt := 101) dX12_best_82 (by decide) r20192 (fun c20193 => ?_) (fun c20193 => ?_)
        ·
          refine GO.iload_n dX12_best_101 rfl rfl ?_
          refine GO.istore_n (ls1 := [some (.ref x), some (ti i1), some (ti i19526), some (ti i19526), some (ti z20191)]) dX12_best_102 rfl rfl rfl ?_
          refine GO.iinc (X := i19526) (n := 1) (Y := i19526 + 1) (ls1 := [some (.ref x), some (ti i1), some (ti i19526), some (ti (i19526 + 1)), some (ti z20191)]) dX12_best_103 rfl rfl rfl rfl ?_
          refine GO.goto (tgt := 44) dX12_best_106 (by decide) ?_
          refine GO.drop [true, true, true, true, false] rfl ?_
          have q20194 : -2147483648 ≤ wshl 1 (vi V x 133) ∧ wshl 1 (vi V x 133) ≤ 2147483647 := wshl_ir
          exact ih20176 i19526 (i19526 + 1) V ⟨by omega, by omega, by omega, by omega, rfl⟩ (by show (2147483647 - (i19526 + 1)).toNat < (2147483647 - i19526).toNat; omega)
        ·
          refine GO.iload dX12_best_85 rfl ?_
          refine GO.if_ne (tgt := 103) dX12_best_87 (by decide) r20192 (fun c20195 => ?_) (fun c20195 => ?_)
          ·
            refine GO.iinc (X := i19526) (n := 1) (Y := i19526 + 1) (ls1 := [some (.ref x), some (ti i1), some (ti i19525), some (ti (i19526 + 1)), some (ti z20191)]) dX12_best_103 rfl rfl rfl rfl ?_
            refine GO.goto (tgt := 44) dX12_best_106 (by decide) ?_
            refine GO.drop [true, true, true, true, false] rfl ?_
            have q20196 : -2147483648 ≤ wshl 1 (vi V x 133) ∧ wshl 1 (vi V x 133) ≤ 2147483647 := wshl_ir
            exact ih20176 i19525 (i19526 + 1) V ⟨by omega, by omega, by omega, by omega, rfl⟩ (by show (2147483647 - (i19526 + 1)).toNat < (2147483647 - i19526).toNat; omega)
          ·
            refine GO.iload_n dX12_best_90 rfl rfl ?_
            refine GO.callS (N := mX12_bits) dX12_best_91 gS_RX12_733 (t_X12_bits r_i19526) rfl [] rfl rfl (Nat.le_of_ble_eq_true rfl) rfl (k_ip fun X20197 r20198 h20199 => ?_)
            refine GO.iload_n dX12_best_94 rfl rfl ?_
            refine GO.callS (N := mX12_bits) dX12_best_95 gS_RX12_733 (t_X12_bits r_i19525) rfl [ti X20197] rfl rfl (Nat.le_of_ble_eq_true rfl) rfl (k_ip fun X20200 r20201 h20202 => ?_)
            refine GO.icmp_ge (tgt := 103) dX12_best_98 (by decide) r20198 r20201 (fun c20203 => ?_) (fun c20203 => ?_)
            ·
              refine GO.iinc (X := i19526) (n := 1) (Y := i19526 + 1) (ls1 := [some (.ref x), some (ti i1), some (ti i19525), some (ti (i19526 + 1)), some (ti z20191)]) dX12_best_103 rfl rfl rfl rfl ?_
              refine GO.goto (tgt := 44) dX12_best_106 (by decide) ?_
              refine GO.drop [true, true, true, true, false] rfl ?_
              have q20204 : -2147483648 ≤ wshl 1 (vi V x 133) ∧ wshl 1 (vi V x 133) ≤ 2147483647 := wshl_ir
              exact ih20176 i19525 (i19526 + 1) V ⟨by omega, by omega, by omega, by omega, rfl⟩ (by show (2147483647 - (i19526 + 1)).toNat < (2147483647 - i19526).toNat; omega)
            ·
              refine GO.iload_n dX12_best_101 rfl rfl ?_
              refine GO.istore_n (ls1 := [some (.ref x), some (ti i1), some (ti i19526), some (ti i19526), some (ti z20191)]) dX12_best_102 rfl rfl rfl ?_
              refine GO.iinc (X := i19526) (n := 1) (Y := i19526 + 1) (ls1 := [some (.ref x), some (ti i1), some (ti i19526), some (ti (i19526 + 1)), some (ti z20191)]) dX12_best_103 rfl rfl rfl rfl ?_
              refine GO.goto (tgt := 44) dX12_best_106 (by decide) ?_
              refine GO.drop [true, true, true, true, false] rfl ?_
              have q20205 : -2147483648 ≤ wshl 1 (vi V x 133) ∧ wshl 1 (vi V x 133) ≤ 2147483647 := wshl_ir
              exact ih20176 i19526 (i19526 + 1) V ⟨by omega, by omega, by omega, by omega, rfl⟩ (by show (2147483647 - (i19526 + 1)).toNat < (2147483647 - i19526).toNat; omega)
      ·
        refine GO.goto (tgt := 103) dX12_best_64 (by decide) ?_
        refine GO.iinc (X := i19526) (n := 1) (Y := i19526 + 1) (ls1 := [some (.ref x), some (ti i1), some (ti i19525), some (ti (i19526 + 1)), none]) dX12_best_103 rfl rfl rfl rfl ?_
        refine GO.goto (tgt := 44) dX12_best_106 (by decide) ?_
        have q20206 : -2147483648 ≤ wshl 1 (vi V x 133) ∧ wshl 1 (vi V x 133) ≤ 2147483647 := wshl_ir
        exact ih20176 i19525 (i19526 + 1) V ⟨by omega, by omega, by omega, by omega, rfl⟩ (by show (2147483647 - (i19526 + 1)).toNat < (2147483647 - i19526).toNat; omega)
  ·
    refine GO.iload_n dX12_best_12 rfl rfl ?_
    refine GO.aload_n dX12_best_13 rfl rfl ?_
    refine GO.iload_n dX12_best_14 rfl rfl ?_
    refine GO.aload_n dX12_best_15 rfl rfl ?_
    refine GO.getI h_x fl_RX12_396 rfl rfl dX12_best_16 (fun l20207 u20208 => ?_)
    refine GO.callV (ci := 11) (N := mX12_decidesOn) dX12_best_19 (RX12, TX12, 151) rfl gV_RX12_412 h_x (t_X12_decidesOn h_x r_i2 vi_ir (by omega) (by omega)) rfl [ti i1] rfl rfl (Nat.le_of_ble_eq_true rfl) rfl (k_ip fun X20209 r20210 h20211 => ?_)
    refine GO.if_eq (tgt := 31) dX12_best_22 (by decide) r20210 (fun c20212 => ?_) (fun c20212 => ?_)
    ·
      refine GO.iconst dX12_best_31 ?_
      refine GO.ior dX12_best_32 ?_
      refine GO.name (fun z20213 hz20214 => ?_)
      have r20215 : ir z20213 := hz20214 ▸ wor_ir
      refine GO.istore_n (ls1 := [some (.ref x), some (ti z20213), some (ti i2), none, none]) dX12_best_33 rfl rfl rfl ?_
      refine GO.iinc (X := i2) (n := 1) (Y := i2 + 1) (ls1 := [some (.ref x), some (ti z20213), some (ti (i2 + 1)), none, none]) dX12_best_34 rfl rfl rfl rfl ?_
      refine GO.goto (tgt := 4) dX12_best_37 (by decide) ?_
      have q20216 : -2147483648 ≤ z20213 ∧ z20213 ≤ 2147483647 := r20215
      have q20217 : -2147483648 ≤ wor i1 0 ∧ wor i1 0 ≤ 2147483647 := wor_ir
      exact ih19520 z20213 (i2 + 1) V ⟨by omega, by omega, by omega, by omega, rfl⟩ (by show (2147483647 - (i2 + 1)).toNat < (2147483647 - i2).toNat; omega)
    ·
      refine GO.iconst dX12_best_25 ?_
      refine GO.iload_n dX12_best_26 rfl rfl ?_
      refine GO.ishl dX12_best_27 ?_
      refine GO.goto (tgt := 32) dX12_best_28 (by decide) ?_
      refine GO.ior dX12_best_32 ?_
      refine GO.name (fun z20218 hz20219 => ?_)
      have r20220 : ir z20218 := hz20219 ▸ wor_ir
      refine GO.istore_n (ls1 := [some (.ref x), some (ti z20218), some (ti i2), none, none]) dX12_best_33 rfl rfl rfl ?_
      refine GO.iinc (X := i2) (n := 1) (Y := i2 + 1) (ls1 := [some (.ref x), some (ti z20218), some (ti (i2 + 1)), none, none]) dX12_best_34 rfl rfl rfl rfl ?_
      refine GO.goto (tgt := 4) dX12_best_37 (by decide) ?_
      have q20221 : -2147483648 ≤ z20218 ∧ z20218 ≤ 2147483647 := r20220
      have q20222 : -2147483648 ≤ wor i1 (wshl 1 i2) ∧ wor i1 (wshl 1 i2) ≤ 2147483647 := wor_ir
      exact ih19520 z20218 (i2 + 1) V ⟨by omega, by omega, by omega, by omega, rfl⟩ (by show (2147483647 - (i2 + 1)).toNat < (2147483647 - i2).toNat; omega)

set_option maxHeartbeats 1000000 in
theorem t_X12_stop {K : Kmap} {V : Vmap} {x : Nat} {p0 : Int} {p1 : Int} (h_x : K x = some (0, 11)) (r_p0 : ir p0) (r_p1 : ir p1) : MC mX12_stop K V [.ref x, ti p0, ti p1] (IS K (fun X V1 => True)) := by
  refine MC.start 1 (by decide +kernel) rfl rfl rfl (ls0 := [some (.ref x), some (ti p0), some (ti p1), none]) rfl ?_
  refine GO.aload_n dX12_stop_0 rfl rfl ?_
  refine GO.iload_n dX12_stop_1 rfl rfl ?_
  refine GO.callV (ci := 11) (N := mX12_stands) dX12_stop_2 (RX12, TX12, 151) rfl gV_RX12_433 h_x (t_X12_stands h_x r_p0) rfl [] rfl rfl (Nat.le_of_ble_eq_true rfl) rfl (k_ip fun X1 r2 h3 => ?_)
  refine GO.if_eq (tgt := 28) dX12_stop_5 (by decide) r2 (fun c4 => ?_) (fun c4 => ?_)
  ·
    refine GO.iconst dX12_stop_28 ?_
    exact GO.reti rfl rfl dX12_stop_29 ⟨rfl, _, rfl, (ir_c rfl), trivial⟩
  ·
    have q5 := h3.2.1 (by omega)
    refine GO.iload_n dX12_stop_8 rfl rfl ?_
    refine GO.iconst dX12_stop_9 ?_
    refine GO.sipush dX12_stop_10 rfl ?_
    refine GO.callS (N := mX12_in) dX12_stop_13 gS_RX12_371 (t_X12_in r_p1 (ir_c rfl) (ir_c rfl)) rfl [] rfl rfl (Nat.le_of_ble_eq_true rfl) rfl (k_ip fun X6 r7 h8 => ?_)
    refine GO.if_eq (tgt := 28) dX12_stop_16 (by decide) r7 (fun c9 => ?_) (fun c9 => ?_)
    ·
      have q10 := h8.2.2 (by omega)
      refine GO.iconst dX12_stop_28 ?_
      exact GO.reti rfl rfl dX12_stop_29 ⟨rfl, _, rfl, (ir_c rfl), trivial⟩
    ·
      have q11 := h8.2.1 (by omega)
      refine GO.aload_n dX12_stop_19 rfl rfl ?_
      refine GO.getI h_x fl_RX12_736 rfl rfl dX12_stop_20 (fun l12 u13 => ?_)
      refine GO.bipush dX12_stop_23 rfl ?_
      refine GO.icmp_ne (tgt := 30) dX12_stop_25 (by decide) vi_ir (ir_c rfl) (fun c14 => ?_) (fun c14 => ?_)
      ·
        refine GO.iconst dX12_stop_30 ?_
        refine GO.istore_n (ls1 := [some (.ref x), some (ti p0), some (ti p1), some (ti 0)]) dX12_stop_31 rfl rfl rfl ?_
        refine GO.loop1 (fun i15 W => 0 ≤ i15 ∧ i15 ≤ 7 ∧ V = W) (fun i15 => [some (.ref x), some (ti p0), some (ti p1), some (ti i15)]) (fun i15 W => (2147483647 - i15).toNat) 0 ⟨by omega, by omega, rfl⟩ rfl (fun i15 V136 hp138 ih137 => ?_)
        obtain ⟨l_i15, u_i15, rfl⟩ := hp138
        have r_i15 : ir i15 := ⟨by omega, by omega⟩
        show GO mX12_stop K V (IS K (fun X V1 => True)) K V 0 0 32 [some (.ref x), some (ti p0), some (ti p1), some (ti i15)] []
        refine GO.iload_n dX12_stop_32 rfl rfl ?_
        refine GO.aload_n dX12_stop_33 rfl rfl ?_
        refine GO.getI h_x fl_RX12_736 rfl rfl dX12_stop_34 (fun l139 u140 => ?_)
        refine GO.icmp_ge (tgt := 58) dX12_stop_37 (by decide) r_i15 vi_ir (fun c141 => ?_) (fun c141 => ?_)
        ·
          refine GO.aload_n dX12_stop_58 rfl rfl ?_
          refine GO.getA (n := 8) h_x fl_RX12_328 rfl rfl rfl rfl dX12_stop_59 (fun hv143 h142 => ?_)
          refine GO.aload_n dX12_stop_62 rfl rfl ?_
          refine GO.getI h_x fl_RX12_736 rfl rfl dX12_stop_63 (fun l144 u145 => ?_)
          refine GO.iload_n dX12_stop_66 rfl rfl ?_
          have q147 : -2147483648 ≤ p0 ∧ p0 ≤ 2147483647 := r_p0
          refine GO.iast (t := 111) rfl rfl (by decide +kernel) h142 vi_ir (by omega) (by omega) r_p0 (by omega) (by omega) dX12_stop_67 (fun V148 e146 => ?_)
          refine GO.aload_n dX12_stop_68 rfl rfl ?_
          refine GO.getA (n := 8) h_x fl_RX12_331 rfl rfl rfl rfl dX12_stop_69 (fun hv150 h149 => ?_)
          refine GO.aload_n dX12_stop_72 rfl rfl ?_
          refine GO.getI h_x fl_RX12_736 rfl rfl dX12_stop_73 (fun l151 u152 => ?_)
          have e153 : vi V148 x 137 = vi V x 137 := vi_up e146 (Or.inl (K_ne h_x h142 (by decide)))
          refine GO.iload_n dX12_stop_76 rfl rfl ?_
          refine GO.iast (t := 112) rfl rfl (by decide +kernel) h149 vi_ir (by omega) (by omega) r_p1 (r_p1).1 (r_p1).2 dX12_stop_77 (fun V155 e154 => ?_)
          refine GO.aload_n dX12_stop_78 rfl rfl ?_
          refine GO.aload_n dX12_stop_79 rfl rfl ?_
          refine GO.getI h_x fl_RX12_736 rfl rfl dX12_stop_80 (fun l156 u157 => ?_)
          have e158 : vi V155 x 137 = vi V148 x 137 := vi_up e154 (Or.inl (K_ne h_x h149 (by decide)))
          refine GO.iconst dX12_stop_83 ?_
          refine GO.iadd dX12_stop_84 ?_
          refine GO.putI h_x fp_RX12_736 rfl (by decide +kernel) ⟨by omega, by omega⟩ (by omega) (by omega) dX12_stop_85 (fun V160 e159 => ?_)
          refine GO.aload_n dX12_stop_88 rfl rfl ?_
          refine GO.getI h_x fl_RX12_736 rfl rfl dX12_stop_89 (fun l161 u162 => ?_)
          have e163 : vi V160 x 137 = (vi V155 x 137) + 1 := upd2_int e159 ⟨by omega, by omega⟩
          refine GO.iconst dX12_stop_92 ?_
          refine GO.isub dX12_stop_93 ?_
          exact GO.reti rfl rfl dX12_stop_94 ⟨rfl, _, rfl, ⟨by omega, by omega⟩, trivial⟩
        ·
          refine GO.aload_n dX12_stop_40 rfl rfl ?_
          refine GO.getA (n := 8) h_x fl_RX12_328 rfl rfl rfl rfl dX12_stop_41 (fun hv165 h164 => ?_)
          refine GO.iload_n dX12_stop_44 rfl rfl ?_
          refine GO.iald (t := 111) rfl rfl h164 r_i15 (by omega) (by omega) dX12_stop_45 (fun l166 u167 => ?_)
          refine GO.iload_n dX12_stop_46 rfl rfl ?_
          refine GO.icmp_ne (tgt := 52) dX12_stop_47 (by decide) vi_ir r_p0 (fun c168 => ?_) (fun c168 => ?_)
          ·
            refine GO.iinc (X := i15) (n := 1) (Y := i15 + 1) (ls1 := [some (.ref x), some (ti p0), some (ti p1), some (ti (i15 + 1))]) dX12_stop_52 rfl rfl rfl rfl ?_
            refine GO.goto (tgt := 32) dX12_stop_55 (by decide) ?_
            exact ih137 (i15 + 1) V ⟨by omega, by omega, rfl⟩ (by show (2147483647 - (i15 + 1)).toNat < (2147483647 - i15).toNat; omega)
          ·
            refine GO.iconst dX12_stop_50 ?_
            exact GO.reti rfl rfl dX12_stop_51 ⟨rfl, _, rfl, (ir_c rfl), trivial⟩
      ·
        refine GO.iconst dX12_stop_28 ?_
        exact GO.reti rfl rfl dX12_stop_29 ⟨rfl, _, rfl, (ir_c rfl), trivial⟩

set_option maxHeartbeats 1000000 in
theorem t_X12_open {K : Kmap} {V : Vmap} {x : Nat} {p0 : Int} {p1 : Int} {p2 : Int} {p3 : Int} (h_x : K x = some (0, 11)) (r_p0 : ir p0) (r_p1 : ir p1) (r_p2 : ir p2) (r_p3 : ir p3) : MC mX12_open K V [.ref x, ti p0, ti p1, ti p2, ti p3] (IS K (fun X V1 => (X = 0 ∨ X = 1) ∧ (X ≠ 0 → True) ∧ (X = 0 → True))) := by
  refine MC.start 0 (by decide +kernel) rfl rfl rfl (ls0 := [some (.ref x), some (ti p0), some (ti p1), some (ti p2), some (ti p3)]) rfl ?_
  refine GO.iload_n dX12_open_0 rfl rfl ?_
  refine GO.iconst dX12_open_1 ?_
  refine GO.iconst dX12_open_2 ?_
  refine GO.callS (N := mX12_in) dX12_open_3 gS_RX12_371 (t_X12_in r_p0 (ir_c rfl) (ir_c rfl)) rfl [] rfl rfl (Nat.le_of_ble_eq_true rfl) rfl (k_ip fun X1 r2 h3 => ?_)
  refine GO.if_eq (tgt := 44) dX12_open_6 (by decide) r2 (fun c4 => ?_) (fun c4 => ?_)
  ·
    have q5 := h3.2.2 (by omega)
    refine GO.iconst dX12_open_44 ?_
    exact GO.retz rfl rfl dX12_open_45 (Or.inl rfl) ⟨rfl, _, rfl, (ir_c rfl), ⟨Or.inl rfl, fun _ => trivial, fun _ => trivial⟩⟩
  ·
    have q6 := h3.2.1 (by omega)
    refine GO.iload_n dX12_open_9 rfl rfl ?_
    refine GO.if_lt (tgt := 44) dX12_open_10 (by decide) r_p1 (fun c7 => ?_) (fun c7 => ?_)
    ·
      refine GO.iconst dX12_open_44 ?_
      exact GO.retz rfl rfl dX12_open_45 (Or.inl rfl) ⟨rfl, _, rfl, (ir_c rfl), ⟨Or.inl rfl, fun _ => trivial, fun _ => trivial⟩⟩
    ·
      refine GO.iload_n dX12_open_13 rfl rfl ?_
      refine GO.aload_n dX12_open_14 rfl rfl ?_
      refine GO.getI h_x fl_RX12_736 rfl rfl dX12_open_15 (fun l8 u9 => ?_)
      refine GO.icmp_ge (tgt := 44) dX12_open_18 (by decide) r_p1 vi_ir (fun c10 => ?_) (fun c10 => ?_)
      ·
        refine GO.iconst dX12_open_44 ?_
        exact GO.retz rfl rfl dX12_open_45 (Or.inl rfl) ⟨rfl, _, rfl, (ir_c rfl), ⟨Or.inl rfl, fun _ => trivial, fun _ => trivial⟩⟩
      ·
        refine GO.iload_n dX12_open_21 rfl rfl ?_
        refine GO.iconst dX12_open_22 ?_
        refine GO.sipush dX12_open_23 rfl ?_
        refine GO.callS (N := mX12_in) dX12_open_26 gS_RX12_371 (t_X12_in r_p2 (ir_c rfl) (ir_c rfl)) rfl [] rfl rfl (Nat.le_of_ble_eq_true rfl) rfl (k_ip fun X11 r12 h13 => ?_)
        refine GO.if_eq (tgt := 44) dX12_open_29 (by decide) r12 (fun c14 => ?_) (fun c14 => ?_)
        ·
          have q15 := h13.2.2 (by omega)
          refine GO.iconst dX12_open_44 ?_
          exact GO.retz rfl rfl dX12_open_45 (Or.inl rfl) ⟨rfl, _, rfl, (ir_c rfl), ⟨Or.inl rfl, fun _ => trivial, fun _ => trivial⟩⟩
        ·
          have q16 := h13.2.1 (by omega)
          refine GO.iload dX12_open_32 rfl ?_
          refine GO.iload_n dX12_open_34 rfl rfl ?_
          refine GO.sipush dX12_open_35 rfl ?_
          refine GO.callS (N := mX12_in) dX12_open_38 gS_RX12_371 (t_X12_in r_p3 r_p2 (ir_c rfl)) rfl [] rfl rfl (Nat.le_of_ble_eq_true rfl) rfl (k_ip fun X17 r18 h19 => ?_)
          refine GO.if_ne (tgt := 46) dX12_open_41 (by decide) r18 (fun c20 => ?_) (fun c20 => ?_)
          ·
            have q21 := h19.2.1 (by omega)
            refine GO.aload_n dX12_open_46 rfl rfl ?_
            refine GO.getA (n := 24) h_x fl_RX12_334 rfl rfl rfl rfl dX12_open_47 (fun hv23 h22 => ?_)
            refine GO.bipush dX12_open_50 rfl ?_
            refine GO.iload_n dX12_open_52 rfl rfl ?_
            refine GO.imul dX12_open_53 ?_
            refine GO.iload_n dX12_open_54 rfl rfl ?_
            refine GO.iadd dX12_open_55 ?_
            refine GO.iload_n dX12_open_56 rfl rfl ?_
            have q24 : -2147483648 ≤ p1 ∧ p1 ≤ 2147483647 := r_p1
            have q25 : -2147483648 ≤ p0 ∧ p0 ≤ 2147483647 := r_p0
            refine GO.iast (t := 113) rfl rfl (by decide +kernel) h22 ⟨by omega, by omega⟩ (by omega) (by omega) r_p2 (r_p2).1 (r_p2).2 dX12_open_57 (fun V27 e26 => ?_)
            refine GO.aload_n dX12_open_58 rfl rfl ?_
            refine GO.getA (n := 24) h_x fl_RX12_337 rfl rfl rfl rfl dX12_open_59 (fun hv29 h28 => ?_)
            refine GO.bipush dX12_open_62 rfl ?_
            refine GO.iload_n dX12_open_64 rfl rfl ?_
            refine GO.imul dX12_open_65 ?_
            refine GO.iload_n dX12_open_66 rfl rfl ?_
            refine GO.iadd dX12_open_67 ?_
            refine GO.iload dX12_open_68 rfl ?_
            refine GO.iast (t := 114) rfl rfl (by decide +kernel) h28 ⟨by omega, by omega⟩ (by omega) (by omega) r_p3 (r_p3).1 (r_p3).2 dX12_open_70 (fun V31 e30 => ?_)
            refine GO.iconst dX12_open_71 ?_
            exact GO.retz rfl rfl dX12_open_72 (Or.inr rfl) ⟨rfl, _, rfl, (ir_c rfl), ⟨Or.inr rfl, fun _ => trivial, fun _ => trivial⟩⟩
          ·
            have q32 := h19.2.2 (by omega)
            refine GO.iconst dX12_open_44 ?_
            exact GO.retz rfl rfl dX12_open_45 (Or.inl rfl) ⟨rfl, _, rfl, (ir_c rfl), ⟨Or.inl rfl, fun _ => trivial, fun _ => trivial⟩⟩

set_option maxHeartbeats 1000000 in
theorem t_X12_endOf {K : Kmap} {V : Vmap} {x : Nat} {p0 : Int} {p1 : Int} (h_x : K x = some (0, 11)) (r_p0 : ir p0) (r_p1 : ir p1) (q_0 : p0 ≥ 0) (q_1 : p0 ≤ 2) : MC mX12_endOf K V [.ref x, ti p0, ti p1] (IP K V (fun X => True)) := by
  refine MC.start 3 (by decide +kernel) rfl rfl rfl (ls0 := [some (.ref x), some (ti p0), some (ti p1), none, none, none]) rfl ?_
  refine GO.iload_n dX12_endOf_0 rfl rfl ?_
  refine GO.istore_n (ls1 := [some (.ref x), some (ti p0), some (ti p1), some (ti p1), none, none]) dX12_endOf_1 rfl rfl rfl ?_
  refine GO.iconst dX12_endOf_2 ?_
  refine GO.istore (ls1 := [some (.ref x), some (ti p0), some (ti p1), some (ti p1), some (ti 0), none]) dX12_endOf_3 rfl rfl ?_
  have q375 : -2147483648 ≤ p1 ∧ p1 ≤ 2147483647 := r_p1
  refine GO.loop2 (fun i1 i2 W => (-2147483648) ≤ i1 ∧ i1 ≤ 2147483647 ∧ 0 ≤ i2 ∧ i2 ≤ 8 ∧ V = W) (fun i1 i2 => [some (.ref x), some (ti p0), some (ti p1), some (ti i1), some (ti i2), none]) (fun i1 i2 W => (2147483647 - i2).toNat) p1 0 ⟨by omega, by omega, by omega, by omega, rfl⟩ rfl (fun i1 i2 V374 hp377 ih376 => ?_)
  obtain ⟨l_i1, u_i1, l_i2, u_i2, rfl⟩ := hp377
  have r_i1 : ir i1 := ⟨by omega, by omega⟩
  have r_i2 : ir i2 := ⟨by omega, by omega⟩
  show GO mX12_endOf K V (IP K V (fun X => True)) K V 0 0 5 [some (.ref x), some (ti p0), some (ti p1), some (ti i1), some (ti i2), none] []
  refine GO.iload dX12_endOf_5 rfl ?_
  refine GO.aload_n dX12_endOf_7 rfl rfl ?_
  refine GO.getI h_x fl_RX12_736 rfl rfl dX12_endOf_8 (fun l378 u379 => ?_)
  refine GO.icmp_ge (tgt := 120) dX12_endOf_11 (by decide) r_i2 vi_ir (fun c380 => ?_) (fun c380 => ?_)
  ·
    refine GO.iload_n dX12_endOf_120 rfl rfl ?_
    exact GO.reti rfl rfl dX12_endOf_121 ⟨rfl, rfl, _, rfl, r_i1, trivial⟩
  ·
    refine GO.iload dX12_endOf_14 rfl ?_
    have hj412 : ∀ (z411 : Int), ∀ (l413 : (-2147483648) ≤ z411), ∀ (u414 : z411 ≤ 2147483647), GO mX12_endOf K V (IP K V (fun X => True)) K V 0 0 64 [some (.ref x), some (ti p0), some (ti p1), some (ti z411), some (ti i2), none] [] := by
      intro z411 l413 u414
      have r415 : ir z411 := ⟨by omega, by omega⟩
      refine GO.bipush dX12_endOf_64 rfl ?_
      refine GO.iload_n dX12_endOf_66 rfl rfl ?_
      refine GO.imul dX12_endOf_67 ?_
      refine GO.aload_n dX12_endOf_68 rfl rfl ?_
      refine GO.getA (n := 8) h_x fl_RX12_340 rfl rfl rfl rfl dX12_endOf_69 (fun hv417 h416 => ?_)
      refine GO.iload dX12_endOf_72 rfl ?_
      refine GO.iald (t := 115) rfl rfl h416 r_i2 (by omega) (by omega) dX12_endOf_74 (fun l418 u419 => ?_)
      refine GO.iadd dX12_endOf_75 ?_
      refine GO.name (fun z420 hz421 => ?_)
      refine GO.istore (ls1 := [some (.ref x), some (ti p0), some (ti p1), some (ti z411), some (ti i2), some (ti z420)]) dX12_endOf_76 rfl rfl ?_
      refine GO.iload_n dX12_endOf_78 rfl rfl ?_
      refine GO.aload_n dX12_endOf_79 rfl rfl ?_
      refine GO.getA (n := 24) h_x fl_RX12_337 rfl rfl rfl rfl dX12_endOf_80 (fun hv423 h422 => ?_)
      refine GO.iload dX12_endOf_83 rfl ?_
      have q424 : -2147483648 ≤ p0 ∧ p0 ≤ 2147483647 := r_p0
      refine GO.iald (t := 114) rfl rfl h422 ⟨by omega, by omega⟩ (by omega) (by omega) dX12_endOf_85 (fun _ _ => ?_)
      refine GO.icmp_le (tgt := 91) dX12_endOf_86 (by decide) r415 vi_ir (fun c425 => ?_) (fun c425 => ?_)
      ·
        refine GO.iload_n dX12_endOf_91 rfl rfl ?_
        refine GO.aload_n dX12_endOf_92 rfl rfl ?_
        refine GO.getA (n := 24) h_x fl_RX12_334 rfl rfl rfl rfl dX12_endOf_93 (fun hv427 h426 => ?_)
        refine GO.iload dX12_endOf_96 rfl ?_
        refine GO.iald (t := 113) rfl rfl h426 ⟨by omega, by omega⟩ (by omega) (by omega) dX12_endOf_98 (fun _ _ => ?_)
        refine GO.icmp_ge (tgt := 112) dX12_endOf_99 (by decide) r415 vi_ir (fun c428 => ?_) (fun c428 => ?_)
        ·
          refine GO.iload_n dX12_endOf_112 rfl rfl ?_
          refine GO.istore_n (ls1 := [some (.ref x), some (ti p0), some (ti p1), some (ti z411), some (ti i2), some (ti z420)]) dX12_endOf_113 rfl rfl rfl ?_
          refine GO.iinc (X := i2) (n := 1) (Y := i2 + 1) (ls1 := [some (.ref x), some (ti p0), some (ti p1), some (ti z411), some (ti (i2 + 1)), some (ti z420)]) dX12_endOf_114 rfl rfl rfl rfl ?_
          refine GO.goto (tgt := 5) dX12_endOf_117 (by decide) ?_
          refine GO.drop [true, true, true, true, true, false] rfl ?_
          have q429 : -2147483648 ≤ vi V (vq V x 141) (z420).toNat ∧ vi V (vq V x 141) (z420).toNat ≤ 2147483647 := vi_ir
          have q430 : -2147483648 ≤ vi V (vq V x 142) (z420).toNat ∧ vi V (vq V x 142) (z420).toNat ≤ 2147483647 := vi_ir
          exact ih376 z411 (i2 + 1) V ⟨by omega, by omega, by omega, by omega, rfl⟩ (by show (2147483647 - (i2 + 1)).toNat < (2147483647 - i2).toNat; omega)
        ·
          refine GO.aload_n dX12_endOf_102 rfl rfl ?_
          refine GO.getRaw h_x fl_RX12_334 hv427 dX12_endOf_103 ?_
          refine GO.iload dX12_endOf_106 rfl ?_
          refine GO.iald (t := 113) rfl rfl h426 ⟨by omega, by omega⟩ (by omega) (by omega) dX12_endOf_108 (fun _ _ => ?_)
          refine GO.goto (tgt := 113) dX12_endOf_109 (by decide) ?_
          refine GO.name (fun z433 hz434 => ?_)
          have r435 : ir z433 := hz434 ▸ vi_ir
          refine GO.istore_n (ls1 := [some (.ref x), some (ti p0), some (ti p1), some (ti z433), some (ti i2), some (ti z420)]) dX12_endOf_113 rfl rfl rfl ?_
          refine GO.iinc (X := i2) (n := 1) (Y := i2 + 1) (ls1 := [some (.ref x), some (ti p0), some (ti p1), some (ti z433), some (ti (i2 + 1)), some (ti z420)]) dX12_endOf_114 rfl rfl rfl rfl ?_
          refine GO.goto (tgt := 5) dX12_endOf_117 (by decide) ?_
          refine GO.drop [true, true, true, true, true, false] rfl ?_
          have q436 : -2147483648 ≤ z433 ∧ z433 ≤ 2147483647 := r435
          have q437 : -2147483648 ≤ vi V (vq V x 141) (z420).toNat ∧ vi V (vq V x 141) (z420).toNat ≤ 2147483647 := vi_ir
          have q438 : -2147483648 ≤ vi V (vq V x 142) (z420).toNat ∧ vi V (vq V x 142) (z420).toNat ≤ 2147483647 := vi_ir
          exact ih376 z433 (i2 + 1) V ⟨by omega, by omega, by omega, by omega, rfl⟩ (by show (2147483647 - (i2 + 1)).toNat < (2147483647 - i2).toNat; omega)
      ·
        refine GO.iconst dX12_endOf_89 ?_
        exact GO.reti rfl rfl dX12_endOf_90 ⟨rfl, rfl, _, rfl, (ir_c rfl), trivial⟩
    refine GO.if_le (tgt := 64) dX12_endOf_16 (by decide) r_i2 (fun c439 => ?_) (fun c439 => ?_)
    ·
      exact hj412 i1 (by omega) (by omega)
    ·
      refine GO.iload_n dX12_endOf_19 rfl rfl ?_
      refine GO.iconst dX12_endOf_20 ?_
      refine GO.aload_n dX12_endOf_21 rfl rfl ?_
      refine GO.aload_n dX12_endOf_22 rfl rfl ?_
      refine GO.getA (n := 60) h_x fl_RX12_41 rfl rfl rfl rfl dX12_endOf_23 (fun hv441 h440 => ?_)
      refine GO.aload_n dX12_endOf_26 rfl rfl ?_
      refine GO.getA (n := 8) h_x fl_RX12_328 rfl rfl rfl rfl dX12_endOf_27 (fun hv443 h442 => ?_)
      refine GO.aload_n dX12_endOf_30 rfl rfl ?_
      refine GO.getA (n := 8) h_x fl_RX12_340 rfl rfl rfl rfl dX12_endOf_31 (fun hv445 h444 => ?_)
      refine GO.iload dX12_endOf_34 rfl ?_
      refine GO.iconst dX12_endOf_36 ?_
      refine GO.isub dX12_endOf_37 ?_
      refine GO.iald (t := 115) rfl rfl h444 ⟨by omega, by omega⟩ (by omega) (by omega) dX12_endOf_38 (fun l446 u447 => ?_)
      refine GO.iald (t := 111) rfl rfl h442 vi_ir (by omega) (by omega) dX12_endOf_39 (fun l448 u449 => ?_)
      refine GO.iald (t := 17) rfl rfl h440 vi_ir (by omega) (by omega) dX12_endOf_40 (fun l450 u451 => ?_)
      refine GO.aload_n dX12_endOf_41 rfl rfl ?_
      refine GO.getRaw h_x fl_RX12_41 hv441 dX12_endOf_42 ?_
      refine GO.aload_n dX12_endOf_45 rfl rfl ?_
      refine GO.getRaw h_x fl_RX12_328 hv443 dX12_endOf_46 ?_
      refine GO.aload_n dX12_endOf_49 rfl rfl ?_
      refine GO.getRaw h_x fl_RX12_340 hv445 dX12_endOf_50 ?_
      refine GO.iload dX12_endOf_53 rfl ?_
      refine GO.iald (t := 115) rfl rfl h444 r_i2 (by omega) (by omega) dX12_endOf_55 (fun l458 u459 => ?_)
      refine GO.iald (t := 111) rfl rfl h442 vi_ir (by omega) (by omega) dX12_endOf_56 (fun l460 u461 => ?_)
      refine GO.iald (t := 17) rfl rfl h440 vi_ir (by omega) (by omega) dX12_endOf_57 (fun l462 u463 => ?_)
      refine GO.callV (ci := 11) (N := mX12_far) dX12_endOf_58 (RX12, TX12, 151) rfl gV_RX12_389 h_x (t_X12_far h_x vi_ir vi_ir (by omega) (by omega) (by omega) (by omega)) rfl [ti 2, ti i1] rfl rfl (Nat.le_of_ble_eq_true rfl) rfl (k_ip fun X464 r465 h466 => ?_)
      refine GO.imul dX12_endOf_61 ?_
      refine GO.iadd dX12_endOf_62 ?_
      refine GO.norm (fun z467 r468 _ => ?_)
      refine GO.istore_n (ls1 := [some (.ref x), some (ti p0), some (ti p1), some (ti z467), some (ti i2), none]) dX12_endOf_63 rfl rfl rfl ?_
      have q469 : -2147483648 ≤ z467 ∧ z467 ≤ 2147483647 := r468
      exact hj412 z467 (by omega) (by omega)

set_option maxHeartbeats 1000000 in
theorem t_X12_worstEnd {K : Kmap} {V : Vmap} {x : Nat} {p0 : Int} (h_x : K x = some (0, 11)) (r_p0 : ir p0) : MC mX12_worstEnd K V [.ref x, ti p0] (IP K V (fun X => True)) := by
  refine MC.start 3 (by decide +kernel) rfl rfl rfl (ls0 := [some (.ref x), some (ti p0), none, none, none]) rfl ?_
  refine GO.iconst dX12_worstEnd_0 ?_
  refine GO.istore_n (ls1 := [some (.ref x), some (ti p0), some (ti (-1)), none, none]) dX12_worstEnd_1 rfl rfl rfl ?_
  refine GO.iconst dX12_worstEnd_2 ?_
  refine GO.istore_n (ls1 := [some (.ref x), some (ti p0), some (ti (-1)), some (ti 0), none]) dX12_worstEnd_3 rfl rfl rfl ?_
  refine GO.loop2 (fun i1 i2 W => (-1) ≤ i1 ∧ i1 ≤ 2147483647 ∧ 0 ≤ i2 ∧ i2 ≤ 3 ∧ V = W) (fun i1 i2 => [some (.ref x), some (ti p0), some (ti i1), some (ti i2), none]) (fun i1 i2 W => (2147483647 - i2).toNat) (-1) 0 ⟨by omega, by omega, by omega, by omega, rfl⟩ rfl (fun i1 i2 V135 hp137 ih136 => ?_)
  obtain ⟨l_i1, u_i1, l_i2, u_i2, rfl⟩ := hp137
  have r_i1 : ir i1 := ⟨by omega, by omega⟩
  have r_i2 : ir i2 := ⟨by omega, by omega⟩
  show GO mX12_worstEnd K V (IP K V (fun X => True)) K V 0 0 4 [some (.ref x), some (ti p0), some (ti i1), some (ti i2), none] []
  refine GO.iload_n dX12_worstEnd_4 rfl rfl ?_
  refine GO.iconst dX12_worstEnd_5 ?_
  refine GO.icmp_ge (tgt := 44) dX12_worstEnd_6 (by decide) r_i2 (ir_c rfl) (fun c138 => ?_) (fun c138 => ?_)
  ·
    refine GO.iload_n dX12_worstEnd_44 rfl rfl ?_
    exact GO.reti rfl rfl dX12_worstEnd_45 ⟨rfl, rfl, _, rfl, r_i1, trivial⟩
  ·
    refine GO.aload_n dX12_worstEnd_9 rfl rfl ?_
    refine GO.iload_n dX12_worstEnd_10 rfl rfl ?_
    refine GO.iload_n dX12_worstEnd_11 rfl rfl ?_
    refine GO.callV (ci := 11) (N := mX12_endOf) dX12_worstEnd_12 (RX12, TX12, 151) rfl gV_RX12_739 h_x (t_X12_endOf h_x r_i2 r_p0 (by omega) (by omega)) rfl [] rfl rfl (Nat.le_of_ble_eq_true rfl) rfl (k_ip fun X139 r140 h141 => ?_)
    refine GO.istore (ls1 := [some (.ref x), some (ti p0), some (ti i1), some (ti i2), some (ti X139)]) dX12_worstEnd_15 rfl rfl ?_
    refine GO.iload dX12_worstEnd_17 rfl ?_
    refine GO.iconst dX12_worstEnd_19 ?_
    refine GO.icmp_ne (tgt := 25) dX12_worstEnd_20 (by decide) r140 (ir_c rfl) (fun c142 => ?_) (fun c142 => ?_)
    ·
      refine GO.iload dX12_worstEnd_25 rfl ?_
      refine GO.iload_n dX12_worstEnd_27 rfl rfl ?_
      refine GO.icmp_le (tgt := 36) dX12_worstEnd_28 (by decide) r140 r_i1 (fun c143 => ?_) (fun c143 => ?_)
      ·
        refine GO.iload_n dX12_worstEnd_36 rfl rfl ?_
        refine GO.istore_n (ls1 := [some (.ref x), some (ti p0), some (ti i1), some (ti i2), some (ti X139)]) dX12_worstEnd_37 rfl rfl rfl ?_
        refine GO.iinc (X := i2) (n := 1) (Y := i2 + 1) (ls1 := [some (.ref x), some (ti p0), some (ti i1), some (ti (i2 + 1)), some (ti X139)]) dX12_worstEnd_38 rfl rfl rfl rfl ?_
        refine GO.goto (tgt := 4) dX12_worstEnd_41 (by decide) ?_
        refine GO.drop [true, true, true, true, false] rfl ?_
        have q144 : -2147483648 ≤ X139 ∧ X139 ≤ 2147483647 := r140
        exact ih136 i1 (i2 + 1) V ⟨by omega, by omega, by omega, by omega, rfl⟩ (by show (2147483647 - (i2 + 1)).toNat < (2147483647 - i2).toNat; omega)
      ·
        refine GO.iload dX12_worstEnd_31 rfl ?_
        refine GO.goto (tgt := 37) dX12_worstEnd_33 (by decide) ?_
        refine GO.istore_n (ls1 := [some (.ref x), some (ti p0), some (ti X139), some (ti i2), some (ti X139)]) dX12_worstEnd_37 rfl rfl rfl ?_
        refine GO.iinc (X := i2) (n := 1) (Y := i2 + 1) (ls1 := [some (.ref x), some (ti p0), some (ti X139), some (ti (i2 + 1)), some (ti X139)]) dX12_worstEnd_38 rfl rfl rfl rfl ?_
        refine GO.goto (tgt := 4) dX12_worstEnd_41 (by decide) ?_
        refine GO.drop [true, true, true, true, false] rfl ?_
        have q145 : -2147483648 ≤ X139 ∧ X139 ≤ 2147483647 := r140
        exact ih136 X139 (i2 + 1) V ⟨by omega, by omega, by omega, by omega, rfl⟩ (by show (2147483647 - (i2 + 1)).toNat < (2147483647 - i2).toNat; omega)
    ·
      refine GO.iconst dX12_worstEnd_23 ?_
      exact GO.reti rfl rfl dX12_worstEnd_24 ⟨rfl, rfl, _, rfl, (ir_c rfl), trivial⟩
