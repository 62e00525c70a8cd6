def mX1_weigh : MRec := (RX1, cX1_weigh, 6, (none : Option Jvm.ClassFile.FieldType), yX1_weigh, 4, 102, 0, 0, 3794275180128377091639574036764685364535950857523710002444946112771297432042995712)
def mX8_has : MRec := (RX8, cX8_has, 2, (some .boolean), yX8_has, 0, 0, 0, 0, 0)
def mX9_hasCondition : MRec := (RX9, cX9_hasCondition, 2, (some .boolean), yX9_hasCondition, 1, 24, 0, 0, 0)
def mX1_readingOf : MRec := (RX1, cX1_readingOf, 6, (some (.object "IceTreaty$Text")), yX1_readingOf, 1, 24, 0, 0, 0)
def mX1_push : MRec := (RX1, cX1_push, 2, (none : Option Jvm.ClassFile.FieldType), yX1_push, 1, 22, 0, 0, 3794275180128377091639574036764685364535950857523710002444946112771297432049811456)
def mX1_pop : MRec := (RX1, cX1_pop, 1, (some .int), yX1_pop, 1, 21, 0, 0, 8388608)
def mX1_reckon : MRec := (RX1, cX1_reckon, 3, (some .int), yX1_reckon, 0, 0, 0, 0, 0)
def mX1_holds : MRec := (RX1, cX1_holds, 10, (some .int), yX1_holds, 2, 43, 0, 0, 3794275180128377091639574036764685364535950857523710002444946112771297432049811456)
def mX1_wasTold : MRec := (RX1, cX1_wasTold, 2, (some .boolean), yX1_wasTold, 0, 0, 0, 0, 0)
def mX1_bar : MRec := (RX1, cX1_bar, 6, (some .int), yX1_bar, 2, 45, 0, 0, 0)
def mX1_judge : MRec := (RX1, cX1_judge, 11, (some .int), yX1_judge, 3, 72, 0, 0, 3794275180128377091639574036764685364535950857523710002444946112771297432100143104)
set_option maxHeartbeats 1000000 in
theorem t_X1_weigh {K : Kmap} {V : Vmap} {x : Nat} {p0 : Int} {p1 : Nat} {p2 : Int} (h_x : K x = some (0, 1)) (r_p0 : ir p0) (h_p1 : K p1 = some (0, 2)) (r_p2 : ir p2) : MC mX1_weigh K V [.ref x, ti p0, .ref p1, ti p2] (VS K (fun V1 => (True))) := by
  refine MC.start 2 (by decide +kernel) rfl rfl rfl (ls0 := [some (.ref x), some (ti p0), some (.ref p1), some (ti p2), none, none]) rfl ?_
  refine GO.aload_n dX1_weigh_0 rfl rfl ?_
  refine GO.getI h_x fl_RX1_40 rfl rfl dX1_weigh_1 (fun _ _ => ?_)
  refine GO.iload_n dX1_weigh_4 rfl rfl ?_
  have hj3 : GO mX1_weigh K V (VS K (fun V1 => (True))) K V 0 0 17 [some (.ref x), some (ti p0), some (.ref p1), some (ti p2), none, none] [] := by
    skip
    refine GO.iconst dX1_weigh_17 ?_
    refine GO.istore (ls1 := [some (.ref x), some (ti p0), some (.ref p1), some (ti p2), some (ti 0), none]) dX1_weigh_18 rfl rfl ?_
    refine GO.iconst dX1_weigh_20 ?_
    refine GO.istore (ls1 := [some (.ref x), some (ti p0), some (.ref p1), some (ti p2), some (ti 0), some (ti 0)]) dX1_weigh_21 rfl rfl ?_
    refine GO.loop2 (fun i4 i5 W => (-2147483648) ≤ i4 ∧ i4 ≤ 2147483647 ∧ 0 ≤ i5 ∧ i5 ≤ 20 ∧ True) (fun i4 i5 => [some (.ref x), some (ti p0), some (.ref p1), some (ti p2), some (ti i4), some (ti i5)]) (fun i4 i5 W => (2147483647 - i5).toNat) 0 0 ⟨by omega, by omega, by omega, by omega, trivial⟩ rfl (fun i4 i5 Wi4 hp658 ih657 => ?_)
    obtain ⟨l_i4, u_i4, l_i5, u_i5, -⟩ := hp658
    have r_i4 : ir i4 := ⟨by omega, by omega⟩
    have r_i5 : ir i5 := ⟨by omega, by omega⟩
    show GO mX1_weigh K V (VS K (fun V1 => (True))) K Wi4 0 0 23 [some (.ref x), some (ti p0), some (.ref p1), some (ti p2), some (ti i4), some (ti i5)] []
    refine GO.iload dX1_weigh_23 rfl ?_
    refine GO.aload_n dX1_weigh_25 rfl rfl ?_
    refine GO.getI h_x fl_RX1_17 rfl rfl dX1_weigh_26 (fun l659 u660 => ?_)
    refine GO.icmp_ge (tgt := 60) dX1_weigh_29 (by decide) r_i5 vi_ir (fun c661 => ?_) (fun c661 => ?_)
    ·
      refine GO.aload_n dX1_weigh_60 rfl rfl ?_
      refine GO.aload_n dX1_weigh_61 rfl rfl ?_
      refine GO.getI h_x fl_RX1_17 rfl rfl dX1_weigh_62 (fun l662 u663 => ?_)
      refine GO.iload dX1_weigh_65 rfl ?_
      refine GO.callV (ci := 1) (N := mX1_weighTexts) dX1_weigh_67 (RX1, TX1, 13) rfl gV_RX1_72 h_x (t_X1_weighTexts h_x vi_ir r_i4) rfl [] rfl rfl (Nat.le_of_ble_eq_true rfl) rfl (k_vs fun V666 h665 hF664 => ?_)
      refine GO.aload_n dX1_weigh_70 rfl rfl ?_
      refine GO.iload_n dX1_weigh_71 rfl rfl ?_
      refine GO.putI h_x fp_RX1_40 rfl (by decide +kernel) r_p0 (r_p0).1 (r_p0).2 dX1_weigh_72 (fun V668 e667 => ?_)
      refine GO.aload_n dX1_weigh_75 rfl rfl ?_
      refine GO.iload_n dX1_weigh_76 rfl rfl ?_
      refine GO.putI h_x fp_RX1_43 rfl (by decide +kernel) r_p2 (r_p2).1 (r_p2).2 dX1_weigh_77 (fun V670 e669 => ?_)
      exact GO.retv rfl rfl dX1_weigh_80 ⟨rfl, rfl, trivial⟩
    ·
      refine GO.aload_n dX1_weigh_32 rfl rfl ?_
      refine GO.iload dX1_weigh_33 rfl ?_
      refine GO.aload_n dX1_weigh_35 rfl rfl ?_
      refine GO.iload_n dX1_weigh_36 rfl rfl ?_
      refine GO.iload dX1_weigh_37 rfl ?_
      refine GO.callV (ci := 1) (N := mX1_binds) dX1_weigh_39 (RX1, TX1, 13) rfl gV_RX1_68 h_x (t_X1_binds h_x r_i5 h_p1 r_p2 r_i4) rfl [] rfl rfl (Nat.le_of_ble_eq_true rfl) rfl (k_is fun X671 V675 r672 h673 hF674 => ?_)
      refine GO.if_eq (tgt := 54) dX1_weigh_42 (by decide) r672 (fun c676 => ?_) (fun c676 => ?_)
      ·
        refine GO.iinc (X := i5) (n := 1) (Y := i5 + 1) (ls1 := [some (.ref x), some (ti p0), some (.ref p1), some (ti p2), some (ti i4), some (ti (i5 + 1))]) dX1_weigh_54 rfl rfl rfl rfl ?_
        refine GO.goto (tgt := 23) dX1_weigh_57 (by decide) ?_
        exact ih657 i4 (i5 + 1) V675 ⟨by omega, by omega, by omega, by omega, trivial⟩ (by show (2147483647 - (i5 + 1)).toNat < (2147483647 - i5).toNat; omega)
      ·
        refine GO.iload dX1_weigh_45 rfl ?_
        refine GO.iconst dX1_weigh_47 ?_
        refine GO.iload dX1_weigh_48 rfl ?_
        refine GO.ishl dX1_weigh_50 ?_
        refine GO.ior dX1_weigh_51 ?_
        refine GO.name (fun z677 hz678 => ?_)
        have r679 : ir z677 := hz678 ▸ wor_ir
        refine GO.istore (ls1 := [some (.ref x), some (ti p0), some (.ref p1), some (ti p2), some (ti z677), some (ti i5)]) dX1_weigh_52 rfl rfl ?_
        refine GO.iinc (X := i5) (n := 1) (Y := i5 + 1) (ls1 := [some (.ref x), some (ti p0), some (.ref p1), some (ti p2), some (ti z677), some (ti (i5 + 1))]) dX1_weigh_54 rfl rfl rfl rfl ?_
        refine GO.goto (tgt := 23) dX1_weigh_57 (by decide) ?_
        have q680 : -2147483648 ≤ z677 ∧ z677 ≤ 2147483647 := r679
        have q681 : -2147483648 ≤ wor i4 (wshl 1 i5) ∧ wor i4 (wshl 1 i5) ≤ 2147483647 := wor_ir
        exact ih657 z677 (i5 + 1) V675 ⟨by omega, by omega, by omega, by omega, trivial⟩ (by show (2147483647 - (i5 + 1)).toNat < (2147483647 - i5).toNat; omega)
  refine GO.icmp_ne (tgt := 17) dX1_weigh_5 (by decide) vi_ir r_p0 (fun c682 => ?_) (fun c682 => ?_)
  ·
    exact hj3 
  ·
    refine GO.aload_n dX1_weigh_8 rfl rfl ?_
    refine GO.getI h_x fl_RX1_43 rfl rfl dX1_weigh_9 (fun _ _ => ?_)
    refine GO.iload_n dX1_weigh_12 rfl rfl ?_
    refine GO.icmp_ne (tgt := 17) dX1_weigh_13 (by decide) vi_ir r_p2 (fun c683 => ?_) (fun c683 => ?_)
    ·
      exact hj3 
    ·
      exact GO.retv rfl rfl dX1_weigh_16 ⟨rfl, rfl, trivial⟩

set_option maxHeartbeats 1000000 in
theorem t_X8_has {K : Kmap} {V : Vmap} {x : Nat} {p0 : Int} (h_x : K x = some (0, 7)) (r_p0 : ir p0) : MC mX8_has K V [.ref x, ti p0] (IP K V (fun X => (X = 0 ∨ X = 1) ∧ (X ≠ 0 → True) ∧ (X = 0 → True))) := by
  refine MC.start 0 (by decide +kernel) rfl rfl rfl (ls0 := [some (.ref x), some (ti p0)]) rfl ?_
  refine GO.iload_n dX8_has_0 rfl rfl ?_
  refine GO.if_lt (tgt := 16) dX8_has_1 (by decide) r_p0 (fun c1 => ?_) (fun c1 => ?_)
  ·
    refine GO.iconst dX8_has_16 ?_
    exact GO.retz rfl rfl dX8_has_17 (Or.inl rfl) ⟨rfl, rfl, _, rfl, (ir_c rfl), ⟨Or.inl rfl, fun _ => trivial, fun _ => trivial⟩⟩
  ·
    refine GO.iload_n dX8_has_4 rfl rfl ?_
    refine GO.aload_n dX8_has_5 rfl rfl ?_
    refine GO.getI h_x fl_RX8_9 rfl rfl dX8_has_6 (fun _ _ => ?_)
    refine GO.icmp_ge (tgt := 16) dX8_has_9 (by decide) r_p0 vi_ir (fun c2 => ?_) (fun c2 => ?_)
    ·
      refine GO.iconst dX8_has_16 ?_
      exact GO.retz rfl rfl dX8_has_17 (Or.inl rfl) ⟨rfl, rfl, _, rfl, (ir_c rfl), ⟨Or.inl rfl, fun _ => trivial, fun _ => trivial⟩⟩
    ·
      refine GO.iconst dX8_has_12 ?_
      refine GO.goto (tgt := 17) dX8_has_13 (by decide) ?_
      exact GO.retz rfl rfl dX8_has_17 (Or.inr rfl) ⟨rfl, rfl, _, rfl, (ir_c rfl), ⟨Or.inr rfl, fun _ => trivial, fun _ => trivial⟩⟩

set_option maxHeartbeats 1000000 in
theorem t_X9_hasCondition {K : Kmap} {V : Vmap} {x : Nat} {p0 : Int} (h_x : K x = some (0, 8)) (r_p0 : ir p0) : MC mX9_hasCondition K V [.ref x, ti p0] (IP K V (fun X => (X = 0 ∨ X = 1) ∧ (X ≠ 0 → True) ∧ (X = 0 → True))) := by
  refine MC.start 0 (by decide +kernel) rfl rfl rfl (ls0 := [some (.ref x), some (ti p0)]) rfl ?_
  refine GO.aload_n dX9_hasCondition_0 rfl rfl ?_
  refine GO.getR h_x fl_RX9_26 rfl rfl dX9_hasCondition_1 (fun hv2 h1 => ?_)
  refine GO.iload_n dX9_hasCondition_4 rfl rfl ?_
  refine GO.callV (ci := 7) (N := mX8_has) dX9_hasCondition_5 (RX8, TX8, 4) rfl gV_RX9_43 h1 (t_X8_has h1 r_p0) rfl [] rfl rfl (Nat.le_of_ble_eq_true rfl) rfl (k_ip fun X3 r4 h5 => ?_)
  refine GO.if_eq (tgt := 36) dX9_hasCondition_8 (by decide) r4 (fun c6 => ?_) (fun c6 => ?_)
  ·
    refine GO.iconst dX9_hasCondition_36 ?_
    exact GO.retz rfl rfl dX9_hasCondition_37 (Or.inl rfl) ⟨rfl, rfl, _, rfl, (ir_c rfl), ⟨Or.inl rfl, fun _ => trivial, fun _ => trivial⟩⟩
  ·
    refine GO.aload_n dX9_hasCondition_11 rfl rfl ?_
    refine GO.getRaw h_x fl_RX9_26 hv2 dX9_hasCondition_12 ?_
    refine GO.iload_n dX9_hasCondition_15 rfl rfl ?_
    refine GO.iconst dX9_hasCondition_16 ?_
    refine GO.callV (ci := 7) (N := mX8_get) dX9_hasCondition_17 (RX8, TX8, 4) rfl gV_RX9_40 h1 (t_X8_get h1 r_p0 (ir_c rfl)) rfl [] rfl rfl (Nat.le_of_ble_eq_true rfl) rfl (k_ip fun X9 r10 h11 => ?_)
    refine GO.aload_n dX9_hasCondition_20 rfl rfl ?_
    refine GO.getRaw h_x fl_RX9_26 hv2 dX9_hasCondition_21 ?_
    refine GO.iload_n dX9_hasCondition_24 rfl rfl ?_
    refine GO.iconst dX9_hasCondition_25 ?_
    refine GO.callV (ci := 7) (N := mX8_get) dX9_hasCondition_26 (RX8, TX8, 4) rfl gV_RX9_40 h1 (t_X8_get h1 r_p0 (ir_c rfl)) rfl [ti X9] rfl rfl (Nat.le_of_ble_eq_true rfl) rfl (k_ip fun X14 r15 h16 => ?_)
    refine GO.icmp_le (tgt := 36) dX9_hasCondition_29 (by decide) r10 r15 (fun c17 => ?_) (fun c17 => ?_)
    ·
      refine GO.iconst dX9_hasCondition_36 ?_
      exact GO.retz rfl rfl dX9_hasCondition_37 (Or.inl rfl) ⟨rfl, rfl, _, rfl, (ir_c rfl), ⟨Or.inl rfl, fun _ => trivial, fun _ => trivial⟩⟩
    ·
      refine GO.iconst dX9_hasCondition_32 ?_
      refine GO.goto (tgt := 37) dX9_hasCondition_33 (by decide) ?_
      exact GO.retz rfl rfl dX9_hasCondition_37 (Or.inr rfl) ⟨rfl, rfl, _, rfl, (ir_c rfl), ⟨Or.inr rfl, fun _ => trivial, fun _ => trivial⟩⟩

set_option maxHeartbeats 1000000 in
theorem t_X1_readingOf {K : Kmap} {V : Vmap} {x : Nat} {p0 : Int} {p1 : Int} {p2 : Int} (h_x : K x = some (0, 1)) (r_p0 : ir p0) (r_p1 : ir p1) (r_p2 : ir p2) : MC mX1_readingOf K V [.ref x, ti p0, ti p1, ti p2] (RP K V 8 (True) (fun _ => True)) := by
  refine MC.start 2 (by decide +kernel) rfl rfl rfl (ls0 := [some (.ref x), some (ti p0), some (ti p1), some (ti p2), none, none]) rfl ?_
  refine GO.aload_n dX1_readingOf_0 rfl rfl ?_
  refine GO.getR h_x fl_RX1_26 rfl rfl dX1_readingOf_1 (fun hv2 h1 => ?_)
  refine GO.getI h1 fl_RX1_105 rfl rfl dX1_readingOf_4 (fun _ _ => ?_)
  refine GO.iconst dX1_readingOf_7 ?_
  refine GO.isub dX1_readingOf_8 ?_
  refine GO.norm (fun z3 r4 _ => ?_)
  refine GO.istore (ls1 := [some (.ref x), some (ti p0), some (ti p1), some (ti p2), some (ti z3), none]) dX1_readingOf_9 rfl rfl ?_
  have q66 : -2147483648 ≤ z3 ∧ z3 ≤ 2147483647 := r4
  refine GO.loop1 (fun i5 W => (-2147483648) ≤ i5 ∧ i5 ≤ 2147483647 ∧ V = W) (fun i5 => [some (.ref x), some (ti p0), some (ti p1), some (ti p2), some (ti i5), none]) (fun i5 W => (i5 + 2147483648).toNat) z3 ⟨by omega, by omega, rfl⟩ rfl (fun i5 V65 hp68 ih67 => ?_)
  obtain ⟨l_i5, u_i5, rfl⟩ := hp68
  have r_i5 : ir i5 := ⟨by omega, by omega⟩
  show GO mX1_readingOf K V (RP K V 8 (True) (fun _ => True)) K V 0 0 11 [some (.ref x), some (ti p0), some (ti p1), some (ti p2), some (ti i5), none] []
  refine GO.iload dX1_readingOf_11 rfl ?_
  refine GO.if_lt (tgt := 94) dX1_readingOf_13 (by decide) r_i5 (fun c69 => ?_) (fun c69 => ?_)
  ·
    refine GO.null dX1_readingOf_94 ?_
    exact GO.reta rfl rfl (Or.inl ⟨_, rfl⟩) dX1_readingOf_95 (Or.inl rfl) ⟨rfl, rfl, Or.inl ⟨rfl, trivial⟩⟩
  ·
    refine GO.aload_n dX1_readingOf_16 rfl rfl ?_
    refine GO.getRaw h_x fl_RX1_26 hv2 dX1_readingOf_17 ?_
    refine GO.iload dX1_readingOf_20 rfl ?_
    refine GO.iconst dX1_readingOf_22 ?_
    refine GO.callV (ci := 7) (N := mX8_get) dX1_readingOf_23 (RX8, TX8, 4) rfl gV_RX1_116 h1 (t_X8_get h1 r_i5 (ir_c rfl)) rfl [] rfl rfl (Nat.le_of_ble_eq_true rfl) rfl (k_ip fun X72 r73 h74 => ?_)
    refine GO.iload_n dX1_readingOf_26 rfl rfl ?_
    have hj89 : ∀ (z88 : Int), ∀ (l90 : 0 ≤ z88), ∀ (u91 : z88 ≤ 1), GO mX1_readingOf K V (RP K V 8 (True) (fun _ => True)) K V 0 0 63 [some (.ref x), some (ti p0), some (ti p1), some (ti p2), some (ti i5), none] [ti z88] := by
      intro z88 l90 u91
      have r92 : ir z88 := ⟨by omega, by omega⟩
      refine GO.istore (ls1 := [some (.ref x), some (ti p0), some (ti p1), some (ti p2), some (ti i5), some (ti z88)]) dX1_readingOf_63 rfl rfl ?_
      refine GO.iload dX1_readingOf_65 rfl ?_
      refine GO.if_eq (tgt := 88) dX1_readingOf_67 (by decide) r92 (fun c93 => ?_) (fun c93 => ?_)
      ·
        refine GO.iinc (X := i5) (n := (-1)) (Y := i5 + (-1)) (ls1 := [some (.ref x), some (ti p0), some (ti p1), some (ti p2), some (ti (i5 + (-1))), some (ti z88)]) dX1_readingOf_88 rfl rfl rfl rfl ?_
        refine GO.goto (tgt := 11) dX1_readingOf_91 (by decide) ?_
        refine GO.drop [true, true, true, true, true, false] rfl ?_
        exact ih67 (i5 + (-1)) V ⟨by omega, by omega, rfl⟩ (by show ((i5 + (-1)) + 2147483648).toNat < (i5 + 2147483648).toNat; omega)
      ·
        refine GO.iload dX1_readingOf_70 rfl ?_
        refine GO.aload_n dX1_readingOf_72 rfl rfl ?_
        refine GO.getA (n := 20) h_x fl_RX1_30 rfl rfl rfl rfl dX1_readingOf_73 (fun hv95 h94 => ?_)
        refine GO.alen h94 dX1_readingOf_76 (fun h96 => ?_)
        refine GO.icmp_ge (tgt := 88) dX1_readingOf_77 (by decide) r_i5 ⟨by omega, by omega⟩ (fun c97 => ?_) (fun c97 => ?_)
        ·
          refine GO.iinc (X := i5) (n := (-1)) (Y := i5 + (-1)) (ls1 := [some (.ref x), some (ti p0), some (ti p1), some (ti p2), some (ti (i5 + (-1))), some (ti z88)]) dX1_readingOf_88 rfl rfl rfl rfl ?_
          refine GO.goto (tgt := 11) dX1_readingOf_91 (by decide) ?_
          refine GO.drop [true, true, true, true, true, false] rfl ?_
          exact ih67 (i5 + (-1)) V ⟨by omega, by omega, rfl⟩ (by show ((i5 + (-1)) + 2147483648).toNat < (i5 + 2147483648).toNat; omega)
        ·
          refine GO.aload_n dX1_readingOf_80 rfl rfl ?_
          refine GO.getRaw h_x fl_RX1_30 hv95 dX1_readingOf_81 ?_
          refine GO.iload dX1_readingOf_84 rfl ?_
          refine GO.aald (t := 8) rfl rfl h94 r_i5 (by omega) (by omega) dX1_readingOf_86 (fun _ => ?_) (fun _ h100 => ?_)
          ·
            exact GO.reta rfl rfl (Or.inl ⟨_, rfl⟩) dX1_readingOf_87 (Or.inl rfl) ⟨rfl, rfl, Or.inl ⟨rfl, trivial⟩⟩
          ·
            exact GO.reta rfl rfl (Or.inl ⟨_, rfl⟩) dX1_readingOf_87 (Or.inr ⟨_, rfl⟩) ⟨rfl, rfl, Or.inr ⟨_, rfl, h100, trivial⟩⟩
    have hj114 : GO mX1_readingOf K V (RP K V 8 (True) (fun _ => True)) K V 0 0 62 [some (.ref x), some (ti p0), some (ti p1), some (ti p2), some (ti i5), none] [] := by
      skip
      refine GO.iconst dX1_readingOf_62 ?_
      exact hj89 0 (by omega) (by omega)
    refine GO.icmp_ne (tgt := 62) dX1_readingOf_27 (by decide) r73 r_p0 (fun c115 => ?_) (fun c115 => ?_)
    ·
      exact hj114 
    ·
      refine GO.aload_n dX1_readingOf_30 rfl rfl ?_
      refine GO.getRaw h_x fl_RX1_26 hv2 dX1_readingOf_31 ?_
      refine GO.iload dX1_readingOf_34 rfl ?_
      refine GO.iconst dX1_readingOf_36 ?_
      refine GO.callV (ci := 7) (N := mX8_get) dX1_readingOf_37 (RX8, TX8, 4) rfl gV_RX1_116 h1 (t_X8_get h1 r_i5 (ir_c rfl)) rfl [] rfl rfl (Nat.le_of_ble_eq_true rfl) rfl (k_ip fun X118 r119 h120 => ?_)
      refine GO.iload_n dX1_readingOf_40 rfl rfl ?_
      refine GO.icmp_ne (tgt := 62) dX1_readingOf_41 (by decide) r119 r_p1 (fun c121 => ?_) (fun c121 => ?_)
      ·
        exact hj114 
      ·
        refine GO.aload_n dX1_readingOf_44 rfl rfl ?_
        refine GO.getRaw h_x fl_RX1_26 hv2 dX1_readingOf_45 ?_
        refine GO.iload dX1_readingOf_48 rfl ?_
        refine GO.iconst dX1_readingOf_50 ?_
        refine GO.callV (ci := 7) (N := mX8_get) dX1_readingOf_51 (RX8, TX8, 4) rfl gV_RX1_116 h1 (t_X8_get h1 r_i5 (ir_c rfl)) rfl [] rfl rfl (Nat.le_of_ble_eq_true rfl) rfl (k_ip fun X124 r125 h126 => ?_)
        refine GO.iload_n dX1_readingOf_54 rfl rfl ?_
        refine GO.icmp_ne (tgt := 62) dX1_readingOf_55 (by decide) r125 r_p2 (fun c127 => ?_) (fun c127 => ?_)
        ·
          exact hj114 
        ·
          refine GO.iconst dX1_readingOf_58 ?_
          refine GO.goto (tgt := 63) dX1_readingOf_59 (by decide) ?_
          exact hj89 1 (by omega) (by omega)

set_option maxHeartbeats 1000000 in
theorem t_X1_push {K : Kmap} {V : Vmap} {x : Nat} {p0 : Int} (h_x : K x = some (0, 1)) (r_p0 : ir p0) : MC mX1_push K V [.ref x, ti p0] (VS K (fun V1 => (True))) := by
  refine MC.start 0 (by decide +kernel) rfl rfl rfl (ls0 := [some (.ref x), some (ti p0)]) rfl ?_
  refine GO.aload_n dX1_push_0 rfl rfl ?_
  refine GO.getB h_x fl_RX1_49 rfl rfl dX1_push_1 (fun n3 hv2 h1 b4 => ?_)
  refine GO.aload_n dX1_push_4 rfl rfl ?_
  refine GO.getI h_x fl_RX1_52 rfl rfl dX1_push_5 (fun _ _ => ?_)
  refine GO.iload_n dX1_push_8 rfl rfl ?_
  refine GO.callS (N := mX4_put) dX1_push_9 gS_RX1_108 (t_X4_put h1 vi_ir r_p0) rfl [] rfl rfl (Nat.le_of_ble_eq_true rfl) rfl (k_vs fun V7 h6 hF5 => ?_)
  refine GO.aload_n dX1_push_12 rfl rfl ?_
  refine GO.dup dX1_push_13 rfl ?_
  refine GO.getI h_x fl_RX1_52 rfl rfl dX1_push_14 (fun _ _ => ?_)
  have e8 : vi V7 x 10 = vi V x 10 := vi_fr hF5 h_x h_x (by decide +kernel)
  refine GO.iconst dX1_push_17 ?_
  refine GO.iadd dX1_push_18 ?_
  refine GO.norm (fun z9 r10 _ => ?_)
  refine GO.putI h_x fp_RX1_52 rfl (by decide +kernel) r10 (r10).1 (r10).2 dX1_push_19 (fun V12 e11 => ?_)
  exact GO.retv rfl rfl dX1_push_22 ⟨rfl, rfl, trivial⟩

set_option maxHeartbeats 1000000 in
theorem t_X1_pop {K : Kmap} {V : Vmap} {x : Nat} (h_x : K x = some (0, 1)) : MC mX1_pop K V [.ref x] (IS K (fun X V1 => True)) := by
  refine MC.start 0 (by decide +kernel) rfl rfl rfl (ls0 := [some (.ref x)]) rfl ?_
  refine GO.aload_n dX1_pop_0 rfl rfl ?_
  refine GO.dup dX1_pop_1 rfl ?_
  refine GO.getI h_x fl_RX1_52 rfl rfl dX1_pop_2 (fun _ _ => ?_)
  refine GO.iconst dX1_pop_5 ?_
  refine GO.isub dX1_pop_6 ?_
  refine GO.norm (fun z1 r2 _ => ?_)
  refine GO.putI h_x fp_RX1_52 rfl (by decide +kernel) r2 (r2).1 (r2).2 dX1_pop_7 (fun V4 e3 => ?_)
  refine GO.aload_n dX1_pop_10 rfl rfl ?_
  refine GO.getB h_x fl_RX1_49 rfl rfl dX1_pop_11 (fun n7 hv6 h5 b8 => ?_)
  refine GO.aload_n dX1_pop_14 rfl rfl ?_
  refine GO.getI h_x fl_RX1_52 rfl rfl dX1_pop_15 (fun _ _ => ?_)
  have e9 : vi V4 x 10 = z1 := upd2_int e3 r2
  refine GO.callS (N := mX4_get) dX1_pop_18 gS_RX1_88 (t_X4_get rfl h5 vi_ir) rfl [] rfl rfl (Nat.le_of_ble_eq_true rfl) rfl (k_ip fun X10 r11 h12 => ?_)
  have q13 : -2147483648 ≤ X10 ∧ X10 ≤ 2147483647 := r11
  exact GO.reti rfl rfl dX1_pop_21 ⟨rfl, _, rfl, r11, trivial⟩

set_option maxHeartbeats 1000000 in
theorem t_X1_reckon {K : Kmap} {V : Vmap} {p0 : Int} {p1 : Int} {p2 : Int} (r_p0 : ir p0) (r_p1 : ir p1) (r_p2 : ir p2) : MC mX1_reckon K V [ti p0, ti p1, ti p2] (IP K V (fun X => True)) := by
  refine MC.start 0 (by decide +kernel) rfl rfl rfl (ls0 := [some (ti p0), some (ti p1), some (ti p2)]) rfl ?_
  refine GO.iload_n dX1_reckon_0 rfl rfl ?_
  have q1 : -2147483648 ≤ p0 ∧ p0 ≤ 2147483647 := r_p0
  rcases (show (p0 < 5 ∨ 11 < p0) ∨ p0 = 5 ∨ p0 = 6 ∨ p0 = 7 ∨ p0 = 8 ∨ p0 = 9 ∨ p0 = 10 ∨ p0 = 11 by omega) with c2 | c2 | c2 | c2 | c2 | c2 | c2 | c2
  ·
    refine GO.tableOut (tgt := 102) dX1_reckon_1 r_p0 c2 (by decide) ?_
    refine GO.iload_n dX1_reckon_102 rfl rfl ?_
    refine GO.iload_n dX1_reckon_103 rfl rfl ?_
    refine GO.icmp_ne (tgt := 111) dX1_reckon_104 (by decide) r_p1 r_p2 (fun c3 => ?_) (fun c3 => ?_)
    ·
      refine GO.iconst dX1_reckon_111 ?_
      exact GO.reti rfl rfl dX1_reckon_112 ⟨rfl, rfl, _, rfl, (ir_c rfl), trivial⟩
    ·
      refine GO.iconst dX1_reckon_107 ?_
      refine GO.goto (tgt := 112) dX1_reckon_108 (by decide) ?_
      exact GO.reti rfl rfl dX1_reckon_112 ⟨rfl, rfl, _, rfl, (ir_c rfl), trivial⟩
  ·
    refine GO.tableAt (n := 5) (tgt := 44) dX1_reckon_1 (ir_c rfl) c2 (by decide) (by decide) rfl (by decide) ?_
    refine GO.iload_n dX1_reckon_44 rfl rfl ?_
    refine GO.iload_n dX1_reckon_45 rfl rfl ?_
    refine GO.iadd dX1_reckon_46 ?_
    refine GO.norm (fun z4 r5 _ => ?_)
    have q6 : -2147483648 ≤ z4 ∧ z4 ≤ 2147483647 := r5
    exact GO.reti rfl rfl dX1_reckon_47 ⟨rfl, rfl, _, rfl, r5, trivial⟩
  ·
    refine GO.tableAt (n := 6) (tgt := 48) dX1_reckon_1 (ir_c rfl) c2 (by decide) (by decide) rfl (by decide) ?_
    refine GO.iload_n dX1_reckon_48 rfl rfl ?_
    refine GO.iload_n dX1_reckon_49 rfl rfl ?_
    refine GO.isub dX1_reckon_50 ?_
    refine GO.norm (fun z7 r8 _ => ?_)
    have q9 : -2147483648 ≤ z7 ∧ z7 ≤ 2147483647 := r8
    exact GO.reti rfl rfl dX1_reckon_51 ⟨rfl, rfl, _, rfl, r8, trivial⟩
  ·
    refine GO.tableAt (n := 7) (tgt := 52) dX1_reckon_1 (ir_c rfl) c2 (by decide) (by decide) rfl (by decide) ?_
    refine GO.iload_n dX1_reckon_52 rfl rfl ?_
    refine GO.iload_n dX1_reckon_53 rfl rfl ?_
    refine GO.imul dX1_reckon_54 ?_
    refine GO.norm (fun z10 r11 _ => ?_)
    have q12 : -2147483648 ≤ z10 ∧ z10 ≤ 2147483647 := r11
    exact GO.reti rfl rfl dX1_reckon_55 ⟨rfl, rfl, _, rfl, r11, trivial⟩
  ·
    refine GO.tableAt (n := 8) (tgt := 56) dX1_reckon_1 (ir_c rfl) c2 (by decide) (by decide) rfl (by decide) ?_
    refine GO.iload_n dX1_reckon_56 rfl rfl ?_
    refine GO.if_ne (tgt := 64) dX1_reckon_57 (by decide) r_p2 (fun c13 => ?_) (fun c13 => ?_)
    ·
      refine GO.iload_n dX1_reckon_64 rfl rfl ?_
      refine GO.iload_n dX1_reckon_65 rfl rfl ?_
      have q14 : -2147483648 ≤ p2 ∧ p2 ≤ 2147483647 := r_p2
      refine GO.idiv dX1_reckon_66 r_p2 (by omega) ?_
      have q15 : -2147483648 ≤ wdiv p1 p2 ∧ wdiv p1 p2 ≤ 2147483647 := wdiv_ir
      exact GO.reti rfl rfl dX1_reckon_67 ⟨rfl, rfl, _, rfl, wdiv_ir, trivial⟩
    ·
      refine GO.iconst dX1_reckon_60 ?_
      refine GO.goto (tgt := 67) dX1_reckon_61 (by decide) ?_
      exact GO.reti rfl rfl dX1_reckon_67 ⟨rfl, rfl, _, rfl, (ir_c rfl), trivial⟩
  ·
    refine GO.tableAt (n := 9) (tgt := 68) dX1_reckon_1 (ir_c rfl) c2 (by decide) (by decide) rfl (by decide) ?_
    refine GO.iload_n dX1_reckon_68 rfl rfl ?_
    refine GO.if_ne (tgt := 76) dX1_reckon_69 (by decide) r_p2 (fun c16 => ?_) (fun c16 => ?_)
    ·
      refine GO.iload_n dX1_reckon_76 rfl rfl ?_
      refine GO.iload_n dX1_reckon_77 rfl rfl ?_
      have q17 : -2147483648 ≤ p2 ∧ p2 ≤ 2147483647 := r_p2
      refine GO.irem dX1_reckon_78 r_p2 (by omega) ?_
      have q18 : -2147483648 ≤ wrem p1 p2 ∧ wrem p1 p2 ≤ 2147483647 := wrem_ir
      exact GO.reti rfl rfl dX1_reckon_79 ⟨rfl, rfl, _, rfl, wrem_ir, trivial⟩
    ·
      refine GO.iconst dX1_reckon_72 ?_
      refine GO.goto (tgt := 79) dX1_reckon_73 (by decide) ?_
      exact GO.reti rfl rfl dX1_reckon_79 ⟨rfl, rfl, _, rfl, (ir_c rfl), trivial⟩
  ·
    refine GO.tableAt (n := 10) (tgt := 80) dX1_reckon_1 (ir_c rfl) c2 (by decide) (by decide) rfl (by decide) ?_
    refine GO.iload_n dX1_reckon_80 rfl rfl ?_
    refine GO.iload_n dX1_reckon_81 rfl rfl ?_
    refine GO.icmp_ge (tgt := 89) dX1_reckon_82 (by decide) r_p1 r_p2 (fun c19 => ?_) (fun c19 => ?_)
    ·
      refine GO.iconst dX1_reckon_89 ?_
      exact GO.reti rfl rfl dX1_reckon_90 ⟨rfl, rfl, _, rfl, (ir_c rfl), trivial⟩
    ·
      refine GO.iconst dX1_reckon_85 ?_
      refine GO.goto (tgt := 90) dX1_reckon_86 (by decide) ?_
      exact GO.reti rfl rfl dX1_reckon_90 ⟨rfl, rfl, _, rfl, (ir_c rfl), trivial⟩
  ·
    refine GO.tableAt (n := 11) (tgt := 91) dX1_reckon_1 (ir_c rfl) c2 (by decide) (by decide) rfl (by decide) ?_
    refine GO.iload_n dX1_reckon_91 rfl rfl ?_
    refine GO.iload_n dX1_reckon_92 rfl rfl ?_
    refine GO.icmp_le (tgt := 100) dX1_reckon_93 (by decide) r_p1 r_p2 (fun c20 => ?_) (fun c20 => ?_)
    ·
      refine GO.iconst dX1_reckon_100 ?_
      exact GO.reti rfl rfl dX1_reckon_101 ⟨rfl, rfl, _, rfl, (ir_c rfl), trivial⟩
    ·
      refine GO.iconst dX1_reckon_96 ?_
      refine GO.goto (tgt := 101) dX1_reckon_97 (by decide) ?_
      exact GO.reti rfl rfl dX1_reckon_101 ⟨rfl, rfl, _, rfl, (ir_c rfl), trivial⟩

set_option maxHeartbeats 1000000 in
theorem t_X1_holds {K : Kmap} {V : Vmap} {x : Nat} {p0 : Nat} {p1 : Int} (h_x : K x = some (0, 1)) (h_p0 : K p0 = some (0, 8)) (r_p1 : ir p1) : MC mX1_holds K V [.ref x, .ref p0, ti p1] (IS K (fun X V1 => True)) := by
  refine MC.start 7 (by decide +kernel) rfl rfl rfl (ls0 := [some (.ref x), some (.ref p0), some (ti p1), none, none, none, none, none, none, none]) rfl ?_
  refine GO.aload_n dX1_holds_0 rfl rfl ?_
  refine GO.getR h_p0 fl_RX1_102 rfl rfl dX1_holds_1 (fun hv2 h1 => ?_)
  refine GO.iload_n dX1_holds_4 rfl rfl ?_
  refine GO.iconst dX1_holds_5 ?_
  refine GO.callV (ci := 7) (N := mX8_get) dX1_holds_6 (RX8, TX8, 4) rfl gV_RX1_116 h1 (t_X8_get h1 r_p1 (ir_c rfl)) rfl [] rfl rfl (Nat.le_of_ble_eq_true rfl) rfl (k_ip fun X3 r4 h5 => ?_)
  refine GO.istore_n (ls1 := [some (.ref x), some (.ref p0), some (ti p1), some (ti X3), none, none, none, none, none, none]) dX1_holds_9 rfl rfl rfl ?_
  refine GO.aload_n dX1_holds_10 rfl rfl ?_
  refine GO.getRaw h_p0 fl_RX1_102 hv2 dX1_holds_11 ?_
  refine GO.iload_n dX1_holds_14 rfl rfl ?_
  refine GO.iconst dX1_holds_15 ?_
  refine GO.callV (ci := 7) (N := mX8_get) dX1_holds_16 (RX8, TX8, 4) rfl gV_RX1_116 h1 (t_X8_get h1 r_p1 (ir_c rfl)) rfl [] rfl rfl (Nat.le_of_ble_eq_true rfl) rfl (k_ip fun X8 r9 h10 => ?_)
  refine GO.istore (ls1 := [some (.ref x), some (.ref p0), some (ti p1), some (ti X3), some (ti X8), none, none, none, none, none]) dX1_holds_19 rfl rfl ?_
  refine GO.aload_n dX1_holds_21 rfl rfl ?_
  refine GO.iconst dX1_holds_22 ?_
  refine GO.putI h_x fp_RX1_52 rfl (by decide +kernel) (ir_c rfl) (by decide) (by decide) dX1_holds_23 (fun V12 e11 => ?_)
  refine GO.iconst dX1_holds_26 ?_
  refine GO.istore (ls1 := [some (.ref x), some (.ref p0), some (ti p1), some (ti X3), some (ti X8), some (ti 0), none, none, none, none]) dX1_holds_27 rfl rfl ?_
  have q1170 : -2147483648 ≤ X3 ∧ X3 ≤ 2147483647 := r4
  refine GO.loop2 (fun i13 i14 W => (-2147483648) ≤ i13 ∧ i13 ≤ 2147483647 ∧ 0 ≤ i14 ∧ i14 ≤ 200 ∧ True) (fun i13 i14 => [some (.ref x), some (.ref p0), some (ti p1), some (ti i13), some (ti X8), some (ti i14), none, none, none, none]) (fun i13 i14 W => (2147483647 - i14).toNat) X3 0 ⟨by omega, by omega, by omega, by omega, trivial⟩ rfl (fun i13 i14 Wi13 hp1172 ih1171 => ?_)
  obtain ⟨l_i13, u_i13, l_i14, u_i14, -⟩ := hp1172
  have r_i13 : ir i13 := ⟨by omega, by omega⟩
  have r_i14 : ir i14 := ⟨by omega, by omega⟩
  show GO mX1_holds K V (IS K (fun X V1 => True)) K Wi13 0 0 29 [some (.ref x), some (.ref p0), some (ti p1), some (ti i13), some (ti X8), some (ti i14), none, none, none, none] []
  refine GO.iload dX1_holds_29 rfl ?_
  refine GO.sipush dX1_holds_31 rfl ?_
  refine GO.icmp_ge (tgt := 225) dX1_holds_34 (by decide) r_i14 (ir_c rfl) (fun c1173 => ?_) (fun c1173 => ?_)
  ·
    refine GO.aload_n dX1_holds_225 rfl rfl ?_
    refine GO.callV (ci := 1) (N := mX1_pop) dX1_holds_226 (RX1, TX1, 13) rfl gV_RX1_169 h_x (t_X1_pop h_x) rfl [] rfl rfl (Nat.le_of_ble_eq_true rfl) rfl (k_is fun X1174 V1178 r1175 h1176 hF1177 => ?_)
    have q1179 : -2147483648 ≤ X1174 ∧ X1174 ≤ 2147483647 := r1175
    exact GO.reti rfl rfl dX1_holds_229 ⟨rfl, _, rfl, r1175, trivial⟩
  ·
    refine GO.iload_n dX1_holds_37 rfl rfl ?_
    refine GO.iload dX1_holds_38 rfl ?_
    refine GO.icmp_ge (tgt := 225) dX1_holds_40 (by decide) r_i13 r9 (fun c1180 => ?_) (fun c1180 => ?_)
    ·
      refine GO.aload_n dX1_holds_225 rfl rfl ?_
      refine GO.callV (ci := 1) (N := mX1_pop) dX1_holds_226 (RX1, TX1, 13) rfl gV_RX1_169 h_x (t_X1_pop h_x) rfl [] rfl rfl (Nat.le_of_ble_eq_true rfl) rfl (k_is fun X1181 V1185 r1182 h1183 hF1184 => ?_)
      have q1186 : -2147483648 ≤ X1181 ∧ X1181 ≤ 2147483647 := r1182
      exact GO.reti rfl rfl dX1_holds_229 ⟨rfl, _, rfl, r1182, trivial⟩
    ·
      refine GO.aload_n dX1_holds_43 rfl rfl ?_
      refine GO.getB h_p0 fl_RX1_162 rfl rfl dX1_holds_44 (fun n1189 hv1188 h1187 b1190 => ?_)
      refine GO.iload_n dX1_holds_47 rfl rfl ?_
      refine GO.callS (N := mX4_get) dX1_holds_48 gS_RX1_88 (t_X4_get rfl h1187 r_i13) rfl [] rfl rfl (Nat.le_of_ble_eq_true rfl) rfl (k_ip fun X1191 r1192 h1193 => ?_)
      refine GO.bipush dX1_holds_51 rfl ?_
      refine GO.iand dX1_holds_53 ?_
      refine GO.name (fun z1194 hz1195 => ?_)
      have r1196 : ir z1194 := hz1195 ▸ wand_ir
      refine GO.istore (ls1 := [some (.ref x), some (.ref p0), some (ti p1), some (ti i13), some (ti X8), some (ti i14), some (ti z1194), none, none, none]) dX1_holds_54 rfl rfl ?_
      refine GO.aload_n dX1_holds_56 rfl rfl ?_
      refine GO.getRaw h_p0 fl_RX1_162 hv1188 dX1_holds_57 ?_
      refine GO.iload_n dX1_holds_60 rfl rfl ?_
      refine GO.callS (N := mX4_get) dX1_holds_61 gS_RX1_88 (t_X4_get rfl h1187 r_i13) rfl [] rfl rfl (Nat.le_of_ble_eq_true rfl) rfl (k_ip fun X1199 r1200 h1201 => ?_)
      refine GO.iconst dX1_holds_64 ?_
      refine GO.ishr dX1_holds_65 ?_
      refine GO.name (fun z1202 hz1203 => ?_)
      have r1204 : ir z1202 := hz1203 ▸ wshr_ir
      refine GO.istore (ls1 := [some (.ref x), some (.ref p0), some (ti p1), some (ti i13), some (ti X8), some (ti i14), some (ti z1194), some (ti z1202), none, none]) dX1_holds_66 rfl rfl ?_
      refine GO.iinc (X := i13) (n := 1) (Y := i13 + 1) (ls1 := [some (.ref x), some (.ref p0), some (ti p1), some (ti (i13 + 1)), some (ti X8), some (ti i14), some (ti z1194), some (ti z1202), none, none]) dX1_holds_68 rfl rfl rfl rfl ?_
      refine GO.iload dX1_holds_71 rfl ?_
      refine GO.if_ne (tgt := 85) dX1_holds_73 (by decide) r1196 (fun c1205 => ?_) (fun c1205 => ?_)
      ·
        refine GO.iload dX1_holds_85 rfl ?_
        refine GO.iconst dX1_holds_87 ?_
        refine GO.icmp_ne (tgt := 107) dX1_holds_88 (by decide) r1196 (ir_c rfl) (fun c1206 => ?_) (fun c1206 => ?_)
        ·
          refine GO.iload dX1_holds_107 rfl ?_
          refine GO.iconst dX1_holds_109 ?_
          refine GO.icmp_ne (tgt := 126) dX1_holds_110 (by decide) r1196 (ir_c rfl) (fun c1207 => ?_) (fun c1207 => ?_)
          ·
            refine GO.iload dX1_holds_126 rfl ?_
            refine GO.iconst dX1_holds_128 ?_
            have hj1235 : ∀ (l1236 : 3 ≤ z1194), ∀ (u1237 : z1194 ≤ 4), GO mX1_holds K V (IS K (fun X V1 => True)) K Wi13 0 0 138 [some (.ref x), some (.ref p0), some (ti p1), some (ti (i13 + 1)), some (ti X8), some (ti i14), some (ti z1194), some (ti z1202), none, none] [] := by
              intro l1236 u1237
              refine GO.aload_n dX1_holds_138 rfl rfl ?_
              refine GO.callV (ci := 1) (N := mX1_pop) dX1_holds_139 (RX1, TX1, 13) rfl gV_RX1_169 h_x (t_X1_pop h_x) rfl [] rfl rfl (Nat.le_of_ble_eq_true rfl) rfl (k_is fun X1238 V1242 r1239 h1240 hF1241 => ?_)
              refine GO.istore (ls1 := [some (.ref x), some (.ref p0), some (ti p1), some (ti (i13 + 1)), some (ti X8), some (ti i14), some (ti z1194), some (ti z1202), some (ti X1238), none]) dX1_holds_142 rfl rfl ?_
              refine GO.iload dX1_holds_144 rfl ?_
              refine GO.iload dX1_holds_146 rfl ?_
              refine GO.iconst dX1_holds_148 ?_
              refine GO.icmp_ne (tgt := 156) dX1_holds_149 (by decide) r1196 (ir_c rfl) (fun c1243 => ?_) (fun c1243 => ?_)
              ·
                refine GO.iconst dX1_holds_156 ?_
                refine GO.icmp_ne (tgt := 169) dX1_holds_157 (by decide) r1239 (ir_c rfl) (fun c1244 => ?_) (fun c1244 => ?_)
                ·
                  refine GO.goto (tgt := 219) dX1_holds_169 (by decide) ?_
                  refine GO.iinc (X := i14) (n := 1) (Y := i14 + 1) (ls1 := [some (.ref x), some (.ref p0), some (ti p1), some (ti (i13 + 1)), some (ti X8), some (ti (i14 + 1)), some (ti z1194), some (ti z1202), some (ti X1238), none]) dX1_holds_219 rfl rfl rfl rfl ?_
                  refine GO.goto (tgt := 29) dX1_holds_222 (by decide) ?_
                  refine GO.drop [true, true, true, true, true, true, false, false, false, true] rfl ?_
                  have q1245 : -2147483648 ≤ X8 ∧ X8 ≤ 2147483647 := r9
                  exact ih1171 (i13 + 1) (i14 + 1) V1242 ⟨by omega, by omega, by omega, by omega, trivial⟩ (by show (2147483647 - (i14 + 1)).toNat < (2147483647 - i14).toNat; omega)
                ·
                  refine GO.aload_n dX1_holds_160 rfl rfl ?_
                  refine GO.iload dX1_holds_161 rfl ?_
                  refine GO.callV (ci := 1) (N := mX1_push) dX1_holds_163 (RX1, TX1, 13) rfl gV_RX1_165 h_x (t_X1_push h_x r1239) rfl [] rfl rfl (Nat.le_of_ble_eq_true rfl) rfl (k_vs fun V1248 h1247 hF1246 => ?_)
                  refine GO.iload dX1_holds_166 rfl ?_
                  refine GO.istore_n (ls1 := [some (.ref x), some (.ref p0), some (ti p1), some (ti z1202), some (ti X8), some (ti i14), some (ti z1194), some (ti z1202), some (ti X1238), none]) dX1_holds_168 rfl rfl rfl ?_
                  refine GO.goto (tgt := 219) dX1_holds_169 (by decide) ?_
                  refine GO.iinc (X := i14) (n := 1) (Y := i14 + 1) (ls1 := [some (.ref x), some (.ref p0), some (ti p1), some (ti z1202), some (ti X8), some (ti (i14 + 1)), some (ti z1194), some (ti z1202), some (ti X1238), none]) dX1_holds_219 rfl rfl rfl rfl ?_
                  refine GO.goto (tgt := 29) dX1_holds_222 (by decide) ?_
                  refine GO.drop [true, true, true, true, true, true, false, false, false, true] rfl ?_
                  have q1249 : -2147483648 ≤ z1202 ∧ z1202 ≤ 2147483647 := r1204
                  have q1250 : -2147483648 ≤ wshr X1199 5 ∧ wshr X1199 5 ≤ 2147483647 := wshr_ir
                  exact ih1171 z1202 (i14 + 1) V1248 ⟨by omega, by omega, by omega, by omega, trivial⟩ (by show (2147483647 - (i14 + 1)).toNat < (2147483647 - i14).toNat; omega)
              ·
                refine GO.iconst dX1_holds_152 ?_
                refine GO.goto (tgt := 157) dX1_holds_153 (by decide) ?_
                refine GO.icmp_ne (tgt := 169) dX1_holds_157 (by decide) r1239 (ir_c rfl) (fun c1251 => ?_) (fun c1251 => ?_)
                ·
                  refine GO.goto (tgt := 219) dX1_holds_169 (by decide) ?_
                  refine GO.iinc (X := i14) (n := 1) (Y := i14 + 1) (ls1 := [some (.ref x), some (.ref p0), some (ti p1), some (ti (i13 + 1)), some (ti X8), some (ti (i14 + 1)), some (ti z1194), some (ti z1202), some (ti X1238), none]) dX1_holds_219 rfl rfl rfl rfl ?_
                  refine GO.goto (tgt := 29) dX1_holds_222 (by decide) ?_
                  refine GO.drop [true, true, true, true, true, true, false, false, false, true] rfl ?_
                  have q1252 : -2147483648 ≤ X8 ∧ X8 ≤ 2147483647 := r9
                  exact ih1171 (i13 + 1) (i14 + 1) V1242 ⟨by omega, by omega, by omega, by omega, trivial⟩ (by show (2147483647 - (i14 + 1)).toNat < (2147483647 - i14).toNat; omega)
                ·
                  refine GO.aload_n dX1_holds_160 rfl rfl ?_
                  refine GO.iload dX1_holds_161 rfl ?_
                  refine GO.callV (ci := 1) (N := mX1_push) dX1_holds_163 (RX1, TX1, 13) rfl gV_RX1_165 h_x (t_X1_push h_x r1239) rfl [] rfl rfl (Nat.le_of_ble_eq_true rfl) rfl (k_vs fun V1255 h1254 hF1253 => ?_)
                  refine GO.iload dX1_holds_166 rfl ?_
                  refine GO.istore_n (ls1 := [some (.ref x), some (.ref p0), some (ti p1), some (ti z1202), some (ti X8), some (ti i14), some (ti z1194), some (ti z1202), some (ti X1238), none]) dX1_holds_168 rfl rfl rfl ?_
                  refine GO.goto (tgt := 219) dX1_holds_169 (by decide) ?_
                  refine GO.iinc (X := i14) (n := 1) (Y := i14 + 1) (ls1 := [some (.ref x), some (.ref p0), some (ti p1), some (ti z1202), some (ti X8), some (ti (i14 + 1)), some (ti z1194), some (ti z1202), some (ti X1238), none]) dX1_holds_219 rfl rfl rfl rfl ?_
                  refine GO.goto (tgt := 29) dX1_holds_222 (by decide) ?_
                  refine GO.drop [true, true, true, true, true, true, false, false, false, true] rfl ?_
                  have q1256 : -2147483648 ≤ z1202 ∧ z1202 ≤ 2147483647 := r1204
                  have q1257 : -2147483648 ≤ wshr X1199 5 ∧ wshr X1199 5 ≤ 2147483647 := wshr_ir
                  exact ih1171 z1202 (i14 + 1) V1255 ⟨by omega, by omega, by omega, by omega, trivial⟩ (by show (2147483647 - (i14 + 1)).toNat < (2147483647 - i14).toNat; omega)
            refine GO.icmp_eq (tgt := 138) dX1_holds_129 (by decide) r1196 (ir_c rfl) (fun c1258 => ?_) (fun c1258 => ?_)
            ·
              have q1259 : -2147483648 ≤ z1194 ∧ z1194 ≤ 2147483647 := r1196
              have q1260 : -2147483648 ≤ wand X1191 31 ∧ wand X1191 31 ≤ 2147483647 := wand_ir
              exact hj1235  (by omega) (by omega)
            ·
              refine GO.iload dX1_holds_132 rfl ?_
              refine GO.iconst dX1_holds_134 ?_
              refine GO.icmp_ne (tgt := 172) dX1_holds_135 (by decide) r1196 (ir_c rfl) (fun c1261 => ?_) (fun c1261 => ?_)
              ·
                refine GO.aload_n dX1_holds_172 rfl rfl ?_
                refine GO.callV (ci := 1) (N := mX1_pop) dX1_holds_173 (RX1, TX1, 13) rfl gV_RX1_169 h_x (t_X1_pop h_x) rfl [] rfl rfl (Nat.le_of_ble_eq_true rfl) rfl (k_is fun X1262 V1266 r1263 h1264 hF1265 => ?_)
                refine GO.istore (ls1 := [some (.ref x), some (.ref p0), some (ti p1), some (ti (i13 + 1)), some (ti X8), some (ti i14), some (ti z1194), some (ti z1202), some (ti X1262), none]) dX1_holds_176 rfl rfl ?_
                refine GO.aload_n dX1_holds_178 rfl rfl ?_
                refine GO.callV (ci := 1) (N := mX1_pop) dX1_holds_179 (RX1, TX1, 13) rfl gV_RX1_169 h_x (t_X1_pop h_x) rfl [] rfl rfl (Nat.le_of_ble_eq_true rfl) rfl (k_is fun X1267 V1271 r1268 h1269 hF1270 => ?_)
                refine GO.istore (ls1 := [some (.ref x), some (.ref p0), some (ti p1), some (ti (i13 + 1)), some (ti X8), some (ti i14), some (ti z1194), some (ti z1202), some (ti X1262), some (ti X1267)]) dX1_holds_182 rfl rfl ?_
                refine GO.iload dX1_holds_184 rfl ?_
                refine GO.if_ne (tgt := 206) dX1_holds_186 (by decide) r1263 (fun c1272 => ?_) (fun c1272 => ?_)
                ·
                  refine GO.aload_n dX1_holds_206 rfl rfl ?_
                  refine GO.iload dX1_holds_207 rfl ?_
                  refine GO.iload dX1_holds_209 rfl ?_
                  refine GO.iload dX1_holds_211 rfl ?_
                  refine GO.callS (N := mX1_reckon) dX1_holds_213 gS_RX1_173 (t_X1_reckon r1196 r1268 r1263) rfl [.ref x] rfl rfl (Nat.le_of_ble_eq_true rfl) rfl (k_ip fun X1273 r1274 h1275 => ?_)
                  refine GO.callV (ci := 1) (N := mX1_push) dX1_holds_216 (RX1, TX1, 13) rfl gV_RX1_165 h_x (t_X1_push h_x r1274) rfl [] rfl rfl (Nat.le_of_ble_eq_true rfl) rfl (k_vs fun V1278 h1277 hF1276 => ?_)
                  refine GO.iinc (X := i14) (n := 1) (Y := i14 + 1) (ls1 := [some (.ref x), some (.ref p0), some (ti p1), some (ti (i13 + 1)), some (ti X8), some (ti (i14 + 1)), some (ti z1194), some (ti z1202), some (ti X1262), some (ti X1267)]) dX1_holds_219 rfl rfl rfl rfl ?_
                  refine GO.goto (tgt := 29) dX1_holds_222 (by decide) ?_
                  refine GO.drop [true, true, true, true, true, true, false, false, false, false] rfl ?_
                  have q1279 : -2147483648 ≤ X8 ∧ X8 ≤ 2147483647 := r9
                  exact ih1171 (i13 + 1) (i14 + 1) V1278 ⟨by omega, by omega, by omega, by omega, trivial⟩ (by show (2147483647 - (i14 + 1)).toNat < (2147483647 - i14).toNat; omega)
                ·
                  refine GO.iload dX1_holds_189 rfl ?_
                  refine GO.bipush dX1_holds_191 rfl ?_
                  refine GO.icmp_eq (tgt := 203) dX1_holds_193 (by decide) r1196 (ir_c rfl) (fun c1280 => ?_) (fun c1280 => ?_)
                  ·
                    refine GO.bipush dX1_holds_203 rfl ?_
                    exact GO.reti rfl rfl dX1_holds_205 ⟨rfl, _, rfl, (ir_c rfl), trivial⟩
                  ·
                    refine GO.iload dX1_holds_196 rfl ?_
                    refine GO.bipush dX1_holds_198 rfl ?_
                    refine GO.icmp_ne (tgt := 206) dX1_holds_200 (by decide) r1196 (ir_c rfl) (fun c1281 => ?_) (fun c1281 => ?_)
                    ·
                      refine GO.aload_n dX1_holds_206 rfl rfl ?_
                      refine GO.iload dX1_holds_207 rfl ?_
                      refine GO.iload dX1_holds_209 rfl ?_
                      refine GO.iload dX1_holds_211 rfl ?_
                      refine GO.callS (N := mX1_reckon) dX1_holds_213 gS_RX1_173 (t_X1_reckon r1196 r1268 r1263) rfl [.ref x] rfl rfl (Nat.le_of_ble_eq_true rfl) rfl (k_ip fun X1282 r1283 h1284 => ?_)
                      refine GO.callV (ci := 1) (N := mX1_push) dX1_holds_216 (RX1, TX1, 13) rfl gV_RX1_165 h_x (t_X1_push h_x r1283) rfl [] rfl rfl (Nat.le_of_ble_eq_true rfl) rfl (k_vs fun V1287 h1286 hF1285 => ?_)
                      refine GO.iinc (X := i14) (n := 1) (Y := i14 + 1) (ls1 := [some (.ref x), some (.ref p0), some (ti p1), some (ti (i13 + 1)), some (ti X8), some (ti (i14 + 1)), some (ti z1194), some (ti z1202), some (ti X1262), some (ti X1267)]) dX1_holds_219 rfl rfl rfl rfl ?_
                      refine GO.goto (tgt := 29) dX1_holds_222 (by decide) ?_
                      refine GO.drop [true, true, true, true, true, true, false, false, false, false] rfl ?_
                      have q1288 : -2147483648 ≤ X8 ∧ X8 ≤ 2147483647 := r9
                      exact ih1171 (i13 + 1) (i14 + 1) V1287 ⟨by omega, by omega, by omega, by omega, trivial⟩ (by show (2147483647 - (i14 + 1)).toNat < (2147483647 - i14).toNat; omega)
                    ·
                      refine GO.bipush dX1_holds_203 rfl ?_
                      exact GO.reti rfl rfl dX1_holds_205 ⟨rfl, _, rfl, (ir_c rfl), trivial⟩
              ·
                have q1289 : -2147483648 ≤ z1194 ∧ z1194 ≤ 2147483647 := r1196
                have q1290 : -2147483648 ≤ wand X1191 31 ∧ wand X1191 31 ≤ 2147483647 := wand_ir
                exact hj1235  (by omega) (by omega)
          ·
            refine GO.aload_n dX1_holds_113 rfl rfl ?_
            refine GO.iconst dX1_holds_114 ?_
            refine GO.aload_n dX1_holds_115 rfl rfl ?_
            refine GO.callV (ci := 1) (N := mX1_pop) dX1_holds_116 (RX1, TX1, 13) rfl gV_RX1_169 h_x (t_X1_pop h_x) rfl [ti 1, .ref x] rfl rfl (Nat.le_of_ble_eq_true rfl) rfl (k_is fun X1291 V1295 r1292 h1293 hF1294 => ?_)
            refine GO.isub dX1_holds_119 ?_
            refine GO.norm (fun z1296 r1297 _ => ?_)
            refine GO.callV (ci := 1) (N := mX1_push) dX1_holds_120 (RX1, TX1, 13) rfl gV_RX1_165 h_x (t_X1_push h_x r1297) rfl [] rfl rfl (Nat.le_of_ble_eq_true rfl) rfl (k_vs fun V1300 h1299 hF1298 => ?_)
            refine GO.goto (tgt := 219) dX1_holds_123 (by decide) ?_
            refine GO.iinc (X := i14) (n := 1) (Y := i14 + 1) (ls1 := [some (.ref x), some (.ref p0), some (ti p1), some (ti (i13 + 1)), some (ti X8), some (ti (i14 + 1)), some (ti z1194), some (ti z1202), none, none]) dX1_holds_219 rfl rfl rfl rfl ?_
            refine GO.goto (tgt := 29) dX1_holds_222 (by decide) ?_
            refine GO.drop [true, true, true, true, true, true, false, false, true, true] rfl ?_
            have q1301 : -2147483648 ≤ X8 ∧ X8 ≤ 2147483647 := r9
            exact ih1171 (i13 + 1) (i14 + 1) V1300 ⟨by omega, by omega, by omega, by omega, trivial⟩ (by show (2147483647 - (i14 + 1)).toNat < (2147483647 - i14).toNat; omega)
        ·
          refine GO.aload_n dX1_holds_91 rfl rfl ?_
          refine GO.aload_n dX1_holds_92 rfl rfl ?_
          refine GO.getB h_x fl_RX1_46 rfl rfl dX1_holds_93 (fun n1304 hv1303 h1302 b1305 => ?_)
          refine GO.iload dX1_holds_96 rfl ?_
          refine GO.callS (N := mX4_get) dX1_holds_98 gS_RX1_88 (t_X4_get rfl h1302 r1204) rfl [.ref x] rfl rfl (Nat.le_of_ble_eq_true rfl) rfl (k_ip fun X1306 r1307 h1308 => ?_)
          refine GO.callV (ci := 1) (N := mX1_push) dX1_holds_101 (RX1, TX1, 13) rfl gV_RX1_165 h_x (t_X1_push h_x r1307) rfl [] rfl rfl (Nat.le_of_ble_eq_true rfl) rfl (k_vs fun V1311 h1310 hF1309 => ?_)
          refine GO.goto (tgt := 219) dX1_holds_104 (by decide) ?_
          refine GO.iinc (X := i14) (n := 1) (Y := i14 + 1) (ls1 := [some (.ref x), some (.ref p0), some (ti p1), some (ti (i13 + 1)), some (ti X8), some (ti (i14 + 1)), some (ti z1194), some (ti z1202), none, none]) dX1_holds_219 rfl rfl rfl rfl ?_
          refine GO.goto (tgt := 29) dX1_holds_222 (by decide) ?_
          refine GO.drop [true, true, true, true, true, true, false, false, true, true] rfl ?_
          have q1312 : -2147483648 ≤ X8 ∧ X8 ≤ 2147483647 := r9
          exact ih1171 (i13 + 1) (i14 + 1) V1311 ⟨by omega, by omega, by omega, by omega, trivial⟩ (by show (2147483647 - (i14 + 1)).toNat < (2147483647 - i14).toNat; omega)
      ·
        refine GO.aload_n dX1_holds_76 rfl rfl ?_
        refine GO.iload dX1_holds_77 rfl ?_
        refine GO.callV (ci := 1) (N := mX1_push) dX1_holds_79 (RX1, TX1, 13) rfl gV_RX1_165 h_x (t_X1_push h_x r1204) rfl [] rfl rfl (Nat.le_of_ble_eq_true rfl) rfl (k_vs fun V1315 h1314 hF1313 => ?_)
        refine GO.goto (tgt := 219) dX1_holds_82 (by decide) ?_
        refine GO.iinc (X := i14) (n := 1) (Y := i14 + 1) (ls1 := [some (.ref x), some (.ref p0), some (ti p1), some (ti (i13 + 1)), some (ti X8), some (ti (i14 + 1)), some (ti z1194), some (ti z1202), none, none]) dX1_holds_219 rfl rfl rfl rfl ?_
        refine GO.goto (tgt := 29) dX1_holds_222 (by decide) ?_
        refine GO.drop [true, true, true, true, true, true, false, false, true, true] rfl ?_
        have q1316 : -2147483648 ≤ X8 ∧ X8 ≤ 2147483647 := r9
        exact ih1171 (i13 + 1) (i14 + 1) V1315 ⟨by omega, by omega, by omega, by omega, trivial⟩ (by show (2147483647 - (i14 + 1)).toNat < (2147483647 - i14).toNat; omega)

set_option maxHeartbeats 1000000 in
theorem t_X1_wasTold {K : Kmap} {V : Vmap} {p0 : Int} {p1 : Int} (r_p0 : ir p0) (r_p1 : ir p1) : MC mX1_wasTold K V [ti p0, ti p1] (IP K V (fun X => (X = 0 ∨ X = 1) ∧ (X ≠ 0 → True) ∧ (X = 0 → True))) := by
  refine MC.start 0 (by decide +kernel) rfl rfl rfl (ls0 := [some (ti p0), some (ti p1)]) rfl ?_
  refine GO.iload_n dX1_wasTold_0 rfl rfl ?_
  refine GO.iconst dX1_wasTold_1 ?_
  refine GO.icmp_eq (tgt := 14) dX1_wasTold_2 (by decide) r_p0 (ir_c rfl) (fun c1 => ?_) (fun c1 => ?_)
  ·
    refine GO.iconst dX1_wasTold_14 ?_
    exact GO.retz rfl rfl dX1_wasTold_15 (Or.inl rfl) ⟨rfl, rfl, _, rfl, (ir_c rfl), ⟨Or.inl rfl, fun _ => trivial, fun _ => trivial⟩⟩
  ·
    refine GO.iload_n dX1_wasTold_5 rfl rfl ?_
    refine GO.iload_n dX1_wasTold_6 rfl rfl ?_
    refine GO.icmp_gt (tgt := 14) dX1_wasTold_7 (by decide) r_p0 r_p1 (fun c2 => ?_) (fun c2 => ?_)
    ·
      refine GO.iconst dX1_wasTold_14 ?_
      exact GO.retz rfl rfl dX1_wasTold_15 (Or.inl rfl) ⟨rfl, rfl, _, rfl, (ir_c rfl), ⟨Or.inl rfl, fun _ => trivial, fun _ => trivial⟩⟩
    ·
      refine GO.iconst dX1_wasTold_10 ?_
      refine GO.goto (tgt := 15) dX1_wasTold_11 (by decide) ?_
      exact GO.retz rfl rfl dX1_wasTold_15 (Or.inr rfl) ⟨rfl, rfl, _, rfl, (ir_c rfl), ⟨Or.inr rfl, fun _ => trivial, fun _ => trivial⟩⟩

set_option maxHeartbeats 1000000 in
theorem t_X1_bar {K : Kmap} {V : Vmap} {p0 : Nat} {p1 : Int} {p2 : Nat} {p3 : Int} {p4 : Int} (h_p0 : K p0 = some (0, 8)) (r_p1 : ir p1) (h_p2 : K p2 = some (0, 9)) (r_p3 : ir p3) (r_p4 : ir p4) (z_p4 : p4 = 0 ∨ p4 = 1) : MC mX1_bar K V [.ref p0, ti p1, .ref p2, ti p3, ti p4] (IP K V (fun X => True)) := by
  refine MC.start 1 (by decide +kernel) rfl rfl rfl (ls0 := [some (.ref p0), some (ti p1), some (.ref p2), some (ti p3), some (ti p4), none]) rfl ?_
  refine GO.aload_n dX1_bar_0 rfl rfl ?_
  refine GO.getI h_p2 fl_RX1_147 rfl rfl dX1_bar_1 (fun _ _ => ?_)
  refine GO.aload_n dX1_bar_4 rfl rfl ?_
  refine GO.getR h_p0 fl_RX1_102 rfl rfl dX1_bar_5 (fun hv2 h1 => ?_)
  refine GO.iload_n dX1_bar_8 rfl rfl ?_
  refine GO.iconst dX1_bar_9 ?_
  refine GO.callV (ci := 7) (N := mX8_get) dX1_bar_10 (RX8, TX8, 4) rfl gV_RX1_116 h1 (t_X8_get h1 r_p1 (ir_c rfl)) rfl [ti (vi V p2 3)] rfl rfl (Nat.le_of_ble_eq_true rfl) rfl (k_ip fun X3 r4 h5 => ?_)
  refine GO.isub dX1_bar_13 ?_
  refine GO.norm (fun z6 r7 _ => ?_)
  refine GO.istore (ls1 := [some (.ref p0), some (ti p1), some (.ref p2), some (ti p3), some (ti p4), some (ti z6)]) dX1_bar_14 rfl rfl ?_
  refine GO.aload_n dX1_bar_16 rfl rfl ?_
  refine GO.iload_n dX1_bar_17 rfl rfl ?_
  refine GO.callV (ci := 8) (N := mX9_letterOf) dX1_bar_18 (RX9, TX9, 5) rfl gV_RX1_119 h_p0 (t_X9_letterOf h_p0 r_p1) rfl [] rfl rfl (Nat.le_of_ble_eq_true rfl) rfl (k_ip fun X8 r9 h10 => ?_)
  by_cases c11 : X8 = 99
  ·
    refine GO.lookupK (n := 99) (tgt := 127) dX1_bar_21 (ir_c rfl) c11 (by decide) rfl (by decide) ?_
    refine GO.iload dX1_bar_127 rfl ?_
    refine GO.if_eq (tgt := 136) dX1_bar_129 (by decide) r_p4 (fun c12 => ?_) (fun c12 => ?_)
    ·
      refine GO.iconst dX1_bar_136 ?_
      exact GO.reti rfl rfl dX1_bar_137 ⟨rfl, rfl, _, rfl, (ir_c rfl), trivial⟩
    ·
      refine GO.iconst dX1_bar_132 ?_
      refine GO.goto (tgt := 137) dX1_bar_133 (by decide) ?_
      exact GO.reti rfl rfl dX1_bar_137 ⟨rfl, rfl, _, rfl, (ir_c rfl), trivial⟩
  by_cases c13 : X8 = 102
  ·
    refine GO.lookupK (n := 102) (tgt := 72) dX1_bar_21 (ir_c rfl) c13 (by decide) rfl (by decide) ?_
    refine GO.iconst dX1_bar_72 ?_
    exact GO.reti rfl rfl dX1_bar_73 ⟨rfl, rfl, _, rfl, (ir_c rfl), trivial⟩
  by_cases c14 : X8 = 108
  ·
    refine GO.lookupK (n := 108) (tgt := 74) dX1_bar_21 (ir_c rfl) c14 (by decide) rfl (by decide) ?_
    refine GO.aload_n dX1_bar_74 rfl rfl ?_
    refine GO.getI h_p2 fl_RX1_150 rfl rfl dX1_bar_75 (fun _ _ => ?_)
    refine GO.iload_n dX1_bar_78 rfl rfl ?_
    refine GO.callS (N := mX1_wasTold) dX1_bar_79 gS_RX1_153 (t_X1_wasTold vi_ir r_p3) rfl [] rfl rfl (Nat.le_of_ble_eq_true rfl) rfl (k_ip fun X15 r16 h17 => ?_)
    refine GO.if_eq (tgt := 89) dX1_bar_82 (by decide) r16 (fun c18 => ?_) (fun c18 => ?_)
    ·
      refine GO.iconst dX1_bar_89 ?_
      exact GO.reti rfl rfl dX1_bar_90 ⟨rfl, rfl, _, rfl, (ir_c rfl), trivial⟩
    ·
      refine GO.iconst dX1_bar_85 ?_
      refine GO.goto (tgt := 90) dX1_bar_86 (by decide) ?_
      exact GO.reti rfl rfl dX1_bar_90 ⟨rfl, rfl, _, rfl, (ir_c rfl), trivial⟩
  by_cases c19 : X8 = 110
  ·
    refine GO.lookupK (n := 110) (tgt := 91) dX1_bar_21 (ir_c rfl) c19 (by decide) rfl (by decide) ?_
    refine GO.aload_n dX1_bar_91 rfl rfl ?_
    refine GO.getI h_p2 fl_RX1_156 rfl rfl dX1_bar_92 (fun _ _ => ?_)
    refine GO.iload dX1_bar_95 rfl ?_
    refine GO.callS (N := mX1_wasTold) dX1_bar_97 gS_RX1_153 (t_X1_wasTold vi_ir r7) rfl [] rfl rfl (Nat.le_of_ble_eq_true rfl) rfl (k_ip fun X20 r21 h22 => ?_)
    refine GO.if_eq (tgt := 107) dX1_bar_100 (by decide) r21 (fun c23 => ?_) (fun c23 => ?_)
    ·
      refine GO.iconst dX1_bar_107 ?_
      exact GO.reti rfl rfl dX1_bar_108 ⟨rfl, rfl, _, rfl, (ir_c rfl), trivial⟩
    ·
      refine GO.iconst dX1_bar_103 ?_
      refine GO.goto (tgt := 108) dX1_bar_104 (by decide) ?_
      exact GO.reti rfl rfl dX1_bar_108 ⟨rfl, rfl, _, rfl, (ir_c rfl), trivial⟩
  by_cases c24 : X8 = 115
  ·
    refine GO.lookupK (n := 115) (tgt := 109) dX1_bar_21 (ir_c rfl) c24 (by decide) rfl (by decide) ?_
    refine GO.aload_n dX1_bar_109 rfl rfl ?_
    refine GO.getI h_p2 fl_RX1_159 rfl rfl dX1_bar_110 (fun _ _ => ?_)
    refine GO.iload dX1_bar_113 rfl ?_
    refine GO.callS (N := mX1_wasTold) dX1_bar_115 gS_RX1_153 (t_X1_wasTold vi_ir r7) rfl [] rfl rfl (Nat.le_of_ble_eq_true rfl) rfl (k_ip fun X25 r26 h27 => ?_)
    refine GO.if_eq (tgt := 125) dX1_bar_118 (by decide) r26 (fun c28 => ?_) (fun c28 => ?_)
    ·
      refine GO.iconst dX1_bar_125 ?_
      exact GO.reti rfl rfl dX1_bar_126 ⟨rfl, rfl, _, rfl, (ir_c rfl), trivial⟩
    ·
      refine GO.iconst dX1_bar_121 ?_
      refine GO.goto (tgt := 126) dX1_bar_122 (by decide) ?_
      exact GO.reti rfl rfl dX1_bar_126 ⟨rfl, rfl, _, rfl, (ir_c rfl), trivial⟩
  refine GO.lookup (off := 117) (tgt := 138) dX1_bar_21 r9 (by decide) (by simp [Op.lookupswitch.offset, Ne.symm c11, Ne.symm c13, Ne.symm c14, Ne.symm c19, Ne.symm c24, c11, c13, c14, c19, c24]) (by decide) ?_
  refine GO.iconst dX1_bar_138 ?_
  exact GO.reti rfl rfl dX1_bar_139 ⟨rfl, rfl, _, rfl, (ir_c rfl), trivial⟩

set_option maxHeartbeats 1000000 in
theorem t_X1_judge {K : Kmap} {V : Vmap} {x : Nat} {p0 : Nat} {p1 : Int} {p2 : Int} {p3 : Int} (h_x : K x = some (0, 1)) (h_p0 : K p0 = some (0, 9)) (r_p1 : ir p1) (r_p2 : ir p2) (z_p2 : p2 = 0 ∨ p2 = 1) (r_p3 : ir p3) (z_p3 : p3 = 0 ∨ p3 = 1) : MC mX1_judge K V [.ref x, .ref p0, ti p1, ti p2, ti p3] (IS K (fun X V1 => True)) := by
  refine MC.start 6 (by decide +kernel) rfl rfl rfl (ls0 := [some (.ref x), some (.ref p0), some (ti p1), some (ti p2), some (ti p3), none, none, none, none, none, none]) rfl ?_
  refine GO.aload_n dX1_judge_0 rfl rfl ?_
  refine GO.iconst dX1_judge_1 ?_
  refine GO.putI h_x fp_RX1_55 rfl (by decide +kernel) (ir_c rfl) (by decide) (by decide) dX1_judge_2 (fun V2 e1 => ?_)
  refine GO.aload_n dX1_judge_5 rfl rfl ?_
  refine GO.iconst dX1_judge_6 ?_
  refine GO.putI h_x fp_RX1_58 rfl (by decide +kernel) (ir_c rfl) (by decide) (by decide) dX1_judge_7 (fun V4 e3 => ?_)
  refine GO.iconst dX1_judge_10 ?_
  refine GO.istore (ls1 := [some (.ref x), some (.ref p0), some (ti p1), some (ti p2), some (ti p3), some (ti 0), none, none, none, none, none]) dX1_judge_11 rfl rfl ?_
  refine GO.loop1 (fun i5 W => 0 ≤ i5 ∧ i5 ≤ 20 ∧ True) (fun i5 => [some (.ref x), some (.ref p0), some (ti p1), some (ti p2), some (ti p3), some (ti i5), none, none, none, none, none]) (fun i5 W => (2147483647 - i5).toNat) 0 ⟨by omega, by omega, trivial⟩ rfl (fun i5 Wi5 hp28429 ih28428 => ?_)
  obtain ⟨l_i5, u_i5, -⟩ := hp28429
  have r_i5 : ir i5 := ⟨by omega, by omega⟩
  show GO mX1_judge K V (IS K (fun X V1 => True)) K Wi5 0 0 13 [some (.ref x), some (.ref p0), some (ti p1), some (ti p2), some (ti p3), some (ti i5), none, none, none, none, none] []
  refine GO.iload dX1_judge_13 rfl ?_
  refine GO.aload_n dX1_judge_15 rfl rfl ?_
  refine GO.getI h_x fl_RX1_17 rfl rfl dX1_judge_16 (fun l28430 u28431 => ?_)
  refine GO.icmp_ge (tgt := 203) dX1_judge_19 (by decide) r_i5 vi_ir (fun c28432 => ?_) (fun c28432 => ?_)
  ·
    refine GO.iconst dX1_judge_203 ?_
    exact GO.reti rfl rfl dX1_judge_204 ⟨rfl, _, rfl, (ir_c rfl), trivial⟩
  ·
    refine GO.aload_n dX1_judge_22 rfl rfl ?_
    refine GO.iload dX1_judge_23 rfl ?_
    refine GO.callV (ci := 1) (N := mX1_textOf) dX1_judge_25 (RX1, TX1, 13) rfl gV_RX1_75 h_x (t_X1_textOf h_x r_i5) rfl [] rfl rfl (Nat.le_of_ble_eq_true rfl) rfl (k_rp (fun h28435 => ?_) (fun o28433 h28434 h28435 => ?_))
    ·
      refine GO.astoreN (ls1 := [some (.ref x), some (.ref p0), some (ti p1), some (ti p2), some (ti p3), some (ti i5), some (.null), none, none, none, none]) dX1_judge_28 rfl rfl ?_
      refine GO.aloadN dX1_judge_30 rfl ?_
      refine GO.ifnullN (tgt := 197) dX1_judge_32 (by decide) ?_
      refine GO.iinc (X := i5) (n := 1) (Y := i5 + 1) (ls1 := [some (.ref x), some (.ref p0), some (ti p1), some (ti p2), some (ti p3), some (ti (i5 + 1)), some (.null), none, none, none, none]) dX1_judge_197 rfl rfl rfl rfl ?_
      refine GO.goto (tgt := 13) dX1_judge_200 (by decide) ?_
      refine GO.drop [true, true, true, true, true, true, false, true, true, true, true] rfl ?_
      exact ih28428 (i5 + 1) Wi5 ⟨by omega, by omega, trivial⟩ (by show (2147483647 - (i5 + 1)).toNat < (2147483647 - i5).toNat; omega)
    ·
      refine GO.astore (ls1 := [some (.ref x), some (.ref p0), some (ti p1), some (ti p2), some (ti p3), some (ti i5), some (.ref o28433), none, none, none, none]) dX1_judge_28 rfl rfl ?_
      refine GO.aload dX1_judge_30 rfl ?_
      refine GO.ifnull dX1_judge_32 ?_
      refine GO.aload_n dX1_judge_35 rfl rfl ?_
      refine GO.getB h_x fl_RX1_33 rfl rfl dX1_judge_36 (fun n28438 hv28437 h28436 b28439 => ?_)
      refine GO.iload dX1_judge_39 rfl ?_
      refine GO.callS (N := mX4_get) dX1_judge_41 gS_RX1_88 (t_X4_get rfl h28436 r_i5) rfl [] rfl rfl (Nat.le_of_ble_eq_true rfl) rfl (k_ip fun X28440 r28441 h28442 => ?_)
      refine GO.if_ne (tgt := 50) dX1_judge_44 (by decide) r28441 (fun c28443 => ?_) (fun c28443 => ?_)
      ·
        refine GO.iconst dX1_judge_50 ?_
        refine GO.istore (ls1 := [some (.ref x), some (.ref p0), some (ti p1), some (ti p2), some (ti p3), some (ti i5), some (.ref o28433), some (ti 0), none, none, none]) dX1_judge_51 rfl rfl ?_
        refine GO.loop1 (fun i28444 W => 0 ≤ i28444 ∧ i28444 ≤ 2147483647 ∧ True) (fun i28444 => [some (.ref x), some (.ref p0), some (ti p1), some (ti p2), some (ti p3), some (ti i5), some (.ref o28433), some (ti i28444), none, none, none]) (fun i28444 W => (2147483647 - i28444).toNat) 0 ⟨by omega, by omega, trivial⟩ rfl (fun i28444 Wi28444 hp31470 ih31469 => ?_)
        obtain ⟨l_i28444, u_i28444, -⟩ := hp31470
        have r_i28444 : ir i28444 := ⟨by omega, by omega⟩
        show GO mX1_judge K V (IS K (fun X V1 => True)) K Wi28444 0 0 53 [some (.ref x), some (.ref p0), some (ti p1), some (ti p2), some (ti p3), some (ti i5), some (.ref o28433), some (ti i28444), none, none, none] []
        refine GO.iload dX1_judge_53 rfl ?_
        refine GO.aload dX1_judge_55 rfl ?_
        refine GO.getR h28434 fl_RX1_102 rfl rfl dX1_judge_57 (fun hv31472 h31471 => ?_)
        refine GO.getI h31471 fl_RX1_105 rfl rfl dX1_judge_60 (fun _ _ => ?_)
        refine GO.icmp_ge (tgt := 197) dX1_judge_63 (by decide) r_i28444 vi_ir (fun c31473 => ?_) (fun c31473 => ?_)
        ·
          refine GO.iinc (X := i5) (n := 1) (Y := i5 + 1) (ls1 := [some (.ref x), some (.ref p0), some (ti p1), some (ti p2), some (ti p3), some (ti (i5 + 1)), some (.ref o28433), some (ti i28444), none, none, none]) dX1_judge_197 rfl rfl rfl rfl ?_
          refine GO.goto (tgt := 13) dX1_judge_200 (by decide) ?_
          refine GO.drop [true, true, true, true, true, true, false, false, true, true, true] rfl ?_
          exact ih28428 (i5 + 1) Wi28444 ⟨by omega, by omega, trivial⟩ (by show (2147483647 - (i5 + 1)).toNat < (2147483647 - i5).toNat; omega)
        ·
          refine GO.aload_n dX1_judge_66 rfl rfl ?_
          refine GO.iload dX1_judge_67 rfl ?_
          refine GO.iload dX1_judge_69 rfl ?_
          refine GO.callV (ci := 1) (N := mX1_isCounting) dX1_judge_71 (RX1, TX1, 13) rfl gV_RX1_123 h_x (t_X1_isCounting h_x r_i5 r_i28444) rfl [] rfl rfl (Nat.le_of_ble_eq_true rfl) rfl (k_ip fun X31474 r31475 h31476 => ?_)
          refine GO.if_eq (tgt := 191) dX1_judge_74 (by decide) r31475 (fun c31477 => ?_) (fun c31477 => ?_)
          ·
            refine GO.iinc (X := i28444) (n := 1) (Y := i28444 + 1) (ls1 := [some (.ref x), some (.ref p0), some (ti p1), some (ti p2), some (ti p3), some (ti i5), some (.ref o28433), some (ti (i28444 + 1)), none, none, none]) dX1_judge_191 rfl rfl rfl rfl ?_
            refine GO.goto (tgt := 53) dX1_judge_194 (by decide) ?_
            have q31478 : -2147483648 ≤ vi Wi28444 (vq Wi28444 o28433 2) 3 ∧ vi Wi28444 (vq Wi28444 o28433 2) 3 ≤ 2147483647 := vi_ir
            exact ih31469 (i28444 + 1) Wi28444 ⟨by omega, by omega, trivial⟩ (by show (2147483647 - (i28444 + 1)).toNat < (2147483647 - i28444).toNat; omega)
          ·
            refine GO.aload dX1_judge_77 rfl ?_
            refine GO.iload dX1_judge_79 rfl ?_
            refine GO.callV (ci := 8) (N := mX9_hasCondition) dX1_judge_81 (RX9, TX9, 5) rfl gV_RX1_127 h28434 (t_X9_hasCondition h28434 r_i28444) rfl [] rfl rfl (Nat.le_of_ble_eq_true rfl) rfl (k_ip fun X31479 r31480 h31481 => ?_)
            refine GO.if_ne (tgt := 90) dX1_judge_84 (by decide) r31480 (fun c31482 => ?_) (fun c31482 => ?_)
            ·
              refine GO.iload_n dX1_judge_90 rfl rfl ?_
              refine GO.if_eq (tgt := 109) dX1_judge_91 (by decide) r_p2 (fun c31487 => ?_) (fun c31487 => ?_)
              ·
                refine GO.null dX1_judge_109 ?_
                refine GO.astoreN (ls1 := [some (.ref x), some (.ref p0), some (ti p1), some (ti p2), some (ti p3), some (ti i5), some (.ref o28433), some (ti i28444), some (.null), none, none]) dX1_judge_110 rfl rfl ?_
                refine GO.aloadN dX1_judge_112 rfl ?_
                refine GO.ifnonnullN dX1_judge_114 ?_
                refine GO.aload_n dX1_judge_117 rfl rfl ?_
                refine GO.aload dX1_judge_118 rfl ?_
                refine GO.iload dX1_judge_120 rfl ?_
                refine GO.callV (ci := 1) (N := mX1_holds) dX1_judge_122 (RX1, TX1, 13) rfl gV_RX1_139 h_x (t_X1_holds h_x h28434 r_i28444) rfl [] rfl rfl (Nat.le_of_ble_eq_true rfl) rfl (k_is fun X31493 V31497 r31494 h31495 hF31496 => ?_)
                refine GO.goto (tgt := 135) dX1_judge_125 (by decide) ?_
                refine GO.istore (ls1 := [some (.ref x), some (.ref p0), some (ti p1), some (ti p2), some (ti p3), some (ti i5), some (.ref o28433), some (ti i28444), some (.null), some (ti X31493), none]) dX1_judge_135 rfl rfl ?_
                refine GO.iload dX1_judge_137 rfl ?_
                refine GO.bipush dX1_judge_139 rfl ?_
                have hj31504 : ∀ (z31503 : Int), ∀ (l31505 : (-2147483648) ≤ z31503), ∀ (u31506 : z31503 ≤ 2147483647), GO mX1_judge K V (IS K (fun X V1 => True)) K V31497 0 0 169 [some (.ref x), some (.ref p0), some (ti p1), some (ti p2), some (ti p3), some (ti i5), some (.ref o28433), some (ti i28444), some (.null), some (ti X31493), none] [ti z31503] := by
                  intro z31503 l31505 u31506
                  have r31507 : ir z31503 := ⟨by omega, by omega⟩
                  refine GO.istore (ls1 := [some (.ref x), some (.ref p0), some (ti p1), some (ti p2), some (ti p3), some (ti i5), some (.ref o28433), some (ti i28444), some (.null), some (ti X31493), some (ti z31503)]) dX1_judge_169 rfl rfl ?_
                  refine GO.iload dX1_judge_171 rfl ?_
                  refine GO.if_eq (tgt := 191) dX1_judge_173 (by decide) r31507 (fun c31508 => ?_) (fun c31508 => ?_)
                  ·
                    refine GO.iinc (X := i28444) (n := 1) (Y := i28444 + 1) (ls1 := [some (.ref x), some (.ref p0), some (ti p1), some (ti p2), some (ti p3), some (ti i5), some (.ref o28433), some (ti (i28444 + 1)), some (.null), some (ti X31493), some (ti z31503)]) dX1_judge_191 rfl rfl rfl rfl ?_
                    refine GO.goto (tgt := 53) dX1_judge_194 (by decide) ?_
                    refine GO.drop [true, true, true, true, true, true, true, true, false, false, false] rfl ?_
                    have q31509 : -2147483648 ≤ vi Wi28444 (vq Wi28444 o28433 2) 3 ∧ vi Wi28444 (vq Wi28444 o28433 2) 3 ≤ 2147483647 := vi_ir
                    exact ih31469 (i28444 + 1) V31497 ⟨by omega, by omega, trivial⟩ (by show (2147483647 - (i28444 + 1)).toNat < (2147483647 - i28444).toNat; omega)
                  ·
                    refine GO.aload_n dX1_judge_176 rfl rfl ?_
                    refine GO.iload dX1_judge_177 rfl ?_
                    refine GO.putI h_x fp_RX1_55 rfl (by decide +kernel) r_i5 (r_i5).1 (r_i5).2 dX1_judge_179 (fun V31511 e31510 => ?_)
                    refine GO.aload_n dX1_judge_182 rfl rfl ?_
                    refine GO.iload dX1_judge_183 rfl ?_
                    refine GO.putI h_x fp_RX1_58 rfl (by decide +kernel) r_i28444 (r_i28444).1 (r_i28444).2 dX1_judge_185 (fun V31513 e31512 => ?_)
                    refine GO.iload dX1_judge_188 rfl ?_
                    exact GO.reti rfl rfl dX1_judge_190 ⟨rfl, _, rfl, r31507, trivial⟩
                refine GO.icmp_ne (tgt := 149) dX1_judge_141 (by decide) r31494 (ir_c rfl) (fun c31514 => ?_) (fun c31514 => ?_)
                ·
                  refine GO.iload dX1_judge_149 rfl ?_
                  refine GO.if_ne (tgt := 158) dX1_judge_151 (by decide) r31494 (fun c31515 => ?_) (fun c31515 => ?_)
                  ·
                    refine GO.aload dX1_judge_158 rfl ?_
                    refine GO.iload dX1_judge_160 rfl ?_
                    refine GO.aload_n dX1_judge_162 rfl rfl ?_
                    refine GO.iload_n dX1_judge_163 rfl rfl ?_
                    refine GO.iload dX1_judge_164 rfl ?_
                    refine GO.callS (N := mX1_bar) dX1_judge_166 gS_RX1_143 (t_X1_bar h28434 r_i28444 h_p0 r_p1 r_p3 (by omega)) rfl [] rfl rfl (Nat.le_of_ble_eq_true rfl) rfl (k_ip fun X31516 r31517 h31518 => ?_)
                    have q31519 : -2147483648 ≤ X31516 ∧ X31516 ≤ 2147483647 := r31517
                    exact hj31504 X31516 (by omega) (by omega)
                  ·
                    refine GO.iconst dX1_judge_154 ?_
                    refine GO.goto (tgt := 169) dX1_judge_155 (by decide) ?_
                    exact hj31504 0 (by omega) (by omega)
                ·
                  refine GO.bipush dX1_judge_144 rfl ?_
                  refine GO.goto (tgt := 169) dX1_judge_146 (by decide) ?_
                  exact hj31504 6 (by omega) (by omega)
              ·
                refine GO.aload_n dX1_judge_94 rfl rfl ?_
                refine GO.aload_n dX1_judge_95 rfl rfl ?_
                refine GO.getI h_p0 fl_RX1_130 rfl rfl dX1_judge_96 (fun _ _ => ?_)
                refine GO.iload dX1_judge_99 rfl ?_
                refine GO.iload dX1_judge_101 rfl ?_
                refine GO.callV (ci := 1) (N := mX1_readingOf) dX1_judge_103 (RX1, TX1, 13) rfl gV_RX1_135 h_x (t_X1_readingOf h_x vi_ir r_i5 r_i28444) rfl [] rfl rfl (Nat.le_of_ble_eq_true rfl) rfl (k_rp (fun h31522 => ?_) (fun o31520 h31521 h31522 => ?_))
                ·
                  refine GO.goto (tgt := 110) dX1_judge_106 (by decide) ?_
                  refine GO.astoreN (ls1 := [some (.ref x), some (.ref p0), some (ti p1), some (ti p2), some (ti p3), some (ti i5), some (.ref o28433), some (ti i28444), some (.null), none, none]) dX1_judge_110 rfl rfl ?_
                  refine GO.aloadN dX1_judge_112 rfl ?_
                  refine GO.ifnonnullN dX1_judge_114 ?_
                  refine GO.aload_n dX1_judge_117 rfl rfl ?_
                  refine GO.aload dX1_judge_118 rfl ?_
                  refine GO.iload dX1_judge_120 rfl ?_
                  refine GO.callV (ci := 1) (N := mX1_holds) dX1_judge_122 (RX1, TX1, 13) rfl gV_RX1_139 h_x (t_X1_holds h_x h28434 r_i28444) rfl [] rfl rfl (Nat.le_of_ble_eq_true rfl) rfl (k_is fun X31528 V31532 r31529 h31530 hF31531 => ?_)
                  refine GO.goto (tgt := 135) dX1_judge_125 (by decide) ?_
                  refine GO.istore (ls1 := [some (.ref x), some (.ref p0), some (ti p1), some (ti p2), some (ti p3), some (ti i5), some (.ref o28433), some (ti i28444), some (.null), some (ti X31528), none]) dX1_judge_135 rfl rfl ?_
                  refine GO.iload dX1_judge_137 rfl ?_
                  refine GO.bipush dX1_judge_139 rfl ?_
                  have hj31539 : ∀ (z31538 : Int), ∀ (l31540 : (-2147483648) ≤ z31538), ∀ (u31541 : z31538 ≤ 2147483647), GO mX1_judge K V (IS K (fun X V1 => True)) K V31532 0 0 169 [some (.ref x), some (.ref p0), some (ti p1), some (ti p2), some (ti p3), some (ti i5), some (.ref o28433), some (ti i28444), some (.null), some (ti X31528), none] [ti z31538] := by
                    intro z31538 l31540 u31541
                    have r31542 : ir z31538 := ⟨by omega, by omega⟩
                    refine GO.istore (ls1 := [some (.ref x), some (.ref p0), some (ti p1), some (ti p2), some (ti p3), some (ti i5), some (.ref o28433), some (ti i28444), some (.null), some (ti X31528), some (ti z31538)]) dX1_judge_169 rfl rfl ?_
                    refine GO.iload dX1_judge_171 rfl ?_
                    refine GO.if_eq (tgt := 191) dX1_judge_173 (by decide) r31542 (fun c31543 => ?_) (fun c31543 => ?_)
                    ·
                      refine GO.iinc (X := i28444) (n := 1) (Y := i28444 + 1) (ls1 := [some (.ref x), some (.ref p0), some (ti p1), some (ti p2), some (ti p3), some (ti i5), some (.ref o28433), some (ti (i28444 + 1)), some (.null), some (ti X31528), some (ti z31538)]) dX1_judge_191 rfl rfl rfl rfl ?_
                      refine GO.goto (tgt := 53) dX1_judge_194 (by decide) ?_
                      refine GO.drop [true, true, true, true, true, true, true, true, false, false, false] rfl ?_
                      have q31544 : -2147483648 ≤ vi Wi28444 (vq Wi28444 o28433 2) 3 ∧ vi Wi28444 (vq Wi28444 o28433 2) 3 ≤ 2147483647 := vi_ir
                      exact ih31469 (i28444 + 1) V31532 ⟨by omega, by omega, trivial⟩ (by show (2147483647 - (i28444 + 1)).toNat < (2147483647 - i28444).toNat; omega)
                    ·
                      refine GO.aload_n dX1_judge_176 rfl rfl ?_
                      refine GO.iload dX1_judge_177 rfl ?_
                      refine GO.putI h_x fp_RX1_55 rfl (by decide +kernel) r_i5 (r_i5).1 (r_i5).2 dX1_judge_179 (fun V31546 e31545 => ?_)
                      refine GO.aload_n dX1_judge_182 rfl rfl ?_
                      refine GO.iload dX1_judge_183 rfl ?_
                      refine GO.putI h_x fp_RX1_58 rfl (by decide +kernel) r_i28444 (r_i28444).1 (r_i28444).2 dX1_judge_185 (fun V31548 e31547 => ?_)
                      refine GO.iload dX1_judge_188 rfl ?_
                      exact GO.reti rfl rfl dX1_judge_190 ⟨rfl, _, rfl, r31542, trivial⟩
                  refine GO.icmp_ne (tgt := 149) dX1_judge_141 (by decide) r31529 (ir_c rfl) (fun c31549 => ?_) (fun c31549 => ?_)
                  ·
                    refine GO.iload dX1_judge_149 rfl ?_
                    refine GO.if_ne (tgt := 158) dX1_judge_151 (by decide) r31529 (fun c31550 => ?_) (fun c31550 => ?_)
                    ·
                      refine GO.aload dX1_judge_158 rfl ?_
                      refine GO.iload dX1_judge_160 rfl ?_
                      refine GO.aload_n dX1_judge_162 rfl rfl ?_
                      refine GO.iload_n dX1_judge_163 rfl rfl ?_
                      refine GO.iload dX1_judge_164 rfl ?_
                      refine GO.callS (N := mX1_bar) dX1_judge_166 gS_RX1_143 (t_X1_bar h28434 r_i28444 h_p0 r_p1 r_p3 (by omega)) rfl [] rfl rfl (Nat.le_of_ble_eq_true rfl) rfl (k_ip fun X31551 r31552 h31553 => ?_)
                      have q31554 : -2147483648 ≤ X31551 ∧ X31551 ≤ 2147483647 := r31552
                      exact hj31539 X31551 (by omega) (by omega)
                    ·
                      refine GO.iconst dX1_judge_154 ?_
                      refine GO.goto (tgt := 169) dX1_judge_155 (by decide) ?_
                      exact hj31539 0 (by omega) (by omega)
                  ·
                    refine GO.bipush dX1_judge_144 rfl ?_
                    refine GO.goto (tgt := 169) dX1_judge_146 (by decide) ?_
                    exact hj31539 6 (by omega) (by omega)
                ·
                  refine GO.goto (tgt := 110) dX1_judge_106 (by decide) ?_
                  refine GO.astore (ls1 := [some (.ref x), some (.ref p0), some (ti p1), some (ti p2), some (ti p3), some (ti i5), some (.ref o28433), some (ti i28444), some (.ref o31520), none, none]) dX1_judge_110 rfl rfl ?_
                  refine GO.aload dX1_judge_112 rfl ?_
                  refine GO.ifnonnull (tgt := 128) dX1_judge_114 (by decide) ?_
                  refine GO.aload_n dX1_judge_128 rfl rfl ?_
                  refine GO.aload dX1_judge_129 rfl ?_
                  refine GO.iconst dX1_judge_131 ?_
                  refine GO.callV (ci := 1) (N := mX1_holds) dX1_judge_132 (RX1, TX1, 13) rfl gV_RX1_139 h_x (t_X1_holds h_x h31521 (ir_c rfl)) rfl [] rfl rfl (Nat.le_of_ble_eq_true rfl) rfl (k_is fun X31560 V31564 r31561 h31562 hF31563 => ?_)
                  refine GO.istore (ls1 := [some (.ref x), some (.ref p0), some (ti p1), some (ti p2), some (ti p3), some (ti i5), some (.ref o28433), some (ti i28444), some (.ref o31520), some (ti X31560), none]) dX1_judge_135 rfl rfl ?_
                  refine GO.iload dX1_judge_137 rfl ?_
                  refine GO.bipush dX1_judge_139 rfl ?_
                  have hj31571 : ∀ (z31570 : Int), ∀ (l31572 : (-2147483648) ≤ z31570), ∀ (u31573 : z31570 ≤ 2147483647), GO mX1_judge K V (IS K (fun X V1 => True)) K V31564 0 0 169 [some (.ref x), some (.ref p0), some (ti p1), some (ti p2), some (ti p3), some (ti i5), some (.ref o28433), some (ti i28444), some (.ref o31520), some (ti X31560), none] [ti z31570] := by
                    intro z31570 l31572 u31573
                    have r31574 : ir z31570 := ⟨by omega, by omega⟩
                    refine GO.istore (ls1 := [some (.ref x), some (.ref p0), some (ti p1), some (ti p2), some (ti p3), some (ti i5), some (.ref o28433), some (ti i28444), some (.ref o31520), some (ti X31560), some (ti z31570)]) dX1_judge_169 rfl rfl ?_
                    refine GO.iload dX1_judge_171 rfl ?_
                    refine GO.if_eq (tgt := 191) dX1_judge_173 (by decide) r31574 (fun c31575 => ?_) (fun c31575 => ?_)
                    ·
                      refine GO.iinc (X := i28444) (n := 1) (Y := i28444 + 1) (ls1 := [some (.ref x), some (.ref p0), some (ti p1), some (ti p2), some (ti p3), some (ti i5), some (.ref o28433), some (ti (i28444 + 1)), some (.ref o31520), some (ti X31560), some (ti z31570)]) dX1_judge_191 rfl rfl rfl rfl ?_
                      refine GO.goto (tgt := 53) dX1_judge_194 (by decide) ?_
                      refine GO.drop [true, true, true, true, true, true, true, true, false, false, false] rfl ?_
                      have q31576 : -2147483648 ≤ vi Wi28444 (vq Wi28444 o28433 2) 3 ∧ vi Wi28444 (vq Wi28444 o28433 2) 3 ≤ 2147483647 := vi_ir
                      exact ih31469 (i28444 + 1) V31564 ⟨by omega, by omega, trivial⟩ (by show (2147483647 - (i28444 + 1)).toNat < (2147483647 - i28444).toNat; omega)
                    ·
                      refine GO.aload_n dX1_judge_176 rfl rfl ?_
                      refine GO.iload dX1_judge_177 rfl ?_
                      refine GO.putI h_x fp_RX1_55 rfl (by decide +kernel) r_i5 (r_i5).1 (r_i5).2 dX1_judge_179 (fun V31578 e31577 => ?_)
                      refine GO.aload_n dX1_judge_182 rfl rfl ?_
                      refine GO.iload dX1_judge_183 rfl ?_
                      refine GO.putI h_x fp_RX1_58 rfl (by decide +kernel) r_i28444 (r_i28444).1 (r_i28444).2 dX1_judge_185 (fun V31580 e31579 => ?_)
                      refine GO.iload dX1_judge_188 rfl ?_
                      exact GO.reti rfl rfl dX1_judge_190 ⟨rfl, _, rfl, r31574, trivial⟩
                  refine GO.icmp_ne (tgt := 149) dX1_judge_141 (by decide) r31561 (ir_c rfl) (fun c31581 => ?_) (fun c31581 => ?_)
                  ·
                    refine GO.iload dX1_judge_149 rfl ?_
                    refine GO.if_ne (tgt := 158) dX1_judge_151 (by decide) r31561 (fun c31582 => ?_) (fun c31582 => ?_)
                    ·
                      refine GO.aload dX1_judge_158 rfl ?_
                      refine GO.iload dX1_judge_160 rfl ?_
                      refine GO.aload_n dX1_judge_162 rfl rfl ?_
                      refine GO.iload_n dX1_judge_163 rfl rfl ?_
                      refine GO.iload dX1_judge_164 rfl ?_
                      refine GO.callS (N := mX1_bar) dX1_judge_166 gS_RX1_143 (t_X1_bar h28434 r_i28444 h_p0 r_p1 r_p3 (by omega)) rfl [] rfl rfl (Nat.le_of_ble_eq_true rfl) rfl (k_ip fun X31583 r31584 h31585 => ?_)
                      have q31586 : -2147483648 ≤ X31583 ∧ X31583 ≤ 2147483647 := r31584
                      exact hj31571 X31583 (by omega) (by omega)
                    ·
                      refine GO.iconst dX1_judge_154 ?_
                      refine GO.goto (tgt := 169) dX1_judge_155 (by decide) ?_
                      exact hj31571 0 (by omega) (by omega)
                  ·
                    refine GO.bipush dX1_judge_144 rfl ?_
                    refine GO.goto (tgt := 169) dX1_judge_146 (by decide) ?_
                    exact hj31571 6 (by omega) (by omega)
            ·
              refine GO.goto (tgt := 191) dX1_judge_87 (by decide) ?_
              refine GO.iinc (X := i28444) (n := 1) (Y := i28444 + 1) (ls1 := [some (.ref x), some (.ref p0), some (ti p1), some (ti p2), some (ti p3), some (ti i5), some (.ref o28433), some (ti (i28444 + 1)), none, none, none]) dX1_judge_191 rfl rfl rfl rfl ?_
              refine GO.goto (tgt := 53) dX1_judge_194 (by decide) ?_
              have q31587 : -2147483648 ≤ vi Wi28444 (vq Wi28444 o28433 2) 3 ∧ vi Wi28444 (vq Wi28444 o28433 2) 3 ≤ 2147483647 := vi_ir
              exact ih31469 (i28444 + 1) Wi28444 ⟨by omega, by omega, trivial⟩ (by show (2147483647 - (i28444 + 1)).toNat < (2147483647 - i28444).toNat; omega)
      ·
        refine GO.goto (tgt := 197) dX1_judge_47 (by decide) ?_
        refine GO.iinc (X := i5) (n := 1) (Y := i5 + 1) (ls1 := [some (.ref x), some (.ref p0), some (ti p1), some (ti p2), some (ti p3), some (ti (i5 + 1)), some (.ref o28433), none, none, none, none]) dX1_judge_197 rfl rfl rfl rfl ?_
        refine GO.goto (tgt := 13) dX1_judge_200 (by decide) ?_
        refine GO.drop [true, true, true, true, true, true, false, true, true, true, true] rfl ?_
        exact ih28428 (i5 + 1) Wi5 ⟨by omega, by omega, trivial⟩ (by show (2147483647 - (i5 + 1)).toNat < (2147483647 - i5).toNat; omega)
