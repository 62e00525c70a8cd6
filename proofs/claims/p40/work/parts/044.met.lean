def mX6_hasStation : MRec := (RX6, cX6_hasStation, 3, (some .boolean), yX6_hasStation, 1, 24, 0, 0, 0)
def mX6_needs : MRec := (RX6, cX6_needs, 3, (some .int), yX6_needs, 1, 24, 0, 0, 0)
def mX6_leastAhead : MRec := (RX6, cX6_leastAhead, 6, (some .int), yX6_leastAhead, 1, 21, 0, 0, 0)
def mX6_lookAhead : MRec := (RX6, cX6_lookAhead, 3, (none : Option Jvm.ClassFile.FieldType), yX6_lookAhead, 2, 46, 0, 0, 3794275180128377091639574036764685364535950857523710002444946112771297432041422848)
def mX6_comes : MRec := (RX6, cX6_comes, 10, (some .boolean), yX6_comes, 1, 22, 0, 0, 3794275180128377091639574036764685364535950857523710002444946112771297432041422848)
def mX6_keep : MRec := (RX6, cX6_keep, 3, (none : Option Jvm.ClassFile.FieldType), yX6_keep, 1, 22, 0, 0, 3794275180128377091639574036764685364535950857523710002444946121994669468896198656)
def mX6_goOn_0 : MRec := (RX6, cX6_goOn, 3, (none : Option Jvm.ClassFile.FieldType), yX6_goOn, 2, 44, 0, 0, 3794275180128377091639574036764685364535950857523710002444946121994669468896198656)
def mX6_extend_1 : MRec := (RX6, cX6_extend, 4, (none : Option Jvm.ClassFile.FieldType), yX6_extend, 3, 66, 0, 0, 3794275180128377091639574036764685364535950857523710002444946121994669468896198656)
def mX6_goOn_1 : MRec := (RX6, cX6_goOn, 3, (none : Option Jvm.ClassFile.FieldType), yX6_goOn, 4, 89, 0, 0, 3794275180128377091639574036764685364535950857523710002444946121994669468896198656)
def mX6_extend_2 : MRec := (RX6, cX6_extend, 4, (none : Option Jvm.ClassFile.FieldType), yX6_extend, 5, 111, 0, 0, 3794275180128377091639574036764685364535950857523710002444946121994669468896198656)
def mX6_goOn_2 : MRec := (RX6, cX6_goOn, 3, (none : Option Jvm.ClassFile.FieldType), yX6_goOn, 6, 134, 0, 0, 3794275180128377091639574036764685364535950857523710002444946121994669468896198656)
def mX6_extend_3 : MRec := (RX6, cX6_extend, 4, (none : Option Jvm.ClassFile.FieldType), yX6_extend, 7, 156, 0, 0, 3794275180128377091639574036764685364535950857523710002444946121994669468896198656)
def mX6_goOn_3 : MRec := (RX6, cX6_goOn, 3, (none : Option Jvm.ClassFile.FieldType), yX6_goOn, 8, 179, 0, 0, 3794275180128377091639574036764685364535950857523710002444946121994669468896198656)
set_option maxHeartbeats 1000000 in
theorem t_X6_hasStation {K : Kmap} {V : Vmap} {x : Nat} {p0 : Int} (h_x : K x = some (0, 5)) (r_p0 : ir p0) : MC mX6_hasStation K V [.ref x, ti p0] (IP K V (fun X => (X = 0 ∨ X = 1) ∧ (X ≠ 0 → True) ∧ (X = 0 → True))) := by
  refine MC.start 1 (by decide +kernel) rfl rfl rfl (ls0 := [some (.ref x), some (ti p0), none]) rfl ?_
  refine GO.iconst dX6_hasStation_0 ?_
  refine GO.istore_n (ls1 := [some (.ref x), some (ti p0), some (ti 0)]) dX6_hasStation_1 rfl rfl rfl ?_
  refine GO.loop1 (fun i1 W => 0 ≤ i1 ∧ i1 ≤ 8 ∧ V = W) (fun i1 => [some (.ref x), some (ti p0), some (ti i1)]) (fun i1 W => (2147483647 - i1).toNat) 0 ⟨by omega, by omega, rfl⟩ rfl (fun i1 V57 hp59 ih58 => ?_)
  obtain ⟨l_i1, u_i1, rfl⟩ := hp59
  have r_i1 : ir i1 := ⟨by omega, by omega⟩
  show GO mX6_hasStation K V (IP K V (fun X => (X = 0 ∨ X = 1) ∧ (X ≠ 0 → True) ∧ (X = 0 → True))) K V 0 0 2 [some (.ref x), some (ti p0), some (ti i1)] []
  refine GO.iload_n dX6_hasStation_2 rfl rfl ?_
  refine GO.aload_n dX6_hasStation_3 rfl rfl ?_
  refine GO.getR h_x fl_RX6_14 rfl rfl dX6_hasStation_4 (fun hv61 h60 => ?_)
  refine GO.getI h60 fl_RX6_55_k24 rfl rfl dX6_hasStation_7 (fun l62 u63 => ?_)
  refine GO.icmp_ge (tgt := 34) dX6_hasStation_10 (by decide) r_i1 vi_ir (fun c64 => ?_) (fun c64 => ?_)
  ·
    refine GO.iconst dX6_hasStation_34 ?_
    exact GO.retz rfl rfl dX6_hasStation_35 (Or.inl rfl) ⟨rfl, rfl, _, rfl, (ir_c rfl), ⟨Or.inl rfl, fun _ => trivial, fun _ => trivial⟩⟩
  ·
    refine GO.aload_n dX6_hasStation_13 rfl rfl ?_
    refine GO.getRaw h_x fl_RX6_14 hv61 dX6_hasStation_14 ?_
    refine GO.iload_n dX6_hasStation_17 rfl rfl ?_
    refine GO.iconst dX6_hasStation_18 ?_
    refine GO.callV (ci := 24) (N := mX8_get_k24) dX6_hasStation_19 (RX8, TX8, 4) rfl gV_RX6_58 h60 (t_X8_get_k24 h60 r_i1 (ir_c rfl)) rfl [] rfl rfl (Nat.le_of_ble_eq_true rfl) rfl (k_ip fun X67 r68 h69 => ?_)
    refine GO.iload_n dX6_hasStation_22 rfl rfl ?_
    refine GO.icmp_ne (tgt := 28) dX6_hasStation_23 (by decide) r68 r_p0 (fun c70 => ?_) (fun c70 => ?_)
    ·
      refine GO.iinc (X := i1) (n := 1) (Y := i1 + 1) (ls1 := [some (.ref x), some (ti p0), some (ti (i1 + 1))]) dX6_hasStation_28 rfl rfl rfl rfl ?_
      refine GO.goto (tgt := 2) dX6_hasStation_31 (by decide) ?_
      exact ih58 (i1 + 1) V ⟨by omega, by omega, rfl⟩ (by show (2147483647 - (i1 + 1)).toNat < (2147483647 - i1).toNat; omega)
    ·
      refine GO.iconst dX6_hasStation_26 ?_
      exact GO.retz rfl rfl dX6_hasStation_27 (Or.inr rfl) ⟨rfl, rfl, _, rfl, (ir_c rfl), ⟨Or.inr rfl, fun _ => trivial, fun _ => trivial⟩⟩

set_option maxHeartbeats 1000000 in
theorem t_X6_needs {K : Kmap} {V : Vmap} {x : Nat} (h_x : K x = some (0, 5)) : MC mX6_needs K V [.ref x] (IP K V (fun X => True)) := by
  refine MC.start 2 (by decide +kernel) rfl rfl rfl (ls0 := [some (.ref x), none, none]) rfl ?_
  refine GO.iconst dX6_needs_0 ?_
  refine GO.istore_n (ls1 := [some (.ref x), some (ti 0), none]) dX6_needs_1 rfl rfl rfl ?_
  refine GO.iconst dX6_needs_2 ?_
  refine GO.istore_n (ls1 := [some (.ref x), some (ti 0), some (ti 0)]) dX6_needs_3 rfl rfl rfl ?_
  refine GO.loop2 (fun i1 i2 W => (-2147483648) ≤ i1 ∧ i1 ≤ 2147483647 ∧ 0 ≤ i2 ∧ i2 ≤ 8 ∧ V = W) (fun i1 i2 => [some (.ref x), some (ti i1), some (ti i2)]) (fun i1 i2 W => (2147483647 - i2).toNat) 0 0 ⟨by omega, by omega, by omega, by omega, rfl⟩ rfl (fun i1 i2 V327 hp329 ih328 => ?_)
  obtain ⟨l_i1, u_i1, l_i2, u_i2, rfl⟩ := hp329
  have r_i1 : ir i1 := ⟨by omega, by omega⟩
  have r_i2 : ir i2 := ⟨by omega, by omega⟩
  show GO mX6_needs K V (IP K V (fun X => True)) K V 0 0 4 [some (.ref x), some (ti i1), some (ti i2)] []
  refine GO.iload_n dX6_needs_4 rfl rfl ?_
  refine GO.aload_n dX6_needs_5 rfl rfl ?_
  refine GO.getR h_x fl_RX6_14 rfl rfl dX6_needs_6 (fun hv331 h330 => ?_)
  refine GO.getI h330 fl_RX6_55_k24 rfl rfl dX6_needs_9 (fun l332 u333 => ?_)
  refine GO.icmp_ge (tgt := 33) dX6_needs_12 (by decide) r_i2 vi_ir (fun c334 => ?_) (fun c334 => ?_)
  ·
    refine GO.iload_n dX6_needs_33 rfl rfl ?_
    exact GO.reti rfl rfl dX6_needs_34 ⟨rfl, rfl, _, rfl, r_i1, trivial⟩
  ·
    refine GO.iload_n dX6_needs_15 rfl rfl ?_
    refine GO.aload_n dX6_needs_16 rfl rfl ?_
    refine GO.getRaw h_x fl_RX6_14 hv331 dX6_needs_17 ?_
    refine GO.iload_n dX6_needs_20 rfl rfl ?_
    refine GO.iconst dX6_needs_21 ?_
    refine GO.callV (ci := 24) (N := mX8_get_k24) dX6_needs_22 (RX8, TX8, 4) rfl gV_RX6_58 h330 (t_X8_get_k24 h330 r_i2 (ir_c rfl)) rfl [ti i1] rfl rfl (Nat.le_of_ble_eq_true rfl) rfl (k_ip fun X337 r338 h339 => ?_)
    refine GO.iadd dX6_needs_25 ?_
    refine GO.norm (fun z340 r341 _ => ?_)
    refine GO.istore_n (ls1 := [some (.ref x), some (ti z340), some (ti i2)]) dX6_needs_26 rfl rfl rfl ?_
    refine GO.iinc (X := i2) (n := 1) (Y := i2 + 1) (ls1 := [some (.ref x), some (ti z340), some (ti (i2 + 1))]) dX6_needs_27 rfl rfl rfl rfl ?_
    refine GO.goto (tgt := 4) dX6_needs_30 (by decide) ?_
    have q342 : -2147483648 ≤ z340 ∧ z340 ≤ 2147483647 := r341
    exact ih328 z340 (i2 + 1) V ⟨by omega, by omega, by omega, by omega, rfl⟩ (by show (2147483647 - (i2 + 1)).toNat < (2147483647 - i2).toNat; omega)

set_option maxHeartbeats 1000000 in
theorem t_X6_leastAhead {K : Kmap} {V : Vmap} {x : Nat} {p0 : Int} {p1 : Int} (h_x : K x = some (0, 5)) (r_p0 : ir p0) (r_p1 : ir p1) : MC mX6_leastAhead K V [.ref x, ti p0, ti p1] (IP K V (fun X => True)) := by
  refine MC.start 3 (by decide +kernel) rfl rfl rfl (ls0 := [some (.ref x), some (ti p0), some (ti p1), none, none, none]) rfl ?_
  refine GO.iconst dX6_leastAhead_0 ?_
  refine GO.istore_n (ls1 := [some (.ref x), some (ti p0), some (ti p1), some (ti (-1)), none, none]) dX6_leastAhead_1 rfl rfl rfl ?_
  refine GO.iconst dX6_leastAhead_2 ?_
  refine GO.istore (ls1 := [some (.ref x), some (ti p0), some (ti p1), some (ti (-1)), some (ti 0), none]) dX6_leastAhead_3 rfl rfl ?_
  refine GO.loop2 (fun i1 i2 W => (-2147483648) ≤ i1 ∧ i1 ≤ 2147483647 ∧ 0 ≤ i2 ∧ i2 ≤ 8 ∧ V = W) (fun i1 i2 => [some (.ref x), some (ti p0), some (ti p1), some (ti i1), some (ti i2), none]) (fun i1 i2 W => (2147483647 - i2).toNat) (-1) 0 ⟨by omega, by omega, by omega, by omega, rfl⟩ rfl (fun i1 i2 V1036 hp1038 ih1037 => ?_)
  obtain ⟨l_i1, u_i1, l_i2, u_i2, rfl⟩ := hp1038
  have r_i1 : ir i1 := ⟨by omega, by omega⟩
  have r_i2 : ir i2 := ⟨by omega, by omega⟩
  show GO mX6_leastAhead K V (IP K V (fun X => True)) K V 0 0 5 [some (.ref x), some (ti p0), some (ti p1), some (ti i1), some (ti i2), none] []
  refine GO.iload dX6_leastAhead_5 rfl ?_
  refine GO.aload_n dX6_leastAhead_7 rfl rfl ?_
  refine GO.getR h_x fl_RX6_14 rfl rfl dX6_leastAhead_8 (fun hv1040 h1039 => ?_)
  refine GO.getI h1039 fl_RX6_55_k24 rfl rfl dX6_leastAhead_11 (fun l1041 u1042 => ?_)
  refine GO.icmp_ge (tgt := 90) dX6_leastAhead_14 (by decide) r_i2 vi_ir (fun c1043 => ?_) (fun c1043 => ?_)
  ·
    refine GO.iconst dX6_leastAhead_90 ?_
    refine GO.iload_n dX6_leastAhead_91 rfl rfl ?_
    refine GO.callS (N := mJ9_max_7cf53) dX6_leastAhead_92 gS_RX6_83 (t_J9_max_7cf53 (ir_c rfl) r_i1) rfl [] rfl rfl (Nat.le_of_ble_eq_true rfl) rfl (k_ip fun X1044 r1045 h1046 => ?_)
    have q1047 : -2147483648 ≤ X1044 ∧ X1044 ≤ 2147483647 := r1045
    exact GO.reti rfl rfl dX6_leastAhead_95 ⟨rfl, rfl, _, rfl, r1045, trivial⟩
  ·
    refine GO.iload_n dX6_leastAhead_17 rfl rfl ?_
    refine GO.iload dX6_leastAhead_18 rfl ?_
    refine GO.ishr dX6_leastAhead_20 ?_
    refine GO.iconst dX6_leastAhead_21 ?_
    refine GO.iand dX6_leastAhead_22 ?_
    refine GO.if_ne (tgt := 29) dX6_leastAhead_23 (by decide) wand_ir (fun c1048 => ?_) (fun c1048 => ?_)
    ·
      refine GO.aload_n dX6_leastAhead_29 rfl rfl ?_
      refine GO.getB h_x fl_RX6_27 rfl rfl dX6_leastAhead_30 (fun n1051 hv1050 h1049 b1052 => ?_)
      refine GO.iload_n dX6_leastAhead_33 rfl rfl ?_
      refine GO.bipush dX6_leastAhead_34 rfl ?_
      refine GO.imul dX6_leastAhead_36 ?_
      refine GO.norm (fun z1053 r1054 _ => ?_)
      refine GO.iload dX6_leastAhead_37 rfl ?_
      refine GO.iadd dX6_leastAhead_39 ?_
      refine GO.norm (fun z1055 r1056 _ => ?_)
      refine GO.callS (N := mX4_get) dX6_leastAhead_40 gS_RX6_75 (t_X4_get rfl h1049 r1056) rfl [] rfl rfl (Nat.le_of_ble_eq_true rfl) rfl (k_ip fun X1057 r1058 h1059 => ?_)
      refine GO.aload_n dX6_leastAhead_43 rfl rfl ?_
      refine GO.getB h_x fl_RX6_36 rfl rfl dX6_leastAhead_44 (fun n1062 hv1061 h1060 b1063 => ?_)
      refine GO.iload_n dX6_leastAhead_47 rfl rfl ?_
      refine GO.iconst dX6_leastAhead_48 ?_
      refine GO.iload dX6_leastAhead_49 rfl ?_
      refine GO.ishl dX6_leastAhead_51 ?_
      refine GO.iconst dX6_leastAhead_52 ?_
      refine GO.ixor dX6_leastAhead_53 ?_
      refine GO.iand dX6_leastAhead_54 ?_
      refine GO.bipush dX6_leastAhead_55 rfl ?_
      refine GO.imul dX6_leastAhead_57 ?_
      refine GO.norm (fun z1064 r1065 _ => ?_)
      refine GO.iload dX6_leastAhead_58 rfl ?_
      refine GO.iadd dX6_leastAhead_60 ?_
      refine GO.norm (fun z1066 r1067 _ => ?_)
      refine GO.callS (N := mX4_get) dX6_leastAhead_61 gS_RX6_75 (t_X4_get rfl h1060 r1067) rfl [ti X1057] rfl rfl (Nat.le_of_ble_eq_true rfl) rfl (k_ip fun X1068 r1069 h1070 => ?_)
      refine GO.iadd dX6_leastAhead_64 ?_
      refine GO.norm (fun z1071 r1072 _ => ?_)
      refine GO.istore (ls1 := [some (.ref x), some (ti p0), some (ti p1), some (ti i1), some (ti i2), some (ti z1071)]) dX6_leastAhead_65 rfl rfl ?_
      refine GO.iload_n dX6_leastAhead_67 rfl rfl ?_
      refine GO.iconst dX6_leastAhead_68 ?_
      refine GO.icmp_ne (tgt := 77) dX6_leastAhead_69 (by decide) r_i1 (ir_c rfl) (fun c1073 => ?_) (fun c1073 => ?_)
      ·
        refine GO.iload_n dX6_leastAhead_77 rfl rfl ?_
        refine GO.iload dX6_leastAhead_78 rfl ?_
        refine GO.callS (N := mJ9_min_7cf53) dX6_leastAhead_80 gS_RX6_78 (t_J9_min_7cf53 r_i1 r1072) rfl [] rfl rfl (Nat.le_of_ble_eq_true rfl) rfl (k_ip fun X1074 r1075 h1076 => ?_)
        have q1077 : -2147483648 ≤ z1071 ∧ z1071 ≤ 2147483647 := r1072
        have q1078 : -2147483648 ≤ X1074 ∧ X1074 ≤ 2147483647 := r1075
        refine GO.istore_n (ls1 := [some (.ref x), some (ti p0), some (ti p1), some (ti X1074), some (ti i2), some (ti z1071)]) dX6_leastAhead_83 rfl rfl rfl ?_
        refine GO.iinc (X := i2) (n := 1) (Y := i2 + 1) (ls1 := [some (.ref x), some (ti p0), some (ti p1), some (ti X1074), some (ti (i2 + 1)), some (ti z1071)]) dX6_leastAhead_84 rfl rfl rfl rfl ?_
        refine GO.goto (tgt := 5) dX6_leastAhead_87 (by decide) ?_
        refine GO.drop [true, true, true, true, true, false] rfl ?_
        exact ih1037 X1074 (i2 + 1) V ⟨by omega, by omega, by omega, by omega, rfl⟩ (by show (2147483647 - (i2 + 1)).toNat < (2147483647 - i2).toNat; omega)
      ·
        refine GO.iload dX6_leastAhead_72 rfl ?_
        refine GO.goto (tgt := 83) dX6_leastAhead_74 (by decide) ?_
        refine GO.istore_n (ls1 := [some (.ref x), some (ti p0), some (ti p1), some (ti z1071), some (ti i2), some (ti z1071)]) dX6_leastAhead_83 rfl rfl rfl ?_
        refine GO.iinc (X := i2) (n := 1) (Y := i2 + 1) (ls1 := [some (.ref x), some (ti p0), some (ti p1), some (ti z1071), some (ti (i2 + 1)), some (ti z1071)]) dX6_leastAhead_84 rfl rfl rfl rfl ?_
        refine GO.goto (tgt := 5) dX6_leastAhead_87 (by decide) ?_
        refine GO.drop [true, true, true, true, true, false] rfl ?_
        have q1079 : -2147483648 ≤ z1071 ∧ z1071 ≤ 2147483647 := r1072
        exact ih1037 z1071 (i2 + 1) V ⟨by omega, by omega, by omega, by omega, rfl⟩ (by show (2147483647 - (i2 + 1)).toNat < (2147483647 - i2).toNat; omega)
    ·
      refine GO.goto (tgt := 84) dX6_leastAhead_26 (by decide) ?_
      refine GO.iinc (X := i2) (n := 1) (Y := i2 + 1) (ls1 := [some (.ref x), some (ti p0), some (ti p1), some (ti i1), some (ti (i2 + 1)), none]) dX6_leastAhead_84 rfl rfl rfl rfl ?_
      refine GO.goto (tgt := 5) dX6_leastAhead_87 (by decide) ?_
      exact ih1037 i1 (i2 + 1) V ⟨by omega, by omega, by omega, by omega, rfl⟩ (by show (2147483647 - (i2 + 1)).toNat < (2147483647 - i2).toNat; omega)

set_option maxHeartbeats 1000000 in
theorem t_X6_lookAhead {K : Kmap} {V : Vmap} {x : Nat} (h_x : K x = some (0, 5)) : MC mX6_lookAhead K V [.ref x] (VS K (fun V1 => (True))) := by
  refine MC.start 2 (by decide +kernel) rfl rfl rfl (ls0 := [some (.ref x), none, none]) rfl ?_
  refine GO.iconst dX6_lookAhead_0 ?_
  refine GO.istore_n (ls1 := [some (.ref x), some (ti 1), none]) dX6_lookAhead_1 rfl rfl rfl ?_
  refine GO.loop1 (fun i1 W => 1 ≤ i1 ∧ i1 ≤ 2147483647 ∧ True) (fun i1 => [some (.ref x), some (ti i1), none]) (fun i1 W => (2147483647 - i1).toNat) 1 ⟨by omega, by omega, trivial⟩ rfl (fun i1 Wi1 hp2724 ih2723 => ?_)
  obtain ⟨l_i1, u_i1, -⟩ := hp2724
  have r_i1 : ir i1 := ⟨by omega, by omega⟩
  show GO mX6_lookAhead K V (VS K (fun V1 => (True))) K Wi1 0 0 2 [some (.ref x), some (ti i1), none] []
  refine GO.iload_n dX6_lookAhead_2 rfl rfl ?_
  refine GO.iconst dX6_lookAhead_3 ?_
  refine GO.aload_n dX6_lookAhead_4 rfl rfl ?_
  refine GO.getR h_x fl_RX6_14 rfl rfl dX6_lookAhead_5 (fun hv2726 h2725 => ?_)
  refine GO.getI h2725 fl_RX6_55_k24 rfl rfl dX6_lookAhead_8 (fun l2727 u2728 => ?_)
  refine GO.ishl dX6_lookAhead_11 ?_
  refine GO.icmp_ge (tgt := 59) dX6_lookAhead_12 (by decide) r_i1 wshl_ir (fun c2729 => ?_) (fun c2729 => ?_)
  ·
    exact GO.retv rfl rfl dX6_lookAhead_59 ⟨rfl, rfl, trivial⟩
  ·
    refine GO.iconst dX6_lookAhead_15 ?_
    refine GO.istore_n (ls1 := [some (.ref x), some (ti i1), some (ti 0)]) dX6_lookAhead_16 rfl rfl rfl ?_
    refine GO.loop1 (fun i2730 W => 0 ≤ i2730 ∧ i2730 ≤ 8 ∧ True) (fun i2730 => [some (.ref x), some (ti i1), some (ti i2730)]) (fun i2730 W => (2147483647 - i2730).toNat) 0 ⟨by omega, by omega, trivial⟩ rfl (fun i2730 Wi2730 hp2826 ih2825 => ?_)
    obtain ⟨l_i2730, u_i2730, -⟩ := hp2826
    have r_i2730 : ir i2730 := ⟨by omega, by omega⟩
    show GO mX6_lookAhead K V (VS K (fun V1 => (True))) K Wi2730 0 0 17 [some (.ref x), some (ti i1), some (ti i2730)] []
    refine GO.iload_n dX6_lookAhead_17 rfl rfl ?_
    refine GO.aload_n dX6_lookAhead_18 rfl rfl ?_
    refine GO.getR h_x fl_RX6_14 rfl rfl dX6_lookAhead_19 (fun hv2828 h2827 => ?_)
    refine GO.getI h2827 fl_RX6_55_k24 rfl rfl dX6_lookAhead_22 (fun l2829 u2830 => ?_)
    refine GO.icmp_ge (tgt := 53) dX6_lookAhead_25 (by decide) r_i2730 vi_ir (fun c2831 => ?_) (fun c2831 => ?_)
    ·
      refine GO.iinc (X := i1) (n := 1) (Y := i1 + 1) (ls1 := [some (.ref x), some (ti (i1 + 1)), some (ti i2730)]) dX6_lookAhead_53 rfl rfl rfl rfl ?_
      refine GO.goto (tgt := 2) dX6_lookAhead_56 (by decide) ?_
      refine GO.drop [true, true, false] rfl ?_
      have q2832 : -2147483648 ≤ wshl 1 (vi Wi1 (vq Wi1 x 0) 3) ∧ wshl 1 (vi Wi1 (vq Wi1 x 0) 3) ≤ 2147483647 := wshl_ir
      exact ih2723 (i1 + 1) Wi2730 ⟨by omega, by omega, trivial⟩ (by show (2147483647 - (i1 + 1)).toNat < (2147483647 - i1).toNat; omega)
    ·
      refine GO.aload_n dX6_lookAhead_28 rfl rfl ?_
      refine GO.getB h_x fl_RX6_36 rfl rfl dX6_lookAhead_29 (fun n2835 hv2834 h2833 b2836 => ?_)
      refine GO.iload_n dX6_lookAhead_32 rfl rfl ?_
      refine GO.bipush dX6_lookAhead_33 rfl ?_
      refine GO.imul dX6_lookAhead_35 ?_
      refine GO.norm (fun z2837 r2838 _ => ?_)
      refine GO.iload_n dX6_lookAhead_36 rfl rfl ?_
      refine GO.iadd dX6_lookAhead_37 ?_
      refine GO.norm (fun z2839 r2840 _ => ?_)
      refine GO.aload_n dX6_lookAhead_38 rfl rfl ?_
      refine GO.iload_n dX6_lookAhead_39 rfl rfl ?_
      refine GO.iload_n dX6_lookAhead_40 rfl rfl ?_
      refine GO.callV (ci := 5) (N := mX6_leastAhead) dX6_lookAhead_41 (RX6, TX6, 10) rfl gV_RX6_68 h_x (t_X6_leastAhead h_x r_i1 r_i2730) rfl [ti z2839, .ref (vq Wi2730 x 6)] rfl rfl (Nat.le_of_ble_eq_true rfl) rfl (k_ip fun X2841 r2842 h2843 => ?_)
      refine GO.callS (N := mX4_put) dX6_lookAhead_44 gS_RX6_71 (t_X4_put h2833 r2840 r2842) rfl [] rfl rfl (Nat.le_of_ble_eq_true rfl) rfl (k_vs fun V2846 h2845 hF2844 => ?_)
      refine GO.iinc (X := i2730) (n := 1) (Y := i2730 + 1) (ls1 := [some (.ref x), some (ti i1), some (ti (i2730 + 1))]) dX6_lookAhead_47 rfl rfl rfl rfl ?_
      refine GO.goto (tgt := 17) dX6_lookAhead_50 (by decide) ?_
      exact ih2825 (i2730 + 1) V2846 ⟨by omega, by omega, trivial⟩ (by show (2147483647 - (i2730 + 1)).toNat < (2147483647 - i2730).toNat; omega)

set_option maxHeartbeats 1000000 in
theorem t_X6_comes {K : Kmap} {V : Vmap} {x : Nat} {p0 : Int} {p1 : Int} {p2 : Int} (h_x : K x = some (0, 5)) (r_p0 : ir p0) (r_p1 : ir p1) (r_p2 : ir p2) : MC mX6_comes K V [.ref x, ti p0, ti p1, ti p2] (IS K (fun X V1 => (X = 0 ∨ X = 1) ∧ (X ≠ 0 → True) ∧ (X = 0 → True))) := by
  refine MC.start 6 (by decide +kernel) rfl rfl rfl (ls0 := [some (.ref x), some (ti p0), some (ti p1), some (ti p2), none, none, none, none, none, none]) rfl ?_
  refine GO.aload_n dX6_comes_0 rfl rfl ?_
  refine GO.getB h_x fl_RX6_27 rfl rfl dX6_comes_1 (fun n3 hv2 h1 b4 => ?_)
  refine GO.aload_n dX6_comes_4 rfl rfl ?_
  refine GO.getB h_x fl_RX6_33 rfl rfl dX6_comes_5 (fun n7 hv6 h5 b8 => ?_)
  refine GO.iload_n dX6_comes_8 rfl rfl ?_
  refine GO.iconst dX6_comes_9 ?_
  refine GO.isub dX6_comes_10 ?_
  refine GO.norm (fun z9 r10 _ => ?_)
  refine GO.callS (N := mX4_get) dX6_comes_11 gS_RX6_75 (t_X4_get rfl h5 r10) rfl [.ref (vq V x 3)] rfl rfl (Nat.le_of_ble_eq_true rfl) rfl (k_ip fun X11 r12 h13 => ?_)
  refine GO.bipush dX6_comes_14 rfl ?_
  refine GO.imul dX6_comes_16 ?_
  refine GO.norm (fun z14 r15 _ => ?_)
  refine GO.iload_n dX6_comes_17 rfl rfl ?_
  refine GO.iadd dX6_comes_18 ?_
  refine GO.norm (fun z16 r17 _ => ?_)
  refine GO.callS (N := mX4_get) dX6_comes_19 gS_RX6_75 (t_X4_get rfl h1 r17) rfl [] rfl rfl (Nat.le_of_ble_eq_true rfl) rfl (k_ip fun X18 r19 h20 => ?_)
  refine GO.istore (ls1 := [some (.ref x), some (ti p0), some (ti p1), some (ti p2), some (ti X18), none, none, none, none, none]) dX6_comes_22 rfl rfl ?_
  refine GO.iconst dX6_comes_24 ?_
  refine GO.aload_n dX6_comes_25 rfl rfl ?_
  refine GO.getR h_x fl_RX6_14 rfl rfl dX6_comes_26 (fun hv22 h21 => ?_)
  refine GO.getI h21 fl_RX6_55_k24 rfl rfl dX6_comes_29 (fun l23 u24 => ?_)
  refine GO.ishl dX6_comes_32 ?_
  refine GO.iconst dX6_comes_33 ?_
  refine GO.isub dX6_comes_34 ?_
  refine GO.norm (fun z25 r26 _ => ?_)
  refine GO.iload_n dX6_comes_35 rfl rfl ?_
  refine GO.iconst dX6_comes_36 ?_
  refine GO.ixor dX6_comes_37 ?_
  refine GO.iand dX6_comes_38 ?_
  refine GO.name (fun z27 hz28 => ?_)
  have r29 : ir z27 := hz28 ▸ wand_ir
  refine GO.istore (ls1 := [some (.ref x), some (ti p0), some (ti p1), some (ti p2), some (ti X18), some (ti z27), none, none, none, none]) dX6_comes_39 rfl rfl ?_
  refine GO.aload_n dX6_comes_41 rfl rfl ?_
  refine GO.getB h_x fl_RX6_36 rfl rfl dX6_comes_42 (fun n32 hv31 h30 b33 => ?_)
  refine GO.iload dX6_comes_45 rfl ?_
  refine GO.bipush dX6_comes_47 rfl ?_
  refine GO.imul dX6_comes_49 ?_
  refine GO.norm (fun z34 r35 _ => ?_)
  refine GO.iload_n dX6_comes_50 rfl rfl ?_
  refine GO.iadd dX6_comes_51 ?_
  refine GO.norm (fun z36 r37 _ => ?_)
  refine GO.callS (N := mX4_get) dX6_comes_52 gS_RX6_75 (t_X4_get rfl h30 r37) rfl [] rfl rfl (Nat.le_of_ble_eq_true rfl) rfl (k_ip fun X38 r39 h40 => ?_)
  refine GO.istore (ls1 := [some (.ref x), some (ti p0), some (ti p1), some (ti p2), some (ti X18), some (ti z27), some (ti X38), none, none, none]) dX6_comes_55 rfl rfl ?_
  refine GO.iconst dX6_comes_57 ?_
  refine GO.istore (ls1 := [some (.ref x), some (ti p0), some (ti p1), some (ti p2), some (ti X18), some (ti z27), some (ti X38), some (ti 0), none, none]) dX6_comes_58 rfl rfl ?_
  refine GO.loop1 (fun i41 W => 0 ≤ i41 ∧ i41 ≤ 3 ∧ True) (fun i41 => [some (.ref x), some (ti p0), some (ti p1), some (ti p2), some (ti X18), some (ti z27), some (ti X38), some (ti i41), none, none]) (fun i41 W => (2147483647 - i41).toNat) 0 ⟨by omega, by omega, trivial⟩ rfl (fun i41 Wi41 hp306 ih305 => ?_)
  obtain ⟨l_i41, u_i41, -⟩ := hp306
  have r_i41 : ir i41 := ⟨by omega, by omega⟩
  show GO mX6_comes K V (IS K (fun X V1 => (X = 0 ∨ X = 1) ∧ (X ≠ 0 → True) ∧ (X = 0 → True))) K Wi41 0 0 60 [some (.ref x), some (ti p0), some (ti p1), some (ti p2), some (ti X18), some (ti z27), some (ti X38), some (ti i41), none, none] []
  refine GO.iload dX6_comes_60 rfl ?_
  refine GO.iconst dX6_comes_62 ?_
  refine GO.icmp_ge (tgt := 180) dX6_comes_63 (by decide) r_i41 (ir_c rfl) (fun c307 => ?_) (fun c307 => ?_)
  ·
    refine GO.iconst dX6_comes_180 ?_
    exact GO.retz rfl rfl dX6_comes_181 (Or.inr rfl) ⟨rfl, _, rfl, (ir_c rfl), ⟨Or.inr rfl, fun _ => trivial, fun _ => trivial⟩⟩
  ·
    refine GO.iload_n dX6_comes_66 rfl rfl ?_
    have hj325 : ∀ (z324 : Int), ∀ (l326 : (-2147483648) ≤ z324), ∀ (u327 : z324 ≤ 2147483647), GO mX6_comes K V (IS K (fun X V1 => (X = 0 ∨ X = 1) ∧ (X ≠ 0 → True) ∧ (X = 0 → True))) K Wi41 0 0 95 [some (.ref x), some (ti p0), some (ti p1), some (ti p2), some (ti X18), some (ti z27), some (ti X38), some (ti i41), none, none] [ti z324] := by
      intro z324 l326 u327
      have r328 : ir z324 := ⟨by omega, by omega⟩
      refine GO.istore (ls1 := [some (.ref x), some (ti p0), some (ti p1), some (ti p2), some (ti X18), some (ti z27), some (ti X38), some (ti i41), some (ti z324), none]) dX6_comes_95 rfl rfl ?_
      refine GO.iload dX6_comes_97 rfl ?_
      refine GO.aload_n dX6_comes_99 rfl rfl ?_
      refine GO.getB h_x fl_RX6_20 rfl rfl dX6_comes_100 (fun n331 hv330 h329 b332 => ?_)
      refine GO.iload dX6_comes_103 rfl ?_
      refine GO.bipush dX6_comes_105 rfl ?_
      refine GO.imul dX6_comes_107 ?_
      refine GO.iload_n dX6_comes_108 rfl rfl ?_
      refine GO.iadd dX6_comes_109 ?_
      refine GO.norm (fun z333 r334 _ => ?_)
      refine GO.callS (N := mX4_get) dX6_comes_110 gS_RX6_75 (t_X4_get rfl h329 r334) rfl [ti z324] rfl rfl (Nat.le_of_ble_eq_true rfl) rfl (k_ip fun X335 r336 h337 => ?_)
      refine GO.callS (N := mJ9_max_7cf53) dX6_comes_113 gS_RX6_83 (t_J9_max_7cf53 r328 r336) rfl [] rfl rfl (Nat.le_of_ble_eq_true rfl) rfl (k_ip fun X338 r339 h340 => ?_)
      have q341 : -2147483648 ≤ X335 ∧ X335 ≤ 2147483647 := r336
      have q342 : -2147483648 ≤ X338 ∧ X338 ≤ 2147483647 := r339
      refine GO.istore (ls1 := [some (.ref x), some (ti p0), some (ti p1), some (ti p2), some (ti X18), some (ti z27), some (ti X38), some (ti i41), some (ti z324), some (ti X338)]) dX6_comes_116 rfl rfl ?_
      refine GO.iload dX6_comes_118 rfl ?_
      refine GO.aload_n dX6_comes_120 rfl rfl ?_
      refine GO.getB h_x fl_RX6_24 rfl rfl dX6_comes_121 (fun n345 hv344 h343 b346 => ?_)
      refine GO.iload dX6_comes_124 rfl ?_
      refine GO.bipush dX6_comes_126 rfl ?_
      refine GO.imul dX6_comes_128 ?_
      refine GO.iload_n dX6_comes_129 rfl rfl ?_
      refine GO.iadd dX6_comes_130 ?_
      refine GO.norm (fun z347 r348 _ => ?_)
      refine GO.callS (N := mX4_get) dX6_comes_131 gS_RX6_75 (t_X4_get rfl h343 r348) rfl [ti z324] rfl rfl (Nat.le_of_ble_eq_true rfl) rfl (k_ip fun X349 r350 h351 => ?_)
      refine GO.icmp_gt (tgt := 157) dX6_comes_134 (by decide) r328 r350 (fun c352 => ?_) (fun c352 => ?_)
      ·
        refine GO.iconst dX6_comes_157 ?_
        exact GO.retz rfl rfl dX6_comes_158 (Or.inl rfl) ⟨rfl, _, rfl, (ir_c rfl), ⟨Or.inl rfl, fun _ => trivial, fun _ => trivial⟩⟩
      ·
        refine GO.aload_n dX6_comes_137 rfl rfl ?_
        refine GO.getI h_x fl_RX6_46 rfl rfl dX6_comes_138 (fun _ _ => ?_)
        refine GO.iconst dX6_comes_141 ?_
        refine GO.icmp_eq (tgt := 159) dX6_comes_142 (by decide) vi_ir (ir_c rfl) (fun c353 => ?_) (fun c353 => ?_)
        ·
          refine GO.aload_n dX6_comes_159 rfl rfl ?_
          refine GO.getB h_x fl_RX6_30 rfl rfl dX6_comes_160 (fun n356 hv355 h354 b357 => ?_)
          refine GO.iload_n dX6_comes_163 rfl rfl ?_
          refine GO.iconst dX6_comes_164 ?_
          refine GO.imul dX6_comes_165 ?_
          refine GO.norm (fun z358 r359 _ => ?_)
          refine GO.iload dX6_comes_166 rfl ?_
          refine GO.iadd dX6_comes_168 ?_
          refine GO.norm (fun z360 r361 _ => ?_)
          refine GO.iload dX6_comes_169 rfl ?_
          refine GO.callS (N := mX4_put) dX6_comes_171 gS_RX6_71 (t_X4_put h354 r361 r339) rfl [] rfl rfl (Nat.le_of_ble_eq_true rfl) rfl (k_vs fun V364 h363 hF362 => ?_)
          refine GO.iinc (X := i41) (n := 1) (Y := i41 + 1) (ls1 := [some (.ref x), some (ti p0), some (ti p1), some (ti p2), some (ti X18), some (ti z27), some (ti X38), some (ti (i41 + 1)), some (ti z324), some (ti X338)]) dX6_comes_174 rfl rfl rfl rfl ?_
          refine GO.goto (tgt := 60) dX6_comes_177 (by decide) ?_
          refine GO.drop [true, true, true, true, true, true, true, true, false, false] rfl ?_
          exact ih305 (i41 + 1) V364 ⟨by omega, by omega, trivial⟩ (by show (2147483647 - (i41 + 1)).toNat < (2147483647 - i41).toNat; omega)
        ·
          refine GO.iload dX6_comes_145 rfl ?_
          refine GO.iload dX6_comes_147 rfl ?_
          refine GO.iadd dX6_comes_149 ?_
          refine GO.norm (fun z365 r366 _ => ?_)
          refine GO.aload_n dX6_comes_150 rfl rfl ?_
          refine GO.getI h_x fl_RX6_46 rfl rfl dX6_comes_151 (fun _ _ => ?_)
          refine GO.icmp_lt (tgt := 159) dX6_comes_154 (by decide) r366 vi_ir (fun c367 => ?_) (fun c367 => ?_)
          ·
            refine GO.aload_n dX6_comes_159 rfl rfl ?_
            refine GO.getB h_x fl_RX6_30 rfl rfl dX6_comes_160 (fun n370 hv369 h368 b371 => ?_)
            refine GO.iload_n dX6_comes_163 rfl rfl ?_
            refine GO.iconst dX6_comes_164 ?_
            refine GO.imul dX6_comes_165 ?_
            refine GO.norm (fun z372 r373 _ => ?_)
            refine GO.iload dX6_comes_166 rfl ?_
            refine GO.iadd dX6_comes_168 ?_
            refine GO.norm (fun z374 r375 _ => ?_)
            refine GO.iload dX6_comes_169 rfl ?_
            refine GO.callS (N := mX4_put) dX6_comes_171 gS_RX6_71 (t_X4_put h368 r375 r339) rfl [] rfl rfl (Nat.le_of_ble_eq_true rfl) rfl (k_vs fun V378 h377 hF376 => ?_)
            refine GO.iinc (X := i41) (n := 1) (Y := i41 + 1) (ls1 := [some (.ref x), some (ti p0), some (ti p1), some (ti p2), some (ti X18), some (ti z27), some (ti X38), some (ti (i41 + 1)), some (ti z324), some (ti X338)]) dX6_comes_174 rfl rfl rfl rfl ?_
            refine GO.goto (tgt := 60) dX6_comes_177 (by decide) ?_
            refine GO.drop [true, true, true, true, true, true, true, true, false, false] rfl ?_
            exact ih305 (i41 + 1) V378 ⟨by omega, by omega, trivial⟩ (by show (2147483647 - (i41 + 1)).toNat < (2147483647 - i41).toNat; omega)
          ·
            refine GO.iconst dX6_comes_157 ?_
            exact GO.retz rfl rfl dX6_comes_158 (Or.inl rfl) ⟨rfl, _, rfl, (ir_c rfl), ⟨Or.inl rfl, fun _ => trivial, fun _ => trivial⟩⟩
    refine GO.if_ne (tgt := 77) dX6_comes_67 (by decide) r_p0 (fun c379 => ?_) (fun c379 => ?_)
    ·
      refine GO.aload_n dX6_comes_77 rfl rfl ?_
      refine GO.getB h_x fl_RX6_30 rfl rfl dX6_comes_78 (fun n382 hv381 h380 b383 => ?_)
      refine GO.iload_n dX6_comes_81 rfl rfl ?_
      refine GO.iconst dX6_comes_82 ?_
      refine GO.isub dX6_comes_83 ?_
      refine GO.norm (fun z384 r385 _ => ?_)
      refine GO.iconst dX6_comes_84 ?_
      refine GO.imul dX6_comes_85 ?_
      refine GO.norm (fun z386 r387 _ => ?_)
      refine GO.iload dX6_comes_86 rfl ?_
      refine GO.iadd dX6_comes_88 ?_
      refine GO.norm (fun z388 r389 _ => ?_)
      refine GO.callS (N := mX4_get) dX6_comes_89 gS_RX6_75 (t_X4_get rfl h380 r389) rfl [] rfl rfl (Nat.le_of_ble_eq_true rfl) rfl (k_ip fun X390 r391 h392 => ?_)
      refine GO.iload dX6_comes_92 rfl ?_
      refine GO.iadd dX6_comes_94 ?_
      refine GO.norm (fun z393 r394 _ => ?_)
      have q395 : -2147483648 ≤ z393 ∧ z393 ≤ 2147483647 := r394
      exact hj325 z393 (by omega) (by omega)
    ·
      refine GO.aload_n dX6_comes_70 rfl rfl ?_
      refine GO.getI h_x fl_RX6_42 rfl rfl dX6_comes_71 (fun _ _ => ?_)
      refine GO.goto (tgt := 95) dX6_comes_74 (by decide) ?_
      have q396 : -2147483648 ≤ vi Wi41 x 8 ∧ vi Wi41 x 8 ≤ 2147483647 := vi_ir
      exact hj325 (vi Wi41 x 8) (by omega) (by omega)

set_option maxHeartbeats 1000000 in
theorem t_X6_keep {K : Kmap} {V : Vmap} {x : Nat} (h_x : K x = some (0, 5)) : MC mX6_keep K V [.ref x] (VS K (fun V1 => (True))) := by
  refine MC.start 2 (by decide +kernel) rfl rfl rfl (ls0 := [some (.ref x), none, none]) rfl ?_
  refine GO.aload_n dX6_keep_0 rfl rfl ?_
  refine GO.getR h_x fl_RX6_14 rfl rfl dX6_keep_1 (fun hv2 h1 => ?_)
  refine GO.getI h1 fl_RX6_55_k24 rfl rfl dX6_keep_4 (fun l3 u4 => ?_)
  refine GO.iconst dX6_keep_7 ?_
  refine GO.isub dX6_keep_8 ?_
  refine GO.name (fun z5 hz6 => ?_)
  refine GO.istore_n (ls1 := [some (.ref x), some (ti z5), none]) dX6_keep_9 rfl rfl rfl ?_
  refine GO.aload_n dX6_keep_10 rfl rfl ?_
  refine GO.iconst dX6_keep_11 ?_
  refine GO.putI h_x fp_RX6_46 rfl (by decide +kernel) (ir_c rfl) (by decide) (by decide) dX6_keep_12 (fun V8 e7 => ?_)
  refine GO.iconst dX6_keep_15 ?_
  refine GO.istore_n (ls1 := [some (.ref x), some (ti z5), some (ti 0)]) dX6_keep_16 rfl rfl rfl ?_
  refine GO.loop1 (fun i9 W => 0 ≤ i9 ∧ i9 ≤ 3 ∧ True) (fun i9 => [some (.ref x), some (ti z5), some (ti i9)]) (fun i9 W => (2147483647 - i9).toNat) 0 ⟨by omega, by omega, trivial⟩ rfl (fun i9 Wi9 hp176 ih175 => ?_)
  obtain ⟨l_i9, u_i9, -⟩ := hp176
  have r_i9 : ir i9 := ⟨by omega, by omega⟩
  show GO mX6_keep K V (VS K (fun V1 => (True))) K Wi9 0 0 17 [some (.ref x), some (ti z5), some (ti i9)] []
  refine GO.iload_n dX6_keep_17 rfl rfl ?_
  refine GO.iconst dX6_keep_18 ?_
  refine GO.icmp_ge (tgt := 51) dX6_keep_19 (by decide) r_i9 (ir_c rfl) (fun c177 => ?_) (fun c177 => ?_)
  ·
    refine GO.iconst dX6_keep_51 ?_
    refine GO.istore_n (ls1 := [some (.ref x), some (ti z5), some (ti 0)]) dX6_keep_52 rfl rfl rfl ?_
    refine GO.loop1 (fun i178 W => 0 ≤ i178 ∧ i178 ≤ 8 ∧ True) (fun i178 => [some (.ref x), some (ti z5), some (ti i178)]) (fun i178 W => (2147483647 - i178).toNat) 0 ⟨by omega, by omega, trivial⟩ rfl (fun i178 Wi178 hp275 ih274 => ?_)
    obtain ⟨l_i178, u_i178, -⟩ := hp275
    have r_i178 : ir i178 := ⟨by omega, by omega⟩
    show GO mX6_keep K V (VS K (fun V1 => (True))) K Wi178 0 0 53 [some (.ref x), some (ti z5), some (ti i178)] []
    refine GO.iload_n dX6_keep_53 rfl rfl ?_
    refine GO.aload_n dX6_keep_54 rfl rfl ?_
    refine GO.getR h_x fl_RX6_14 rfl rfl dX6_keep_55 (fun hv277 h276 => ?_)
    refine GO.getI h276 fl_RX6_55_k24 rfl rfl dX6_keep_58 (fun l278 u279 => ?_)
    refine GO.icmp_ge (tgt := 86) dX6_keep_61 (by decide) r_i178 vi_ir (fun c280 => ?_) (fun c280 => ?_)
    ·
      exact GO.retv rfl rfl dX6_keep_86 ⟨rfl, rfl, trivial⟩
    ·
      refine GO.aload_n dX6_keep_64 rfl rfl ?_
      refine GO.getB h_x fl_RX6_39 rfl rfl dX6_keep_65 (fun n283 hv282 h281 b284 => ?_)
      refine GO.iload_n dX6_keep_68 rfl rfl ?_
      refine GO.aload_n dX6_keep_69 rfl rfl ?_
      refine GO.getB h_x fl_RX6_33 rfl rfl dX6_keep_70 (fun n287 hv286 h285 b288 => ?_)
      refine GO.iload_n dX6_keep_73 rfl rfl ?_
      refine GO.callS (N := mX4_get) dX6_keep_74 gS_RX6_75 (t_X4_get rfl h285 r_i178) rfl [ti i178, .ref (vq Wi178 x 7)] rfl rfl (Nat.le_of_ble_eq_true rfl) rfl (k_ip fun X289 r290 h291 => ?_)
      refine GO.callS (N := mX4_put) dX6_keep_77 gS_RX6_71 (t_X4_put h281 r_i178 r290) rfl [] rfl rfl (Nat.le_of_ble_eq_true rfl) rfl (k_vs fun V294 h293 hF292 => ?_)
      refine GO.iinc (X := i178) (n := 1) (Y := i178 + 1) (ls1 := [some (.ref x), some (ti z5), some (ti (i178 + 1))]) dX6_keep_80 rfl rfl rfl rfl ?_
      refine GO.goto (tgt := 53) dX6_keep_83 (by decide) ?_
      exact ih274 (i178 + 1) V294 ⟨by omega, by omega, trivial⟩ (by show (2147483647 - (i178 + 1)).toNat < (2147483647 - i178).toNat; omega)
  ·
    refine GO.aload_n dX6_keep_22 rfl rfl ?_
    refine GO.aload_n dX6_keep_23 rfl rfl ?_
    refine GO.getI h_x fl_RX6_46 rfl rfl dX6_keep_24 (fun _ _ => ?_)
    refine GO.aload_n dX6_keep_27 rfl rfl ?_
    refine GO.getB h_x fl_RX6_30 rfl rfl dX6_keep_28 (fun n297 hv296 h295 b298 => ?_)
    refine GO.iload_n dX6_keep_31 rfl rfl ?_
    refine GO.iconst dX6_keep_32 ?_
    refine GO.imul dX6_keep_33 ?_
    refine GO.iload_n dX6_keep_34 rfl rfl ?_
    refine GO.iadd dX6_keep_35 ?_
    refine GO.callS (N := mX4_get) dX6_keep_36 gS_RX6_75 (t_X4_get rfl h295 ⟨by omega, by omega⟩) rfl [ti (vi Wi9 x 9), .ref x] rfl rfl (Nat.le_of_ble_eq_true rfl) rfl (k_ip fun X299 r300 h301 => ?_)
    refine GO.callS (N := mJ9_max_7cf53) dX6_keep_39 gS_RX6_83 (t_J9_max_7cf53 vi_ir r300) rfl [.ref x] rfl rfl (Nat.le_of_ble_eq_true rfl) rfl (k_ip fun X302 r303 h304 => ?_)
    have q305 : -2147483648 ≤ X299 ∧ X299 ≤ 2147483647 := r300
    have q306 : -2147483648 ≤ X302 ∧ X302 ≤ 2147483647 := r303
    have q307 : -2147483648 ≤ vi Wi9 x 9 ∧ vi Wi9 x 9 ≤ 2147483647 := vi_ir
    refine GO.putI h_x fp_RX6_46 rfl (by decide +kernel) r303 (r303).1 (r303).2 dX6_keep_42 (fun V309 e308 => ?_)
    refine GO.iinc (X := i9) (n := 1) (Y := i9 + 1) (ls1 := [some (.ref x), some (ti z5), some (ti (i9 + 1))]) dX6_keep_45 rfl rfl rfl rfl ?_
    refine GO.goto (tgt := 17) dX6_keep_48 (by decide) ?_
    exact ih175 (i9 + 1) V309 ⟨by omega, by omega, trivial⟩ (by show (2147483647 - (i9 + 1)).toNat < (2147483647 - i9).toNat; omega)

set_option maxHeartbeats 1000000 in
theorem t_X6_goOn_0_G {K : Kmap} {V : Vmap} {x : Nat} {p0 : Int} {p1 : Int} (h_x : K x = some (0, 5)) (r_p0 : ir p0) (r_p1 : ir p1) (q_0 : p0 ≥ 8) (q_1 : p0 ≤ 8) : MC mX6_goOn_0 K V [.ref x, ti p0, ti p1] (VS K (fun V1 => (True))) := by
  refine MC.start 0 (by decide +kernel) rfl rfl rfl (ls0 := [some (.ref x), some (ti p0), some (ti p1)]) rfl ?_
  refine GO.iload_n dX6_goOn_0 rfl rfl ?_
  refine GO.aload_n dX6_goOn_1 rfl rfl ?_
  refine GO.getR h_x fl_RX6_14 rfl rfl dX6_goOn_2 (fun hv2 h1 => ?_)
  refine GO.getI h1 fl_RX6_55_k24 rfl rfl dX6_goOn_5 (fun l3 u4 => ?_)
  have q6 : -2147483648 ≤ p0 ∧ p0 ≤ 2147483647 := r_p0
  refine GO.icmp_ge (tgt := 20) dX6_goOn_8 (by decide) r_p0 vi_ir (fun c5 => ?_) (fun h => by exfalso; omega)
  refine GO.aload_n dX6_goOn_20 rfl rfl ?_
  refine GO.callV (ci := 5) (N := mX6_keep) dX6_goOn_21 (RX6, TX6, 10) rfl gV_RX6_93 h_x (t_X6_keep h_x) rfl [] rfl rfl (Nat.le_of_ble_eq_true rfl) rfl (k_vs fun V9 h8 hF7 => ?_)
  exact GO.retv rfl rfl dX6_goOn_24 ⟨rfl, rfl, trivial⟩

theorem t_X6_goOn_0 {K : Kmap} {V : Vmap} {x : Nat} {p0 : Int} {p1 : Int} (h_x : K x = some (0, 5)) (r_p0 : ir p0) (r_p1 : ir p1) (q_0 : ((p0 ≥ 8 ∧ p0 ≤ 8))) : MC mX6_goOn_0 K V [.ref x, ti p0, ti p1] (VS K (fun V1 => (True))) := by
  exact t_X6_goOn_0_G h_x r_p0 r_p1 (by omega) (by omega)

set_option maxHeartbeats 1000000 in
theorem t_X6_extend_1_G {K : Kmap} {V : Vmap} {x : Nat} {p0 : Int} {p1 : Int} (h_x : K x = some (0, 5)) (r_p0 : ir p0) (r_p1 : ir p1) (q_0 : p0 ≥ 7) (q_1 : p0 ≤ 7) : MC mX6_extend_1 K V [.ref x, ti p0, ti p1] (VS K (fun V1 => (True))) := by
  refine MC.start 1 (by decide +kernel) rfl rfl rfl (ls0 := [some (.ref x), some (ti p0), some (ti p1), none]) rfl ?_
  refine GO.iconst dX6_extend_0 ?_
  refine GO.istore_n (ls1 := [some (.ref x), some (ti p0), some (ti p1), some (ti 0)]) dX6_extend_1 rfl rfl rfl ?_
  refine GO.loop1 (fun i1 W => 0 ≤ i1 ∧ i1 ≤ 8 ∧ True) (fun i1 => [some (.ref x), some (ti p0), some (ti p1), some (ti i1)]) (fun i1 W => (2147483647 - i1).toNat) 0 ⟨by omega, by omega, trivial⟩ rfl (fun i1 Wi1 hp118 ih117 => ?_)
  obtain ⟨l_i1, u_i1, -⟩ := hp118
  have r_i1 : ir i1 := ⟨by omega, by omega⟩
  show GO mX6_extend_1 K V (VS K (fun V1 => (True))) K Wi1 0 0 2 [some (.ref x), some (ti p0), some (ti p1), some (ti i1)] []
  refine GO.iload_n dX6_extend_2 rfl rfl ?_
  refine GO.aload_n dX6_extend_3 rfl rfl ?_
  refine GO.getR h_x fl_RX6_14 rfl rfl dX6_extend_4 (fun hv120 h119 => ?_)
  refine GO.getI h119 fl_RX6_55_k24 rfl rfl dX6_extend_7 (fun l121 u122 => ?_)
  refine GO.icmp_ge (tgt := 62) dX6_extend_10 (by decide) r_i1 vi_ir (fun c123 => ?_) (fun c123 => ?_)
  ·
    exact GO.retv rfl rfl dX6_extend_62 ⟨rfl, rfl, trivial⟩
  ·
    refine GO.iload_n dX6_extend_13 rfl rfl ?_
    refine GO.iload_n dX6_extend_14 rfl rfl ?_
    refine GO.ishr dX6_extend_15 ?_
    refine GO.iconst dX6_extend_16 ?_
    refine GO.iand dX6_extend_17 ?_
    refine GO.if_ne (tgt := 56) dX6_extend_18 (by decide) wand_ir (fun c124 => ?_) (fun c124 => ?_)
    ·
      refine GO.iinc (X := i1) (n := 1) (Y := i1 + 1) (ls1 := [some (.ref x), some (ti p0), some (ti p1), some (ti (i1 + 1))]) dX6_extend_56 rfl rfl rfl rfl ?_
      refine GO.goto (tgt := 2) dX6_extend_59 (by decide) ?_
      exact ih117 (i1 + 1) Wi1 ⟨by omega, by omega, trivial⟩ (by show (2147483647 - (i1 + 1)).toNat < (2147483647 - i1).toNat; omega)
    ·
      refine GO.aload_n dX6_extend_21 rfl rfl ?_
      refine GO.iload_n dX6_extend_22 rfl rfl ?_
      refine GO.iload_n dX6_extend_23 rfl rfl ?_
      refine GO.iload_n dX6_extend_24 rfl rfl ?_
      refine GO.iconst dX6_extend_25 ?_
      refine GO.iload_n dX6_extend_26 rfl rfl ?_
      refine GO.ishl dX6_extend_27 ?_
      refine GO.ior dX6_extend_28 ?_
      refine GO.callV (ci := 5) (N := mX6_comes) dX6_extend_29 (RX6, TX6, 10) rfl gV_RX6_86 h_x (t_X6_comes h_x r_p0 r_i1 wor_ir) rfl [] rfl rfl (Nat.le_of_ble_eq_true rfl) rfl (k_is fun X125 V129 r126 h127 hF128 => ?_)
      refine GO.if_eq (tgt := 56) dX6_extend_32 (by decide) r126 (fun c130 => ?_) (fun c130 => ?_)
      ·
        refine GO.iinc (X := i1) (n := 1) (Y := i1 + 1) (ls1 := [some (.ref x), some (ti p0), some (ti p1), some (ti (i1 + 1))]) dX6_extend_56 rfl rfl rfl rfl ?_
        refine GO.goto (tgt := 2) dX6_extend_59 (by decide) ?_
        exact ih117 (i1 + 1) V129 ⟨by omega, by omega, trivial⟩ (by show (2147483647 - (i1 + 1)).toNat < (2147483647 - i1).toNat; omega)
      ·
        refine GO.aload_n dX6_extend_35 rfl rfl ?_
        refine GO.getB h_x fl_RX6_33 rfl rfl dX6_extend_36 (fun n133 hv132 h131 b134 => ?_)
        refine GO.iload_n dX6_extend_39 rfl rfl ?_
        refine GO.iload_n dX6_extend_40 rfl rfl ?_
        refine GO.callS (N := mX4_put) dX6_extend_41 gS_RX6_71 (t_X4_put h131 r_p0 r_i1) rfl [] rfl rfl (Nat.le_of_ble_eq_true rfl) rfl (k_vs fun V137 h136 hF135 => ?_)
        refine GO.aload_n dX6_extend_44 rfl rfl ?_
        refine GO.iload_n dX6_extend_45 rfl rfl ?_
        refine GO.iconst dX6_extend_46 ?_
        refine GO.iadd dX6_extend_47 ?_
        refine GO.iload_n dX6_extend_48 rfl rfl ?_
        refine GO.iconst dX6_extend_49 ?_
        refine GO.iload_n dX6_extend_50 rfl rfl ?_
        refine GO.ishl dX6_extend_51 ?_
        refine GO.ior dX6_extend_52 ?_
        have q138 : -2147483648 ≤ p0 ∧ p0 ≤ 2147483647 := r_p0
        refine GO.callV (ci := 5) (N := mX6_goOn_0) dX6_extend_53 (RX6, TX6, 10) rfl gV_RX6_90 h_x (t_X6_goOn_0 h_x ⟨by omega, by omega⟩ wor_ir (by omega)) rfl [] rfl rfl (Nat.le_of_ble_eq_true rfl) rfl (k_vs fun V141 h140 hF139 => ?_)
        refine GO.iinc (X := i1) (n := 1) (Y := i1 + 1) (ls1 := [some (.ref x), some (ti p0), some (ti p1), some (ti (i1 + 1))]) dX6_extend_56 rfl rfl rfl rfl ?_
        refine GO.goto (tgt := 2) dX6_extend_59 (by decide) ?_
        exact ih117 (i1 + 1) V141 ⟨by omega, by omega, trivial⟩ (by show (2147483647 - (i1 + 1)).toNat < (2147483647 - i1).toNat; omega)

theorem t_X6_extend_1 {K : Kmap} {V : Vmap} {x : Nat} {p0 : Int} {p1 : Int} (h_x : K x = some (0, 5)) (r_p0 : ir p0) (r_p1 : ir p1) (q_0 : ((p0 ≥ 7 ∧ p0 ≤ 7))) : MC mX6_extend_1 K V [.ref x, ti p0, ti p1] (VS K (fun V1 => (True))) := by
  exact t_X6_extend_1_G h_x r_p0 r_p1 (by omega) (by omega)

set_option maxHeartbeats 1000000 in
theorem t_X6_goOn_1_G {K : Kmap} {V : Vmap} {x : Nat} {p0 : Int} {p1 : Int} (h_x : K x = some (0, 5)) (r_p0 : ir p0) (r_p1 : ir p1) (q_0 : p0 ≥ 7) (q_1 : p0 ≤ 8) : MC mX6_goOn_1 K V [.ref x, ti p0, ti p1] (VS K (fun V1 => (True))) := by
  refine MC.start 0 (by decide +kernel) rfl rfl rfl (ls0 := [some (.ref x), some (ti p0), some (ti p1)]) rfl ?_
  refine GO.iload_n dX6_goOn_0 rfl rfl ?_
  refine GO.aload_n dX6_goOn_1 rfl rfl ?_
  refine GO.getR h_x fl_RX6_14 rfl rfl dX6_goOn_2 (fun hv2 h1 => ?_)
  refine GO.getI h1 fl_RX6_55_k24 rfl rfl dX6_goOn_5 (fun l3 u4 => ?_)
  refine GO.icmp_ge (tgt := 20) dX6_goOn_8 (by decide) r_p0 vi_ir (fun c5 => ?_) (fun c5 => ?_)
  ·
    refine GO.aload_n dX6_goOn_20 rfl rfl ?_
    refine GO.callV (ci := 5) (N := mX6_keep) dX6_goOn_21 (RX6, TX6, 10) rfl gV_RX6_93 h_x (t_X6_keep h_x) rfl [] rfl rfl (Nat.le_of_ble_eq_true rfl) rfl (k_vs fun V8 h7 hF6 => ?_)
    exact GO.retv rfl rfl dX6_goOn_24 ⟨rfl, rfl, trivial⟩
  ·
    refine GO.aload_n dX6_goOn_11 rfl rfl ?_
    refine GO.iload_n dX6_goOn_12 rfl rfl ?_
    refine GO.iload_n dX6_goOn_13 rfl rfl ?_
    have q9 : -2147483648 ≤ p0 ∧ p0 ≤ 2147483647 := r_p0
    refine GO.callV (ci := 5) (N := mX6_extend_1) dX6_goOn_14 (RX6, TX6, 10) rfl gV_RX6_65 h_x (t_X6_extend_1 h_x r_p0 r_p1 (by omega)) rfl [] rfl rfl (Nat.le_of_ble_eq_true rfl) rfl (k_vs fun V12 h11 hF10 => ?_)
    refine GO.goto (tgt := 24) dX6_goOn_17 (by decide) ?_
    exact GO.retv rfl rfl dX6_goOn_24 ⟨rfl, rfl, trivial⟩

theorem t_X6_goOn_1 {K : Kmap} {V : Vmap} {x : Nat} {p0 : Int} {p1 : Int} (h_x : K x = some (0, 5)) (r_p0 : ir p0) (r_p1 : ir p1) (q_0 : ((p0 ≥ 7 ∧ p0 ≤ 8))) : MC mX6_goOn_1 K V [.ref x, ti p0, ti p1] (VS K (fun V1 => (True))) := by
  exact t_X6_goOn_1_G h_x r_p0 r_p1 (by omega) (by omega)

set_option maxHeartbeats 1000000 in
theorem t_X6_extend_2_G {K : Kmap} {V : Vmap} {x : Nat} {p0 : Int} {p1 : Int} (h_x : K x = some (0, 5)) (r_p0 : ir p0) (r_p1 : ir p1) (q_0 : p0 ≥ 6) (q_1 : p0 ≤ 7) : MC mX6_extend_2 K V [.ref x, ti p0, ti p1] (VS K (fun V1 => (True))) := by
  refine MC.start 1 (by decide +kernel) rfl rfl rfl (ls0 := [some (.ref x), some (ti p0), some (ti p1), none]) rfl ?_
  refine GO.iconst dX6_extend_0 ?_
  refine GO.istore_n (ls1 := [some (.ref x), some (ti p0), some (ti p1), some (ti 0)]) dX6_extend_1 rfl rfl rfl ?_
  refine GO.loop1 (fun i1 W => 0 ≤ i1 ∧ i1 ≤ 8 ∧ True) (fun i1 => [some (.ref x), some (ti p0), some (ti p1), some (ti i1)]) (fun i1 W => (2147483647 - i1).toNat) 0 ⟨by omega, by omega, trivial⟩ rfl (fun i1 Wi1 hp118 ih117 => ?_)
  obtain ⟨l_i1, u_i1, -⟩ := hp118
  have r_i1 : ir i1 := ⟨by omega, by omega⟩
  show GO mX6_extend_2 K V (VS K (fun V1 => (True))) K Wi1 0 0 2 [some (.ref x), some (ti p0), some (ti p1), some (ti i1)] []
  refine GO.iload_n dX6_extend_2 rfl rfl ?_
  refine GO.aload_n dX6_extend_3 rfl rfl ?_
  refine GO.getR h_x fl_RX6_14 rfl rfl dX6_extend_4 (fun hv120 h119 => ?_)
  refine GO.getI h119 fl_RX6_55_k24 rfl rfl dX6_extend_7 (fun l121 u122 => ?_)
  refine GO.icmp_ge (tgt := 62) dX6_extend_10 (by decide) r_i1 vi_ir (fun c123 => ?_) (fun c123 => ?_)
  ·
    exact GO.retv rfl rfl dX6_extend_62 ⟨rfl, rfl, trivial⟩
  ·
    refine GO.iload_n dX6_extend_13 rfl rfl ?_
    refine GO.iload_n dX6_extend_14 rfl rfl ?_
    refine GO.ishr dX6_extend_15 ?_
    refine GO.iconst dX6_extend_16 ?_
    refine GO.iand dX6_extend_17 ?_
    refine GO.if_ne (tgt := 56) dX6_extend_18 (by decide) wand_ir (fun c124 => ?_) (fun c124 => ?_)
    ·
      refine GO.iinc (X := i1) (n := 1) (Y := i1 + 1) (ls1 := [some (.ref x), some (ti p0), some (ti p1), some (ti (i1 + 1))]) dX6_extend_56 rfl rfl rfl rfl ?_
      refine GO.goto (tgt := 2) dX6_extend_59 (by decide) ?_
      exact ih117 (i1 + 1) Wi1 ⟨by omega, by omega, trivial⟩ (by show (2147483647 - (i1 + 1)).toNat < (2147483647 - i1).toNat; omega)
    ·
      refine GO.aload_n dX6_extend_21 rfl rfl ?_
      refine GO.iload_n dX6_extend_22 rfl rfl ?_
      refine GO.iload_n dX6_extend_23 rfl rfl ?_
      refine GO.iload_n dX6_extend_24 rfl rfl ?_
      refine GO.iconst dX6_extend_25 ?_
      refine GO.iload_n dX6_extend_26 rfl rfl ?_
      refine GO.ishl dX6_extend_27 ?_
      refine GO.ior dX6_extend_28 ?_
      refine GO.callV (ci := 5) (N := mX6_comes) dX6_extend_29 (RX6, TX6, 10) rfl gV_RX6_86 h_x (t_X6_comes h_x r_p0 r_i1 wor_ir) rfl [] rfl rfl (Nat.le_of_ble_eq_true rfl) rfl (k_is fun X125 V129 r126 h127 hF128 => ?_)
      refine GO.if_eq (tgt := 56) dX6_extend_32 (by decide) r126 (fun c130 => ?_) (fun c130 => ?_)
      ·
        refine GO.iinc (X := i1) (n := 1) (Y := i1 + 1) (ls1 := [some (.ref x), some (ti p0), some (ti p1), some (ti (i1 + 1))]) dX6_extend_56 rfl rfl rfl rfl ?_
        refine GO.goto (tgt := 2) dX6_extend_59 (by decide) ?_
        exact ih117 (i1 + 1) V129 ⟨by omega, by omega, trivial⟩ (by show (2147483647 - (i1 + 1)).toNat < (2147483647 - i1).toNat; omega)
      ·
        refine GO.aload_n dX6_extend_35 rfl rfl ?_
        refine GO.getB h_x fl_RX6_33 rfl rfl dX6_extend_36 (fun n133 hv132 h131 b134 => ?_)
        refine GO.iload_n dX6_extend_39 rfl rfl ?_
        refine GO.iload_n dX6_extend_40 rfl rfl ?_
        refine GO.callS (N := mX4_put) dX6_extend_41 gS_RX6_71 (t_X4_put h131 r_p0 r_i1) rfl [] rfl rfl (Nat.le_of_ble_eq_true rfl) rfl (k_vs fun V137 h136 hF135 => ?_)
        refine GO.aload_n dX6_extend_44 rfl rfl ?_
        refine GO.iload_n dX6_extend_45 rfl rfl ?_
        refine GO.iconst dX6_extend_46 ?_
        refine GO.iadd dX6_extend_47 ?_
        refine GO.iload_n dX6_extend_48 rfl rfl ?_
        refine GO.iconst dX6_extend_49 ?_
        refine GO.iload_n dX6_extend_50 rfl rfl ?_
        refine GO.ishl dX6_extend_51 ?_
        refine GO.ior dX6_extend_52 ?_
        have q138 : -2147483648 ≤ p0 ∧ p0 ≤ 2147483647 := r_p0
        refine GO.callV (ci := 5) (N := mX6_goOn_1) dX6_extend_53 (RX6, TX6, 10) rfl gV_RX6_90 h_x (t_X6_goOn_1 h_x ⟨by omega, by omega⟩ wor_ir (by omega)) rfl [] rfl rfl (Nat.le_of_ble_eq_true rfl) rfl (k_vs fun V141 h140 hF139 => ?_)
        refine GO.iinc (X := i1) (n := 1) (Y := i1 + 1) (ls1 := [some (.ref x), some (ti p0), some (ti p1), some (ti (i1 + 1))]) dX6_extend_56 rfl rfl rfl rfl ?_
        refine GO.goto (tgt := 2) dX6_extend_59 (by decide) ?_
        exact ih117 (i1 + 1) V141 ⟨by omega, by omega, trivial⟩ (by show (2147483647 - (i1 + 1)).toNat < (2147483647 - i1).toNat; omega)

theorem t_X6_extend_2 {K : Kmap} {V : Vmap} {x : Nat} {p0 : Int} {p1 : Int} (h_x : K x = some (0, 5)) (r_p0 : ir p0) (r_p1 : ir p1) (q_0 : ((p0 ≥ 6 ∧ p0 ≤ 7))) : MC mX6_extend_2 K V [.ref x, ti p0, ti p1] (VS K (fun V1 => (True))) := by
  exact t_X6_extend_2_G h_x r_p0 r_p1 (by omega) (by omega)

set_option maxHeartbeats 1000000 in
theorem t_X6_goOn_2_G {K : Kmap} {V : Vmap} {x : Nat} {p0 : Int} {p1 : Int} (h_x : K x = some (0, 5)) (r_p0 : ir p0) (r_p1 : ir p1) (q_0 : p0 ≥ 6) (q_1 : p0 ≤ 8) : MC mX6_goOn_2 K V [.ref x, ti p0, ti p1] (VS K (fun V1 => (True))) := by
  refine MC.start 0 (by decide +kernel) rfl rfl rfl (ls0 := [some (.ref x), some (ti p0), some (ti p1)]) rfl ?_
  refine GO.iload_n dX6_goOn_0 rfl rfl ?_
  refine GO.aload_n dX6_goOn_1 rfl rfl ?_
  refine GO.getR h_x fl_RX6_14 rfl rfl dX6_goOn_2 (fun hv2 h1 => ?_)
  refine GO.getI h1 fl_RX6_55_k24 rfl rfl dX6_goOn_5 (fun l3 u4 => ?_)
  refine GO.icmp_ge (tgt := 20) dX6_goOn_8 (by decide) r_p0 vi_ir (fun c5 => ?_) (fun c5 => ?_)
  ·
    refine GO.aload_n dX6_goOn_20 rfl rfl ?_
    refine GO.callV (ci := 5) (N := mX6_keep) dX6_goOn_21 (RX6, TX6, 10) rfl gV_RX6_93 h_x (t_X6_keep h_x) rfl [] rfl rfl (Nat.le_of_ble_eq_true rfl) rfl (k_vs fun V8 h7 hF6 => ?_)
    exact GO.retv rfl rfl dX6_goOn_24 ⟨rfl, rfl, trivial⟩
  ·
    refine GO.aload_n dX6_goOn_11 rfl rfl ?_
    refine GO.iload_n dX6_goOn_12 rfl rfl ?_
    refine GO.iload_n dX6_goOn_13 rfl rfl ?_
    have q9 : -2147483648 ≤ p0 ∧ p0 ≤ 2147483647 := r_p0
    refine GO.callV (ci := 5) (N := mX6_extend_2) dX6_goOn_14 (RX6, TX6, 10) rfl gV_RX6_65 h_x (t_X6_extend_2 h_x r_p0 r_p1 (by omega)) rfl [] rfl rfl (Nat.le_of_ble_eq_true rfl) rfl (k_vs fun V12 h11 hF10 => ?_)
    refine GO.goto (tgt := 24) dX6_goOn_17 (by decide) ?_
    exact GO.retv rfl rfl dX6_goOn_24 ⟨rfl, rfl, trivial⟩

theorem t_X6_goOn_2 {K : Kmap} {V : Vmap} {x : Nat} {p0 : Int} {p1 : Int} (h_x : K x = some (0, 5)) (r_p0 : ir p0) (r_p1 : ir p1) (q_0 : ((p0 ≥ 6 ∧ p0 ≤ 8))) : MC mX6_goOn_2 K V [.ref x, ti p0, ti p1] (VS K (fun V1 => (True))) := by
  exact t_X6_goOn_2_G h_x r_p0 r_p1 (by omega) (by omega)

set_option maxHeartbeats 1000000 in
theorem t_X6_extend_3_G {K : Kmap} {V : Vmap} {x : Nat} {p0 : Int} {p1 : Int} (h_x : K x = some (0, 5)) (r_p0 : ir p0) (r_p1 : ir p1) (q_0 : p0 ≥ 5) (q_1 : p0 ≤ 7) : MC mX6_extend_3 K V [.ref x, ti p0, ti p1] (VS K (fun V1 => (True))) := by
  refine MC.start 1 (by decide +kernel) rfl rfl rfl (ls0 := [some (.ref x), some (ti p0), some (ti p1), none]) rfl ?_
  refine GO.iconst dX6_extend_0 ?_
  refine GO.istore_n (ls1 := [some (.ref x), some (ti p0), some (ti p1), some (ti 0)]) dX6_extend_1 rfl rfl rfl ?_
  refine GO.loop1 (fun i1 W => 0 ≤ i1 ∧ i1 ≤ 8 ∧ True) (fun i1 => [some (.ref x), some (ti p0), some (ti p1), some (ti i1)]) (fun i1 W => (2147483647 - i1).toNat) 0 ⟨by omega, by omega, trivial⟩ rfl (fun i1 Wi1 hp118 ih117 => ?_)
  obtain ⟨l_i1, u_i1, -⟩ := hp118
  have r_i1 : ir i1 := ⟨by omega, by omega⟩
  show GO mX6_extend_3 K V (VS K (fun V1 => (True))) K Wi1 0 0 2 [some (.ref x), some (ti p0), some (ti p1), some (ti i1)] []
  refine GO.iload_n dX6_extend_2 rfl rfl ?_
  refine GO.aload_n dX6_extend_3 rfl rfl ?_
  refine GO.getR h_x fl_RX6_14 rfl rfl dX6_extend_4 (fun hv120 h119 => ?_)
  refine GO.getI h119 fl_RX6_55_k24 rfl rfl dX6_extend_7 (fun l121 u122 => ?_)
  refine GO.icmp_ge (tgt := 62) dX6_extend_10 (by decide) r_i1 vi_ir (fun c123 => ?_) (fun c123 => ?_)
  ·
    exact GO.retv rfl rfl dX6_extend_62 ⟨rfl, rfl, trivial⟩
  ·
    refine GO.iload_n dX6_extend_13 rfl rfl ?_
    refine GO.iload_n dX6_extend_14 rfl rfl ?_
    refine GO.ishr dX6_extend_15 ?_
    refine GO.iconst dX6_extend_16 ?_
    refine GO.iand dX6_extend_17 ?_
    refine GO.if_ne (tgt := 56) dX6_extend_18 (by decide) wand_ir (fun c124 => ?_) (fun c124 => ?_)
    ·
      refine GO.iinc (X := i1) (n := 1) (Y := i1 + 1) (ls1 := [some (.ref x), some (ti p0), some (ti p1), some (ti (i1 + 1))]) dX6_extend_56 rfl rfl rfl rfl ?_
      refine GO.goto (tgt := 2) dX6_extend_59 (by decide) ?_
      exact ih117 (i1 + 1) Wi1 ⟨by omega, by omega, trivial⟩ (by show (2147483647 - (i1 + 1)).toNat < (2147483647 - i1).toNat; omega)
    ·
      refine GO.aload_n dX6_extend_21 rfl rfl ?_
      refine GO.iload_n dX6_extend_22 rfl rfl ?_
      refine GO.iload_n dX6_extend_23 rfl rfl ?_
      refine GO.iload_n dX6_extend_24 rfl rfl ?_
      refine GO.iconst dX6_extend_25 ?_
      refine GO.iload_n dX6_extend_26 rfl rfl ?_
      refine GO.ishl dX6_extend_27 ?_
      refine GO.ior dX6_extend_28 ?_
      refine GO.callV (ci := 5) (N := mX6_comes) dX6_extend_29 (RX6, TX6, 10) rfl gV_RX6_86 h_x (t_X6_comes h_x r_p0 r_i1 wor_ir) rfl [] rfl rfl (Nat.le_of_ble_eq_true rfl) rfl (k_is fun X125 V129 r126 h127 hF128 => ?_)
      refine GO.if_eq (tgt := 56) dX6_extend_32 (by decide) r126 (fun c130 => ?_) (fun c130 => ?_)
      ·
        refine GO.iinc (X := i1) (n := 1) (Y := i1 + 1) (ls1 := [some (.ref x), some (ti p0), some (ti p1), some (ti (i1 + 1))]) dX6_extend_56 rfl rfl rfl rfl ?_
        refine GO.goto (tgt := 2) dX6_extend_59 (by decide) ?_
        exact ih117 (i1 + 1) V129 ⟨by omega, by omega, trivial⟩ (by show (2147483647 - (i1 + 1)).toNat < (2147483647 - i1).toNat; omega)
      ·
        refine GO.aload_n dX6_extend_35 rfl rfl ?_
        refine GO.getB h_x fl_RX6_33 rfl rfl dX6_extend_36 (fun n133 hv132 h131 b134 => ?_)
        refine GO.iload_n dX6_extend_39 rfl rfl ?_
        refine GO.iload_n dX6_extend_40 rfl rfl ?_
        refine GO.callS (N := mX4_put) dX6_extend_41 gS_RX6_71 (t_X4_put h131 r_p0 r_i1) rfl [] rfl rfl (Nat.le_of_ble_eq_true rfl) rfl (k_vs fun V137 h136 hF135 => ?_)
        refine GO.aload_n dX6_extend_44 rfl rfl ?_
        refine GO.iload_n dX6_extend_45 rfl rfl ?_
        refine GO.iconst dX6_extend_46 ?_
        refine GO.iadd dX6_extend_47 ?_
        refine GO.iload_n dX6_extend_48 rfl rfl ?_
        refine GO.iconst dX6_extend_49 ?_
        refine GO.iload_n dX6_extend_50 rfl rfl ?_
        refine GO.ishl dX6_extend_51 ?_
        refine GO.ior dX6_extend_52 ?_
        have q138 : -2147483648 ≤ p0 ∧ p0 ≤ 2147483647 := r_p0
        refine GO.callV (ci := 5) (N := mX6_goOn_2) dX6_extend_53 (RX6, TX6, 10) rfl gV_RX6_90 h_x (t_X6_goOn_2 h_x ⟨by omega, by omega⟩ wor_ir (by omega)) rfl [] rfl rfl (Nat.le_of_ble_eq_true rfl) rfl (k_vs fun V141 h140 hF139 => ?_)
        refine GO.iinc (X := i1) (n := 1) (Y := i1 + 1) (ls1 := [some (.ref x), some (ti p0), some (ti p1), some (ti (i1 + 1))]) dX6_extend_56 rfl rfl rfl rfl ?_
        refine GO.goto (tgt := 2) dX6_extend_59 (by decide) ?_
        exact ih117 (i1 + 1) V141 ⟨by omega, by omega, trivial⟩ (by show (2147483647 - (i1 + 1)).toNat < (2147483647 - i1).toNat; omega)

theorem t_X6_extend_3 {K : Kmap} {V : Vmap} {x : Nat} {p0 : Int} {p1 : Int} (h_x : K x = some (0, 5)) (r_p0 : ir p0) (r_p1 : ir p1) (q_0 : ((p0 ≥ 5 ∧ p0 ≤ 7))) : MC mX6_extend_3 K V [.ref x, ti p0, ti p1] (VS K (fun V1 => (True))) := by
  exact t_X6_extend_3_G h_x r_p0 r_p1 (by omega) (by omega)

set_option maxHeartbeats 1000000 in
theorem t_X6_goOn_3_G {K : Kmap} {V : Vmap} {x : Nat} {p0 : Int} {p1 : Int} (h_x : K x = some (0, 5)) (r_p0 : ir p0) (r_p1 : ir p1) (q_0 : p0 ≥ 5) (q_1 : p0 ≤ 8) : MC mX6_goOn_3 K V [.ref x, ti p0, ti p1] (VS K (fun V1 => (True))) := by
  refine MC.start 0 (by decide +kernel) rfl rfl rfl (ls0 := [some (.ref x), some (ti p0), some (ti p1)]) rfl ?_
  refine GO.iload_n dX6_goOn_0 rfl rfl ?_
  refine GO.aload_n dX6_goOn_1 rfl rfl ?_
  refine GO.getR h_x fl_RX6_14 rfl rfl dX6_goOn_2 (fun hv2 h1 => ?_)
  refine GO.getI h1 fl_RX6_55_k24 rfl rfl dX6_goOn_5 (fun l3 u4 => ?_)
  refine GO.icmp_ge (tgt := 20) dX6_goOn_8 (by decide) r_p0 vi_ir (fun c5 => ?_) (fun c5 => ?_)
  ·
    refine GO.aload_n dX6_goOn_20 rfl rfl ?_
    refine GO.callV (ci := 5) (N := mX6_keep) dX6_goOn_21 (RX6, TX6, 10) rfl gV_RX6_93 h_x (t_X6_keep h_x) rfl [] rfl rfl (Nat.le_of_ble_eq_true rfl) rfl (k_vs fun V8 h7 hF6 => ?_)
    exact GO.retv rfl rfl dX6_goOn_24 ⟨rfl, rfl, trivial⟩
  ·
    refine GO.aload_n dX6_goOn_11 rfl rfl ?_
    refine GO.iload_n dX6_goOn_12 rfl rfl ?_
    refine GO.iload_n dX6_goOn_13 rfl rfl ?_
    have q9 : -2147483648 ≤ p0 ∧ p0 ≤ 2147483647 := r_p0
    refine GO.callV (ci := 5) (N := mX6_extend_3) dX6_goOn_14 (RX6, TX6, 10) rfl gV_RX6_65 h_x (t_X6_extend_3 h_x r_p0 r_p1 (by omega)) rfl [] rfl rfl (Nat.le_of_ble_eq_true rfl) rfl (k_vs fun V12 h11 hF10 => ?_)
    refine GO.goto (tgt := 24) dX6_goOn_17 (by decide) ?_
    exact GO.retv rfl rfl dX6_goOn_24 ⟨rfl, rfl, trivial⟩

theorem t_X6_goOn_3 {K : Kmap} {V : Vmap} {x : Nat} {p0 : Int} {p1 : Int} (h_x : K x = some (0, 5)) (r_p0 : ir p0) (r_p1 : ir p1) (q_0 : ((p0 ≥ 5 ∧ p0 ≤ 8))) : MC mX6_goOn_3 K V [.ref x, ti p0, ti p1] (VS K (fun V1 => (True))) := by
  exact t_X6_goOn_3_G h_x r_p0 r_p1 (by omega) (by omega)
