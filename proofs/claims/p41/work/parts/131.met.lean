def mX12_sureOf : MRec := (RX12, cX12_sureOf, 8, (some .int), yX12_sureOf, 0, 0, 0, 0, 0)
def mX12_goesDown : MRec := (RX12, cX12_goesDown, 5, (none : Option Jvm.ClassFile.FieldType), yX12_goesDown, 1, 27, 0, 0, 9619630419041620901435312524449124464130795720328478190417063819395928166869436184427311097384012607618805661696)
def mX12_worksGo : MRec := (RX12, cX12_worksGo, 3, (none : Option Jvm.ClassFile.FieldType), yX12_worksGo, 9, 219, 0, 0, 9619630428210986049237613937390747714253578664873347594475224601237500707480860795895322753045859178208909328384)
def mX12_goesHome : MRec := (RX12, cX12_goesHome, 2, (none : Option Jvm.ClassFile.FieldType), yX12_goesHome, 0, 0, 0, 0, 7957171782556586274486116793101412102210319490242154757722676121658484768990465682833408)
def mX12_burns : MRec := (RX12, cX12_burns, 6, (none : Option Jvm.ClassFile.FieldType), yX12_burns, 2, 43, 0, 0, 214843638129027829411125132137878420770647378060960075861519397890811451078565434046283776)
def mX12_loses : MRec := (RX12, cX12_loses, 3, (none : Option Jvm.ClassFile.FieldType), yX12_loses, 1, 21, 0, 0, 4257086903667773656850072045190937748293802271580823593866174309460010458348797794520662016)
set_option maxHeartbeats 1000000 in
theorem t_X12_sureOf {K : Kmap} {V : Vmap} {x : Nat} {p0 : Int} (h_x : K x = some (0, 11)) (r_p0 : ir p0) (q_0 : p0 ≥ 0) (q_1 : p0 ≤ 59) : MC mX12_sureOf K V [.ref x, ti p0] (IP K V (fun X => True)) := by
  refine MC.start 6 (by decide +kernel) rfl rfl rfl (ls0 := [some (.ref x), some (ti p0), none, none, none, none, none, none]) rfl ?_
  refine GO.aload_n dX12_sureOf_0 rfl rfl ?_
  refine GO.getA (n := 60) h_x fl_RX12_283 rfl rfl rfl rfl dX12_sureOf_1 (fun hv2 h1 => ?_)
  refine GO.iload_n dX12_sureOf_4 rfl rfl ?_
  have q3 : -2147483648 ≤ p0 ∧ p0 ≤ 2147483647 := r_p0
  refine GO.iald (t := 96) rfl rfl h1 r_p0 (by omega) (by omega) dX12_sureOf_5 (fun l4 u5 => ?_)
  refine GO.if_ne (tgt := 11) dX12_sureOf_6 (by decide) vi_ir (fun c6 => ?_) (fun c6 => ?_)
  ·
    refine GO.ldcw (X := (-1000000)) dX12_sureOf_11 gw_2322 rfl ?_
    refine GO.istore_n (ls1 := [some (.ref x), some (ti p0), some (ti (-1000000)), none, none, none, none, none]) dX12_sureOf_14 rfl rfl rfl ?_
    refine GO.ldcw (X := 1000000) dX12_sureOf_15 gw_2291 rfl ?_
    refine GO.istore_n (ls1 := [some (.ref x), some (ti p0), some (ti (-1000000)), some (ti 1000000), none, none, none, none]) dX12_sureOf_18 rfl rfl rfl ?_
    refine GO.ldcw (X := 1000000) dX12_sureOf_19 gw_2291 rfl ?_
    refine GO.istore (ls1 := [some (.ref x), some (ti p0), some (ti (-1000000)), some (ti 1000000), some (ti 1000000), none, none, none]) dX12_sureOf_22 rfl rfl ?_
    refine GO.bipush dX12_sureOf_24 rfl ?_
    refine GO.iload_n dX12_sureOf_26 rfl rfl ?_
    refine GO.imul dX12_sureOf_27 ?_
    refine GO.name (fun z7 hz8 => ?_)
    refine GO.istore (ls1 := [some (.ref x), some (ti p0), some (ti (-1000000)), some (ti 1000000), some (ti 1000000), some (ti z7), none, none]) dX12_sureOf_28 rfl rfl ?_
    refine GO.loop4 (fun i9 i10 i11 i12 W => (-1000000) ≤ i9 ∧ i9 ≤ 2147483647 ∧ (-2147483648) ≤ i10 ∧ i10 ≤ 1000000 ∧ (-2147483648) ≤ i11 ∧ i11 ≤ 1000000 ∧ 0 ≤ i12 ∧ i12 ≤ 480 ∧ V = W) (fun i9 i10 i11 i12 => [some (.ref x), some (ti p0), some (ti i9), some (ti i10), some (ti i11), some (ti i12), none, none]) (fun i9 i10 i11 i12 W => (2147483647 - i12).toNat) (-1000000) 1000000 1000000 z7 ⟨by omega, by omega, by omega, by omega, by omega, by omega, by omega, by omega, rfl⟩ rfl (fun i9 i10 i11 i12 V1066 hp1068 ih1067 => ?_)
    obtain ⟨l_i9, u_i9, l_i10, u_i10, l_i11, u_i11, l_i12, u_i12, rfl⟩ := hp1068
    have r_i9 : ir i9 := ⟨by omega, by omega⟩
    have r_i10 : ir i10 := ⟨by omega, by omega⟩
    have r_i11 : ir i11 := ⟨by omega, by omega⟩
    have r_i12 : ir i12 := ⟨by omega, by omega⟩
    show GO mX12_sureOf K V (IP K V (fun X => True)) K V 0 0 30 [some (.ref x), some (ti p0), some (ti i9), some (ti i10), some (ti i11), some (ti i12), none, none] []
    refine GO.iload dX12_sureOf_30 rfl ?_
    refine GO.bipush dX12_sureOf_32 rfl ?_
    refine GO.iload_n dX12_sureOf_34 rfl rfl ?_
    refine GO.imul dX12_sureOf_35 ?_
    refine GO.aload_n dX12_sureOf_36 rfl rfl ?_
    refine GO.getRaw h_x fl_RX12_283 hv2 dX12_sureOf_37 ?_
    refine GO.iload_n dX12_sureOf_40 rfl rfl ?_
    refine GO.iald (t := 96) rfl rfl h1 r_p0 (by omega) (by omega) dX12_sureOf_41 (fun l1071 u1072 => ?_)
    refine GO.iadd dX12_sureOf_42 ?_
    refine GO.icmp_ge (tgt := 128) dX12_sureOf_43 (by decide) r_i12 ⟨by omega, by omega⟩ (fun c1073 => ?_) (fun c1073 => ?_)
    ·
      refine GO.iload_n dX12_sureOf_128 rfl rfl ?_
      refine GO.iload dX12_sureOf_129 rfl ?_
      refine GO.icmp_gt (tgt := 138) dX12_sureOf_131 (by decide) r_i9 r_i11 (fun c1074 => ?_) (fun c1074 => ?_)
      ·
        refine GO.iload_n dX12_sureOf_138 rfl rfl ?_
        refine GO.istore (ls1 := [some (.ref x), some (ti p0), some (ti i9), some (ti i10), some (ti i11), some (ti i10), none, none]) dX12_sureOf_139 rfl rfl ?_
        refine GO.iload dX12_sureOf_141 rfl ?_
        refine GO.if_ge (tgt := 150) dX12_sureOf_143 (by decide) r_i10 (fun c1075 => ?_) (fun c1075 => ?_)
        ·
          refine GO.iload dX12_sureOf_150 rfl ?_
          exact GO.reti rfl rfl dX12_sureOf_152 ⟨rfl, rfl, _, rfl, r_i10, trivial⟩
        ·
          refine GO.iconst dX12_sureOf_146 ?_
          refine GO.goto (tgt := 152) dX12_sureOf_147 (by decide) ?_
          exact GO.reti rfl rfl dX12_sureOf_152 ⟨rfl, rfl, _, rfl, (ir_c rfl), trivial⟩
      ·
        refine GO.iload_n dX12_sureOf_134 rfl rfl ?_
        refine GO.goto (tgt := 139) dX12_sureOf_135 (by decide) ?_
        refine GO.istore (ls1 := [some (.ref x), some (ti p0), some (ti i9), some (ti i10), some (ti i11), some (ti i9), none, none]) dX12_sureOf_139 rfl rfl ?_
        refine GO.iload dX12_sureOf_141 rfl ?_
        refine GO.if_ge (tgt := 150) dX12_sureOf_143 (by decide) r_i9 (fun c1076 => ?_) (fun c1076 => ?_)
        ·
          refine GO.iload dX12_sureOf_150 rfl ?_
          exact GO.reti rfl rfl dX12_sureOf_152 ⟨rfl, rfl, _, rfl, r_i9, trivial⟩
        ·
          refine GO.iconst dX12_sureOf_146 ?_
          refine GO.goto (tgt := 152) dX12_sureOf_147 (by decide) ?_
          exact GO.reti rfl rfl dX12_sureOf_152 ⟨rfl, rfl, _, rfl, (ir_c rfl), trivial⟩
    ·
      refine GO.aload_n dX12_sureOf_46 rfl rfl ?_
      refine GO.getA (n := 480) h_x fl_RX12_286 rfl rfl rfl rfl dX12_sureOf_47 (fun hv1078 h1077 => ?_)
      refine GO.iload dX12_sureOf_50 rfl ?_
      refine GO.iald (t := 97) rfl rfl h1077 r_i12 (by omega) (by omega) dX12_sureOf_52 (fun _ _ => ?_)
      refine GO.aload_n dX12_sureOf_53 rfl rfl ?_
      refine GO.getA (n := 480) h_x fl_RX12_289 rfl rfl rfl rfl dX12_sureOf_54 (fun hv1080 h1079 => ?_)
      refine GO.iload dX12_sureOf_57 rfl ?_
      refine GO.iald (t := 98) rfl rfl h1079 r_i12 (by omega) (by omega) dX12_sureOf_59 (fun _ _ => ?_)
      refine GO.isub dX12_sureOf_60 ?_
      refine GO.norm (fun z1081 r1082 hn1083 => ?_)
      refine GO.istore (ls1 := [some (.ref x), some (ti p0), some (ti i9), some (ti i10), some (ti i11), some (ti i12), some (ti z1081), none]) dX12_sureOf_61 rfl rfl ?_
      refine GO.aload_n dX12_sureOf_63 rfl rfl ?_
      refine GO.getRaw h_x fl_RX12_286 hv1078 dX12_sureOf_64 ?_
      refine GO.iload dX12_sureOf_67 rfl ?_
      refine GO.iald (t := 97) rfl rfl h1077 r_i12 (by omega) (by omega) dX12_sureOf_69 (fun _ _ => ?_)
      refine GO.aload_n dX12_sureOf_70 rfl rfl ?_
      refine GO.getRaw h_x fl_RX12_289 hv1080 dX12_sureOf_71 ?_
      refine GO.iload dX12_sureOf_74 rfl ?_
      refine GO.iald (t := 98) rfl rfl h1079 r_i12 (by omega) (by omega) dX12_sureOf_76 (fun _ _ => ?_)
      refine GO.iadd dX12_sureOf_77 ?_
      refine GO.norm (fun z1088 r1089 hn1090 => ?_)
      refine GO.istore (ls1 := [some (.ref x), some (ti p0), some (ti i9), some (ti i10), some (ti i11), some (ti i12), some (ti z1081), some (ti z1088)]) dX12_sureOf_78 rfl rfl ?_
      refine GO.iload dX12_sureOf_80 rfl ?_
      refine GO.iload_n dX12_sureOf_82 rfl rfl ?_
      have hj1093 : ∀ (z1092 : Int), ∀ (l1094 : (-1000000) ≤ z1092), ∀ (u1095 : z1092 ≤ 2147483647), GO mX12_sureOf K V (IP K V (fun X => True)) K V 0 0 92 [some (.ref x), some (ti p0), some (ti i9), some (ti i10), some (ti i11), some (ti i12), some (ti z1081), some (ti z1088)] [ti z1092] := by
        intro z1092 l1094 u1095
        have r1096 : ir z1092 := ⟨by omega, by omega⟩
        refine GO.istore_n (ls1 := [some (.ref x), some (ti p0), some (ti z1092), some (ti i10), some (ti i11), some (ti i12), some (ti z1081), some (ti z1088)]) dX12_sureOf_92 rfl rfl rfl ?_
        refine GO.iload dX12_sureOf_93 rfl ?_
        refine GO.iload_n dX12_sureOf_95 rfl rfl ?_
        refine GO.icmp_ge (tgt := 104) dX12_sureOf_96 (by decide) r1082 r_i10 (fun c1097 => ?_) (fun c1097 => ?_)
        ·
          refine GO.iload_n dX12_sureOf_104 rfl rfl ?_
          refine GO.istore_n (ls1 := [some (.ref x), some (ti p0), some (ti z1092), some (ti i10), some (ti i11), some (ti i12), some (ti z1081), some (ti z1088)]) dX12_sureOf_105 rfl rfl rfl ?_
          refine GO.iload dX12_sureOf_106 rfl ?_
          refine GO.iload dX12_sureOf_108 rfl ?_
          refine GO.icmp_ge (tgt := 118) dX12_sureOf_110 (by decide) r1089 r_i11 (fun c1098 => ?_) (fun c1098 => ?_)
          ·
            refine GO.iload dX12_sureOf_118 rfl ?_
            refine GO.istore (ls1 := [some (.ref x), some (ti p0), some (ti z1092), some (ti i10), some (ti i11), some (ti i12), some (ti z1081), some (ti z1088)]) dX12_sureOf_120 rfl rfl ?_
            refine GO.iinc (X := i12) (n := 1) (Y := i12 + 1) (ls1 := [some (.ref x), some (ti p0), some (ti z1092), some (ti i10), some (ti i11), some (ti (i12 + 1)), some (ti z1081), some (ti z1088)]) dX12_sureOf_122 rfl rfl rfl rfl ?_
            refine GO.goto (tgt := 30) dX12_sureOf_125 (by decide) ?_
            refine GO.drop [true, true, true, true, true, true, false, false] rfl ?_
            have q1099 : -2147483648 ≤ z1088 ∧ z1088 ≤ 2147483647 := r1089
            have q1100 : -2147483648 ≤ z1081 ∧ z1081 ≤ 2147483647 := r1082
            exact ih1067 z1092 i10 i11 (i12 + 1) V ⟨by omega, by omega, by omega, by omega, by omega, by omega, by omega, by omega, rfl⟩ (by show (2147483647 - (i12 + 1)).toNat < (2147483647 - i12).toNat; omega)
          ·
            refine GO.iload dX12_sureOf_113 rfl ?_
            refine GO.goto (tgt := 120) dX12_sureOf_115 (by decide) ?_
            refine GO.istore (ls1 := [some (.ref x), some (ti p0), some (ti z1092), some (ti i10), some (ti z1088), some (ti i12), some (ti z1081), some (ti z1088)]) dX12_sureOf_120 rfl rfl ?_
            refine GO.iinc (X := i12) (n := 1) (Y := i12 + 1) (ls1 := [some (.ref x), some (ti p0), some (ti z1092), some (ti i10), some (ti z1088), some (ti (i12 + 1)), some (ti z1081), some (ti z1088)]) dX12_sureOf_122 rfl rfl rfl rfl ?_
            refine GO.goto (tgt := 30) dX12_sureOf_125 (by decide) ?_
            refine GO.drop [true, true, true, true, true, true, false, false] rfl ?_
            have q1101 : -2147483648 ≤ z1088 ∧ z1088 ≤ 2147483647 := r1089
            have q1102 : -2147483648 ≤ z1081 ∧ z1081 ≤ 2147483647 := r1082
            exact ih1067 z1092 i10 z1088 (i12 + 1) V ⟨by omega, by omega, by omega, by omega, by omega, by omega, by omega, by omega, rfl⟩ (by show (2147483647 - (i12 + 1)).toNat < (2147483647 - i12).toNat; omega)
        ·
          refine GO.iload dX12_sureOf_99 rfl ?_
          refine GO.goto (tgt := 105) dX12_sureOf_101 (by decide) ?_
          refine GO.istore_n (ls1 := [some (.ref x), some (ti p0), some (ti z1092), some (ti z1081), some (ti i11), some (ti i12), some (ti z1081), some (ti z1088)]) dX12_sureOf_105 rfl rfl rfl ?_
          refine GO.iload dX12_sureOf_106 rfl ?_
          refine GO.iload dX12_sureOf_108 rfl ?_
          refine GO.icmp_ge (tgt := 118) dX12_sureOf_110 (by decide) r1089 r_i11 (fun c1103 => ?_) (fun c1103 => ?_)
          ·
            refine GO.iload dX12_sureOf_118 rfl ?_
            refine GO.istore (ls1 := [some (.ref x), some (ti p0), some (ti z1092), some (ti z1081), some (ti i11), some (ti i12), some (ti z1081), some (ti z1088)]) dX12_sureOf_120 rfl rfl ?_
            refine GO.iinc (X := i12) (n := 1) (Y := i12 + 1) (ls1 := [some (.ref x), some (ti p0), some (ti z1092), some (ti z1081), some (ti i11), some (ti (i12 + 1)), some (ti z1081), some (ti z1088)]) dX12_sureOf_122 rfl rfl rfl rfl ?_
            refine GO.goto (tgt := 30) dX12_sureOf_125 (by decide) ?_
            refine GO.drop [true, true, true, true, true, true, false, false] rfl ?_
            have q1104 : -2147483648 ≤ z1088 ∧ z1088 ≤ 2147483647 := r1089
            have q1105 : -2147483648 ≤ z1081 ∧ z1081 ≤ 2147483647 := r1082
            exact ih1067 z1092 z1081 i11 (i12 + 1) V ⟨by omega, by omega, by omega, by omega, by omega, by omega, by omega, by omega, rfl⟩ (by show (2147483647 - (i12 + 1)).toNat < (2147483647 - i12).toNat; omega)
          ·
            refine GO.iload dX12_sureOf_113 rfl ?_
            refine GO.goto (tgt := 120) dX12_sureOf_115 (by decide) ?_
            refine GO.istore (ls1 := [some (.ref x), some (ti p0), some (ti z1092), some (ti z1081), some (ti z1088), some (ti i12), some (ti z1081), some (ti z1088)]) dX12_sureOf_120 rfl rfl ?_
            refine GO.iinc (X := i12) (n := 1) (Y := i12 + 1) (ls1 := [some (.ref x), some (ti p0), some (ti z1092), some (ti z1081), some (ti z1088), some (ti (i12 + 1)), some (ti z1081), some (ti z1088)]) dX12_sureOf_122 rfl rfl rfl rfl ?_
            refine GO.goto (tgt := 30) dX12_sureOf_125 (by decide) ?_
            refine GO.drop [true, true, true, true, true, true, false, false] rfl ?_
            have q1106 : -2147483648 ≤ z1088 ∧ z1088 ≤ 2147483647 := r1089
            have q1107 : -2147483648 ≤ z1081 ∧ z1081 ≤ 2147483647 := r1082
            exact ih1067 z1092 z1081 z1088 (i12 + 1) V ⟨by omega, by omega, by omega, by omega, by omega, by omega, by omega, by omega, rfl⟩ (by show (2147483647 - (i12 + 1)).toNat < (2147483647 - i12).toNat; omega)
      refine GO.icmp_le (tgt := 91) dX12_sureOf_83 (by decide) r1082 r_i9 (fun c1108 => ?_) (fun c1108 => ?_)
      ·
        refine GO.iload_n dX12_sureOf_91 rfl rfl ?_
        have q1109 : -2147483648 ≤ z1081 ∧ z1081 ≤ 2147483647 := r1082
        exact hj1093 i9 (by omega) (by omega)
      ·
        refine GO.iload dX12_sureOf_86 rfl ?_
        refine GO.goto (tgt := 92) dX12_sureOf_88 (by decide) ?_
        have q1110 : -2147483648 ≤ z1081 ∧ z1081 ≤ 2147483647 := r1082
        exact hj1093 z1081 (by omega) (by omega)
  ·
    refine GO.iconst dX12_sureOf_9 ?_
    exact GO.reti rfl rfl dX12_sureOf_10 ⟨rfl, rfl, _, rfl, (ir_c rfl), trivial⟩

set_option maxHeartbeats 1000000 in
theorem t_X12_goesDown {K : Kmap} {V : Vmap} {x : Nat} {p0 : Int} (h_x : K x = some (0, 11)) (r_p0 : ir p0) (q_0 : p0 ≥ 0) (q_1 : p0 ≤ 9) : MC mX12_goesDown K V [.ref x, ti p0] (VS K (fun V1 => (True))) := by
  refine MC.start 3 (by decide +kernel) rfl rfl rfl (ls0 := [some (.ref x), some (ti p0), none, none, none]) rfl ?_
  refine GO.aload_n dX12_goesDown_0 rfl rfl ?_
  refine GO.getA (n := 10) h_x fl_RX12_298 rfl rfl rfl rfl dX12_goesDown_1 (fun hv2 h1 => ?_)
  refine GO.iload_n dX12_goesDown_4 rfl rfl ?_
  have q3 : -2147483648 ≤ p0 ∧ p0 ≤ 2147483647 := r_p0
  refine GO.iald (t := 101) rfl rfl h1 r_p0 (by omega) (by omega) dX12_goesDown_5 (fun l4 u5 => ?_)
  refine GO.sipush dX12_goesDown_6 rfl ?_
  refine GO.idivP dX12_goesDown_9 vi_ir (ir_c rfl) (by omega) (by omega) ?_
  refine GO.bipush dX12_goesDown_10 rfl ?_
  have hj12 : ∀ (z11 : Int), ∀ (l13 : 0 ≤ z11), ∀ (u14 : z11 ≤ 9), GO mX12_goesDown K V (VS K (fun V1 => (True))) K V 0 0 30 [some (.ref x), some (ti p0), none, none, none] [ti z11] := by
    intro z11 l13 u14
    have r15 : ir z11 := ⟨by omega, by omega⟩
    refine GO.istore_n (ls1 := [some (.ref x), some (ti p0), some (ti z11), none, none]) dX12_goesDown_30 rfl rfl rfl ?_
    refine GO.aload_n dX12_goesDown_31 rfl rfl ?_
    refine GO.getRaw h_x fl_RX12_298 hv2 dX12_goesDown_32 ?_
    refine GO.iload_n dX12_goesDown_35 rfl rfl ?_
    refine GO.iald (t := 101) rfl rfl h1 r_p0 (by omega) (by omega) dX12_goesDown_36 (fun l18 u19 => ?_)
    refine GO.aload_n dX12_goesDown_37 rfl rfl ?_
    refine GO.getA (n := 10) h_x fl_RX12_301 rfl rfl rfl rfl dX12_goesDown_38 (fun hv21 h20 => ?_)
    refine GO.iload_n dX12_goesDown_41 rfl rfl ?_
    refine GO.iald (t := 102) rfl rfl h20 r15 (by omega) (by omega) dX12_goesDown_42 (fun _ _ => ?_)
    refine GO.iadd dX12_goesDown_43 ?_
    refine GO.norm (fun z22 r23 hn24 => ?_)
    refine GO.istore_n (ls1 := [some (.ref x), some (ti p0), some (ti z11), some (ti z22), none]) dX12_goesDown_44 rfl rfl rfl ?_
    refine GO.aload_n dX12_goesDown_45 rfl rfl ?_
    refine GO.aload_n dX12_goesDown_46 rfl rfl ?_
    refine GO.getA (n := 10) h_x fl_RX12_292 rfl rfl rfl rfl dX12_goesDown_47 (fun hv26 h25 => ?_)
    refine GO.iload_n dX12_goesDown_50 rfl rfl ?_
    refine GO.iald (t := 99) rfl rfl h25 r_p0 (by omega) (by omega) dX12_goesDown_51 (fun l27 u28 => ?_)
    refine GO.callV (ci := 11) (N := mX12_sureOf) dX12_goesDown_52 (RX12, TX12, 151) rfl gV_RX12_703 h_x (t_X12_sureOf h_x vi_ir (by omega) (by omega)) rfl [] rfl rfl (Nat.le_of_ble_eq_true rfl) rfl (k_ip fun X29 r30 h31 => ?_)
    refine GO.aload_n dX12_goesDown_55 rfl rfl ?_
    refine GO.getI h_x fl_RX12_280 rfl rfl dX12_goesDown_56 (fun _ _ => ?_)
    refine GO.isub dX12_goesDown_59 ?_
    refine GO.norm (fun z32 r33 hn34 => ?_)
    refine GO.istore (ls1 := [some (.ref x), some (ti p0), some (ti z11), some (ti z22), some (ti z32)]) dX12_goesDown_60 rfl rfl ?_
    refine GO.iload_n dX12_goesDown_62 rfl rfl ?_
    refine GO.iload dX12_goesDown_63 rfl ?_
    have hj37 : ∀ (z36 : Int), ∀ (l38 : (-2147483648) ≤ z36), ∀ (u39 : z36 ≤ 2147483647), GO mX12_goesDown K V (VS K (fun V1 => (True))) K V 0 0 74 [some (.ref x), some (ti p0), some (ti z11), some (ti z22), some (ti z32)] [ti z36] := by
      intro z36 l38 u39
      have r40 : ir z36 := ⟨by omega, by omega⟩
      refine GO.istore_n (ls1 := [some (.ref x), some (ti p0), some (ti z11), some (ti z36), some (ti z32)]) dX12_goesDown_74 rfl rfl rfl ?_
      refine GO.aload_n dX12_goesDown_75 rfl rfl ?_
      refine GO.getRaw h_x fl_RX12_298 hv2 dX12_goesDown_76 ?_
      refine GO.iload_n dX12_goesDown_79 rfl rfl ?_
      refine GO.iload_n dX12_goesDown_80 rfl rfl ?_
      refine GO.aload_n dX12_goesDown_81 rfl rfl ?_
      refine GO.getRaw h_x fl_RX12_298 hv2 dX12_goesDown_82 ?_
      refine GO.iload_n dX12_goesDown_85 rfl rfl ?_
      refine GO.iald (t := 101) rfl rfl h1 r_p0 (by omega) (by omega) dX12_goesDown_86 (fun l45 u46 => ?_)
      refine GO.icmp_le (tgt := 94) dX12_goesDown_87 (by decide) r40 vi_ir (fun c47 => ?_) (fun c47 => ?_)
      ·
        refine GO.aload_n dX12_goesDown_94 rfl rfl ?_
        refine GO.getRaw h_x fl_RX12_298 hv2 dX12_goesDown_95 ?_
        refine GO.iload_n dX12_goesDown_98 rfl rfl ?_
        refine GO.iald (t := 101) rfl rfl h1 r_p0 (by omega) (by omega) dX12_goesDown_99 (fun l50 u51 => ?_)
        refine GO.iast (t := 101) rfl rfl (by decide +kernel) h1 r_p0 (by omega) (by omega) vi_ir (by omega) (by omega) dX12_goesDown_100 (fun V53 e52 => ?_)
        exact GO.retv rfl rfl dX12_goesDown_101 ⟨rfl, rfl, trivial⟩
      ·
        refine GO.iload_n dX12_goesDown_90 rfl rfl ?_
        refine GO.goto (tgt := 100) dX12_goesDown_91 (by decide) ?_
        refine GO.iast (t := 101) rfl rfl (by decide +kernel) h1 r_p0 (by omega) (by omega) r40 (by omega) (by omega) dX12_goesDown_100 (fun V55 e54 => ?_)
        exact GO.retv rfl rfl dX12_goesDown_101 ⟨rfl, rfl, trivial⟩
    refine GO.icmp_ge (tgt := 72) dX12_goesDown_65 (by decide) r23 r33 (fun c56 => ?_) (fun c56 => ?_)
    ·
      refine GO.iload dX12_goesDown_72 rfl ?_
      have q57 : -2147483648 ≤ z32 ∧ z32 ≤ 2147483647 := r33
      have q58 : -2147483648 ≤ z22 ∧ z22 ≤ 2147483647 := r23
      exact hj37 z32 (by omega) (by omega)
    ·
      refine GO.iload_n dX12_goesDown_68 rfl rfl ?_
      refine GO.goto (tgt := 74) dX12_goesDown_69 (by decide) ?_
      have q59 : -2147483648 ≤ z22 ∧ z22 ≤ 2147483647 := r23
      have q60 : -2147483648 ≤ z32 ∧ z32 ≤ 2147483647 := r33
      exact hj37 z22 (by omega) (by omega)
  refine GO.icmp_le (tgt := 20) dX12_goesDown_12 (by decide) ⟨by omega, by omega⟩ (ir_c rfl) (fun c61 => ?_) (fun c61 => ?_)
  ·
    refine GO.aload_n dX12_goesDown_20 rfl rfl ?_
    refine GO.getRaw h_x fl_RX12_298 hv2 dX12_goesDown_21 ?_
    refine GO.iload_n dX12_goesDown_24 rfl rfl ?_
    refine GO.iald (t := 101) rfl rfl h1 r_p0 (by omega) (by omega) dX12_goesDown_25 (fun l64 u65 => ?_)
    refine GO.sipush dX12_goesDown_26 rfl ?_
    refine GO.idivP dX12_goesDown_29 vi_ir (ir_c rfl) (by omega) (by omega) ?_
    exact hj12 ((vi V (vq V x 126) (p0).toNat) / 500) (by omega) (by omega)
  ·
    refine GO.bipush dX12_goesDown_15 rfl ?_
    refine GO.goto (tgt := 30) dX12_goesDown_17 (by decide) ?_
    exact hj12 9 (by omega) (by omega)

set_option maxHeartbeats 1000000 in
theorem t_X12_worksGo {K : Kmap} {V : Vmap} {x : Nat} (h_x : K x = some (0, 11)) (w_0 : GX V x) : MC mX12_worksGo K V [.ref x] (VS K (fun V1 => (True))) := by
  refine MC.start 2 (by decide +kernel) rfl rfl rfl (ls0 := [some (.ref x), none, none]) rfl ?_
  refine GO.useWT (fun hW_0 => ?_)
  refine GO.iconst dX12_worksGo_0 ?_
  refine GO.istore_n (ls1 := [some (.ref x), some (ti 0), none]) dX12_worksGo_1 rfl rfl rfl ?_
  refine GO.loop1 (fun i1 W => 0 ≤ i1 ∧ i1 ≤ 100 ∧ True) (fun i1 => [some (.ref x), some (ti i1), none]) (fun i1 W => (2147483647 - i1).toNat) 0 ⟨by omega, by omega, trivial⟩ rfl (fun i1 Wi1 hp3000 ih2999 => ?_)
  obtain ⟨l_i1, u_i1, -⟩ := hp3000
  have r_i1 : ir i1 := ⟨by omega, by omega⟩
  show GO mX12_worksGo K V (VS K (fun V1 => (True))) K Wi1 0 0 2 [some (.ref x), some (ti i1), none] []
  refine GO.iload_n dX12_worksGo_2 rfl rfl ?_
  refine GO.aload_n dX12_worksGo_3 rfl rfl ?_
  refine GO.getI h_x fl_RX12_378 rfl rfl dX12_worksGo_4 (fun l3001 u3002 => ?_)
  refine GO.icmp_ge (tgt := 158) dX12_worksGo_7 (by decide) r_i1 vi_ir (fun c3003 => ?_) (fun c3003 => ?_)
  ·
    refine GO.iconst dX12_worksGo_158 ?_
    refine GO.istore_n (ls1 := [some (.ref x), some (ti 0), none]) dX12_worksGo_159 rfl rfl rfl ?_
    refine GO.loop1 (fun i3004 W => 0 ≤ i3004 ∧ i3004 ≤ 9 ∧ True) (fun i3004 => [some (.ref x), some (ti i3004), none]) (fun i3004 W => (2147483647 - i3004).toNat) 0 ⟨by omega, by omega, trivial⟩ rfl (fun i3004 Wi3004 hp3156 ih3155 => ?_)
    obtain ⟨l_i3004, u_i3004, -⟩ := hp3156
    have r_i3004 : ir i3004 := ⟨by omega, by omega⟩
    show GO mX12_worksGo K V (VS K (fun V1 => (True))) K Wi3004 0 0 160 [some (.ref x), some (ti i3004), none] []
    refine GO.iload_n dX12_worksGo_160 rfl rfl ?_
    refine GO.aload_n dX12_worksGo_161 rfl rfl ?_
    refine GO.getI h_x fl_RX12_393 rfl rfl dX12_worksGo_162 (fun l3157 u3158 => ?_)
    refine GO.icmp_ge (tgt := 225) dX12_worksGo_165 (by decide) r_i3004 vi_ir (fun c3159 => ?_) (fun c3159 => ?_)
    ·
      exact GO.retv rfl rfl dX12_worksGo_225 ⟨rfl, rfl, trivial⟩
    ·
      refine GO.aload_n dX12_worksGo_168 rfl rfl ?_
      refine GO.getA (n := 9) h_x fl_RX12_29 rfl rfl rfl rfl dX12_worksGo_169 (fun hv3161 h3160 => ?_)
      refine GO.iload_n dX12_worksGo_172 rfl rfl ?_
      refine GO.iald (t := 13) rfl rfl h3160 r_i3004 (by omega) (by omega) dX12_worksGo_173 (fun _ _ => ?_)
      refine GO.iconst dX12_worksGo_174 ?_
      refine GO.icmp_eq (tgt := 181) dX12_worksGo_175 (by decide) vi_ir (ir_c rfl) (fun c3162 => ?_) (fun c3162 => ?_)
      ·
        refine GO.aload_n dX12_worksGo_181 rfl rfl ?_
        refine GO.bipush dX12_worksGo_182 rfl ?_
        refine GO.iload_n dX12_worksGo_184 rfl rfl ?_
        refine GO.aload_n dX12_worksGo_185 rfl rfl ?_
        refine GO.getI h_x fl_RX12_396 rfl rfl dX12_worksGo_186 (fun l3163 u3164 => ?_)
        refine GO.iconst dX12_worksGo_189 ?_
        refine GO.callV (ci := 11) (N := mX12_asked) dX12_worksGo_190 (RX12, TX12, 151) rfl gV_RX12_563 h_x (t_X12_asked h_x (ir_c rfl) r_i3004 vi_ir (ir_c rfl) (by omega) (by omega)) rfl [] rfl rfl (Nat.le_of_ble_eq_true rfl) rfl (k_is fun X3165 V3169 r3166 h3167 hF3168 => ?_)
        have raw_asked := h3167.2
        have rw190 := h3167.2
        refine GO.istore_n (ls1 := [some (.ref x), some (ti i3004), some (ti X3165)]) dX12_worksGo_193 rfl rfl rfl ?_
        refine GO.iload_n dX12_worksGo_194 rfl rfl ?_
        refine GO.iconst dX12_worksGo_195 ?_
        refine GO.icmp_eq (tgt := 219) dX12_worksGo_196 (by decide) r3166 (ir_c rfl) (fun c3170 => ?_) (fun c3170 => ?_)
        ·
          refine GO.iinc (X := i3004) (n := 1) (Y := i3004 + 1) (ls1 := [some (.ref x), some (ti (i3004 + 1)), some (ti X3165)]) dX12_worksGo_219 rfl rfl rfl rfl ?_
          refine GO.goto (tgt := 160) dX12_worksGo_222 (by decide) ?_
          refine GO.drop [true, true, false] rfl ?_
          exact ih3155 (i3004 + 1) V3169 ⟨by omega, by omega, trivial⟩ (by show (2147483647 - (i3004 + 1)).toNat < (2147483647 - i3004).toNat; omega)
        ·
          refine GO.aload_n dX12_worksGo_199 rfl rfl ?_
          refine GO.getA (n := 9) h_x fl_RX12_32 rfl rfl rfl rfl dX12_worksGo_200 (fun hv3172 h3171 => ?_)
          refine GO.iload_n dX12_worksGo_203 rfl rfl ?_
          refine GO.iald (t := 14) rfl rfl h3171 r_i3004 (by omega) (by omega) dX12_worksGo_204 (fun _ _ => ?_)
          refine GO.iload_n dX12_worksGo_205 rfl rfl ?_
          refine GO.icmp_lt (tgt := 219) dX12_worksGo_206 (by decide) vi_ir r3166 (fun c3174 => ?_) (fun c3174 => ?_)
          ·
            refine GO.iinc (X := i3004) (n := 1) (Y := i3004 + 1) (ls1 := [some (.ref x), some (ti (i3004 + 1)), some (ti X3165)]) dX12_worksGo_219 rfl rfl rfl rfl ?_
            refine GO.goto (tgt := 160) dX12_worksGo_222 (by decide) ?_
            refine GO.drop [true, true, false] rfl ?_
            exact ih3155 (i3004 + 1) V3169 ⟨by omega, by omega, trivial⟩ (by show (2147483647 - (i3004 + 1)).toNat < (2147483647 - i3004).toNat; omega)
          ·
            refine GO.aload_n dX12_worksGo_209 rfl rfl ?_
            refine GO.getRaw h_x fl_RX12_29 (Eq.trans (hF3168 _ _ _ h_x h_x (by decide +kernel)) hv3161) dX12_worksGo_210 ?_
            refine GO.iload_n dX12_worksGo_213 rfl rfl ?_
            refine GO.aload_n dX12_worksGo_214 rfl rfl ?_
            refine GO.getI h_x fl_RX12_396 rfl rfl dX12_worksGo_215 (fun l3177 u3178 => ?_)
            have e3179 : vi V3169 x 2 = vi Wi3004 x 2 := vi_fr hF3168 h_x h_x (by decide +kernel)
            refine GO.iast (t := 13) rfl rfl (by decide +kernel) h3160 r_i3004 (by omega) (by omega) vi_ir (vi_ir).1 (vi_ir).2 dX12_worksGo_218 (fun V3181 e3180 => ?_)
            refine GO.iinc (X := i3004) (n := 1) (Y := i3004 + 1) (ls1 := [some (.ref x), some (ti (i3004 + 1)), some (ti X3165)]) dX12_worksGo_219 rfl rfl rfl rfl ?_
            refine GO.goto (tgt := 160) dX12_worksGo_222 (by decide) ?_
            refine GO.drop [true, true, false] rfl ?_
            exact ih3155 (i3004 + 1) V3181 ⟨by omega, by omega, trivial⟩ (by show (2147483647 - (i3004 + 1)).toNat < (2147483647 - i3004).toNat; omega)
      ·
        refine GO.goto (tgt := 219) dX12_worksGo_178 (by decide) ?_
        refine GO.iinc (X := i3004) (n := 1) (Y := i3004 + 1) (ls1 := [some (.ref x), some (ti (i3004 + 1)), none]) dX12_worksGo_219 rfl rfl rfl rfl ?_
        refine GO.goto (tgt := 160) dX12_worksGo_222 (by decide) ?_
        exact ih3155 (i3004 + 1) Wi3004 ⟨by omega, by omega, trivial⟩ (by show (2147483647 - (i3004 + 1)).toNat < (2147483647 - i3004).toNat; omega)
  ·
    refine GO.aload_n dX12_worksGo_10 rfl rfl ?_
    refine GO.getI h_x fl_RX12_396 rfl rfl dX12_worksGo_11 (fun l3182 u3183 => ?_)
    refine GO.aload_n dX12_worksGo_14 rfl rfl ?_
    refine GO.getA (n := 100) h_x fl_RX12_172 rfl rfl rfl rfl dX12_worksGo_15 (fun hv3185 h3184 => ?_)
    refine GO.iload_n dX12_worksGo_18 rfl rfl ?_
    refine GO.iald (t := 60) rfl rfl h3184 r_i1 (by omega) (by omega) dX12_worksGo_19 (fun _ _ => ?_)
    refine GO.aload_n dX12_worksGo_20 rfl rfl ?_
    refine GO.getA (n := 100) h_x fl_RX12_175 rfl rfl rfl rfl dX12_worksGo_21 (fun hv3187 h3186 => ?_)
    refine GO.iload_n dX12_worksGo_24 rfl rfl ?_
    refine GO.iald (t := 61) rfl rfl h3186 r_i1 (by omega) (by omega) dX12_worksGo_25 (fun _ _ => ?_)
    refine GO.callS (N := mX12_in) dX12_worksGo_26 gS_RX12_371 (t_X12_in vi_ir vi_ir vi_ir) rfl [] rfl rfl (Nat.le_of_ble_eq_true rfl) rfl (k_ip fun X3188 r3189 h3190 => ?_)
    have raw_in := h3190.2.2.2
    have rw26 := h3190.2.2.2
    refine GO.if_ne (tgt := 35) dX12_worksGo_29 (by decide) r3189 (fun c3191 => ?_) (fun c3191 => ?_)
    ·
      have q3192 := h3190.2.1 (by omega)
      refine GO.aload_n dX12_worksGo_35 rfl rfl ?_
      refine GO.iload_n dX12_worksGo_36 rfl rfl ?_
      refine GO.aload_n dX12_worksGo_37 rfl rfl ?_
      refine GO.getI h_x fl_RX12_396 rfl rfl dX12_worksGo_38 (fun l3193 u3194 => ?_)
      refine GO.iconst dX12_worksGo_41 ?_
      refine GO.useFR (fun hF3195 => ?_)
      have hg3196 := GX.fr hF3195 w_0 hW_0 h_x (by decide +kernel)
      refine GO.callV (ci := 11) (N := mX12_mayOn) dX12_worksGo_42 (RX12, TX12, 151) rfl gV_RX12_608 h_x (t_X12_mayOn h_x r_i1 vi_ir (ir_c rfl) (by omega) (by omega) (by omega) (hg3196)) rfl [] rfl rfl (Nat.le_of_ble_eq_true rfl) rfl (k_is fun X3197 V3201 r3198 h3199 hF3200 => ?_)
      refine GO.if_eq (tgt := 65) dX12_worksGo_45 (by decide) r3198 (fun c3202 => ?_) (fun c3202 => ?_)
      ·
        refine GO.aload_n dX12_worksGo_65 rfl rfl ?_
        refine GO.getA (n := 100) h_x fl_RX12_184 rfl rfl rfl rfl dX12_worksGo_66 (fun hv3204 h3203 => ?_)
        refine GO.iload_n dX12_worksGo_69 rfl rfl ?_
        refine GO.aload_n dX12_worksGo_70 rfl rfl ?_
        refine GO.getRaw h_x fl_RX12_184 hv3204 dX12_worksGo_71 ?_
        refine GO.iload_n dX12_worksGo_74 rfl rfl ?_
        refine GO.iald (t := 64) rfl rfl h3203 r_i1 (by omega) (by omega) dX12_worksGo_75 (fun _ _ => ?_)
        refine GO.iconst dX12_worksGo_76 ?_
        refine GO.iadd dX12_worksGo_77 ?_
        refine GO.norm (fun z3208 r3209 hn3210 => ?_)
        refine GO.iast (t := 64) rfl rfl (by decide +kernel) h3203 r_i1 (by omega) (by omega) r3209 (r3209).1 (r3209).2 dX12_worksGo_78 (fun V3212 e3211 => ?_)
        refine GO.aload_n dX12_worksGo_79 rfl rfl ?_
        refine GO.getA (n := 9) h_x fl_RX12_32 rfl rfl rfl rfl dX12_worksGo_80 (fun hv3214 h3213 => ?_)
        refine GO.aload_n dX12_worksGo_83 rfl rfl ?_
        refine GO.getA (n := 100) h_x fl_RX12_166 rfl rfl rfl rfl dX12_worksGo_84 (fun hv3216 h3215 => ?_)
        refine GO.iload_n dX12_worksGo_87 rfl rfl ?_
        refine GO.iald (t := 58) rfl rfl h3215 r_i1 (by omega) (by omega) dX12_worksGo_88 (fun l3217 u3218 => ?_)
        refine GO.aload_n dX12_worksGo_89 rfl rfl ?_
        refine GO.getRaw h_x fl_RX12_32 hv3214 dX12_worksGo_90 ?_
        refine GO.aload_n dX12_worksGo_93 rfl rfl ?_
        refine GO.getRaw h_x fl_RX12_166 hv3216 dX12_worksGo_94 ?_
        refine GO.iload_n dX12_worksGo_97 rfl rfl ?_
        refine GO.iald (t := 58) rfl rfl h3215 r_i1 (by omega) (by omega) dX12_worksGo_98 (fun l3225 u3226 => ?_)
        refine GO.iald (t := 14) rfl rfl h3213 vi_ir (by omega) (by omega) dX12_worksGo_99 (fun _ _ => ?_)
        refine GO.aload_n dX12_worksGo_100 rfl rfl ?_
        refine GO.getA (n := 100) h_x fl_RX12_163 rfl rfl rfl rfl dX12_worksGo_101 (fun hv3230 h3229 => ?_)
        refine GO.iload_n dX12_worksGo_104 rfl rfl ?_
        refine GO.iald (t := 57) rfl rfl h3229 r_i1 (by omega) (by omega) dX12_worksGo_105 (fun _ _ => ?_)
        have hj3235 : ∀ (z3234 : Int), ∀ (l3236 : 0 ≤ z3234), ∀ (u3237 : z3234 ≤ 1), GO mX12_worksGo K V (VS K (fun V1 => (True))) K V3212 0 0 114 [some (.ref x), some (ti i1), none] [ti z3234, ti (vi V3212 (vq V3212 x 12) (vi V3212 (vq V3212 x 68) (i1).toNat).toNat), ti (vi V3212 (vq V3212 x 68) (i1).toNat), .ref (vq V3212 x 12)] := by
          intro z3234 l3236 u3237
          have r3238 : ir z3234 := ⟨by omega, by omega⟩
          refine GO.iadd dX12_worksGo_114 ?_
          refine GO.norm (fun z3239 r3240 hn3241 => ?_)
          refine GO.iast (t := 14) rfl rfl (by decide +kernel) h3213 vi_ir (by omega) (by omega) r3240 (r3240).1 (r3240).2 dX12_worksGo_115 (fun V3243 e3242 => ?_)
          refine GO.aload_n dX12_worksGo_116 rfl rfl ?_
          refine GO.iload_n dX12_worksGo_117 rfl rfl ?_
          refine GO.callV (ci := 11) (N := mX12_sounds) dX12_worksGo_118 (RX12, TX12, 151) rfl gV_RX12_664 h_x (t_X12_sounds h_x r_i1 (by omega) (by omega)) rfl [] rfl rfl (Nat.le_of_ble_eq_true rfl) rfl (k_vs fun V3246 h3245 hF3244 => ?_)
          refine GO.iconst dX12_worksGo_121 ?_
          refine GO.istore_n (ls1 := [some (.ref x), some (ti i1), some (ti 0)]) dX12_worksGo_122 rfl rfl rfl ?_
          refine GO.loop1 (fun i3247 W => 0 ≤ i3247 ∧ i3247 ≤ 10 ∧ True) (fun i3247 => [some (.ref x), some (ti i1), some (ti i3247)]) (fun i3247 W => (2147483647 - i3247).toNat) 0 ⟨by omega, by omega, trivial⟩ rfl (fun i3247 Wi3247 hp3312 ih3311 => ?_)
          obtain ⟨l_i3247, u_i3247, -⟩ := hp3312
          have r_i3247 : ir i3247 := ⟨by omega, by omega⟩
          show GO mX12_worksGo K V (VS K (fun V1 => (True))) K Wi3247 0 0 123 [some (.ref x), some (ti i1), some (ti i3247)] []
          refine GO.iload_n dX12_worksGo_123 rfl rfl ?_
          refine GO.aload_n dX12_worksGo_124 rfl rfl ?_
          refine GO.getI h_x fl_RX12_667 rfl rfl dX12_worksGo_125 (fun l3313 u3314 => ?_)
          refine GO.icmp_ge (tgt := 152) dX12_worksGo_128 (by decide) r_i3247 vi_ir (fun c3315 => ?_) (fun c3315 => ?_)
          ·
            refine GO.iinc (X := i1) (n := 1) (Y := i1 + 1) (ls1 := [some (.ref x), some (ti (i1 + 1)), some (ti i3247)]) dX12_worksGo_152 rfl rfl rfl rfl ?_
            refine GO.goto (tgt := 2) dX12_worksGo_155 (by decide) ?_
            refine GO.drop [true, true, false] rfl ?_
            exact ih2999 (i1 + 1) Wi3247 ⟨by omega, by omega, trivial⟩ (by show (2147483647 - (i1 + 1)).toNat < (2147483647 - i1).toNat; omega)
          ·
            refine GO.aload_n dX12_worksGo_131 rfl rfl ?_
            refine GO.getA (n := 10) h_x fl_RX12_295 rfl rfl rfl rfl dX12_worksGo_132 (fun hv3317 h3316 => ?_)
            refine GO.iload_n dX12_worksGo_135 rfl rfl ?_
            refine GO.iald (t := 100) rfl rfl h3316 r_i3247 (by omega) (by omega) dX12_worksGo_136 (fun _ _ => ?_)
            refine GO.iload_n dX12_worksGo_137 rfl rfl ?_
            refine GO.icmp_ne (tgt := 146) dX12_worksGo_138 (by decide) vi_ir r_i1 (fun c3318 => ?_) (fun c3318 => ?_)
            ·
              refine GO.iinc (X := i3247) (n := 1) (Y := i3247 + 1) (ls1 := [some (.ref x), some (ti i1), some (ti (i3247 + 1))]) dX12_worksGo_146 rfl rfl rfl rfl ?_
              refine GO.goto (tgt := 123) dX12_worksGo_149 (by decide) ?_
              exact ih3311 (i3247 + 1) Wi3247 ⟨by omega, by omega, trivial⟩ (by show (2147483647 - (i3247 + 1)).toNat < (2147483647 - i3247).toNat; omega)
            ·
              refine GO.aload_n dX12_worksGo_141 rfl rfl ?_
              refine GO.iload_n dX12_worksGo_142 rfl rfl ?_
              refine GO.callV (ci := 11) (N := mX12_goesDown) dX12_worksGo_143 (RX12, TX12, 151) rfl gV_RX12_670 h_x (t_X12_goesDown h_x r_i3247 (by omega) (by omega)) rfl [] rfl rfl (Nat.le_of_ble_eq_true rfl) rfl (k_vs fun V3321 h3320 hF3319 => ?_)
              refine GO.iinc (X := i3247) (n := 1) (Y := i3247 + 1) (ls1 := [some (.ref x), some (ti i1), some (ti (i3247 + 1))]) dX12_worksGo_146 rfl rfl rfl rfl ?_
              refine GO.goto (tgt := 123) dX12_worksGo_149 (by decide) ?_
              exact ih3311 (i3247 + 1) V3321 ⟨by omega, by omega, trivial⟩ (by show (2147483647 - (i3247 + 1)).toNat < (2147483647 - i3247).toNat; omega)
        refine GO.if_ne (tgt := 113) dX12_worksGo_106 (by decide) vi_ir (fun c3322 => ?_) (fun c3322 => ?_)
        ·
          refine GO.iconst dX12_worksGo_113 ?_
          exact hj3235 0 (by omega) (by omega)
        ·
          refine GO.iconst dX12_worksGo_109 ?_
          refine GO.goto (tgt := 114) dX12_worksGo_110 (by decide) ?_
          exact hj3235 1 (by omega) (by omega)
      ·
        refine GO.aload_n dX12_worksGo_48 rfl rfl ?_
        refine GO.getA (n := 100) h_x fl_RX12_187 rfl rfl rfl rfl dX12_worksGo_49 (fun hv3324 h3323 => ?_)
        refine GO.iload_n dX12_worksGo_52 rfl rfl ?_
        refine GO.aload_n dX12_worksGo_53 rfl rfl ?_
        refine GO.getRaw h_x fl_RX12_187 hv3324 dX12_worksGo_54 ?_
        refine GO.iload_n dX12_worksGo_57 rfl rfl ?_
        refine GO.iald (t := 65) rfl rfl h3323 r_i1 (by omega) (by omega) dX12_worksGo_58 (fun _ _ => ?_)
        refine GO.iconst dX12_worksGo_59 ?_
        refine GO.iadd dX12_worksGo_60 ?_
        refine GO.norm (fun z3328 r3329 hn3330 => ?_)
        refine GO.iast (t := 65) rfl rfl (by decide +kernel) h3323 r_i1 (by omega) (by omega) r3329 (r3329).1 (r3329).2 dX12_worksGo_61 (fun V3332 e3331 => ?_)
        refine GO.goto (tgt := 152) dX12_worksGo_62 (by decide) ?_
        refine GO.iinc (X := i1) (n := 1) (Y := i1 + 1) (ls1 := [some (.ref x), some (ti (i1 + 1)), none]) dX12_worksGo_152 rfl rfl rfl rfl ?_
        refine GO.goto (tgt := 2) dX12_worksGo_155 (by decide) ?_
        exact ih2999 (i1 + 1) V3332 ⟨by omega, by omega, trivial⟩ (by show (2147483647 - (i1 + 1)).toNat < (2147483647 - i1).toNat; omega)
    ·
      have q3333 := h3190.2.2.1 (by omega)
      refine GO.goto (tgt := 152) dX12_worksGo_32 (by decide) ?_
      refine GO.iinc (X := i1) (n := 1) (Y := i1 + 1) (ls1 := [some (.ref x), some (ti (i1 + 1)), none]) dX12_worksGo_152 rfl rfl rfl rfl ?_
      refine GO.goto (tgt := 2) dX12_worksGo_155 (by decide) ?_
      exact ih2999 (i1 + 1) Wi1 ⟨by omega, by omega, trivial⟩ (by show (2147483647 - (i1 + 1)).toNat < (2147483647 - i1).toNat; omega)

set_option maxHeartbeats 1000000 in
theorem t_X12_goesHome {K : Kmap} {V : Vmap} {x : Nat} {p0 : Int} (h_x : K x = some (0, 11)) (r_p0 : ir p0) (q_0 : p0 ≥ 0) (q_1 : p0 ≤ 59) : MC mX12_goesHome K V [.ref x, ti p0] (VS K (fun V1 => (True))) := by
  refine MC.start 0 (by decide +kernel) rfl rfl rfl (ls0 := [some (.ref x), some (ti p0)]) rfl ?_
  refine GO.aload_n dX12_goesHome_0 rfl rfl ?_
  refine GO.aload_n dX12_goesHome_1 rfl rfl ?_
  refine GO.getL h_x fl_RX12_673 rfl rfl dX12_goesHome_2 ?_
  refine GO.anyL (fun z1 => ?_)
  refine GO.aload_n dX12_goesHome_5 rfl rfl ?_
  refine GO.getA (n := 60) h_x fl_RX12_53 rfl rfl rfl rfl dX12_goesHome_6 (fun hv3 h2 => ?_)
  refine GO.iload_n dX12_goesHome_9 rfl rfl ?_
  have q4 : -2147483648 ≤ p0 ∧ p0 ≤ 2147483647 := r_p0
  refine GO.iald (t := 21) rfl rfl h2 r_p0 (by omega) (by omega) dX12_goesHome_10 (fun l5 u6 => ?_)
  refine GO.i2l dX12_goesHome_11 ?_
  refine GO.anyL (fun z7 => ?_)
  refine GO.ladd dX12_goesHome_12 ?_
  refine GO.anyL (fun z8 => ?_)
  refine GO.putL h_x fp_RX12_673 rfl (by decide +kernel) dX12_goesHome_13 (fun V10 e9 => ?_)
  refine GO.aload_n dX12_goesHome_16 rfl rfl ?_
  refine GO.getRaw h_x fl_RX12_53 (Eq.trans (uq_ne e9 (Or.inr (by decide))) hv3) dX12_goesHome_17 ?_
  refine GO.iload_n dX12_goesHome_20 rfl rfl ?_
  refine GO.iconst dX12_goesHome_21 ?_
  refine GO.iast (t := 21) rfl rfl (by decide +kernel) h2 r_p0 (by omega) (by omega) (ir_c rfl) (by decide) (by decide) dX12_goesHome_22 (fun V14 e13 => ?_)
  exact GO.retv rfl rfl dX12_goesHome_23 ⟨rfl, rfl, trivial⟩

set_option maxHeartbeats 1000000 in
theorem t_X12_burns {K : Kmap} {V : Vmap} {x : Nat} {p0 : Int} (h_x : K x = some (0, 11)) (r_p0 : ir p0) (q_0 : p0 ≥ 0) (q_1 : p0 ≤ 59) : MC mX12_burns K V [.ref x, ti p0] (VS K (fun V1 => (True))) := by
  refine MC.start 4 (by decide +kernel) rfl rfl rfl (ls0 := [some (.ref x), some (ti p0), none, none, none, none]) rfl ?_
  refine GO.aload_n dX12_burns_0 rfl rfl ?_
  refine GO.getA (n := 60) h_x fl_RX12_53 rfl rfl rfl rfl dX12_burns_1 (fun hv2 h1 => ?_)
  refine GO.iload_n dX12_burns_4 rfl rfl ?_
  have q3 : -2147483648 ≤ p0 ∧ p0 ≤ 2147483647 := r_p0
  refine GO.iald (t := 21) rfl rfl h1 r_p0 (by omega) (by omega) dX12_burns_5 (fun l4 u5 => ?_)
  refine GO.bipush dX12_burns_6 rfl ?_
  refine GO.iadd dX12_burns_8 ?_
  refine GO.bipush dX12_burns_9 rfl ?_
  refine GO.idivP dX12_burns_11 ⟨by omega, by omega⟩ (ir_c rfl) (by omega) (by omega) ?_
  refine GO.aload_n dX12_burns_12 rfl rfl ?_
  refine GO.aload_n dX12_burns_13 rfl rfl ?_
  refine GO.getI h_x fl_RX12_396 rfl rfl dX12_burns_14 (fun l6 u7 => ?_)
  refine GO.callV (ci := 11) (N := mX12_isDark) dX12_burns_17 (RX12, TX12, 151) rfl gV_RX12_582 h_x (t_X12_isDark h_x vi_ir) rfl [ti (((vi V (vq V x 19) (p0).toNat) + 9) / 10)] rfl rfl (Nat.le_of_ble_eq_true rfl) rfl (k_ip fun X8 r9 h10 => ?_)
  have hj13 : ∀ (z12 : Int), ∀ (l14 : 1 ≤ z12), ∀ (u15 : z12 ≤ 2), GO mX12_burns K V (VS K (fun V1 => (True))) K V 0 0 28 [some (.ref x), some (ti p0), none, none, none, none] [ti z12, ti (((vi V (vq V x 19) (p0).toNat) + 9) / 10)] := by
    intro z12 l14 u15
    have r16 : ir z12 := ⟨by omega, by omega⟩
    refine GO.imul dX12_burns_28 ?_
    have m17 := mul_rng (a := ((vi V (vq V x 19) (p0).toNat) + 9) / 10) (b := z12) (A := 50) (B := 2) (by omega) (by omega) (by omega) (by omega)
    refine GO.name (fun z18 hz19 => ?_)
    refine GO.istore_n (ls1 := [some (.ref x), some (ti p0), some (ti z18), none, none, none]) dX12_burns_29 rfl rfl rfl ?_
    refine GO.iload_n dX12_burns_30 rfl rfl ?_
    refine GO.aload_n dX12_burns_31 rfl rfl ?_
    refine GO.getA (n := 60) h_x fl_RX12_56 rfl rfl rfl rfl dX12_burns_32 (fun hv21 h20 => ?_)
    refine GO.iload_n dX12_burns_35 rfl rfl ?_
    refine GO.iald (t := 22) rfl rfl h20 r_p0 (by omega) (by omega) dX12_burns_36 (fun _ _ => ?_)
    have hj26 : ∀ (z25 : Int), ∀ (l27 : (-2147483648) ≤ z25), ∀ (u28 : z25 ≤ 100), GO mX12_burns K V (VS K (fun V1 => (True))) K V 0 0 50 [some (.ref x), some (ti p0), some (ti z18), none, none, none] [ti z25] := by
      intro z25 l27 u28
      have r29 : ir z25 := ⟨by omega, by omega⟩
      refine GO.istore_n (ls1 := [some (.ref x), some (ti p0), some (ti z18), some (ti z25), none, none]) dX12_burns_50 rfl rfl rfl ?_
      refine GO.aload_n dX12_burns_51 rfl rfl ?_
      refine GO.getRaw h_x fl_RX12_56 hv21 dX12_burns_52 ?_
      refine GO.iload_n dX12_burns_55 rfl rfl ?_
      refine GO.aload_n dX12_burns_56 rfl rfl ?_
      refine GO.getRaw h_x fl_RX12_56 hv21 dX12_burns_57 ?_
      refine GO.iload_n dX12_burns_60 rfl rfl ?_
      refine GO.iald (t := 22) rfl rfl h20 r_p0 (by omega) (by omega) dX12_burns_61 (fun _ _ => ?_)
      refine GO.iload_n dX12_burns_62 rfl rfl ?_
      refine GO.isub dX12_burns_63 ?_
      refine GO.norm (fun z34 r35 hn36 => ?_)
      refine GO.iast (t := 22) rfl rfl (by decide +kernel) h20 r_p0 (by omega) (by omega) r35 (r35).1 (r35).2 dX12_burns_64 (fun V38 e37 => ?_)
      refine GO.aload_n dX12_burns_65 rfl rfl ?_
      refine GO.aload_n dX12_burns_66 rfl rfl ?_
      refine GO.getL h_x fl_RX12_654 rfl rfl dX12_burns_67 ?_
      refine GO.anyL (fun z39 => ?_)
      refine GO.iload_n dX12_burns_70 rfl rfl ?_
      refine GO.i2l dX12_burns_71 ?_
      refine GO.anyL (fun z40 => ?_)
      refine GO.ladd dX12_burns_72 ?_
      refine GO.anyL (fun z41 => ?_)
      refine GO.putL h_x fp_RX12_654 rfl (by decide +kernel) dX12_burns_73 (fun V43 e42 => ?_)
      refine GO.aload_n dX12_burns_76 rfl rfl ?_
      refine GO.getA (n := 60) h_x fl_RX12_62 rfl rfl rfl rfl dX12_burns_77 (fun hv45 h44 => ?_)
      refine GO.iload_n dX12_burns_80 rfl rfl ?_
      refine GO.iload_n dX12_burns_81 rfl rfl ?_
      refine GO.iload_n dX12_burns_82 rfl rfl ?_
      have hj55 : ∀ (z54 : Int), ∀ (l56 : (-2147483648) ≤ z54), ∀ (u57 : z54 ≤ 2147483647), GO mX12_burns K V (VS K (fun V1 => (True))) K V43 0 0 98 [some (.ref x), some (ti p0), some (ti z18), some (ti z25), none, none] [ti z54, ti p0, .ref (vq V43 x 22)] := by
        intro z54 l56 u57
        have r58 : ir z54 := ⟨by omega, by omega⟩
        refine GO.iast (t := 24) rfl rfl (by decide +kernel) h44 r_p0 (by omega) (by omega) r58 (r58).1 (r58).2 dX12_burns_98 (fun V60 e59 => ?_)
        refine GO.aload_n dX12_burns_99 rfl rfl ?_
        refine GO.getRaw h_x fl_RX12_62 (Eq.trans (uq_ne e59 (Or.inl (K_ne h_x h44 (by decide)))) hv45) dX12_burns_100 ?_
        refine GO.iload_n dX12_burns_103 rfl rfl ?_
        refine GO.iald (t := 24) rfl rfl h44 r_p0 (by omega) (by omega) dX12_burns_104 (fun _ _ => ?_)
        refine GO.bipush dX12_burns_105 rfl ?_
        have hj68 : ∀ (V69 : Vmap), GO mX12_burns K V (VS K (fun V1 => (True))) K V69 0 0 115 [some (.ref x), some (ti p0), some (ti z18), some (ti z25), none, none] [] := by
          intro V69
          refine GO.aload_n dX12_burns_115 rfl rfl ?_
          refine GO.getA (n := 60) h_x fl_RX12_53 rfl rfl rfl rfl dX12_burns_116 (fun hv71 h70 => ?_)
          refine GO.iload_n dX12_burns_119 rfl rfl ?_
          refine GO.iald (t := 21) rfl rfl h70 r_p0 (by omega) (by omega) dX12_burns_120 (fun l72 u73 => ?_)
          refine GO.bipush dX12_burns_121 rfl ?_
          refine GO.iadd dX12_burns_123 ?_
          refine GO.bipush dX12_burns_124 rfl ?_
          refine GO.idivP dX12_burns_126 ⟨by omega, by omega⟩ (ir_c rfl) (by omega) (by omega) ?_
          refine GO.name (fun z74 hz75 => ?_)
          refine GO.istore (ls1 := [some (.ref x), some (ti p0), some (ti z18), some (ti z25), some (ti z74), none]) dX12_burns_127 rfl rfl ?_
          refine GO.aload_n dX12_burns_129 rfl rfl ?_
          refine GO.aload_n dX12_burns_130 rfl rfl ?_
          refine GO.getI h_x fl_RX12_396 rfl rfl dX12_burns_131 (fun l76 u77 => ?_)
          refine GO.callV (ci := 11) (N := mX12_isDark) dX12_burns_134 (RX12, TX12, 151) rfl gV_RX12_582 h_x (t_X12_isDark h_x vi_ir) rfl [] rfl rfl (Nat.le_of_ble_eq_true rfl) rfl (k_ip fun X78 r79 h80 => ?_)
          have hj83 : ∀ (z82 : Int), ∀ (l84 : 0 ≤ z82), ∀ (u85 : z82 ≤ 3), GO mX12_burns K V (VS K (fun V1 => (True))) K V69 0 0 145 [some (.ref x), some (ti p0), some (ti z18), some (ti z25), some (ti z74), none] [ti z82] := by
            intro z82 l84 u85
            have r86 : ir z82 := ⟨by omega, by omega⟩
            refine GO.istore (ls1 := [some (.ref x), some (ti p0), some (ti z18), some (ti z25), some (ti z74), some (ti z82)]) dX12_burns_145 rfl rfl ?_
            refine GO.aload_n dX12_burns_147 rfl rfl ?_
            refine GO.getA (n := 240) h_x fl_RX12_65 rfl rfl rfl rfl dX12_burns_148 (fun hv88 h87 => ?_)
            refine GO.iconst dX12_burns_151 ?_
            refine GO.iload_n dX12_burns_152 rfl rfl ?_
            refine GO.imul dX12_burns_153 ?_
            refine GO.iload dX12_burns_154 rfl ?_
            refine GO.iadd dX12_burns_156 ?_
            refine GO.aload_n dX12_burns_157 rfl rfl ?_
            refine GO.getRaw h_x fl_RX12_65 hv88 dX12_burns_158 ?_
            refine GO.iconst dX12_burns_161 ?_
            refine GO.iload_n dX12_burns_162 rfl rfl ?_
            refine GO.imul dX12_burns_163 ?_
            refine GO.iload dX12_burns_164 rfl ?_
            refine GO.iadd dX12_burns_166 ?_
            refine GO.iald (t := 25) rfl rfl h87 ⟨by omega, by omega⟩ (by omega) (by omega) dX12_burns_167 (fun _ _ => ?_)
            refine GO.iload dX12_burns_168 rfl ?_
            refine GO.iadd dX12_burns_170 ?_
            refine GO.norm (fun z91 r92 hn93 => ?_)
            refine GO.iast (t := 25) rfl rfl (by decide +kernel) h87 ⟨by omega, by omega⟩ (by omega) (by omega) r92 (r92).1 (r92).2 dX12_burns_171 (fun V95 e94 => ?_)
            refine GO.aload_n dX12_burns_172 rfl rfl ?_
            refine GO.aload_n dX12_burns_173 rfl rfl ?_
            refine GO.getL h_x fl_RX12_679 rfl rfl dX12_burns_174 ?_
            refine GO.anyL (fun z96 => ?_)
            refine GO.iload dX12_burns_177 rfl ?_
            refine GO.i2l dX12_burns_179 ?_
            refine GO.anyL (fun z97 => ?_)
            refine GO.ladd dX12_burns_180 ?_
            refine GO.anyL (fun z98 => ?_)
            refine GO.putL h_x fp_RX12_679 rfl (by decide +kernel) dX12_burns_181 (fun V100 e99 => ?_)
            exact GO.retv rfl rfl dX12_burns_184 ⟨rfl, rfl, trivial⟩
          refine GO.if_eq (tgt := 144) dX12_burns_137 (by decide) r79 (fun c101 => ?_) (fun c101 => ?_)
          ·
            refine GO.iconst dX12_burns_144 ?_
            exact hj83 0 (by omega) (by omega)
          ·
            refine GO.iconst dX12_burns_140 ?_
            refine GO.goto (tgt := 145) dX12_burns_141 (by decide) ?_
            exact hj83 3 (by omega) (by omega)
        refine GO.icmp_ne (tgt := 115) dX12_burns_107 (by decide) vi_ir (ir_c rfl) (fun c102 => ?_) (fun c102 => ?_)
        ·
          exact hj68  V60
        ·
          refine GO.aload_n dX12_burns_110 rfl rfl ?_
          refine GO.iload_n dX12_burns_111 rfl rfl ?_
          refine GO.callV (ci := 11) (N := mX12_goesHome) dX12_burns_112 (RX12, TX12, 151) rfl gV_RX12_676 h_x (t_X12_goesHome h_x r_p0 (by omega) (by omega)) rfl [] rfl rfl (Nat.le_of_ble_eq_true rfl) rfl (k_vs fun V105 h104 hF103 => ?_)
          exact hj68  V105
      refine GO.icmp_ge (tgt := 97) dX12_burns_83 (by decide) r29 ⟨by omega, by omega⟩ (fun c106 => ?_) (fun c106 => ?_)
      ·
        refine GO.iconst dX12_burns_97 ?_
        exact hj55 0 (by omega) (by omega)
      ·
        refine GO.aload_n dX12_burns_86 rfl rfl ?_
        refine GO.getRaw h_x fl_RX12_62 hv45 dX12_burns_87 ?_
        refine GO.iload_n dX12_burns_90 rfl rfl ?_
        refine GO.iald (t := 24) rfl rfl h44 r_p0 (by omega) (by omega) dX12_burns_91 (fun _ _ => ?_)
        refine GO.iconst dX12_burns_92 ?_
        refine GO.iadd dX12_burns_93 ?_
        refine GO.norm (fun z111 r112 hn113 => ?_)
        refine GO.goto (tgt := 98) dX12_burns_94 (by decide) ?_
        have q114 : -2147483648 ≤ z111 ∧ z111 ≤ 2147483647 := r112
        exact hj55 z111 (by omega) (by omega)
    refine GO.icmp_ge (tgt := 44) dX12_burns_37 (by decide) ⟨by omega, by omega⟩ vi_ir (fun c115 => ?_) (fun c115 => ?_)
    ·
      refine GO.aload_n dX12_burns_44 rfl rfl ?_
      refine GO.getRaw h_x fl_RX12_56 hv21 dX12_burns_45 ?_
      refine GO.iload_n dX12_burns_48 rfl rfl ?_
      refine GO.iald (t := 22) rfl rfl h20 r_p0 (by omega) (by omega) dX12_burns_49 (fun _ _ => ?_)
      have q118 : -2147483648 ≤ vi V (vq V x 20) (p0).toNat ∧ vi V (vq V x 20) (p0).toNat ≤ 2147483647 := vi_ir
      exact hj26 (vi V (vq V x 20) (p0).toNat) (by omega) (by omega)
    ·
      refine GO.iload_n dX12_burns_40 rfl rfl ?_
      refine GO.goto (tgt := 50) dX12_burns_41 (by decide) ?_
      have q119 : -2147483648 ≤ vi V (vq V x 20) (p0).toNat ∧ vi V (vq V x 20) (p0).toNat ≤ 2147483647 := vi_ir
      exact hj26 z18 (by omega) (by omega)
  refine GO.if_eq (tgt := 27) dX12_burns_20 (by decide) r9 (fun c120 => ?_) (fun c120 => ?_)
  ·
    refine GO.iconst dX12_burns_27 ?_
    exact hj13 1 (by omega) (by omega)
  ·
    refine GO.iconst dX12_burns_23 ?_
    refine GO.goto (tgt := 28) dX12_burns_24 (by decide) ?_
    exact hj13 2 (by omega) (by omega)

set_option maxHeartbeats 1000000 in
theorem t_X12_loses {K : Kmap} {V : Vmap} {x : Nat} {p0 : Int} (h_x : K x = some (0, 11)) (r_p0 : ir p0) (q_0 : p0 ≥ 0) (q_1 : p0 ≤ 59) : MC mX12_loses K V [.ref x, ti p0] (VS K (fun V1 => (True) ∧ (MLO V V1 x p0))) := by
  refine MC.start 1 (by decide +kernel) rfl rfl rfl (ls0 := [some (.ref x), some (ti p0), none]) rfl ?_
  refine GO.useWT (fun hW1 => ?_)
  have ak2 := hW1.arr h_x 28 30 (by decide) rfl (by decide)
  refine GO.useWT (fun hW_0 => ?_)
  refine GO.aload_n dX12_loses_0 rfl rfl ?_
  refine GO.getA (n := 60) h_x fl_RX12_80 rfl rfl rfl rfl dX12_loses_1 (fun hv4 h3 => ?_)
  refine GO.iload_n dX12_loses_4 rfl rfl ?_
  refine GO.iconst dX12_loses_5 ?_
  have q5 : -2147483648 ≤ p0 ∧ p0 ≤ 2147483647 := r_p0
  refine GO.zast (t := 30) rfl rfl (by decide +kernel) h3 r_p0 (by omega) (by omega) (by omega) (by omega) (by omega) dX12_loses_6 (fun V7 e6 => ?_)
  have ak8 := tk_put e6 ak2 h_x (vq_of hv4) ⟨by omega, by omega⟩ (rfl : ar 28 V x = ar 28 V x)
  refine GO.aload_n dX12_loses_7 rfl rfl ?_
  refine GO.aload_n dX12_loses_8 rfl rfl ?_
  refine GO.getL h_x fl_RX12_657 rfl rfl dX12_loses_9 ?_
  refine GO.anyL (fun z9 => ?_)
  refine GO.aload_n dX12_loses_12 rfl rfl ?_
  refine GO.getA (n := 60) h_x fl_RX12_56 rfl rfl rfl rfl dX12_loses_13 (fun hv11 h10 => ?_)
  refine GO.iload_n dX12_loses_16 rfl rfl ?_
  refine GO.iald (t := 22) rfl rfl h10 r_p0 (by omega) (by omega) dX12_loses_17 (fun _ _ => ?_)
  refine GO.i2l dX12_loses_18 ?_
  refine GO.anyL (fun z13 => ?_)
  refine GO.ladd dX12_loses_19 ?_
  refine GO.anyL (fun z14 => ?_)
  refine GO.aload_n dX12_loses_20 rfl rfl ?_
  refine GO.getA (n := 60) h_x fl_RX12_59 rfl rfl rfl rfl dX12_loses_21 (fun hv16 h15 => ?_)
  refine GO.iload_n dX12_loses_24 rfl rfl ?_
  refine GO.iald (t := 23) rfl rfl h15 r_p0 (by omega) (by omega) dX12_loses_25 (fun _ _ => ?_)
  refine GO.i2l dX12_loses_26 ?_
  refine GO.anyL (fun z18 => ?_)
  refine GO.ladd dX12_loses_27 ?_
  refine GO.anyL (fun z19 => ?_)
  refine GO.putL h_x fp_RX12_657 rfl (by decide +kernel) dX12_loses_28 (fun V21 e20 => ?_)
  have ak22 := tk_fld e20 ak8.1 h_x (by decide) ak8.2
  refine GO.aload_n dX12_loses_31 rfl rfl ?_
  refine GO.getRaw h_x fl_RX12_56 (Eq.trans (uq_ne e20 (Or.inr (by decide))) hv11) dX12_loses_32 ?_
  refine GO.iload_n dX12_loses_35 rfl rfl ?_
  refine GO.iconst dX12_loses_36 ?_
  refine GO.iast (t := 22) rfl rfl (by decide +kernel) h10 r_p0 (by omega) (by omega) (ir_c rfl) (by decide) (by decide) dX12_loses_37 (fun V26 e25 => ?_)
  have ak27 := tk_oth e25 ak22.1 h_x h10 (by decide) (by decide) ak22.2
  refine GO.aload_n dX12_loses_38 rfl rfl ?_
  refine GO.getRaw h_x fl_RX12_59 (Eq.trans (uq_ne e25 (Or.inl (K_ne h_x h10 (by decide)))) (Eq.trans (uq_ne e20 (Or.inr (by decide))) hv16)) dX12_loses_39 ?_
  refine GO.iload_n dX12_loses_42 rfl rfl ?_
  refine GO.iconst dX12_loses_43 ?_
  refine GO.iast (t := 23) rfl rfl (by decide +kernel) h15 r_p0 (by omega) (by omega) (ir_c rfl) (by decide) (by decide) dX12_loses_44 (fun V31 e30 => ?_)
  have ak32 := tk_oth e30 ak27.1 h_x h15 (by decide) (by decide) ak27.2
  refine GO.iconst dX12_loses_45 ?_
  refine GO.istore_n (ls1 := [some (.ref x), some (ti p0), some (ti 0)]) dX12_loses_46 rfl rfl rfl ?_
  refine GO.loop1 (fun i33 W => 0 ≤ i33 ∧ i33 ≤ 4 ∧ ar 28 W x = updf (ar 28 V x) (p0).toNat 1 ∧ True) (fun i33 => [some (.ref x), some (ti p0), some (ti i33)]) (fun i33 W => (2147483647 - i33).toNat) 0 ⟨by omega, by omega, ak32.2, trivial⟩ rfl (fun i33 Wi33 hp443 ih442 => ?_)
  obtain ⟨l_i33, u_i33, kp444, -⟩ := hp443
  have r_i33 : ir i33 := ⟨by omega, by omega⟩
  show GO mX12_loses K V (VS K (fun V1 => (True) ∧ (MLO V V1 x p0))) K Wi33 0 0 47 [some (.ref x), some (ti p0), some (ti i33)] []
  refine GO.useWT (fun hW445 => ?_)
  have ak446 := hW445.arr h_x 28 30 (by decide) rfl (by decide)
  refine GO.iload_n dX12_loses_47 rfl rfl ?_
  refine GO.iconst dX12_loses_48 ?_
  refine GO.icmp_ge (tgt := 89) dX12_loses_49 (by decide) r_i33 (ir_c rfl) (fun c447 => ?_) (fun c447 => ?_)
  ·
    refine GO.aload_n dX12_loses_89 rfl rfl ?_
    refine GO.iload_n dX12_loses_90 rfl rfl ?_
    refine GO.callV (ci := 11) (N := mX12_goesHome) dX12_loses_91 (RX12, TX12, 151) rfl gV_RX12_676 h_x (t_X12_goesHome h_x r_p0 (by omega) (by omega)) rfl [] rfl rfl (Nat.le_of_ble_eq_true rfl) rfl (k_vs fun V450 h449 hF448 => ?_)
    have ak451 := tk_fr hF448 ak446 h_x (by decide +kernel) (by decide +kernel) kp444
    refine GO.iconst dX12_loses_94 ?_
    refine GO.istore_n (ls1 := [some (.ref x), some (ti p0), some (ti 0)]) dX12_loses_95 rfl rfl rfl ?_
    refine GO.loop1 (fun i452 W => 0 ≤ i452 ∧ i452 ≤ 60 ∧ (MLL V W x p0 i452) ∧ True) (fun i452 => [some (.ref x), some (ti p0), some (ti i452)]) (fun i452 W => (2147483647 - i452).toNat) 0 ⟨by omega, by omega, (by first | exact MLL.beg ak451.2 (fun _ => rfl)), trivial⟩ rfl (fun i452 Wi452 hp598 ih597 => ?_)
    obtain ⟨l_i452, u_i452, hll, -⟩ := hp598
    have r_i452 : ir i452 := ⟨by omega, by omega⟩
    show GO mX12_loses K V (VS K (fun V1 => (True) ∧ (MLO V V1 x p0))) K Wi452 0 0 96 [some (.ref x), some (ti p0), some (ti i452)] []
    refine GO.useWT (fun hW599 => ?_)
    have ak600 := hW599.arr h_x 28 30 (by decide) rfl (by decide)
    refine GO.useFR (fun hFs => ?_)
    have hmp : MPS V Wi452 x := MPS.fr hFs ext.rf hW_0 h_x (by decide +kernel)
    refine GO.iload_n dX12_loses_96 rfl rfl ?_
    refine GO.aload_n dX12_loses_97 rfl rfl ?_
    refine GO.getI h_x fl_RX12_375 rfl rfl dX12_loses_98 (fun l601 u602 => ?_)
    refine GO.icmp_ge (tgt := 137) dX12_loses_101 (by decide) r_i452 vi_ir (fun c603 => ?_) (fun c603 => ?_)
    ·
      exact GO.retv rfl rfl dX12_loses_137 ⟨rfl, rfl, ⟨trivial, MLL.end hll hmp (by omega)⟩⟩
    ·
      refine GO.aload_n dX12_loses_104 rfl rfl ?_
      refine GO.getA (n := 60) h_x fl_RX12_35 rfl rfl rfl rfl dX12_loses_105 (fun hv605 h604 => ?_)
      refine GO.iload_n dX12_loses_108 rfl rfl ?_
      refine GO.iald (t := 15) rfl rfl h604 r_i452 (by omega) (by omega) dX12_loses_109 (fun l606 u607 => ?_)
      refine GO.iconst dX12_loses_110 ?_
      refine GO.icmp_ne (tgt := 131) dX12_loses_111 (by decide) vi_ir (ir_c rfl) (fun c608 => ?_) (fun c608 => ?_)
      ·
        refine GO.iinc (X := i452) (n := 1) (Y := i452 + 1) (ls1 := [some (.ref x), some (ti p0), some (ti (i452 + 1))]) dX12_loses_131 rfl rfl rfl rfl ?_
        refine GO.goto (tgt := 96) dX12_loses_134 (by decide) ?_
        exact ih597 (i452 + 1) Wi452 ⟨by omega, by omega, (by first | exact MLL.beg (rfl : ar 28 Wi452 x = ar 28 Wi452 x) (fun _ => rfl) | exact MLL.skip hll (by omega) hmp (Or.inl (by assumption)) (rfl : ar 28 Wi452 x = ar 28 Wi452 x) (by omega) | exact MLL.skip hll (by omega) hmp (Or.inr (by assumption)) (rfl : ar 28 Wi452 x = ar 28 Wi452 x) (by omega) | exact MLL.hit hll (by omega) hmp (by omega) (by assumption) (by assumption) (rfl : ar 28 Wi452 x = ar 28 Wi452 x) rfl (by omega)), trivial⟩ (by show (2147483647 - (i452 + 1)).toNat < (2147483647 - i452).toNat; omega)
      ·
        refine GO.aload_n dX12_loses_114 rfl rfl ?_
        refine GO.getA (n := 60) h_x fl_RX12_47 rfl rfl rfl rfl dX12_loses_115 (fun hv610 h609 => ?_)
        refine GO.iload_n dX12_loses_118 rfl rfl ?_
        refine GO.iald (t := 19) rfl rfl h609 r_i452 (by omega) (by omega) dX12_loses_119 (fun _ _ => ?_)
        refine GO.iload_n dX12_loses_120 rfl rfl ?_
        refine GO.icmp_ne (tgt := 131) dX12_loses_121 (by decide) vi_ir r_p0 (fun c611 => ?_) (fun c611 => ?_)
        ·
          refine GO.iinc (X := i452) (n := 1) (Y := i452 + 1) (ls1 := [some (.ref x), some (ti p0), some (ti (i452 + 1))]) dX12_loses_131 rfl rfl rfl rfl ?_
          refine GO.goto (tgt := 96) dX12_loses_134 (by decide) ?_
          exact ih597 (i452 + 1) Wi452 ⟨by omega, by omega, (by first | exact MLL.beg (rfl : ar 28 Wi452 x = ar 28 Wi452 x) (fun _ => rfl) | exact MLL.skip hll (by omega) hmp (Or.inl (by assumption)) (rfl : ar 28 Wi452 x = ar 28 Wi452 x) (by omega) | exact MLL.skip hll (by omega) hmp (Or.inr (by assumption)) (rfl : ar 28 Wi452 x = ar 28 Wi452 x) (by omega) | exact MLL.hit hll (by omega) hmp (by omega) (by assumption) (by assumption) (rfl : ar 28 Wi452 x = ar 28 Wi452 x) rfl (by omega)), trivial⟩ (by show (2147483647 - (i452 + 1)).toNat < (2147483647 - i452).toNat; omega)
        ·
          refine GO.aload_n dX12_loses_124 rfl rfl ?_
          refine GO.getA (n := 60) h_x fl_RX12_80 rfl rfl rfl rfl dX12_loses_125 (fun hv613 h612 => ?_)
          refine GO.iload_n dX12_loses_128 rfl rfl ?_
          refine GO.iconst dX12_loses_129 ?_
          refine GO.zast (t := 30) rfl rfl (by decide +kernel) h612 r_i452 (by omega) (by omega) (by omega) (by omega) (by omega) dX12_loses_130 (fun V615 e614 => ?_)
          have ak616 := tk_put e614 ak600 h_x (vq_of hv613) ⟨by omega, by omega⟩ (rfl : ar 28 Wi452 x = ar 28 Wi452 x)
          refine GO.iinc (X := i452) (n := 1) (Y := i452 + 1) (ls1 := [some (.ref x), some (ti p0), some (ti (i452 + 1))]) dX12_loses_131 rfl rfl rfl rfl ?_
          refine GO.goto (tgt := 96) dX12_loses_134 (by decide) ?_
          exact ih597 (i452 + 1) V615 ⟨by omega, by omega, (by first | exact MLL.beg ak616.2 (fun _ => rfl) | exact MLL.skip hll (by omega) hmp (Or.inl (by assumption)) ak616.2 (by omega) | exact MLL.skip hll (by omega) hmp (Or.inr (by assumption)) ak616.2 (by omega) | exact MLL.hit hll (by omega) hmp (by omega) (by assumption) (by assumption) ak616.2 rfl (by omega)), trivial⟩ (by show (2147483647 - (i452 + 1)).toNat < (2147483647 - i452).toNat; omega)
  ·
    refine GO.aload_n dX12_loses_52 rfl rfl ?_
    refine GO.aload_n dX12_loses_53 rfl rfl ?_
    refine GO.getL h_x fl_RX12_682 rfl rfl dX12_loses_54 ?_
    refine GO.anyL (fun z617 => ?_)
    refine GO.aload_n dX12_loses_57 rfl rfl ?_
    refine GO.getA (n := 240) h_x fl_RX12_65 rfl rfl rfl rfl dX12_loses_58 (fun hv619 h618 => ?_)
    refine GO.iconst dX12_loses_61 ?_
    refine GO.iload_n dX12_loses_62 rfl rfl ?_
    refine GO.imul dX12_loses_63 ?_
    refine GO.iload_n dX12_loses_64 rfl rfl ?_
    refine GO.iadd dX12_loses_65 ?_
    refine GO.iald (t := 25) rfl rfl h618 ⟨by omega, by omega⟩ (by omega) (by omega) dX12_loses_66 (fun _ _ => ?_)
    refine GO.i2l dX12_loses_67 ?_
    refine GO.anyL (fun z620 => ?_)
    refine GO.ladd dX12_loses_68 ?_
    refine GO.anyL (fun z621 => ?_)
    refine GO.putL h_x fp_RX12_682 rfl (by decide +kernel) dX12_loses_69 (fun V623 e622 => ?_)
    have ak624 := tk_fld e622 ak446 h_x (by decide) kp444
    refine GO.aload_n dX12_loses_72 rfl rfl ?_
    refine GO.getRaw h_x fl_RX12_65 (Eq.trans (uq_ne e622 (Or.inr (by decide))) hv619) dX12_loses_73 ?_
    refine GO.iconst dX12_loses_76 ?_
    refine GO.iload_n dX12_loses_77 rfl rfl ?_
    refine GO.imul dX12_loses_78 ?_
    refine GO.iload_n dX12_loses_79 rfl rfl ?_
    refine GO.iadd dX12_loses_80 ?_
    refine GO.iconst dX12_loses_81 ?_
    refine GO.iast (t := 25) rfl rfl (by decide +kernel) h618 ⟨by omega, by omega⟩ (by omega) (by omega) (ir_c rfl) (by decide) (by decide) dX12_loses_82 (fun V628 e627 => ?_)
    have ak629 := tk_oth e627 ak624.1 h_x h618 (by decide) (by decide) ak624.2
    refine GO.iinc (X := i33) (n := 1) (Y := i33 + 1) (ls1 := [some (.ref x), some (ti p0), some (ti (i33 + 1))]) dX12_loses_83 rfl rfl rfl rfl ?_
    refine GO.goto (tgt := 47) dX12_loses_86 (by decide) ?_
    exact ih442 (i33 + 1) V628 ⟨by omega, by omega, ak629.2, trivial⟩ (by show (2147483647 - (i33 + 1)).toNat < (2147483647 - i33).toNat; omega)
