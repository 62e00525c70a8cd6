def mX8_get_k26 : MRec := (RX8, cX8_get, 5, (some .int), yX8_get, 0, 0, 0, 0, 0)
def mX11_tonnesUpTo : MRec := (RX11, cX11_tonnesUpTo, 7, (some .int), yX11_tonnesUpTo, 1, 24, 0, 0, 0)
def mX11_isOver : MRec := (RX11, cX11_isOver, 5, (some .boolean), yX11_isOver, 5, 127, 0, 0, 123947994148171612303484120256144569967825878055802728615871649113951085856808377342222976957446615908923352254691881254912)
def mX11_over : MRec := (RX11, cX11_over, 4, (some .int), yX11_over, 6, 151, 0, 0, 123947994148171612303484120256144569967825878055802728615871649113951085856808377342222976957446615908923352254691881254912)
def mX11_isDoubtful : MRec := (RX11, cX11_isDoubtful, 6, (some .boolean), yX11_isDoubtful, 1, 24, 0, 0, 0)
def mX11_doubt : MRec := (RX11, cX11_doubt, 4, (some .int), yX11_doubt, 2, 49, 0, 0, 0)
def mX8_isFull_k25 : MRec := (RX8, cX8_isFull, 1, (some .boolean), yX8_isFull, 0, 0, 0, 0, 0)
def mX8_put_k25 : MRec := (RX8, cX8_put, 6, (none : Option Jvm.ClassFile.FieldType), yX8_put, 0, 0, 0, 0, 676921312041214565326761275425557544784286395355423968547480366360991530225982818124993751490268451683933401113623918903558144)
def mX8_append_k25 : MRec := (RX8, cX8_append, 7, (some .int), yX8_append, 1, 25, 0, 0, 583992399055640987986069965529637289586333248927815671114136642291107898324022746687322166609898964729210999911815439559736701684702417055306566631742568409847745586769797847011721520526468841472)
def mX11_word : MRec := (RX11, cX11_word, 2, (some .int), yX11_word, 2, 51, 0, 0, 583992399055640987986069965529637289586333248927815671114136642291107898324022746687322166609898964729210999911815439559736701684702417055306566631742568409847745586769797847011721520526468841472)
set_option maxHeartbeats 1000000 in
theorem t_X8_get_k26 {K : Kmap} {V : Vmap} {x : Nat} {p0 : Int} {p1 : Int} (h_x : K x = some (0, 26)) (r_p0 : ir p0) (r_p1 : ir p1) : MC mX8_get_k26 K V [.ref x, ti p0, ti p1] (IP K V (fun X => True)) := by
  refine MC.start 2 (by decide +kernel) rfl rfl rfl (ls0 := [some (.ref x), some (ti p0), some (ti p1), none, none]) rfl ?_
  refine GO.iload_n dX8_get_0 rfl rfl ?_
  refine GO.aload_n dX8_get_1 rfl rfl ?_
  refine GO.getI h_x fl_RX8_15_k26 rfl rfl dX8_get_2 (fun l1 u2 => ?_)
  refine GO.imul dX8_get_5 ?_
  refine GO.norm (fun z3 r4 hn5 => ?_)
  refine GO.iload_n dX8_get_6 rfl rfl ?_
  refine GO.iadd dX8_get_7 ?_
  refine GO.norm (fun z6 r7 hn8 => ?_)
  refine GO.istore_n (ls1 := [some (.ref x), some (ti p0), some (ti p1), some (ti z6), none]) dX8_get_8 rfl rfl rfl ?_
  refine GO.iload_n dX8_get_9 rfl rfl ?_
  have hj18 : ∀ (z17 : Int), ∀ (l19 : 0 ≤ z17), ∀ (u20 : z17 ≤ 1), GO mX8_get_k26 K V (IP K V (fun X => True)) K V 0 0 38 [some (.ref x), some (ti p0), some (ti p1), some (ti z6), none] [ti z17] := by
    intro z17 l19 u20
    have r21 : ir z17 := ⟨by omega, by omega⟩
    refine GO.istore (ls1 := [some (.ref x), some (ti p0), some (ti p1), some (ti z6), some (ti z17)]) dX8_get_38 rfl rfl ?_
    refine GO.iload dX8_get_40 rfl ?_
    refine GO.if_eq (tgt := 67) dX8_get_42 (by decide) r21 (fun c22 => ?_) (fun c22 => ?_)
    ·
      refine GO.iconst dX8_get_67 ?_
      exact GO.reti rfl rfl dX8_get_68 ⟨rfl, rfl, _, rfl, (ir_c rfl), trivial⟩
    ·
      refine GO.iload_n dX8_get_45 rfl rfl ?_
      refine GO.if_lt (tgt := 67) dX8_get_46 (by decide) r7 (fun c23 => ?_) (fun c23 => ?_)
      ·
        refine GO.iconst dX8_get_67 ?_
        exact GO.reti rfl rfl dX8_get_68 ⟨rfl, rfl, _, rfl, (ir_c rfl), trivial⟩
      ·
        refine GO.iload_n dX8_get_49 rfl rfl ?_
        refine GO.aload_n dX8_get_50 rfl rfl ?_
        refine GO.getA (n := 1000) h_x fl_RX8_27_k26 rfl rfl rfl rfl dX8_get_51 (fun hv25 h24 => ?_)
        refine GO.alen h24 dX8_get_54 (fun h26 => ?_)
        refine GO.icmp_ge (tgt := 67) dX8_get_55 (by decide) r7 ⟨by omega, by omega⟩ (fun c27 => ?_) (fun c27 => ?_)
        ·
          refine GO.iconst dX8_get_67 ?_
          exact GO.reti rfl rfl dX8_get_68 ⟨rfl, rfl, _, rfl, (ir_c rfl), trivial⟩
        ·
          refine GO.aload_n dX8_get_58 rfl rfl ?_
          refine GO.getRaw h_x fl_RX8_27_k26 hv25 dX8_get_59 ?_
          refine GO.iload_n dX8_get_62 rfl rfl ?_
          have q30 : -2147483648 ≤ z6 ∧ z6 ≤ 2147483647 := r7
          refine GO.iald (t := 148) rfl rfl h24 r7 (by omega) (by omega) dX8_get_63 (fun _ _ => ?_)
          refine GO.goto (tgt := 68) dX8_get_64 (by decide) ?_
          have q31 : -2147483648 ≤ vi V (vq V x 2) (z6).toNat ∧ vi V (vq V x 2) (z6).toNat ≤ 2147483647 := vi_ir
          exact GO.reti rfl rfl dX8_get_68 ⟨rfl, rfl, _, rfl, vi_ir, trivial⟩
  have hj40 : GO mX8_get_k26 K V (IP K V (fun X => True)) K V 0 0 37 [some (.ref x), some (ti p0), some (ti p1), some (ti z6), none] [] := by
    skip
    refine GO.iconst dX8_get_37 ?_
    exact hj18 0 (by omega) (by omega)
  refine GO.if_lt (tgt := 37) dX8_get_10 (by decide) r_p0 (fun c41 => ?_) (fun c41 => ?_)
  ·
    exact hj40 
  ·
    refine GO.iload_n dX8_get_13 rfl rfl ?_
    refine GO.aload_n dX8_get_14 rfl rfl ?_
    refine GO.getI h_x fl_RX8_9_k26 rfl rfl dX8_get_15 (fun l42 u43 => ?_)
    refine GO.icmp_ge (tgt := 37) dX8_get_18 (by decide) r_p0 vi_ir (fun c44 => ?_) (fun c44 => ?_)
    ·
      exact hj40 
    ·
      refine GO.iload_n dX8_get_21 rfl rfl ?_
      refine GO.if_lt (tgt := 37) dX8_get_22 (by decide) r_p1 (fun c45 => ?_) (fun c45 => ?_)
      ·
        exact hj40 
      ·
        refine GO.iload_n dX8_get_25 rfl rfl ?_
        refine GO.aload_n dX8_get_26 rfl rfl ?_
        refine GO.getI h_x fl_RX8_15_k26 rfl rfl dX8_get_27 (fun l46 u47 => ?_)
        refine GO.icmp_ge (tgt := 37) dX8_get_30 (by decide) r_p1 vi_ir (fun c48 => ?_) (fun c48 => ?_)
        ·
          exact hj40 
        ·
          refine GO.iconst dX8_get_33 ?_
          refine GO.goto (tgt := 38) dX8_get_34 (by decide) ?_
          exact hj18 1 (by omega) (by omega)

set_option maxHeartbeats 1000000 in
theorem t_X11_tonnesUpTo {K : Kmap} {V : Vmap} {x : Nat} {p0 : Int} (h_x : K x = some (0, 10)) (r_p0 : ir p0) : MC mX11_tonnesUpTo K V [.ref x, ti p0] (IP K V (fun X => True)) := by
  refine MC.start 5 (by decide +kernel) rfl rfl rfl (ls0 := [some (.ref x), some (ti p0), none, none, none, none, none]) rfl ?_
  refine GO.aload_n dX11_tonnesUpTo_0 rfl rfl ?_
  refine GO.getR h_x fl_RX11_82 rfl rfl dX11_tonnesUpTo_1 (fun hv2 h1 => ?_)
  refine GO.iload_n dX11_tonnesUpTo_4 rfl rfl ?_
  refine GO.iconst dX11_tonnesUpTo_5 ?_
  refine GO.callV (ci := 26) (N := mX8_get_k26) dX11_tonnesUpTo_6 (RX8, TX8, 4) rfl gV_RX11_209 h1 (t_X8_get_k26 h1 r_p0 (ir_c rfl)) rfl [] rfl rfl (Nat.le_of_ble_eq_true rfl) rfl (k_ip fun X3 r4 h5 => ?_)
  refine GO.istore_n (ls1 := [some (.ref x), some (ti p0), some (ti X3), none, none, none, none]) dX11_tonnesUpTo_9 rfl rfl rfl ?_
  refine GO.iconst dX11_tonnesUpTo_10 ?_
  refine GO.istore_n (ls1 := [some (.ref x), some (ti p0), some (ti X3), some (ti 0), none, none, none]) dX11_tonnesUpTo_11 rfl rfl rfl ?_
  refine GO.iconst dX11_tonnesUpTo_12 ?_
  refine GO.istore (ls1 := [some (.ref x), some (ti p0), some (ti X3), some (ti 0), some (ti 0), none, none]) dX11_tonnesUpTo_13 rfl rfl ?_
  refine GO.loop2 (fun i6 i7 W => (-2147483648) ≤ i6 ∧ i6 ≤ 2147483647 ∧ 0 ≤ i7 ∧ i7 ≤ 200 ∧ V = W) (fun i6 i7 => [some (.ref x), some (ti p0), some (ti X3), some (ti i6), some (ti i7), none, none]) (fun i6 i7 W => (2147483647 - i7).toNat) 0 0 ⟨by omega, by omega, by omega, by omega, rfl⟩ rfl (fun i6 i7 V2053 hp2055 ih2054 => ?_)
  obtain ⟨l_i6, u_i6, l_i7, u_i7, rfl⟩ := hp2055
  have r_i6 : ir i6 := ⟨by omega, by omega⟩
  have r_i7 : ir i7 := ⟨by omega, by omega⟩
  show GO mX11_tonnesUpTo K V (IP K V (fun X => True)) K V 0 0 15 [some (.ref x), some (ti p0), some (ti X3), some (ti i6), some (ti i7), none, none] []
  refine GO.iload dX11_tonnesUpTo_15 rfl ?_
  refine GO.aload_n dX11_tonnesUpTo_17 rfl rfl ?_
  refine GO.getRaw h_x fl_RX11_82 hv2 dX11_tonnesUpTo_18 ?_
  refine GO.getI h1 fl_RX11_199_k26 rfl rfl dX11_tonnesUpTo_21 (fun l2058 u2059 => ?_)
  refine GO.icmp_ge (tgt := 146) dX11_tonnesUpTo_24 (by decide) r_i7 vi_ir (fun c2060 => ?_) (fun c2060 => ?_)
  ·
    refine GO.iload_n dX11_tonnesUpTo_146 rfl rfl ?_
    exact GO.reti rfl rfl dX11_tonnesUpTo_147 ⟨rfl, rfl, _, rfl, r_i6, trivial⟩
  ·
    refine GO.aload_n dX11_tonnesUpTo_27 rfl rfl ?_
    refine GO.getRaw h_x fl_RX11_82 hv2 dX11_tonnesUpTo_28 ?_
    refine GO.iload dX11_tonnesUpTo_31 rfl ?_
    refine GO.iconst dX11_tonnesUpTo_33 ?_
    refine GO.callV (ci := 26) (N := mX8_get_k26) dX11_tonnesUpTo_34 (RX8, TX8, 4) rfl gV_RX11_209 h1 (t_X8_get_k26 h1 r_i7 (ir_c rfl)) rfl [] rfl rfl (Nat.le_of_ble_eq_true rfl) rfl (k_ip fun X2063 r2064 h2065 => ?_)
    refine GO.istore (ls1 := [some (.ref x), some (ti p0), some (ti X3), some (ti i6), some (ti i7), some (ti X2063), none]) dX11_tonnesUpTo_37 rfl rfl ?_
    refine GO.iload dX11_tonnesUpTo_39 rfl ?_
    refine GO.iload_n dX11_tonnesUpTo_41 rfl rfl ?_
    have hj2073 : ∀ (z2072 : Int), ∀ (l2074 : 0 ≤ z2072), ∀ (u2075 : z2072 ≤ 1), GO mX11_tonnesUpTo K V (IP K V (fun X => True)) K V 0 0 62 [some (.ref x), some (ti p0), some (ti X3), some (ti i6), some (ti i7), some (ti X2063), none] [ti z2072] := by
      intro z2072 l2074 u2075
      have r2076 : ir z2072 := ⟨by omega, by omega⟩
      refine GO.istore (ls1 := [some (.ref x), some (ti p0), some (ti X3), some (ti i6), some (ti i7), some (ti X2063), some (ti z2072)]) dX11_tonnesUpTo_62 rfl rfl ?_
      refine GO.iload dX11_tonnesUpTo_64 rfl ?_
      refine GO.if_eq (tgt := 140) dX11_tonnesUpTo_66 (by decide) r2076 (fun c2077 => ?_) (fun c2077 => ?_)
      ·
        refine GO.iinc (X := i7) (n := 1) (Y := i7 + 1) (ls1 := [some (.ref x), some (ti p0), some (ti X3), some (ti i6), some (ti (i7 + 1)), some (ti X2063), some (ti z2072)]) dX11_tonnesUpTo_140 rfl rfl rfl rfl ?_
        refine GO.goto (tgt := 15) dX11_tonnesUpTo_143 (by decide) ?_
        refine GO.drop [true, true, true, true, true, false, false] rfl ?_
        exact ih2054 i6 (i7 + 1) V ⟨by omega, by omega, by omega, by omega, rfl⟩ (by show (2147483647 - (i7 + 1)).toNat < (2147483647 - i7).toNat; omega)
      ·
        refine GO.iload dX11_tonnesUpTo_69 rfl ?_
        refine GO.sipush dX11_tonnesUpTo_71 rfl ?_
        refine GO.idiv dX11_tonnesUpTo_74 (ir_c rfl) (by omega) ?_
        refine GO.iload_n dX11_tonnesUpTo_75 rfl rfl ?_
        refine GO.sipush dX11_tonnesUpTo_76 rfl ?_
        refine GO.idiv dX11_tonnesUpTo_79 (ir_c rfl) (by omega) ?_
        refine GO.icmp_ne (tgt := 140) dX11_tonnesUpTo_80 (by decide) wdiv_ir wdiv_ir (fun c2078 => ?_) (fun c2078 => ?_)
        ·
          refine GO.iinc (X := i7) (n := 1) (Y := i7 + 1) (ls1 := [some (.ref x), some (ti p0), some (ti X3), some (ti i6), some (ti (i7 + 1)), some (ti X2063), some (ti z2072)]) dX11_tonnesUpTo_140 rfl rfl rfl rfl ?_
          refine GO.goto (tgt := 15) dX11_tonnesUpTo_143 (by decide) ?_
          refine GO.drop [true, true, true, true, true, false, false] rfl ?_
          exact ih2054 i6 (i7 + 1) V ⟨by omega, by omega, by omega, by omega, rfl⟩ (by show (2147483647 - (i7 + 1)).toNat < (2147483647 - i7).toNat; omega)
        ·
          refine GO.aload_n dX11_tonnesUpTo_83 rfl rfl ?_
          refine GO.getRaw h_x fl_RX11_82 hv2 dX11_tonnesUpTo_84 ?_
          refine GO.iload dX11_tonnesUpTo_87 rfl ?_
          refine GO.iconst dX11_tonnesUpTo_89 ?_
          refine GO.callV (ci := 26) (N := mX8_get_k26) dX11_tonnesUpTo_90 (RX8, TX8, 4) rfl gV_RX11_209 h1 (t_X8_get_k26 h1 r_i7 (ir_c rfl)) rfl [] rfl rfl (Nat.le_of_ble_eq_true rfl) rfl (k_ip fun X2081 r2082 h2083 => ?_)
          refine GO.aload_n dX11_tonnesUpTo_93 rfl rfl ?_
          refine GO.getRaw h_x fl_RX11_82 hv2 dX11_tonnesUpTo_94 ?_
          refine GO.iload_n dX11_tonnesUpTo_97 rfl rfl ?_
          refine GO.iconst dX11_tonnesUpTo_98 ?_
          refine GO.callV (ci := 26) (N := mX8_get_k26) dX11_tonnesUpTo_99 (RX8, TX8, 4) rfl gV_RX11_209 h1 (t_X8_get_k26 h1 r_p0 (ir_c rfl)) rfl [ti X2081] rfl rfl (Nat.le_of_ble_eq_true rfl) rfl (k_ip fun X2086 r2087 h2088 => ?_)
          refine GO.icmp_ne (tgt := 140) dX11_tonnesUpTo_102 (by decide) r2082 r2087 (fun c2089 => ?_) (fun c2089 => ?_)
          ·
            refine GO.iinc (X := i7) (n := 1) (Y := i7 + 1) (ls1 := [some (.ref x), some (ti p0), some (ti X3), some (ti i6), some (ti (i7 + 1)), some (ti X2063), some (ti z2072)]) dX11_tonnesUpTo_140 rfl rfl rfl rfl ?_
            refine GO.goto (tgt := 15) dX11_tonnesUpTo_143 (by decide) ?_
            refine GO.drop [true, true, true, true, true, false, false] rfl ?_
            exact ih2054 i6 (i7 + 1) V ⟨by omega, by omega, by omega, by omega, rfl⟩ (by show (2147483647 - (i7 + 1)).toNat < (2147483647 - i7).toNat; omega)
          ·
            refine GO.aload_n dX11_tonnesUpTo_105 rfl rfl ?_
            refine GO.getRaw h_x fl_RX11_82 hv2 dX11_tonnesUpTo_106 ?_
            refine GO.iload dX11_tonnesUpTo_109 rfl ?_
            refine GO.iconst dX11_tonnesUpTo_111 ?_
            refine GO.callV (ci := 26) (N := mX8_get_k26) dX11_tonnesUpTo_112 (RX8, TX8, 4) rfl gV_RX11_209 h1 (t_X8_get_k26 h1 r_i7 (ir_c rfl)) rfl [] rfl rfl (Nat.le_of_ble_eq_true rfl) rfl (k_ip fun X2092 r2093 h2094 => ?_)
            refine GO.aload_n dX11_tonnesUpTo_115 rfl rfl ?_
            refine GO.getRaw h_x fl_RX11_82 hv2 dX11_tonnesUpTo_116 ?_
            refine GO.iload_n dX11_tonnesUpTo_119 rfl rfl ?_
            refine GO.iconst dX11_tonnesUpTo_120 ?_
            refine GO.callV (ci := 26) (N := mX8_get_k26) dX11_tonnesUpTo_121 (RX8, TX8, 4) rfl gV_RX11_209 h1 (t_X8_get_k26 h1 r_p0 (ir_c rfl)) rfl [ti X2092] rfl rfl (Nat.le_of_ble_eq_true rfl) rfl (k_ip fun X2097 r2098 h2099 => ?_)
            refine GO.icmp_ne (tgt := 140) dX11_tonnesUpTo_124 (by decide) r2093 r2098 (fun c2100 => ?_) (fun c2100 => ?_)
            ·
              refine GO.iinc (X := i7) (n := 1) (Y := i7 + 1) (ls1 := [some (.ref x), some (ti p0), some (ti X3), some (ti i6), some (ti (i7 + 1)), some (ti X2063), some (ti z2072)]) dX11_tonnesUpTo_140 rfl rfl rfl rfl ?_
              refine GO.goto (tgt := 15) dX11_tonnesUpTo_143 (by decide) ?_
              refine GO.drop [true, true, true, true, true, false, false] rfl ?_
              exact ih2054 i6 (i7 + 1) V ⟨by omega, by omega, by omega, by omega, rfl⟩ (by show (2147483647 - (i7 + 1)).toNat < (2147483647 - i7).toNat; omega)
            ·
              refine GO.iload_n dX11_tonnesUpTo_127 rfl rfl ?_
              refine GO.aload_n dX11_tonnesUpTo_128 rfl rfl ?_
              refine GO.getRaw h_x fl_RX11_82 hv2 dX11_tonnesUpTo_129 ?_
              refine GO.iload dX11_tonnesUpTo_132 rfl ?_
              refine GO.iconst dX11_tonnesUpTo_134 ?_
              refine GO.callV (ci := 26) (N := mX8_get_k26) dX11_tonnesUpTo_135 (RX8, TX8, 4) rfl gV_RX11_209 h1 (t_X8_get_k26 h1 r_i7 (ir_c rfl)) rfl [ti i6] rfl rfl (Nat.le_of_ble_eq_true rfl) rfl (k_ip fun X2103 r2104 h2105 => ?_)
              refine GO.iadd dX11_tonnesUpTo_138 ?_
              refine GO.norm (fun z2106 r2107 hn2108 => ?_)
              refine GO.istore_n (ls1 := [some (.ref x), some (ti p0), some (ti X3), some (ti z2106), some (ti i7), some (ti X2063), some (ti z2072)]) dX11_tonnesUpTo_139 rfl rfl rfl ?_
              refine GO.iinc (X := i7) (n := 1) (Y := i7 + 1) (ls1 := [some (.ref x), some (ti p0), some (ti X3), some (ti z2106), some (ti (i7 + 1)), some (ti X2063), some (ti z2072)]) dX11_tonnesUpTo_140 rfl rfl rfl rfl ?_
              refine GO.goto (tgt := 15) dX11_tonnesUpTo_143 (by decide) ?_
              refine GO.drop [true, true, true, true, true, false, false] rfl ?_
              have q2109 : -2147483648 ≤ z2106 ∧ z2106 ≤ 2147483647 := r2107
              exact ih2054 z2106 (i7 + 1) V ⟨by omega, by omega, by omega, by omega, rfl⟩ (by show (2147483647 - (i7 + 1)).toNat < (2147483647 - i7).toNat; omega)
    have hj2116 : GO mX11_tonnesUpTo K V (IP K V (fun X => True)) K V 0 0 57 [some (.ref x), some (ti p0), some (ti X3), some (ti i6), some (ti i7), some (ti X2063), none] [] := by
      skip
      refine GO.iconst dX11_tonnesUpTo_57 ?_
      refine GO.goto (tgt := 62) dX11_tonnesUpTo_58 (by decide) ?_
      exact hj2073 1 (by omega) (by omega)
    refine GO.icmp_lt (tgt := 57) dX11_tonnesUpTo_42 (by decide) r2064 r4 (fun c2117 => ?_) (fun c2117 => ?_)
    ·
      exact hj2116 
    ·
      refine GO.iload dX11_tonnesUpTo_45 rfl ?_
      refine GO.iload_n dX11_tonnesUpTo_47 rfl rfl ?_
      have hj2120 : GO mX11_tonnesUpTo K V (IP K V (fun X => True)) K V 0 0 61 [some (.ref x), some (ti p0), some (ti X3), some (ti i6), some (ti i7), some (ti X2063), none] [] := by
        skip
        refine GO.iconst dX11_tonnesUpTo_61 ?_
        exact hj2073 0 (by omega) (by omega)
      refine GO.icmp_ne (tgt := 61) dX11_tonnesUpTo_48 (by decide) r2064 r4 (fun c2121 => ?_) (fun c2121 => ?_)
      ·
        exact hj2120 
      ·
        refine GO.iload dX11_tonnesUpTo_51 rfl ?_
        refine GO.iload_n dX11_tonnesUpTo_53 rfl rfl ?_
        refine GO.icmp_gt (tgt := 61) dX11_tonnesUpTo_54 (by decide) r_i7 r_p0 (fun c2122 => ?_) (fun c2122 => ?_)
        ·
          exact hj2120 
        ·
          exact hj2116 

set_option maxHeartbeats 1000000 in
theorem t_X11_isOver {K : Kmap} {V : Vmap} {x : Nat} {p0 : Int} (h_x : K x = some (0, 10)) (r_p0 : ir p0) (w_0 : CWI K V x) : MC mX11_isOver K V [.ref x, ti p0] (IS K (fun X V1 => (X = 0 ∨ X = 1) ∧ (X ≠ 0 → True) ∧ (X = 0 → True) ∧ (CWI K V1 x))) := by
  refine MC.start 3 (by decide +kernel) rfl rfl rfl (ls0 := [some (.ref x), some (ti p0), none, none, none]) rfl ?_
  refine GO.useWT (fun hW_0 => ?_)
  refine GO.aload_n dX11_isOver_0 rfl rfl ?_
  refine GO.aload_n dX11_isOver_1 rfl rfl ?_
  refine GO.getR h_x fl_RX11_82 rfl rfl dX11_isOver_2 (fun hv2 h1 => ?_)
  refine GO.iload_n dX11_isOver_5 rfl rfl ?_
  refine GO.iconst dX11_isOver_6 ?_
  refine GO.callV (ci := 26) (N := mX8_get_k26) dX11_isOver_7 (RX8, TX8, 4) rfl gV_RX11_209 h1 (t_X8_get_k26 h1 r_p0 (ir_c rfl)) rfl [.ref x] rfl rfl (Nat.le_of_ble_eq_true rfl) rfl (k_ip fun X3 r4 h5 => ?_)
  refine GO.callV (ci := 10) (N := mX11_shipOf) dX11_isOver_10 (RX11, TX11, 20) rfl gV_RX11_403 h_x (t_X11_shipOf h_x r4) rfl [] rfl rfl (Nat.le_of_ble_eq_true rfl) rfl (k_rp (fun h8 => ?_) (fun o6 h7 h8 => ?_))
  ·
    have rwn10 := h8.2
    have hn9 : SN V x → X3 < 0 ∨ vi V x 10 ≤ X3 := h8.2
    refine GO.astore_nN (ls1 := [some (.ref x), some (ti p0), some (.null), none, none]) dX11_isOver_13 rfl rfl rfl ?_
    refine GO.aload_nN dX11_isOver_14 rfl rfl ?_
    refine GO.ifnonnullN dX11_isOver_15 ?_
    refine GO.null dX11_isOver_18 ?_
    refine GO.goto (tgt := 30) dX11_isOver_19 (by decide) ?_
    refine GO.astore_nN (ls1 := [some (.ref x), some (ti p0), some (.null), some (.null), none]) dX11_isOver_30 rfl rfl rfl ?_
    refine GO.aload_nN dX11_isOver_31 rfl rfl ?_
    refine GO.ifnonnullN dX11_isOver_32 ?_
    refine GO.iconst dX11_isOver_35 ?_
    exact GO.retz rfl rfl dX11_isOver_36 (Or.inl rfl) ⟨rfl, _, rfl, (ir_c rfl), ⟨Or.inl rfl, fun _ => trivial, fun _ => trivial, (by first | exact w_0)⟩⟩
  ·
    have hp10 : X3 ≥ 0 ∧ X3 < vi V x 10 := h8.1
    have rwp10 := h8.2
    have hq11 : o6 = vq V (vq V x 9) (X3).toNat := h8.2
    refine GO.astore_n (ls1 := [some (.ref x), some (ti p0), some (.ref o6), none, none]) dX11_isOver_13 rfl rfl rfl ?_
    refine GO.aload_n dX11_isOver_14 rfl rfl ?_
    refine GO.ifnonnull (tgt := 22) dX11_isOver_15 (by decide) ?_
    refine GO.aload_n dX11_isOver_22 rfl rfl ?_
    refine GO.aload_n dX11_isOver_23 rfl rfl ?_
    refine GO.getI h7 fl_RX11_565 rfl rfl dX11_isOver_24 (fun _ _ => ?_)
    refine GO.callV (ci := 10) (N := mX11_partyOf) dX11_isOver_27 (RX11, TX11, 20) rfl gV_RX11_151 h_x (t_X11_partyOf h_x vi_ir) rfl [] rfl rfl (Nat.le_of_ble_eq_true rfl) rfl (k_rp (fun h14 => ?_) (fun o12 h13 h14 => ?_))
    ·
      have rwn27 := h14.2
      have hn15 : PN V x → (vi V o6 0) < 0 ∨ vi V x 4 ≤ (vi V o6 0) := h14.2
      refine GO.astore_nN (ls1 := [some (.ref x), some (ti p0), some (.ref o6), some (.null), none]) dX11_isOver_30 rfl rfl rfl ?_
      refine GO.aload_nN dX11_isOver_31 rfl rfl ?_
      refine GO.ifnonnullN dX11_isOver_32 ?_
      refine GO.iconst dX11_isOver_35 ?_
      exact GO.retz rfl rfl dX11_isOver_36 (Or.inl rfl) ⟨rfl, _, rfl, (ir_c rfl), ⟨Or.inl rfl, fun _ => trivial, fun _ => trivial, (by first | exact w_0)⟩⟩
    ·
      have hp16 : (vi V o6 0) ≥ 0 ∧ (vi V o6 0) < vi V x 4 := h14.1
      have rwp27 := h14.2
      have hq17 : o12 = vq V (vq V x 3) ((vi V o6 0)).toNat := h14.2
      refine GO.astore_n (ls1 := [some (.ref x), some (ti p0), some (.ref o6), some (.ref o12), none]) dX11_isOver_30 rfl rfl rfl ?_
      refine GO.aload_n dX11_isOver_31 rfl rfl ?_
      refine GO.ifnonnull (tgt := 37) dX11_isOver_32 (by decide) ?_
      refine GO.aload_n dX11_isOver_37 rfl rfl ?_
      refine GO.getR h_x fl_RX11_19 rfl rfl dX11_isOver_38 (fun hv19 h18 => ?_)
      refine GO.aload_n dX11_isOver_41 rfl rfl ?_
      refine GO.getI h7 fl_RX11_565 rfl rfl dX11_isOver_42 (fun _ _ => ?_)
      refine GO.aload_n dX11_isOver_45 rfl rfl ?_
      refine GO.aload_n dX11_isOver_46 rfl rfl ?_
      refine GO.getRaw h_x fl_RX11_82 hv2 dX11_isOver_47 ?_
      refine GO.iload_n dX11_isOver_50 rfl rfl ?_
      refine GO.iconst dX11_isOver_51 ?_
      refine GO.callV (ci := 26) (N := mX8_get_k26) dX11_isOver_52 (RX8, TX8, 4) rfl gV_RX11_209 h1 (t_X8_get_k26 h1 r_p0 (ir_c rfl)) rfl [.ref o12, ti (vi V o6 0), .ref (vq V x 1)] rfl rfl (Nat.le_of_ble_eq_true rfl) rfl (k_ip fun X22 r23 h24 => ?_)
      refine GO.callV (ci := 1) (N := mX1_weigh) dX11_isOver_55 (RX1, TX1, 13) rfl gV_RX11_279 h18 (t_X1_weigh h18 vi_ir h13 r23) rfl [] rfl rfl (Nat.le_of_ble_eq_true rfl) rfl (k_vs fun V27 h26 hF25 => ?_)
      have raw_weigh := h26.2
      have rw55 := h26.2
      have hcw := CWI.weigh w_0 rw55 rfl rwp27 ⟨by omega, by omega⟩ hF25 hW_0 h_x (by decide +kernel) (by decide +kernel)
      refine GO.aload_n dX11_isOver_58 rfl rfl ?_
      refine GO.getRaw h_x fl_RX11_19 (Eq.trans (hF25 _ _ _ h_x h_x (by decide +kernel)) hv19) dX11_isOver_59 ?_
      refine GO.bipush dX11_isOver_62 rfl ?_
      refine GO.aload_n dX11_isOver_64 rfl rfl ?_
      refine GO.getRaw h_x fl_RX11_82 (Eq.trans (hF25 _ _ _ h_x h_x (by decide +kernel)) hv2) dX11_isOver_65 ?_
      refine GO.iload_n dX11_isOver_68 rfl rfl ?_
      refine GO.iconst dX11_isOver_69 ?_
      refine GO.callV (ci := 26) (N := mX8_get_k26) dX11_isOver_70 (RX8, TX8, 4) rfl gV_RX11_209 h1 (t_X8_get_k26 h1 r_p0 (ir_c rfl)) rfl [ti 107, .ref (vq V x 1)] rfl rfl (Nat.le_of_ble_eq_true rfl) rfl (k_ip fun X32 r33 h34 => ?_)
      refine GO.aload_n dX11_isOver_73 rfl rfl ?_
      refine GO.getRaw h_x fl_RX11_82 (Eq.trans (hF25 _ _ _ h_x h_x (by decide +kernel)) hv2) dX11_isOver_74 ?_
      refine GO.iload_n dX11_isOver_77 rfl rfl ?_
      refine GO.iconst dX11_isOver_78 ?_
      refine GO.callV (ci := 26) (N := mX8_get_k26) dX11_isOver_79 (RX8, TX8, 4) rfl gV_RX11_209 h1 (t_X8_get_k26 h1 r_p0 (ir_c rfl)) rfl [ti X32, ti 107, .ref (vq V x 1)] rfl rfl (Nat.le_of_ble_eq_true rfl) rfl (k_ip fun X37 r38 h39 => ?_)
      refine GO.callV (ci := 1) (N := mX1_numberOf) dX11_isOver_82 (RX1, TX1, 13) rfl gV_RX11_292 h18 (t_X1_numberOf h18 (ir_c rfl) r33 r38) rfl [] rfl rfl (Nat.le_of_ble_eq_true rfl) rfl (k_ip fun X40 r41 h42 => ?_)
      have raw_numberOf := h42.2
      have rw82 := h42.2
      refine GO.istore (ls1 := [some (.ref x), some (ti p0), some (.ref o6), some (.ref o12), some (ti X40)]) dX11_isOver_85 rfl rfl ?_
      refine GO.iload dX11_isOver_87 rfl ?_
      refine GO.iconst dX11_isOver_89 ?_
      refine GO.icmp_eq (tgt := 107) dX11_isOver_90 (by decide) r41 (ir_c rfl) (fun c43 => ?_) (fun c43 => ?_)
      ·
        refine GO.iconst dX11_isOver_107 ?_
        exact GO.retz rfl rfl dX11_isOver_108 (Or.inl rfl) ⟨rfl, _, rfl, (ir_c rfl), ⟨Or.inl rfl, fun _ => trivial, fun _ => trivial, (by first | exact w_0 | exact hcw.1)⟩⟩
      ·
        refine GO.aload_n dX11_isOver_93 rfl rfl ?_
        refine GO.iload_n dX11_isOver_94 rfl rfl ?_
        refine GO.callV (ci := 10) (N := mX11_tonnesUpTo) dX11_isOver_95 (RX11, TX11, 20) rfl gV_RX11_566 h_x (t_X11_tonnesUpTo h_x r_p0) rfl [] rfl rfl (Nat.le_of_ble_eq_true rfl) rfl (k_ip fun X44 r45 h46 => ?_)
        refine GO.iload dX11_isOver_98 rfl ?_
        refine GO.icmp_le (tgt := 107) dX11_isOver_100 (by decide) r45 r41 (fun c47 => ?_) (fun c47 => ?_)
        ·
          refine GO.iconst dX11_isOver_107 ?_
          exact GO.retz rfl rfl dX11_isOver_108 (Or.inl rfl) ⟨rfl, _, rfl, (ir_c rfl), ⟨Or.inl rfl, fun _ => trivial, fun _ => trivial, (by first | exact w_0 | exact hcw.1)⟩⟩
        ·
          refine GO.iconst dX11_isOver_103 ?_
          refine GO.goto (tgt := 108) dX11_isOver_104 (by decide) ?_
          exact GO.retz rfl rfl dX11_isOver_108 (Or.inr rfl) ⟨rfl, _, rfl, (ir_c rfl), ⟨Or.inr rfl, fun _ => trivial, fun _ => trivial, (by first | exact w_0 | exact hcw.1)⟩⟩

set_option maxHeartbeats 1000000 in
theorem t_X11_over {K : Kmap} {V : Vmap} {x : Nat} (h_x : K x = some (0, 10)) (w_0 : CWI K V x) : MC mX11_over K V [.ref x] (IS K (fun X V1 => (True) ∧ (CWI K V1 x))) := by
  refine MC.start 3 (by decide +kernel) rfl rfl rfl (ls0 := [some (.ref x), none, none, none]) rfl ?_
  refine GO.useWT (fun hW_0 => ?_)
  refine GO.iconst dX11_over_0 ?_
  refine GO.istore_n (ls1 := [some (.ref x), some (ti (-1)), none, none]) dX11_over_1 rfl rfl rfl ?_
  refine GO.iconst dX11_over_2 ?_
  refine GO.istore_n (ls1 := [some (.ref x), some (ti (-1)), some (ti 0), none]) dX11_over_3 rfl rfl rfl ?_
  refine GO.loop2 (fun i1 i2 W => (-1) ≤ i1 ∧ i1 ≤ 199 ∧ 0 ≤ i2 ∧ i2 ≤ 200 ∧ (CWI K W x) ∧ True) (fun i1 i2 => [some (.ref x), some (ti i1), some (ti i2), none]) (fun i1 i2 W => (2147483647 - i2).toNat) (-1) 0 ⟨by omega, by omega, by omega, by omega, (by first | exact w_0), trivial⟩ rfl (fun i1 i2 Wi1 hp273 ih272 => ?_)
  obtain ⟨l_i1, u_i1, l_i2, u_i2, hcl, -⟩ := hp273
  have r_i1 : ir i1 := ⟨by omega, by omega⟩
  have r_i2 : ir i2 := ⟨by omega, by omega⟩
  show GO mX11_over K V (IS K (fun X V1 => (True) ∧ (CWI K V1 x))) K Wi1 0 0 4 [some (.ref x), some (ti i1), some (ti i2), none] []
  refine GO.iload_n dX11_over_4 rfl rfl ?_
  refine GO.aload_n dX11_over_5 rfl rfl ?_
  refine GO.getR h_x fl_RX11_82 rfl rfl dX11_over_6 (fun hv275 h274 => ?_)
  refine GO.getI h274 fl_RX11_199_k26 rfl rfl dX11_over_9 (fun l276 u277 => ?_)
  refine GO.icmp_ge (tgt := 67) dX11_over_12 (by decide) r_i2 vi_ir (fun c278 => ?_) (fun c278 => ?_)
  ·
    refine GO.iload_n dX11_over_67 rfl rfl ?_
    exact GO.reti rfl rfl dX11_over_68 ⟨rfl, _, rfl, r_i1, ⟨(by first | exact trivial | omega), (by first | exact w_0 | exact hcl)⟩⟩
  ·
    refine GO.iload_n dX11_over_15 rfl rfl ?_
    refine GO.iconst dX11_over_16 ?_
    refine GO.icmp_eq (tgt := 41) dX11_over_17 (by decide) r_i1 (ir_c rfl) (fun c279 => ?_) (fun c279 => ?_)
    ·
      refine GO.iconst dX11_over_41 ?_
      refine GO.goto (tgt := 46) dX11_over_42 (by decide) ?_
      refine GO.istore_n (ls1 := [some (.ref x), some (ti i1), some (ti i2), some (ti 1)]) dX11_over_46 rfl rfl rfl ?_
      refine GO.iload_n dX11_over_47 rfl rfl ?_
      refine GO.if_eq (tgt := 61) dX11_over_48 (by decide) (ir_c rfl) (fun h => by exfalso; omega) (fun c280 => ?_)
      refine GO.aload_n dX11_over_51 rfl rfl ?_
      refine GO.iload_n dX11_over_52 rfl rfl ?_
      refine GO.callV (ci := 10) (N := mX11_isOver) dX11_over_53 (RX11, TX11, 20) rfl gV_RX11_562 h_x (t_X11_isOver h_x r_i2 (hcl)) rfl [] rfl rfl (Nat.le_of_ble_eq_true rfl) rfl (k_is fun X281 V285 r282 h283 hF284 => ?_)
      have raw_isOver := h283.2.2.2
      have rw53 := h283.2.2.2
      refine GO.if_eq (tgt := 61) dX11_over_56 (by decide) r282 (fun c286 => ?_) (fun c286 => ?_)
      ·
        refine GO.iinc (X := i2) (n := 1) (Y := i2 + 1) (ls1 := [some (.ref x), some (ti i1), some (ti (i2 + 1)), some (ti 1)]) dX11_over_61 rfl rfl rfl rfl ?_
        refine GO.goto (tgt := 4) dX11_over_64 (by decide) ?_
        refine GO.drop [true, true, true, false] rfl ?_
        exact ih272 i1 (i2 + 1) V285 ⟨by omega, by omega, by omega, by omega, (by first | exact w_0 | exact hcl | exact rw53), trivial⟩ (by show (2147483647 - (i2 + 1)).toNat < (2147483647 - i2).toNat; omega)
      ·
        refine GO.iload_n dX11_over_59 rfl rfl ?_
        refine GO.istore_n (ls1 := [some (.ref x), some (ti i2), some (ti i2), some (ti 1)]) dX11_over_60 rfl rfl rfl ?_
        refine GO.iinc (X := i2) (n := 1) (Y := i2 + 1) (ls1 := [some (.ref x), some (ti i2), some (ti (i2 + 1)), some (ti 1)]) dX11_over_61 rfl rfl rfl rfl ?_
        refine GO.goto (tgt := 4) dX11_over_64 (by decide) ?_
        refine GO.drop [true, true, true, false] rfl ?_
        exact ih272 i2 (i2 + 1) V285 ⟨by omega, by omega, by omega, by omega, (by first | exact w_0 | exact hcl | exact rw53), trivial⟩ (by show (2147483647 - (i2 + 1)).toNat < (2147483647 - i2).toNat; omega)
    ·
      refine GO.aload_n dX11_over_20 rfl rfl ?_
      refine GO.getRaw h_x fl_RX11_82 hv275 dX11_over_21 ?_
      refine GO.iload_n dX11_over_24 rfl rfl ?_
      refine GO.iconst dX11_over_25 ?_
      refine GO.callV (ci := 26) (N := mX8_get_k26) dX11_over_26 (RX8, TX8, 4) rfl gV_RX11_209 h274 (t_X8_get_k26 h274 r_i2 (ir_c rfl)) rfl [] rfl rfl (Nat.le_of_ble_eq_true rfl) rfl (k_ip fun X289 r290 h291 => ?_)
      refine GO.aload_n dX11_over_29 rfl rfl ?_
      refine GO.getRaw h_x fl_RX11_82 hv275 dX11_over_30 ?_
      refine GO.iload_n dX11_over_33 rfl rfl ?_
      refine GO.iconst dX11_over_34 ?_
      refine GO.callV (ci := 26) (N := mX8_get_k26) dX11_over_35 (RX8, TX8, 4) rfl gV_RX11_209 h274 (t_X8_get_k26 h274 r_i1 (ir_c rfl)) rfl [ti X289] rfl rfl (Nat.le_of_ble_eq_true rfl) rfl (k_ip fun X294 r295 h296 => ?_)
      refine GO.icmp_ge (tgt := 45) dX11_over_38 (by decide) r290 r295 (fun c297 => ?_) (fun c297 => ?_)
      ·
        refine GO.iconst dX11_over_45 ?_
        refine GO.istore_n (ls1 := [some (.ref x), some (ti i1), some (ti i2), some (ti 0)]) dX11_over_46 rfl rfl rfl ?_
        refine GO.iload_n dX11_over_47 rfl rfl ?_
        refine GO.if_eq (tgt := 61) dX11_over_48 (by decide) (ir_c rfl) (fun c298 => ?_) (fun h => by exfalso; omega)
        refine GO.iinc (X := i2) (n := 1) (Y := i2 + 1) (ls1 := [some (.ref x), some (ti i1), some (ti (i2 + 1)), some (ti 0)]) dX11_over_61 rfl rfl rfl rfl ?_
        refine GO.goto (tgt := 4) dX11_over_64 (by decide) ?_
        refine GO.drop [true, true, true, false] rfl ?_
        exact ih272 i1 (i2 + 1) Wi1 ⟨by omega, by omega, by omega, by omega, (by first | exact w_0 | exact hcl), trivial⟩ (by show (2147483647 - (i2 + 1)).toNat < (2147483647 - i2).toNat; omega)
      ·
        refine GO.iconst dX11_over_41 ?_
        refine GO.goto (tgt := 46) dX11_over_42 (by decide) ?_
        refine GO.istore_n (ls1 := [some (.ref x), some (ti i1), some (ti i2), some (ti 1)]) dX11_over_46 rfl rfl rfl ?_
        refine GO.iload_n dX11_over_47 rfl rfl ?_
        refine GO.if_eq (tgt := 61) dX11_over_48 (by decide) (ir_c rfl) (fun h => by exfalso; omega) (fun c299 => ?_)
        refine GO.aload_n dX11_over_51 rfl rfl ?_
        refine GO.iload_n dX11_over_52 rfl rfl ?_
        refine GO.callV (ci := 10) (N := mX11_isOver) dX11_over_53 (RX11, TX11, 20) rfl gV_RX11_562 h_x (t_X11_isOver h_x r_i2 (hcl)) rfl [] rfl rfl (Nat.le_of_ble_eq_true rfl) rfl (k_is fun X300 V304 r301 h302 hF303 => ?_)
        have raw_isOver := h302.2.2.2
        have rw53 := h302.2.2.2
        refine GO.if_eq (tgt := 61) dX11_over_56 (by decide) r301 (fun c305 => ?_) (fun c305 => ?_)
        ·
          refine GO.iinc (X := i2) (n := 1) (Y := i2 + 1) (ls1 := [some (.ref x), some (ti i1), some (ti (i2 + 1)), some (ti 1)]) dX11_over_61 rfl rfl rfl rfl ?_
          refine GO.goto (tgt := 4) dX11_over_64 (by decide) ?_
          refine GO.drop [true, true, true, false] rfl ?_
          exact ih272 i1 (i2 + 1) V304 ⟨by omega, by omega, by omega, by omega, (by first | exact w_0 | exact hcl | exact rw53), trivial⟩ (by show (2147483647 - (i2 + 1)).toNat < (2147483647 - i2).toNat; omega)
        ·
          refine GO.iload_n dX11_over_59 rfl rfl ?_
          refine GO.istore_n (ls1 := [some (.ref x), some (ti i2), some (ti i2), some (ti 1)]) dX11_over_60 rfl rfl rfl ?_
          refine GO.iinc (X := i2) (n := 1) (Y := i2 + 1) (ls1 := [some (.ref x), some (ti i2), some (ti (i2 + 1)), some (ti 1)]) dX11_over_61 rfl rfl rfl rfl ?_
          refine GO.goto (tgt := 4) dX11_over_64 (by decide) ?_
          refine GO.drop [true, true, true, false] rfl ?_
          exact ih272 i2 (i2 + 1) V304 ⟨by omega, by omega, by omega, by omega, (by first | exact w_0 | exact hcl | exact rw53), trivial⟩ (by show (2147483647 - (i2 + 1)).toNat < (2147483647 - i2).toNat; omega)

set_option maxHeartbeats 1000000 in
theorem t_X11_isDoubtful {K : Kmap} {V : Vmap} {x : Nat} {p0 : Int} {p1 : Int} (h_x : K x = some (0, 10)) (r_p0 : ir p0) (r_p1 : ir p1) : MC mX11_isDoubtful K V [.ref x, ti p0, ti p1] (IP K V (fun X => (X = 0 ∨ X = 1) ∧ (X ≠ 0 → True) ∧ (X = 0 → True))) := by
  refine MC.start 3 (by decide +kernel) rfl rfl rfl (ls0 := [some (.ref x), some (ti p0), some (ti p1), none, none, none]) rfl ?_
  refine GO.aload_n dX11_isDoubtful_0 rfl rfl ?_
  refine GO.getR h_x fl_RX11_82 rfl rfl dX11_isDoubtful_1 (fun hv2 h1 => ?_)
  refine GO.iload_n dX11_isDoubtful_4 rfl rfl ?_
  refine GO.iconst dX11_isDoubtful_5 ?_
  refine GO.callV (ci := 26) (N := mX8_get_k26) dX11_isDoubtful_6 (RX8, TX8, 4) rfl gV_RX11_209 h1 (t_X8_get_k26 h1 r_p0 (ir_c rfl)) rfl [] rfl rfl (Nat.le_of_ble_eq_true rfl) rfl (k_ip fun X3 r4 h5 => ?_)
  refine GO.istore_n (ls1 := [some (.ref x), some (ti p0), some (ti p1), some (ti X3), none, none]) dX11_isDoubtful_9 rfl rfl rfl ?_
  refine GO.aload_n dX11_isDoubtful_10 rfl rfl ?_
  refine GO.getRaw h_x fl_RX11_82 hv2 dX11_isDoubtful_11 ?_
  refine GO.iload_n dX11_isDoubtful_14 rfl rfl ?_
  refine GO.iconst dX11_isDoubtful_15 ?_
  refine GO.callV (ci := 26) (N := mX8_get_k26) dX11_isDoubtful_16 (RX8, TX8, 4) rfl gV_RX11_209 h1 (t_X8_get_k26 h1 r_p1 (ir_c rfl)) rfl [] rfl rfl (Nat.le_of_ble_eq_true rfl) rfl (k_ip fun X8 r9 h10 => ?_)
  refine GO.istore (ls1 := [some (.ref x), some (ti p0), some (ti p1), some (ti X3), some (ti X8), none]) dX11_isDoubtful_19 rfl rfl ?_
  refine GO.aload_n dX11_isDoubtful_21 rfl rfl ?_
  refine GO.getRaw h_x fl_RX11_82 hv2 dX11_isDoubtful_22 ?_
  refine GO.iload_n dX11_isDoubtful_25 rfl rfl ?_
  refine GO.iconst dX11_isDoubtful_26 ?_
  refine GO.callV (ci := 26) (N := mX8_get_k26) dX11_isDoubtful_27 (RX8, TX8, 4) rfl gV_RX11_209 h1 (t_X8_get_k26 h1 r_p0 (ir_c rfl)) rfl [] rfl rfl (Nat.le_of_ble_eq_true rfl) rfl (k_ip fun X13 r14 h15 => ?_)
  refine GO.aload_n dX11_isDoubtful_30 rfl rfl ?_
  refine GO.getRaw h_x fl_RX11_82 hv2 dX11_isDoubtful_31 ?_
  refine GO.iload_n dX11_isDoubtful_34 rfl rfl ?_
  refine GO.iconst dX11_isDoubtful_35 ?_
  refine GO.callV (ci := 26) (N := mX8_get_k26) dX11_isDoubtful_36 (RX8, TX8, 4) rfl gV_RX11_209 h1 (t_X8_get_k26 h1 r_p1 (ir_c rfl)) rfl [ti X13] rfl rfl (Nat.le_of_ble_eq_true rfl) rfl (k_ip fun X18 r19 h20 => ?_)
  refine GO.icmp_ne (tgt := 48) dX11_isDoubtful_39 (by decide) r14 r19 (fun c21 => ?_) (fun c21 => ?_)
  ·
    refine GO.iconst dX11_isDoubtful_48 ?_
    exact GO.retz rfl rfl dX11_isDoubtful_49 (Or.inl rfl) ⟨rfl, rfl, _, rfl, (ir_c rfl), ⟨Or.inl rfl, fun _ => trivial, fun _ => trivial⟩⟩
  ·
    refine GO.iload_n dX11_isDoubtful_42 rfl rfl ?_
    refine GO.iload dX11_isDoubtful_43 rfl ?_
    refine GO.icmp_ne (tgt := 50) dX11_isDoubtful_45 (by decide) r4 r9 (fun c22 => ?_) (fun c22 => ?_)
    ·
      refine GO.aload_n dX11_isDoubtful_50 rfl rfl ?_
      refine GO.getRaw h_x fl_RX11_82 hv2 dX11_isDoubtful_51 ?_
      refine GO.iload_n dX11_isDoubtful_54 rfl rfl ?_
      refine GO.iconst dX11_isDoubtful_55 ?_
      refine GO.callV (ci := 26) (N := mX8_get_k26) dX11_isDoubtful_56 (RX8, TX8, 4) rfl gV_RX11_209 h1 (t_X8_get_k26 h1 r_p0 (ir_c rfl)) rfl [] rfl rfl (Nat.le_of_ble_eq_true rfl) rfl (k_ip fun X25 r26 h27 => ?_)
      refine GO.aload_n dX11_isDoubtful_59 rfl rfl ?_
      refine GO.getRaw h_x fl_RX11_82 hv2 dX11_isDoubtful_60 ?_
      refine GO.iload_n dX11_isDoubtful_63 rfl rfl ?_
      refine GO.iconst dX11_isDoubtful_64 ?_
      refine GO.callV (ci := 26) (N := mX8_get_k26) dX11_isDoubtful_65 (RX8, TX8, 4) rfl gV_RX11_209 h1 (t_X8_get_k26 h1 r_p1 (ir_c rfl)) rfl [ti X25] rfl rfl (Nat.le_of_ble_eq_true rfl) rfl (k_ip fun X30 r31 h32 => ?_)
      refine GO.isub dX11_isDoubtful_68 ?_
      refine GO.norm (fun z33 r34 hn35 => ?_)
      refine GO.callS (N := mJ9_abs_0f7a4) dX11_isDoubtful_69 gS_RX11_572 (t_J9_abs_0f7a4 r34) rfl [] rfl rfl (Nat.le_of_ble_eq_true rfl) rfl (k_ip fun X36 r37 h38 => ?_)
      refine GO.istore (ls1 := [some (.ref x), some (ti p0), some (ti p1), some (ti X3), some (ti X8), some (ti X36)]) dX11_isDoubtful_72 rfl rfl ?_
      refine GO.iload dX11_isDoubtful_74 rfl ?_
      refine GO.aload_n dX11_isDoubtful_76 rfl rfl ?_
      refine GO.getR h_x fl_RX11_12 rfl rfl dX11_isDoubtful_77 (fun hv40 h39 => ?_)
      refine GO.getA (n := 4) h39 fl_RX11_400 rfl rfl rfl rfl dX11_isDoubtful_80 (fun hv42 h41 => ?_)
      refine GO.iload_n dX11_isDoubtful_83 rfl rfl ?_
      refine GO.callS (N := mX4_get) dX11_isDoubtful_84 gS_RX11_253 (t_X4_get rfl h41 r4) rfl [ti X36] rfl rfl (Nat.le_of_ble_eq_true rfl) rfl (k_ip fun X43 r44 h45 => ?_)
      have raw_get := h45.2
      have rw84 := h45.2
      refine GO.aload_n dX11_isDoubtful_87 rfl rfl ?_
      refine GO.getRaw h_x fl_RX11_12 hv40 dX11_isDoubtful_88 ?_
      refine GO.getRaw h39 fl_RX11_400 hv42 dX11_isDoubtful_91 ?_
      refine GO.iload dX11_isDoubtful_94 rfl ?_
      refine GO.callS (N := mX4_get) dX11_isDoubtful_96 gS_RX11_253 (t_X4_get rfl h41 r9) rfl [ti X43, ti X36] rfl rfl (Nat.le_of_ble_eq_true rfl) rfl (k_ip fun X50 r51 h52 => ?_)
      have raw_get := h52.2
      have rw96 := h52.2
      refine GO.iadd dX11_isDoubtful_99 ?_
      refine GO.norm (fun z53 r54 hn55 => ?_)
      refine GO.iconst dX11_isDoubtful_100 ?_
      refine GO.idiv dX11_isDoubtful_101 (ir_c rfl) (by omega) ?_
      refine GO.icmp_ge (tgt := 109) dX11_isDoubtful_102 (by decide) r37 wdiv_ir (fun c56 => ?_) (fun c56 => ?_)
      ·
        refine GO.iconst dX11_isDoubtful_109 ?_
        exact GO.retz rfl rfl dX11_isDoubtful_110 (Or.inl rfl) ⟨rfl, rfl, _, rfl, (ir_c rfl), ⟨Or.inl rfl, fun _ => trivial, fun _ => trivial⟩⟩
      ·
        refine GO.iconst dX11_isDoubtful_105 ?_
        refine GO.goto (tgt := 110) dX11_isDoubtful_106 (by decide) ?_
        exact GO.retz rfl rfl dX11_isDoubtful_110 (Or.inr rfl) ⟨rfl, rfl, _, rfl, (ir_c rfl), ⟨Or.inr rfl, fun _ => trivial, fun _ => trivial⟩⟩
    ·
      refine GO.iconst dX11_isDoubtful_48 ?_
      exact GO.retz rfl rfl dX11_isDoubtful_49 (Or.inl rfl) ⟨rfl, rfl, _, rfl, (ir_c rfl), ⟨Or.inl rfl, fun _ => trivial, fun _ => trivial⟩⟩

set_option maxHeartbeats 1000000 in
theorem t_X11_doubt {K : Kmap} {V : Vmap} {x : Nat} {p0 : Int} (h_x : K x = some (0, 10)) (r_p0 : ir p0) : MC mX11_doubt K V [.ref x, ti p0] (IP K V (fun X => True)) := by
  refine MC.start 2 (by decide +kernel) rfl rfl rfl (ls0 := [some (.ref x), some (ti p0), none, none]) rfl ?_
  refine GO.iload_n dX11_doubt_0 rfl rfl ?_
  refine GO.iconst dX11_doubt_1 ?_
  refine GO.iconst dX11_doubt_2 ?_
  refine GO.callS (N := mX11_between) dX11_doubt_3 gS_RX11_112 (t_X11_between r_p0 (ir_c rfl) (ir_c rfl)) rfl [] rfl rfl (Nat.le_of_ble_eq_true rfl) rfl (k_ip fun X1 r2 h3 => ?_)
  refine GO.if_ne (tgt := 11) dX11_doubt_6 (by decide) r2 (fun c4 => ?_) (fun c4 => ?_)
  ·
    have q5 := h3.2.1 (by omega)
    refine GO.iconst dX11_doubt_11 ?_
    refine GO.istore_n (ls1 := [some (.ref x), some (ti p0), some (ti 0), none]) dX11_doubt_12 rfl rfl rfl ?_
    refine GO.loop1 (fun i6 W => 0 ≤ i6 ∧ i6 ≤ 200 ∧ V = W) (fun i6 => [some (.ref x), some (ti p0), some (ti i6), none]) (fun i6 W => (2147483647 - i6).toNat) 0 ⟨by omega, by omega, rfl⟩ rfl (fun i6 V846 hp848 ih847 => ?_)
    obtain ⟨l_i6, u_i6, rfl⟩ := hp848
    have r_i6 : ir i6 := ⟨by omega, by omega⟩
    show GO mX11_doubt K V (IP K V (fun X => True)) K V 0 0 13 [some (.ref x), some (ti p0), some (ti i6), none] []
    refine GO.iload_n dX11_doubt_13 rfl rfl ?_
    refine GO.aload_n dX11_doubt_14 rfl rfl ?_
    refine GO.getR h_x fl_RX11_82 rfl rfl dX11_doubt_15 (fun hv850 h849 => ?_)
    refine GO.getI h849 fl_RX11_199_k26 rfl rfl dX11_doubt_18 (fun l851 u852 => ?_)
    refine GO.icmp_ge (tgt := 70) dX11_doubt_21 (by decide) r_i6 vi_ir (fun c853 => ?_) (fun c853 => ?_)
    ·
      refine GO.iconst dX11_doubt_70 ?_
      exact GO.reti rfl rfl dX11_doubt_71 ⟨rfl, rfl, _, rfl, (ir_c rfl), trivial⟩
    ·
      refine GO.iload_n dX11_doubt_24 rfl rfl ?_
      refine GO.iconst dX11_doubt_25 ?_
      refine GO.iadd dX11_doubt_26 ?_
      refine GO.name (fun z854 hz855 => ?_)
      refine GO.istore_n (ls1 := [some (.ref x), some (ti p0), some (ti i6), some (ti z854)]) dX11_doubt_27 rfl rfl rfl ?_
      refine GO.loop1 (fun i856 W => 1 ≤ i856 ∧ i856 ≤ 200 ∧ V = W) (fun i856 => [some (.ref x), some (ti p0), some (ti i6), some (ti i856)]) (fun i856 W => (2147483647 - i856).toNat) z854 ⟨by omega, by omega, rfl⟩ rfl (fun i856 V867 hp869 ih868 => ?_)
      obtain ⟨l_i856, u_i856, rfl⟩ := hp869
      have r_i856 : ir i856 := ⟨by omega, by omega⟩
      show GO mX11_doubt K V (IP K V (fun X => True)) K V 0 0 28 [some (.ref x), some (ti p0), some (ti i6), some (ti i856)] []
      refine GO.iload_n dX11_doubt_28 rfl rfl ?_
      refine GO.aload_n dX11_doubt_29 rfl rfl ?_
      refine GO.getRaw h_x fl_RX11_82 hv850 dX11_doubt_30 ?_
      refine GO.getI h849 fl_RX11_199_k26 rfl rfl dX11_doubt_33 (fun l872 u873 => ?_)
      refine GO.icmp_ge (tgt := 64) dX11_doubt_36 (by decide) r_i856 vi_ir (fun c874 => ?_) (fun c874 => ?_)
      ·
        refine GO.iinc (X := i6) (n := 1) (Y := i6 + 1) (ls1 := [some (.ref x), some (ti p0), some (ti (i6 + 1)), some (ti i856)]) dX11_doubt_64 rfl rfl rfl rfl ?_
        refine GO.goto (tgt := 13) dX11_doubt_67 (by decide) ?_
        refine GO.drop [true, true, true, false] rfl ?_
        exact ih847 (i6 + 1) V ⟨by omega, by omega, rfl⟩ (by show (2147483647 - (i6 + 1)).toNat < (2147483647 - i6).toNat; omega)
      ·
        refine GO.aload_n dX11_doubt_39 rfl rfl ?_
        refine GO.iload_n dX11_doubt_40 rfl rfl ?_
        refine GO.iload_n dX11_doubt_41 rfl rfl ?_
        refine GO.callV (ci := 10) (N := mX11_isDoubtful) dX11_doubt_42 (RX11, TX11, 20) rfl gV_RX11_569 h_x (t_X11_isDoubtful h_x r_i6 r_i856) rfl [] rfl rfl (Nat.le_of_ble_eq_true rfl) rfl (k_ip fun X875 r876 h877 => ?_)
        refine GO.if_eq (tgt := 58) dX11_doubt_45 (by decide) r876 (fun c878 => ?_) (fun c878 => ?_)
        ·
          refine GO.iinc (X := i856) (n := 1) (Y := i856 + 1) (ls1 := [some (.ref x), some (ti p0), some (ti i6), some (ti (i856 + 1))]) dX11_doubt_58 rfl rfl rfl rfl ?_
          refine GO.goto (tgt := 28) dX11_doubt_61 (by decide) ?_
          exact ih868 (i856 + 1) V ⟨by omega, by omega, rfl⟩ (by show (2147483647 - (i856 + 1)).toNat < (2147483647 - i856).toNat; omega)
        ·
          refine GO.iload_n dX11_doubt_48 rfl rfl ?_
          refine GO.if_ne (tgt := 56) dX11_doubt_49 (by decide) r_p0 (fun c879 => ?_) (fun c879 => ?_)
          ·
            refine GO.iload_n dX11_doubt_56 rfl rfl ?_
            exact GO.reti rfl rfl dX11_doubt_57 ⟨rfl, rfl, _, rfl, r_i856, trivial⟩
          ·
            refine GO.iload_n dX11_doubt_52 rfl rfl ?_
            refine GO.goto (tgt := 57) dX11_doubt_53 (by decide) ?_
            exact GO.reti rfl rfl dX11_doubt_57 ⟨rfl, rfl, _, rfl, r_i6, trivial⟩
  ·
    have q880 := h3.2.2 (by omega)
    refine GO.iconst dX11_doubt_9 ?_
    exact GO.reti rfl rfl dX11_doubt_10 ⟨rfl, rfl, _, rfl, (ir_c rfl), trivial⟩

set_option maxHeartbeats 1000000 in
theorem t_X8_isFull_k25 {K : Kmap} {V : Vmap} {x : Nat} (h_x : K x = some (0, 25)) : MC mX8_isFull_k25 K V [.ref x] (IP K V (fun X => (X = 0 ∨ X = 1) ∧ (X ≠ 0 → vi V x 3 ≥ 7) ∧ (X = 0 → vi V x 3 ≤ 6))) := by
  refine MC.start 0 (by decide +kernel) rfl rfl rfl (ls0 := [some (.ref x)]) rfl ?_
  refine GO.aload_n dX8_isFull_0 rfl rfl ?_
  refine GO.getI h_x fl_RX8_9_k25 rfl rfl dX8_isFull_1 (fun l1 u2 => ?_)
  refine GO.aload_n dX8_isFull_4 rfl rfl ?_
  refine GO.getI h_x fl_RX8_18_k25 rfl rfl dX8_isFull_5 (fun l3 u4 => ?_)
  refine GO.icmp_lt (tgt := 15) dX8_isFull_8 (by decide) vi_ir vi_ir (fun c5 => ?_) (fun c5 => ?_)
  ·
    refine GO.iconst dX8_isFull_15 ?_
    exact GO.retz rfl rfl dX8_isFull_16 (Or.inl rfl) ⟨rfl, rfl, _, rfl, (ir_c rfl), ⟨Or.inl rfl, fun h => absurd rfl h, fun h => by omega⟩⟩
  ·
    refine GO.iconst dX8_isFull_11 ?_
    refine GO.goto (tgt := 16) dX8_isFull_12 (by decide) ?_
    exact GO.retz rfl rfl dX8_isFull_16 (Or.inr rfl) ⟨rfl, rfl, _, rfl, (ir_c rfl), ⟨Or.inr rfl, fun h => by omega, fun h => absurd h (by decide)⟩⟩

set_option maxHeartbeats 1000000 in
theorem t_X8_put_k25 {K : Kmap} {V : Vmap} {x : Nat} {p0 : Int} {p1 : Int} {p2 : Int} (h_x : K x = some (0, 25)) (r_p0 : ir p0) (r_p1 : ir p1) (r_p2 : ir p2) : MC mX8_put_k25 K V [.ref x, ti p0, ti p1, ti p2] (VS K (fun V1 => (True))) := by
  refine MC.start 2 (by decide +kernel) rfl rfl rfl (ls0 := [some (.ref x), some (ti p0), some (ti p1), some (ti p2), none, none]) rfl ?_
  refine GO.iload_n dX8_put_0 rfl rfl ?_
  refine GO.aload_n dX8_put_1 rfl rfl ?_
  refine GO.getI h_x fl_RX8_15_k25 rfl rfl dX8_put_2 (fun l1 u2 => ?_)
  refine GO.imul dX8_put_5 ?_
  refine GO.norm (fun z3 r4 hn5 => ?_)
  refine GO.iload_n dX8_put_6 rfl rfl ?_
  refine GO.iadd dX8_put_7 ?_
  refine GO.norm (fun z6 r7 hn8 => ?_)
  refine GO.istore (ls1 := [some (.ref x), some (ti p0), some (ti p1), some (ti p2), some (ti z6), none]) dX8_put_8 rfl rfl ?_
  refine GO.iload_n dX8_put_10 rfl rfl ?_
  have hj18 : ∀ (z17 : Int), ∀ (l19 : 0 ≤ z17), ∀ (u20 : z17 ≤ 1), GO mX8_put_k25 K V (VS K (fun V1 => (True))) K V 0 0 39 [some (.ref x), some (ti p0), some (ti p1), some (ti p2), some (ti z6), none] [ti z17] := by
    intro z17 l19 u20
    have r21 : ir z17 := ⟨by omega, by omega⟩
    refine GO.istore (ls1 := [some (.ref x), some (ti p0), some (ti p1), some (ti p2), some (ti z6), some (ti z17)]) dX8_put_39 rfl rfl ?_
    refine GO.iload dX8_put_41 rfl ?_
    refine GO.if_eq (tgt := 69) dX8_put_43 (by decide) r21 (fun c22 => ?_) (fun c22 => ?_)
    ·
      exact GO.retv rfl rfl dX8_put_69 ⟨rfl, rfl, trivial⟩
    ·
      refine GO.iload dX8_put_46 rfl ?_
      refine GO.if_lt (tgt := 69) dX8_put_48 (by decide) r7 (fun c23 => ?_) (fun c23 => ?_)
      ·
        exact GO.retv rfl rfl dX8_put_69 ⟨rfl, rfl, trivial⟩
      ·
        refine GO.iload dX8_put_51 rfl ?_
        refine GO.aload_n dX8_put_53 rfl rfl ?_
        refine GO.getA (n := 7) h_x fl_RX8_27_k25 rfl rfl rfl rfl dX8_put_54 (fun hv25 h24 => ?_)
        refine GO.alen h24 dX8_put_57 (fun h26 => ?_)
        refine GO.icmp_ge (tgt := 69) dX8_put_58 (by decide) r7 ⟨by omega, by omega⟩ (fun c27 => ?_) (fun c27 => ?_)
        ·
          exact GO.retv rfl rfl dX8_put_69 ⟨rfl, rfl, trivial⟩
        ·
          refine GO.aload_n dX8_put_61 rfl rfl ?_
          refine GO.getRaw h_x fl_RX8_27_k25 hv25 dX8_put_62 ?_
          refine GO.iload dX8_put_65 rfl ?_
          refine GO.iload_n dX8_put_67 rfl rfl ?_
          have q30 : -2147483648 ≤ z6 ∧ z6 ≤ 2147483647 := r7
          refine GO.iast (t := 147) rfl rfl (by decide +kernel) h24 r7 (by omega) (by omega) r_p2 (r_p2).1 (r_p2).2 dX8_put_68 (fun V32 e31 => ?_)
          exact GO.retv rfl rfl dX8_put_69 ⟨rfl, rfl, trivial⟩
  have hj41 : GO mX8_put_k25 K V (VS K (fun V1 => (True))) K V 0 0 38 [some (.ref x), some (ti p0), some (ti p1), some (ti p2), some (ti z6), none] [] := by
    skip
    refine GO.iconst dX8_put_38 ?_
    exact hj18 0 (by omega) (by omega)
  refine GO.if_lt (tgt := 38) dX8_put_11 (by decide) r_p0 (fun c42 => ?_) (fun c42 => ?_)
  ·
    exact hj41 
  ·
    refine GO.iload_n dX8_put_14 rfl rfl ?_
    refine GO.aload_n dX8_put_15 rfl rfl ?_
    refine GO.getI h_x fl_RX8_9_k25 rfl rfl dX8_put_16 (fun l43 u44 => ?_)
    refine GO.icmp_ge (tgt := 38) dX8_put_19 (by decide) r_p0 vi_ir (fun c45 => ?_) (fun c45 => ?_)
    ·
      exact hj41 
    ·
      refine GO.iload_n dX8_put_22 rfl rfl ?_
      refine GO.if_lt (tgt := 38) dX8_put_23 (by decide) r_p1 (fun c46 => ?_) (fun c46 => ?_)
      ·
        exact hj41 
      ·
        refine GO.iload_n dX8_put_26 rfl rfl ?_
        refine GO.aload_n dX8_put_27 rfl rfl ?_
        refine GO.getI h_x fl_RX8_15_k25 rfl rfl dX8_put_28 (fun l47 u48 => ?_)
        refine GO.icmp_ge (tgt := 38) dX8_put_31 (by decide) r_p1 vi_ir (fun c49 => ?_) (fun c49 => ?_)
        ·
          exact hj41 
        ·
          refine GO.iconst dX8_put_34 ?_
          refine GO.goto (tgt := 39) dX8_put_35 (by decide) ?_
          exact hj18 1 (by omega) (by omega)

set_option maxHeartbeats 1000000 in
theorem t_X8_append_k25 {K : Kmap} {V : Vmap} {x : Nat} {p0 : Int} {p1 : Int} {p2 : Int} {p3 : Int} {p4 : Int} (h_x : K x = some (0, 25)) (r_p0 : ir p0) (r_p1 : ir p1) (r_p2 : ir p2) (r_p3 : ir p3) (r_p4 : ir p4) : MC mX8_append_k25 K V [.ref x, ti p0, ti p1, ti p2, ti p3, ti p4] (IS K (fun X V1 => ((X = (-1) ∧ vi V1 x 3 = vi V x 3 ∧ vi V x 3 ≥ 7) ∨ (X = vi V x 3 ∧ vi V1 x 3 = (vi V x 3 + 1) ∧ vi V x 3 < 7)))) := by
  refine MC.start 1 (by decide +kernel) rfl rfl rfl (ls0 := [some (.ref x), some (ti p0), some (ti p1), some (ti p2), some (ti p3), some (ti p4), none]) rfl ?_
  refine GO.aload_n dX8_append_0 rfl rfl ?_
  refine GO.callV (ci := 25) (N := mX8_isFull_k25) dX8_append_1 (RX8, TX8, 4) rfl gV_RX8_31 h_x (t_X8_isFull_k25 h_x) rfl [] rfl rfl (Nat.le_of_ble_eq_true rfl) rfl (k_ip fun X1 r2 h3 => ?_)
  refine GO.if_eq (tgt := 9) dX8_append_4 (by decide) r2 (fun c4 => ?_) (fun c4 => ?_)
  ·
    have q5 := h3.2.2 (by omega)
    refine GO.aload_n dX8_append_9 rfl rfl ?_
    refine GO.getI h_x fl_RX8_9_k25 rfl rfl dX8_append_10 (fun l6 u7 => ?_)
    refine GO.name (fun z8 hz9 => ?_)
    have r10 : ir z8 := hz9 ▸ vi_ir
    refine GO.istore (ls1 := [some (.ref x), some (ti p0), some (ti p1), some (ti p2), some (ti p3), some (ti p4), some (ti z8)]) dX8_append_13 rfl rfl ?_
    refine GO.aload_n dX8_append_15 rfl rfl ?_
    refine GO.dup dX8_append_16 rfl ?_
    refine GO.getI h_x fl_RX8_9_k25 rfl rfl dX8_append_17 (fun l11 u12 => ?_)
    refine GO.iconst dX8_append_20 ?_
    refine GO.iadd dX8_append_21 ?_
    have q14 : -2147483648 ≤ vi V x 3 ∧ vi V x 3 ≤ 2147483647 := vi_ir
    have q15 : -2147483648 ≤ z8 ∧ z8 ≤ 2147483647 := r10
    refine GO.putI h_x fp_RX8_9_k25 rfl (by decide +kernel) ⟨by omega, by omega⟩ (by omega) (by omega) dX8_append_22 (fun V16 e13 => ?_)
    refine GO.aload_n dX8_append_25 rfl rfl ?_
    refine GO.iload dX8_append_26 rfl ?_
    refine GO.iconst dX8_append_28 ?_
    refine GO.iload_n dX8_append_29 rfl rfl ?_
    refine GO.callV (ci := 25) (N := mX8_put_k25) dX8_append_30 (RX8, TX8, 4) rfl gV_RX8_35 h_x (t_X8_put_k25 h_x r10 (ir_c rfl) r_p0) rfl [] rfl rfl (Nat.le_of_ble_eq_true rfl) rfl (k_vs fun V19 h18 hF17 => ?_)
    refine GO.aload_n dX8_append_33 rfl rfl ?_
    refine GO.iload dX8_append_34 rfl ?_
    refine GO.iconst dX8_append_36 ?_
    refine GO.iload_n dX8_append_37 rfl rfl ?_
    refine GO.callV (ci := 25) (N := mX8_put_k25) dX8_append_38 (RX8, TX8, 4) rfl gV_RX8_35 h_x (t_X8_put_k25 h_x r10 (ir_c rfl) r_p1) rfl [] rfl rfl (Nat.le_of_ble_eq_true rfl) rfl (k_vs fun V22 h21 hF20 => ?_)
    refine GO.aload_n dX8_append_41 rfl rfl ?_
    refine GO.iload dX8_append_42 rfl ?_
    refine GO.iconst dX8_append_44 ?_
    refine GO.iload_n dX8_append_45 rfl rfl ?_
    refine GO.callV (ci := 25) (N := mX8_put_k25) dX8_append_46 (RX8, TX8, 4) rfl gV_RX8_35 h_x (t_X8_put_k25 h_x r10 (ir_c rfl) r_p2) rfl [] rfl rfl (Nat.le_of_ble_eq_true rfl) rfl (k_vs fun V25 h24 hF23 => ?_)
    refine GO.aload_n dX8_append_49 rfl rfl ?_
    refine GO.iload dX8_append_50 rfl ?_
    refine GO.iconst dX8_append_52 ?_
    refine GO.iload dX8_append_53 rfl ?_
    refine GO.callV (ci := 25) (N := mX8_put_k25) dX8_append_55 (RX8, TX8, 4) rfl gV_RX8_35 h_x (t_X8_put_k25 h_x r10 (ir_c rfl) r_p3) rfl [] rfl rfl (Nat.le_of_ble_eq_true rfl) rfl (k_vs fun V28 h27 hF26 => ?_)
    refine GO.aload_n dX8_append_58 rfl rfl ?_
    refine GO.iload dX8_append_59 rfl ?_
    refine GO.iconst dX8_append_61 ?_
    refine GO.iload dX8_append_62 rfl ?_
    refine GO.callV (ci := 25) (N := mX8_put_k25) dX8_append_64 (RX8, TX8, 4) rfl gV_RX8_35 h_x (t_X8_put_k25 h_x r10 (ir_c rfl) r_p4) rfl [] rfl rfl (Nat.le_of_ble_eq_true rfl) rfl (k_vs fun V31 h30 hF29 => ?_)
    refine GO.iload dX8_append_67 rfl ?_
    have e37 : vi V16 x 3 = (vi V x 3) + 1 := upd2_int e13 ⟨by omega, by omega⟩
    have e36 : vi V19 x 3 = vi V16 x 3 := vi_fr hF17 h_x h_x (by decide +kernel)
    have e35 : vi V22 x 3 = vi V19 x 3 := vi_fr hF20 h_x h_x (by decide +kernel)
    have e34 : vi V25 x 3 = vi V22 x 3 := vi_fr hF23 h_x h_x (by decide +kernel)
    have e33 : vi V28 x 3 = vi V25 x 3 := vi_fr hF26 h_x h_x (by decide +kernel)
    have e32 : vi V31 x 3 = vi V28 x 3 := vi_fr hF29 h_x h_x (by decide +kernel)
    exact GO.reti rfl rfl dX8_append_69 ⟨rfl, _, rfl, r10, by omega⟩
  ·
    have q38 := h3.2.1 (by omega)
    refine GO.iconst dX8_append_7 ?_
    have q39 : -2147483648 ≤ vi V x 3 ∧ vi V x 3 ≤ 2147483647 := vi_ir
    exact GO.reti rfl rfl dX8_append_8 ⟨rfl, _, rfl, (ir_c rfl), by omega⟩

set_option maxHeartbeats 1000000 in
theorem t_X11_word {K : Kmap} {V : Vmap} {x : Nat} {p0 : Int} (h_x : K x = some (0, 10)) (r_p0 : ir p0) : MC mX11_word K V [.ref x, ti p0] (IS K (fun X V1 => (X ≥ (-2147483648) ∧ X ≤ 2147483647) ∧ (WDC V V1 x p0 X))) := by
  refine MC.start 0 (by decide +kernel) rfl rfl rfl (ls0 := [some (.ref x), some (ti p0)]) rfl ?_
  refine GO.iload_n dX11_word_0 rfl rfl ?_
  refine GO.iconst dX11_word_1 ?_
  refine GO.sipush dX11_word_2 rfl ?_
  refine GO.callS (N := mX11_between) dX11_word_5 gS_RX11_112 (t_X11_between r_p0 (ir_c rfl) (ir_c rfl)) rfl [] rfl rfl (Nat.le_of_ble_eq_true rfl) rfl (k_ip fun X1 r2 h3 => ?_)
  refine GO.if_eq (tgt := 26) dX11_word_8 (by decide) r2 (fun c4 => ?_) (fun c4 => ?_)
  ·
    have q5 := h3.2.2 (by omega)
    refine GO.iconst dX11_word_26 ?_
    exact GO.reti rfl rfl dX11_word_27 ⟨rfl, _, rfl, (ir_c rfl), ⟨(by first | exact trivial | omega), (by first | exact wdc_0 (by omega) | exact wdc_1 (by assumption) h_x (by decide +kernel) (by omega) (by omega) (by assumption))⟩⟩
  ·
    have q6 := h3.2.1 (by omega)
    refine GO.aload_n dX11_word_11 rfl rfl ?_
    refine GO.getR h_x fl_RX11_88 rfl rfl dX11_word_12 (fun hv8 h7 => ?_)
    refine GO.iload_n dX11_word_15 rfl rfl ?_
    refine GO.iconst dX11_word_16 ?_
    refine GO.iconst dX11_word_17 ?_
    refine GO.iconst dX11_word_18 ?_
    refine GO.iconst dX11_word_19 ?_
    refine GO.callV (ci := 25) (N := mX8_append_k25) dX11_word_20 (RX8, TX8, 4) rfl gV_RX11_205 h7 (t_X8_append_k25 h7 r_p0 (ir_c rfl) (ir_c rfl) (ir_c rfl) (ir_c rfl)) rfl [] rfl rfl (Nat.le_of_ble_eq_true rfl) rfl (k_is fun X9 V13 r10 h11 hF12 => ?_)
    refine GO.goto (tgt := 27) dX11_word_23 (by decide) ?_
    have q15 : -2147483648 ≤ X9 ∧ X9 ≤ 2147483647 := r10
    exact GO.reti rfl rfl dX11_word_27 ⟨rfl, _, rfl, r10, ⟨(by first | exact trivial | omega), (by first | exact wdc_0 (by omega) | exact wdc_1 (by assumption) h_x (by decide +kernel) (by omega) (by omega) (by assumption))⟩⟩
