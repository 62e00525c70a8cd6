def mX11_caught : MRec := (RX11, cX11_caught, 6, (some .int), yX11_caught, 2, 51, 0, 0, 3794275180128377091639574036764685364535950857523710002445248344226201089335099392)
def mX11_tonnesUpTo : MRec := (RX11, cX11_tonnesUpTo, 7, (some .int), yX11_tonnesUpTo, 1, 24, 0, 0, 0)
def mX11_isOver : MRec := (RX11, cX11_isOver, 5, (some .boolean), yX11_isOver, 5, 127, 0, 0, 3794275180128377091639574036764685364535950857523710002444946112771297432042995712)
def mX11_over : MRec := (RX11, cX11_over, 4, (some .int), yX11_over, 6, 151, 0, 0, 3794275180128377091639574036764685364535950857523710002444946112771297432042995712)
def mX11_isDoubtful : MRec := (RX11, cX11_isDoubtful, 6, (some .boolean), yX11_isDoubtful, 1, 24, 0, 0, 0)
def mX11_doubt : MRec := (RX11, cX11_doubt, 4, (some .int), yX11_doubt, 2, 49, 0, 0, 0)
def mX11_word : MRec := (RX11, cX11_word, 2, (some .int), yX11_word, 2, 51, 0, 0, 3794275180128377091639574036764685364535950857523710002445248344226201089335099392)
def mX11_asks : MRec := (RX11, cX11_asks, 7, (some .boolean), yX11_asks, 1, 22, 0, 0, 3794275180128377091639574036764685364535950857523710002444946112771297432309858304)
def mX11_blockers : MRec := (RX11, cX11_blockers, 5, (some .int), yX11_blockers, 2, 43, 0, 0, 0)
set_option maxHeartbeats 1000000 in
theorem t_X11_caught {K : Kmap} {V : Vmap} {x : Nat} {p0 : Int} {p1 : Int} {p2 : Int} {p3 : Int} {p4 : Int} (h_x : K x = some (0, 10)) (r_p0 : ir p0) (r_p1 : ir p1) (r_p2 : ir p2) (r_p3 : ir p3) (r_p4 : ir p4) : MC mX11_caught K V [.ref x, ti p0, ti p1, ti p2, ti p3, ti p4] (IS K (fun X V1 => True)) := by
  refine MC.start 0 (by decide +kernel) rfl rfl rfl (ls0 := [some (.ref x), some (ti p0), some (ti p1), some (ti p2), some (ti p3), some (ti p4)]) rfl ?_
  refine GO.aload_n dX11_caught_0 rfl rfl ?_
  refine GO.iload_n dX11_caught_1 rfl rfl ?_
  refine GO.callV (ci := 10) (N := mX11_shipOf) dX11_caught_2 (RX11, TX11, 20) rfl gV_RX11_403 h_x (t_X11_shipOf h_x r_p0) rfl [] rfl rfl (Nat.le_of_ble_eq_true rfl) rfl (k_rp (fun h3 => ?_) (fun o1 h2 h3 => ?_))
  ·
    refine GO.ifnullN (tgt := 36) dX11_caught_5 (by decide) ?_
    refine GO.iconst dX11_caught_36 ?_
    exact GO.reti rfl rfl dX11_caught_37 ⟨rfl, _, rfl, (ir_c rfl), trivial⟩
  ·
    refine GO.ifnull dX11_caught_5 ?_
    refine GO.iload_n dX11_caught_8 rfl rfl ?_
    refine GO.iconst dX11_caught_9 ?_
    refine GO.iconst dX11_caught_10 ?_
    refine GO.callS (N := mX11_between) dX11_caught_11 gS_RX11_112 (t_X11_between r_p1 (ir_c rfl) (ir_c rfl)) rfl [] rfl rfl (Nat.le_of_ble_eq_true rfl) rfl (k_ip fun X4 r5 h6 => ?_)
    refine GO.if_eq (tgt := 36) dX11_caught_14 (by decide) r5 (fun c7 => ?_) (fun c7 => ?_)
    ·
      have q8 := h6.2.2 (by omega)
      refine GO.iconst dX11_caught_36 ?_
      exact GO.reti rfl rfl dX11_caught_37 ⟨rfl, _, rfl, (ir_c rfl), trivial⟩
    ·
      have q9 := h6.2.1 (by omega)
      refine GO.iload_n dX11_caught_17 rfl rfl ?_
      refine GO.callS (N := mX11_isSea) dX11_caught_18 gS_RX11_394 (t_X11_isSea r_p2) rfl [] rfl rfl (Nat.le_of_ble_eq_true rfl) rfl (k_ip fun X10 r11 h12 => ?_)
      refine GO.if_eq (tgt := 36) dX11_caught_21 (by decide) r11 (fun c13 => ?_) (fun c13 => ?_)
      ·
        have q14 := h12.2.2 (by omega)
        refine GO.iconst dX11_caught_36 ?_
        exact GO.reti rfl rfl dX11_caught_37 ⟨rfl, _, rfl, (ir_c rfl), trivial⟩
      ·
        have q15 := h12.2.1 (by omega)
        refine GO.iload dX11_caught_24 rfl ?_
        refine GO.iconst dX11_caught_26 ?_
        refine GO.ldcw (X := 1000000) dX11_caught_27 gw_1159 rfl ?_
        refine GO.callS (N := mX11_between) dX11_caught_30 gS_RX11_112 (t_X11_between r_p3 (ir_c rfl) (ir_c rfl)) rfl [] rfl rfl (Nat.le_of_ble_eq_true rfl) rfl (k_ip fun X16 r17 h18 => ?_)
        refine GO.if_ne (tgt := 38) dX11_caught_33 (by decide) r17 (fun c19 => ?_) (fun c19 => ?_)
        ·
          have q20 := h18.2.1 (by omega)
          refine GO.iload dX11_caught_38 rfl ?_
          refine GO.iconst dX11_caught_40 ?_
          refine GO.aload_n dX11_caught_41 rfl rfl ?_
          refine GO.getR h_x fl_RX11_12 rfl rfl dX11_caught_42 (fun hv22 h21 => ?_)
          refine GO.getI h21 fl_RX11_145 rfl rfl dX11_caught_45 (fun _ _ => ?_)
          refine GO.callS (N := mX11_between) dX11_caught_48 gS_RX11_112 (t_X11_between r_p4 (ir_c rfl) vi_ir) rfl [] rfl rfl (Nat.le_of_ble_eq_true rfl) rfl (k_ip fun X23 r24 h25 => ?_)
          refine GO.if_ne (tgt := 56) dX11_caught_51 (by decide) r24 (fun c26 => ?_) (fun c26 => ?_)
          ·
            have q27 := h25.2.1 (by omega)
            refine GO.aload_n dX11_caught_56 rfl rfl ?_
            refine GO.getR h_x fl_RX11_82 rfl rfl dX11_caught_57 (fun hv29 h28 => ?_)
            refine GO.iload_n dX11_caught_60 rfl rfl ?_
            refine GO.iload_n dX11_caught_61 rfl rfl ?_
            refine GO.iload_n dX11_caught_62 rfl rfl ?_
            refine GO.iload dX11_caught_63 rfl ?_
            refine GO.iload dX11_caught_65 rfl ?_
            refine GO.callV (ci := 7) (N := mX8_append) dX11_caught_67 (RX8, TX8, 4) rfl gV_RX11_205 h28 (t_X8_append h28 r_p0 r_p1 r_p2 r_p3 r_p4) rfl [] rfl rfl (Nat.le_of_ble_eq_true rfl) rfl (k_is fun X30 V34 r31 h32 hF33 => ?_)
            have q35 : -2147483648 ≤ X30 ∧ X30 ≤ 2147483647 := r31
            exact GO.reti rfl rfl dX11_caught_70 ⟨rfl, _, rfl, r31, trivial⟩
          ·
            have q36 := h25.2.2 (by omega)
            refine GO.iconst dX11_caught_54 ?_
            exact GO.reti rfl rfl dX11_caught_55 ⟨rfl, _, rfl, (ir_c rfl), trivial⟩
        ·
          have q37 := h18.2.2 (by omega)
          refine GO.iconst dX11_caught_36 ?_
          exact GO.reti rfl rfl dX11_caught_37 ⟨rfl, _, rfl, (ir_c rfl), trivial⟩

set_option maxHeartbeats 1000000 in
theorem t_X11_tonnesUpTo {K : Kmap} {V : Vmap} {x : Nat} {p0 : Int} (h_x : K x = some (0, 10)) (r_p0 : ir p0) : MC mX11_tonnesUpTo K V [.ref x, ti p0] (IP K V (fun X => True)) := by
  refine MC.start 5 (by decide +kernel) rfl rfl rfl (ls0 := [some (.ref x), some (ti p0), none, none, none, none, none]) rfl ?_
  refine GO.aload_n dX11_tonnesUpTo_0 rfl rfl ?_
  refine GO.getR h_x fl_RX11_82 rfl rfl dX11_tonnesUpTo_1 (fun hv2 h1 => ?_)
  refine GO.iload_n dX11_tonnesUpTo_4 rfl rfl ?_
  refine GO.iconst dX11_tonnesUpTo_5 ?_
  refine GO.callV (ci := 7) (N := mX8_get) dX11_tonnesUpTo_6 (RX8, TX8, 4) rfl gV_RX11_209 h1 (t_X8_get h1 r_p0 (ir_c rfl)) rfl [] rfl rfl (Nat.le_of_ble_eq_true rfl) rfl (k_ip fun X3 r4 h5 => ?_)
  refine GO.istore_n (ls1 := [some (.ref x), some (ti p0), some (ti X3), none, none, none, none]) dX11_tonnesUpTo_9 rfl rfl rfl ?_
  refine GO.iconst dX11_tonnesUpTo_10 ?_
  refine GO.istore_n (ls1 := [some (.ref x), some (ti p0), some (ti X3), some (ti 0), none, none, none]) dX11_tonnesUpTo_11 rfl rfl rfl ?_
  refine GO.iconst dX11_tonnesUpTo_12 ?_
  refine GO.istore (ls1 := [some (.ref x), some (ti p0), some (ti X3), some (ti 0), some (ti 0), none, none]) dX11_tonnesUpTo_13 rfl rfl ?_
  refine GO.loop2 (fun i6 i7 W => (-2147483648) ≤ i6 ∧ i6 ≤ 2147483647 ∧ 0 ≤ i7 ∧ i7 ≤ 2147483647 ∧ V = W) (fun i6 i7 => [some (.ref x), some (ti p0), some (ti X3), some (ti i6), some (ti i7), none, none]) (fun i6 i7 W => (2147483647 - i7).toNat) 0 0 ⟨by omega, by omega, by omega, by omega, rfl⟩ rfl (fun i6 i7 V3095 hp3097 ih3096 => ?_)
  obtain ⟨l_i6, u_i6, l_i7, u_i7, rfl⟩ := hp3097
  have r_i6 : ir i6 := ⟨by omega, by omega⟩
  have r_i7 : ir i7 := ⟨by omega, by omega⟩
  show GO mX11_tonnesUpTo K V (IP K V (fun X => True)) K V 0 0 15 [some (.ref x), some (ti p0), some (ti X3), some (ti i6), some (ti i7), none, none] []
  refine GO.iload dX11_tonnesUpTo_15 rfl ?_
  refine GO.aload_n dX11_tonnesUpTo_17 rfl rfl ?_
  refine GO.getRaw h_x fl_RX11_82 hv2 dX11_tonnesUpTo_18 ?_
  refine GO.getI h1 fl_RX11_199 rfl rfl dX11_tonnesUpTo_21 (fun _ _ => ?_)
  refine GO.icmp_ge (tgt := 146) dX11_tonnesUpTo_24 (by decide) r_i7 vi_ir (fun c3100 => ?_) (fun c3100 => ?_)
  ·
    refine GO.iload_n dX11_tonnesUpTo_146 rfl rfl ?_
    exact GO.reti rfl rfl dX11_tonnesUpTo_147 ⟨rfl, rfl, _, rfl, r_i6, trivial⟩
  ·
    refine GO.aload_n dX11_tonnesUpTo_27 rfl rfl ?_
    refine GO.getRaw h_x fl_RX11_82 hv2 dX11_tonnesUpTo_28 ?_
    refine GO.iload dX11_tonnesUpTo_31 rfl ?_
    refine GO.iconst dX11_tonnesUpTo_33 ?_
    refine GO.callV (ci := 7) (N := mX8_get) dX11_tonnesUpTo_34 (RX8, TX8, 4) rfl gV_RX11_209 h1 (t_X8_get h1 r_i7 (ir_c rfl)) rfl [] rfl rfl (Nat.le_of_ble_eq_true rfl) rfl (k_ip fun X3103 r3104 h3105 => ?_)
    refine GO.istore (ls1 := [some (.ref x), some (ti p0), some (ti X3), some (ti i6), some (ti i7), some (ti X3103), none]) dX11_tonnesUpTo_37 rfl rfl ?_
    refine GO.iload dX11_tonnesUpTo_39 rfl ?_
    refine GO.iload_n dX11_tonnesUpTo_41 rfl rfl ?_
    have hj3113 : ∀ (z3112 : Int), ∀ (l3114 : 0 ≤ z3112), ∀ (u3115 : z3112 ≤ 1), GO mX11_tonnesUpTo K V (IP K V (fun X => True)) K V 0 0 62 [some (.ref x), some (ti p0), some (ti X3), some (ti i6), some (ti i7), some (ti X3103), none] [ti z3112] := by
      intro z3112 l3114 u3115
      have r3116 : ir z3112 := ⟨by omega, by omega⟩
      refine GO.istore (ls1 := [some (.ref x), some (ti p0), some (ti X3), some (ti i6), some (ti i7), some (ti X3103), some (ti z3112)]) dX11_tonnesUpTo_62 rfl rfl ?_
      refine GO.iload dX11_tonnesUpTo_64 rfl ?_
      refine GO.if_eq (tgt := 140) dX11_tonnesUpTo_66 (by decide) r3116 (fun c3117 => ?_) (fun c3117 => ?_)
      ·
        refine GO.iinc (X := i7) (n := 1) (Y := i7 + 1) (ls1 := [some (.ref x), some (ti p0), some (ti X3), some (ti i6), some (ti (i7 + 1)), some (ti X3103), some (ti z3112)]) dX11_tonnesUpTo_140 rfl rfl rfl rfl ?_
        refine GO.goto (tgt := 15) dX11_tonnesUpTo_143 (by decide) ?_
        refine GO.drop [true, true, true, true, true, false, false] rfl ?_
        have q3118 : -2147483648 ≤ vi V (vq V x 14) 3 ∧ vi V (vq V x 14) 3 ≤ 2147483647 := vi_ir
        exact ih3096 i6 (i7 + 1) V ⟨by omega, by omega, by omega, by omega, rfl⟩ (by show (2147483647 - (i7 + 1)).toNat < (2147483647 - i7).toNat; omega)
      ·
        refine GO.iload dX11_tonnesUpTo_69 rfl ?_
        refine GO.sipush dX11_tonnesUpTo_71 rfl ?_
        refine GO.idiv dX11_tonnesUpTo_74 (ir_c rfl) (by omega) ?_
        refine GO.iload_n dX11_tonnesUpTo_75 rfl rfl ?_
        refine GO.sipush dX11_tonnesUpTo_76 rfl ?_
        refine GO.idiv dX11_tonnesUpTo_79 (ir_c rfl) (by omega) ?_
        refine GO.icmp_ne (tgt := 140) dX11_tonnesUpTo_80 (by decide) wdiv_ir wdiv_ir (fun c3119 => ?_) (fun c3119 => ?_)
        ·
          refine GO.iinc (X := i7) (n := 1) (Y := i7 + 1) (ls1 := [some (.ref x), some (ti p0), some (ti X3), some (ti i6), some (ti (i7 + 1)), some (ti X3103), some (ti z3112)]) dX11_tonnesUpTo_140 rfl rfl rfl rfl ?_
          refine GO.goto (tgt := 15) dX11_tonnesUpTo_143 (by decide) ?_
          refine GO.drop [true, true, true, true, true, false, false] rfl ?_
          have q3120 : -2147483648 ≤ vi V (vq V x 14) 3 ∧ vi V (vq V x 14) 3 ≤ 2147483647 := vi_ir
          exact ih3096 i6 (i7 + 1) V ⟨by omega, by omega, by omega, by omega, rfl⟩ (by show (2147483647 - (i7 + 1)).toNat < (2147483647 - i7).toNat; omega)
        ·
          refine GO.aload_n dX11_tonnesUpTo_83 rfl rfl ?_
          refine GO.getRaw h_x fl_RX11_82 hv2 dX11_tonnesUpTo_84 ?_
          refine GO.iload dX11_tonnesUpTo_87 rfl ?_
          refine GO.iconst dX11_tonnesUpTo_89 ?_
          refine GO.callV (ci := 7) (N := mX8_get) dX11_tonnesUpTo_90 (RX8, TX8, 4) rfl gV_RX11_209 h1 (t_X8_get h1 r_i7 (ir_c rfl)) rfl [] rfl rfl (Nat.le_of_ble_eq_true rfl) rfl (k_ip fun X3123 r3124 h3125 => ?_)
          refine GO.aload_n dX11_tonnesUpTo_93 rfl rfl ?_
          refine GO.getRaw h_x fl_RX11_82 hv2 dX11_tonnesUpTo_94 ?_
          refine GO.iload_n dX11_tonnesUpTo_97 rfl rfl ?_
          refine GO.iconst dX11_tonnesUpTo_98 ?_
          refine GO.callV (ci := 7) (N := mX8_get) dX11_tonnesUpTo_99 (RX8, TX8, 4) rfl gV_RX11_209 h1 (t_X8_get h1 r_p0 (ir_c rfl)) rfl [ti X3123] rfl rfl (Nat.le_of_ble_eq_true rfl) rfl (k_ip fun X3128 r3129 h3130 => ?_)
          refine GO.icmp_ne (tgt := 140) dX11_tonnesUpTo_102 (by decide) r3124 r3129 (fun c3131 => ?_) (fun c3131 => ?_)
          ·
            refine GO.iinc (X := i7) (n := 1) (Y := i7 + 1) (ls1 := [some (.ref x), some (ti p0), some (ti X3), some (ti i6), some (ti (i7 + 1)), some (ti X3103), some (ti z3112)]) dX11_tonnesUpTo_140 rfl rfl rfl rfl ?_
            refine GO.goto (tgt := 15) dX11_tonnesUpTo_143 (by decide) ?_
            refine GO.drop [true, true, true, true, true, false, false] rfl ?_
            have q3132 : -2147483648 ≤ vi V (vq V x 14) 3 ∧ vi V (vq V x 14) 3 ≤ 2147483647 := vi_ir
            exact ih3096 i6 (i7 + 1) V ⟨by omega, by omega, by omega, by omega, rfl⟩ (by show (2147483647 - (i7 + 1)).toNat < (2147483647 - i7).toNat; omega)
          ·
            refine GO.aload_n dX11_tonnesUpTo_105 rfl rfl ?_
            refine GO.getRaw h_x fl_RX11_82 hv2 dX11_tonnesUpTo_106 ?_
            refine GO.iload dX11_tonnesUpTo_109 rfl ?_
            refine GO.iconst dX11_tonnesUpTo_111 ?_
            refine GO.callV (ci := 7) (N := mX8_get) dX11_tonnesUpTo_112 (RX8, TX8, 4) rfl gV_RX11_209 h1 (t_X8_get h1 r_i7 (ir_c rfl)) rfl [] rfl rfl (Nat.le_of_ble_eq_true rfl) rfl (k_ip fun X3135 r3136 h3137 => ?_)
            refine GO.aload_n dX11_tonnesUpTo_115 rfl rfl ?_
            refine GO.getRaw h_x fl_RX11_82 hv2 dX11_tonnesUpTo_116 ?_
            refine GO.iload_n dX11_tonnesUpTo_119 rfl rfl ?_
            refine GO.iconst dX11_tonnesUpTo_120 ?_
            refine GO.callV (ci := 7) (N := mX8_get) dX11_tonnesUpTo_121 (RX8, TX8, 4) rfl gV_RX11_209 h1 (t_X8_get h1 r_p0 (ir_c rfl)) rfl [ti X3135] rfl rfl (Nat.le_of_ble_eq_true rfl) rfl (k_ip fun X3140 r3141 h3142 => ?_)
            refine GO.icmp_ne (tgt := 140) dX11_tonnesUpTo_124 (by decide) r3136 r3141 (fun c3143 => ?_) (fun c3143 => ?_)
            ·
              refine GO.iinc (X := i7) (n := 1) (Y := i7 + 1) (ls1 := [some (.ref x), some (ti p0), some (ti X3), some (ti i6), some (ti (i7 + 1)), some (ti X3103), some (ti z3112)]) dX11_tonnesUpTo_140 rfl rfl rfl rfl ?_
              refine GO.goto (tgt := 15) dX11_tonnesUpTo_143 (by decide) ?_
              refine GO.drop [true, true, true, true, true, false, false] rfl ?_
              have q3144 : -2147483648 ≤ vi V (vq V x 14) 3 ∧ vi V (vq V x 14) 3 ≤ 2147483647 := vi_ir
              exact ih3096 i6 (i7 + 1) V ⟨by omega, by omega, by omega, by omega, rfl⟩ (by show (2147483647 - (i7 + 1)).toNat < (2147483647 - i7).toNat; omega)
            ·
              refine GO.iload_n dX11_tonnesUpTo_127 rfl rfl ?_
              refine GO.aload_n dX11_tonnesUpTo_128 rfl rfl ?_
              refine GO.getRaw h_x fl_RX11_82 hv2 dX11_tonnesUpTo_129 ?_
              refine GO.iload dX11_tonnesUpTo_132 rfl ?_
              refine GO.iconst dX11_tonnesUpTo_134 ?_
              refine GO.callV (ci := 7) (N := mX8_get) dX11_tonnesUpTo_135 (RX8, TX8, 4) rfl gV_RX11_209 h1 (t_X8_get h1 r_i7 (ir_c rfl)) rfl [ti i6] rfl rfl (Nat.le_of_ble_eq_true rfl) rfl (k_ip fun X3147 r3148 h3149 => ?_)
              refine GO.iadd dX11_tonnesUpTo_138 ?_
              refine GO.norm (fun z3150 r3151 _ => ?_)
              refine GO.istore_n (ls1 := [some (.ref x), some (ti p0), some (ti X3), some (ti z3150), some (ti i7), some (ti X3103), some (ti z3112)]) dX11_tonnesUpTo_139 rfl rfl rfl ?_
              refine GO.iinc (X := i7) (n := 1) (Y := i7 + 1) (ls1 := [some (.ref x), some (ti p0), some (ti X3), some (ti z3150), some (ti (i7 + 1)), some (ti X3103), some (ti z3112)]) dX11_tonnesUpTo_140 rfl rfl rfl rfl ?_
              refine GO.goto (tgt := 15) dX11_tonnesUpTo_143 (by decide) ?_
              refine GO.drop [true, true, true, true, true, false, false] rfl ?_
              have q3152 : -2147483648 ≤ vi V (vq V x 14) 3 ∧ vi V (vq V x 14) 3 ≤ 2147483647 := vi_ir
              have q3153 : -2147483648 ≤ z3150 ∧ z3150 ≤ 2147483647 := r3151
              exact ih3096 z3150 (i7 + 1) V ⟨by omega, by omega, by omega, by omega, rfl⟩ (by show (2147483647 - (i7 + 1)).toNat < (2147483647 - i7).toNat; omega)
    have hj3160 : GO mX11_tonnesUpTo K V (IP K V (fun X => True)) K V 0 0 57 [some (.ref x), some (ti p0), some (ti X3), some (ti i6), some (ti i7), some (ti X3103), none] [] := by
      skip
      refine GO.iconst dX11_tonnesUpTo_57 ?_
      refine GO.goto (tgt := 62) dX11_tonnesUpTo_58 (by decide) ?_
      exact hj3113 1 (by omega) (by omega)
    refine GO.icmp_lt (tgt := 57) dX11_tonnesUpTo_42 (by decide) r3104 r4 (fun c3161 => ?_) (fun c3161 => ?_)
    ·
      exact hj3160 
    ·
      refine GO.iload dX11_tonnesUpTo_45 rfl ?_
      refine GO.iload_n dX11_tonnesUpTo_47 rfl rfl ?_
      have hj3164 : GO mX11_tonnesUpTo K V (IP K V (fun X => True)) K V 0 0 61 [some (.ref x), some (ti p0), some (ti X3), some (ti i6), some (ti i7), some (ti X3103), none] [] := by
        skip
        refine GO.iconst dX11_tonnesUpTo_61 ?_
        exact hj3113 0 (by omega) (by omega)
      refine GO.icmp_ne (tgt := 61) dX11_tonnesUpTo_48 (by decide) r3104 r4 (fun c3165 => ?_) (fun c3165 => ?_)
      ·
        exact hj3164 
      ·
        refine GO.iload dX11_tonnesUpTo_51 rfl ?_
        refine GO.iload_n dX11_tonnesUpTo_53 rfl rfl ?_
        refine GO.icmp_gt (tgt := 61) dX11_tonnesUpTo_54 (by decide) r_i7 r_p0 (fun c3166 => ?_) (fun c3166 => ?_)
        ·
          exact hj3164 
        ·
          exact hj3160 

set_option maxHeartbeats 1000000 in
theorem t_X11_isOver {K : Kmap} {V : Vmap} {x : Nat} {p0 : Int} (h_x : K x = some (0, 10)) (r_p0 : ir p0) : MC mX11_isOver K V [.ref x, ti p0] (IS K (fun X V1 => (X = 0 ∨ X = 1) ∧ (X ≠ 0 → True) ∧ (X = 0 → True))) := by
  refine MC.start 3 (by decide +kernel) rfl rfl rfl (ls0 := [some (.ref x), some (ti p0), none, none, none]) rfl ?_
  refine GO.aload_n dX11_isOver_0 rfl rfl ?_
  refine GO.aload_n dX11_isOver_1 rfl rfl ?_
  refine GO.getR h_x fl_RX11_82 rfl rfl dX11_isOver_2 (fun hv2 h1 => ?_)
  refine GO.iload_n dX11_isOver_5 rfl rfl ?_
  refine GO.iconst dX11_isOver_6 ?_
  refine GO.callV (ci := 7) (N := mX8_get) dX11_isOver_7 (RX8, TX8, 4) rfl gV_RX11_209 h1 (t_X8_get h1 r_p0 (ir_c rfl)) rfl [.ref x] rfl rfl (Nat.le_of_ble_eq_true rfl) rfl (k_ip fun X3 r4 h5 => ?_)
  refine GO.callV (ci := 10) (N := mX11_shipOf) dX11_isOver_10 (RX11, TX11, 20) rfl gV_RX11_403 h_x (t_X11_shipOf h_x r4) rfl [] rfl rfl (Nat.le_of_ble_eq_true rfl) rfl (k_rp (fun h8 => ?_) (fun o6 h7 h8 => ?_))
  ·
    refine GO.astore_nN (ls1 := [some (.ref x), some (ti p0), some (.null), none, none]) dX11_isOver_13 rfl rfl rfl ?_
    refine GO.aload_nN dX11_isOver_14 rfl rfl ?_
    refine GO.ifnonnullN dX11_isOver_15 ?_
    refine GO.null dX11_isOver_18 ?_
    refine GO.goto (tgt := 30) dX11_isOver_19 (by decide) ?_
    refine GO.astore_nN (ls1 := [some (.ref x), some (ti p0), some (.null), some (.null), none]) dX11_isOver_30 rfl rfl rfl ?_
    refine GO.aload_nN dX11_isOver_31 rfl rfl ?_
    refine GO.ifnonnullN dX11_isOver_32 ?_
    refine GO.iconst dX11_isOver_35 ?_
    exact GO.retz rfl rfl dX11_isOver_36 (Or.inl rfl) ⟨rfl, _, rfl, (ir_c rfl), ⟨Or.inl rfl, fun _ => trivial, fun _ => trivial⟩⟩
  ·
    refine GO.astore_n (ls1 := [some (.ref x), some (ti p0), some (.ref o6), none, none]) dX11_isOver_13 rfl rfl rfl ?_
    refine GO.aload_n dX11_isOver_14 rfl rfl ?_
    refine GO.ifnonnull (tgt := 22) dX11_isOver_15 (by decide) ?_
    refine GO.aload_n dX11_isOver_22 rfl rfl ?_
    refine GO.aload_n dX11_isOver_23 rfl rfl ?_
    refine GO.getI h7 fl_RX11_565 rfl rfl dX11_isOver_24 (fun _ _ => ?_)
    refine GO.callV (ci := 10) (N := mX11_partyOf) dX11_isOver_27 (RX11, TX11, 20) rfl gV_RX11_151 h_x (t_X11_partyOf h_x vi_ir) rfl [] rfl rfl (Nat.le_of_ble_eq_true rfl) rfl (k_rp (fun h14 => ?_) (fun o12 h13 h14 => ?_))
    ·
      refine GO.astore_nN (ls1 := [some (.ref x), some (ti p0), some (.ref o6), some (.null), none]) dX11_isOver_30 rfl rfl rfl ?_
      refine GO.aload_nN dX11_isOver_31 rfl rfl ?_
      refine GO.ifnonnullN dX11_isOver_32 ?_
      refine GO.iconst dX11_isOver_35 ?_
      exact GO.retz rfl rfl dX11_isOver_36 (Or.inl rfl) ⟨rfl, _, rfl, (ir_c rfl), ⟨Or.inl rfl, fun _ => trivial, fun _ => trivial⟩⟩
    ·
      refine GO.astore_n (ls1 := [some (.ref x), some (ti p0), some (.ref o6), some (.ref o12), none]) dX11_isOver_30 rfl rfl rfl ?_
      refine GO.aload_n dX11_isOver_31 rfl rfl ?_
      refine GO.ifnonnull (tgt := 37) dX11_isOver_32 (by decide) ?_
      refine GO.aload_n dX11_isOver_37 rfl rfl ?_
      refine GO.getR h_x fl_RX11_19 rfl rfl dX11_isOver_38 (fun hv16 h15 => ?_)
      refine GO.aload_n dX11_isOver_41 rfl rfl ?_
      refine GO.getI h7 fl_RX11_565 rfl rfl dX11_isOver_42 (fun _ _ => ?_)
      refine GO.aload_n dX11_isOver_45 rfl rfl ?_
      refine GO.aload_n dX11_isOver_46 rfl rfl ?_
      refine GO.getRaw h_x fl_RX11_82 hv2 dX11_isOver_47 ?_
      refine GO.iload_n dX11_isOver_50 rfl rfl ?_
      refine GO.iconst dX11_isOver_51 ?_
      refine GO.callV (ci := 7) (N := mX8_get) dX11_isOver_52 (RX8, TX8, 4) rfl gV_RX11_209 h1 (t_X8_get h1 r_p0 (ir_c rfl)) rfl [.ref o12, ti (vi V o6 0), .ref (vq V x 1)] rfl rfl (Nat.le_of_ble_eq_true rfl) rfl (k_ip fun X19 r20 h21 => ?_)
      refine GO.callV (ci := 1) (N := mX1_weigh) dX11_isOver_55 (RX1, TX1, 13) rfl gV_RX11_279 h15 (t_X1_weigh h15 vi_ir h13 r20) rfl [] rfl rfl (Nat.le_of_ble_eq_true rfl) rfl (k_vs fun V24 h23 hF22 => ?_)
      refine GO.aload_n dX11_isOver_58 rfl rfl ?_
      refine GO.getRaw h_x fl_RX11_19 (Eq.trans (hF22 _ _ _ h_x h_x (by decide +kernel)) hv16) dX11_isOver_59 ?_
      refine GO.bipush dX11_isOver_62 rfl ?_
      refine GO.aload_n dX11_isOver_64 rfl rfl ?_
      refine GO.getRaw h_x fl_RX11_82 (Eq.trans (hF22 _ _ _ h_x h_x (by decide +kernel)) hv2) dX11_isOver_65 ?_
      refine GO.iload_n dX11_isOver_68 rfl rfl ?_
      refine GO.iconst dX11_isOver_69 ?_
      refine GO.callV (ci := 7) (N := mX8_get) dX11_isOver_70 (RX8, TX8, 4) rfl gV_RX11_209 h1 (t_X8_get h1 r_p0 (ir_c rfl)) rfl [ti 107, .ref (vq V x 1)] rfl rfl (Nat.le_of_ble_eq_true rfl) rfl (k_ip fun X29 r30 h31 => ?_)
      refine GO.aload_n dX11_isOver_73 rfl rfl ?_
      refine GO.getRaw h_x fl_RX11_82 (Eq.trans (hF22 _ _ _ h_x h_x (by decide +kernel)) hv2) dX11_isOver_74 ?_
      refine GO.iload_n dX11_isOver_77 rfl rfl ?_
      refine GO.iconst dX11_isOver_78 ?_
      refine GO.callV (ci := 7) (N := mX8_get) dX11_isOver_79 (RX8, TX8, 4) rfl gV_RX11_209 h1 (t_X8_get h1 r_p0 (ir_c rfl)) rfl [ti X29, ti 107, .ref (vq V x 1)] rfl rfl (Nat.le_of_ble_eq_true rfl) rfl (k_ip fun X34 r35 h36 => ?_)
      refine GO.callV (ci := 1) (N := mX1_numberOf) dX11_isOver_82 (RX1, TX1, 13) rfl gV_RX11_292 h15 (t_X1_numberOf h15 (ir_c rfl) r30 r35) rfl [] rfl rfl (Nat.le_of_ble_eq_true rfl) rfl (k_ip fun X37 r38 h39 => ?_)
      refine GO.istore (ls1 := [some (.ref x), some (ti p0), some (.ref o6), some (.ref o12), some (ti X37)]) dX11_isOver_85 rfl rfl ?_
      refine GO.iload dX11_isOver_87 rfl ?_
      refine GO.iconst dX11_isOver_89 ?_
      refine GO.icmp_eq (tgt := 107) dX11_isOver_90 (by decide) r38 (ir_c rfl) (fun c40 => ?_) (fun c40 => ?_)
      ·
        refine GO.iconst dX11_isOver_107 ?_
        exact GO.retz rfl rfl dX11_isOver_108 (Or.inl rfl) ⟨rfl, _, rfl, (ir_c rfl), ⟨Or.inl rfl, fun _ => trivial, fun _ => trivial⟩⟩
      ·
        refine GO.aload_n dX11_isOver_93 rfl rfl ?_
        refine GO.iload_n dX11_isOver_94 rfl rfl ?_
        refine GO.callV (ci := 10) (N := mX11_tonnesUpTo) dX11_isOver_95 (RX11, TX11, 20) rfl gV_RX11_566 h_x (t_X11_tonnesUpTo h_x r_p0) rfl [] rfl rfl (Nat.le_of_ble_eq_true rfl) rfl (k_ip fun X41 r42 h43 => ?_)
        refine GO.iload dX11_isOver_98 rfl ?_
        refine GO.icmp_le (tgt := 107) dX11_isOver_100 (by decide) r42 r38 (fun c44 => ?_) (fun c44 => ?_)
        ·
          refine GO.iconst dX11_isOver_107 ?_
          exact GO.retz rfl rfl dX11_isOver_108 (Or.inl rfl) ⟨rfl, _, rfl, (ir_c rfl), ⟨Or.inl rfl, fun _ => trivial, fun _ => trivial⟩⟩
        ·
          refine GO.iconst dX11_isOver_103 ?_
          refine GO.goto (tgt := 108) dX11_isOver_104 (by decide) ?_
          exact GO.retz rfl rfl dX11_isOver_108 (Or.inr rfl) ⟨rfl, _, rfl, (ir_c rfl), ⟨Or.inr rfl, fun _ => trivial, fun _ => trivial⟩⟩

set_option maxHeartbeats 1000000 in
theorem t_X11_over {K : Kmap} {V : Vmap} {x : Nat} (h_x : K x = some (0, 10)) : MC mX11_over K V [.ref x] (IS K (fun X V1 => True)) := by
  refine MC.start 3 (by decide +kernel) rfl rfl rfl (ls0 := [some (.ref x), none, none, none]) rfl ?_
  refine GO.iconst dX11_over_0 ?_
  refine GO.istore_n (ls1 := [some (.ref x), some (ti (-1)), none, none]) dX11_over_1 rfl rfl rfl ?_
  refine GO.iconst dX11_over_2 ?_
  refine GO.istore_n (ls1 := [some (.ref x), some (ti (-1)), some (ti 0), none]) dX11_over_3 rfl rfl rfl ?_
  refine GO.loop2 (fun i1 i2 W => (-1) ≤ i1 ∧ i1 ≤ 2147483646 ∧ 0 ≤ i2 ∧ i2 ≤ 2147483647 ∧ True) (fun i1 i2 => [some (.ref x), some (ti i1), some (ti i2), none]) (fun i1 i2 W => (2147483647 - i2).toNat) (-1) 0 ⟨by omega, by omega, by omega, by omega, trivial⟩ rfl (fun i1 i2 Wi1 hp1015 ih1014 => ?_)
  obtain ⟨l_i1, u_i1, l_i2, u_i2, -⟩ := hp1015
  have r_i1 : ir i1 := ⟨by omega, by omega⟩
  have r_i2 : ir i2 := ⟨by omega, by omega⟩
  show GO mX11_over K V (IS K (fun X V1 => True)) K Wi1 0 0 4 [some (.ref x), some (ti i1), some (ti i2), none] []
  refine GO.iload_n dX11_over_4 rfl rfl ?_
  refine GO.aload_n dX11_over_5 rfl rfl ?_
  refine GO.getR h_x fl_RX11_82 rfl rfl dX11_over_6 (fun hv1017 h1016 => ?_)
  refine GO.getI h1016 fl_RX11_199 rfl rfl dX11_over_9 (fun _ _ => ?_)
  refine GO.icmp_ge (tgt := 67) dX11_over_12 (by decide) r_i2 vi_ir (fun c1018 => ?_) (fun c1018 => ?_)
  ·
    refine GO.iload_n dX11_over_67 rfl rfl ?_
    exact GO.reti rfl rfl dX11_over_68 ⟨rfl, _, rfl, r_i1, trivial⟩
  ·
    refine GO.iload_n dX11_over_15 rfl rfl ?_
    refine GO.iconst dX11_over_16 ?_
    have hj1032 : GO mX11_over K V (IS K (fun X V1 => True)) K Wi1 0 0 41 [some (.ref x), some (ti i1), some (ti i2), none] [] := by
      skip
      refine GO.iconst dX11_over_41 ?_
      refine GO.goto (tgt := 46) dX11_over_42 (by decide) ?_
      refine GO.istore_n (ls1 := [some (.ref x), some (ti i1), some (ti i2), some (ti 1)]) dX11_over_46 rfl rfl rfl ?_
      refine GO.iload_n dX11_over_47 rfl rfl ?_
      refine GO.if_eq (tgt := 61) dX11_over_48 (by decide) (ir_c rfl) (fun h => by exfalso; omega) (fun c1033 => ?_)
      refine GO.aload_n dX11_over_51 rfl rfl ?_
      refine GO.iload_n dX11_over_52 rfl rfl ?_
      refine GO.callV (ci := 10) (N := mX11_isOver) dX11_over_53 (RX11, TX11, 20) rfl gV_RX11_562 h_x (t_X11_isOver h_x r_i2) rfl [] rfl rfl (Nat.le_of_ble_eq_true rfl) rfl (k_is fun X1034 V1038 r1035 h1036 hF1037 => ?_)
      refine GO.if_eq (tgt := 61) dX11_over_56 (by decide) r1035 (fun c1039 => ?_) (fun c1039 => ?_)
      ·
        refine GO.iinc (X := i2) (n := 1) (Y := i2 + 1) (ls1 := [some (.ref x), some (ti i1), some (ti (i2 + 1)), some (ti 1)]) dX11_over_61 rfl rfl rfl rfl ?_
        refine GO.goto (tgt := 4) dX11_over_64 (by decide) ?_
        refine GO.drop [true, true, true, false] rfl ?_
        have q1040 : -2147483648 ≤ vi Wi1 (vq Wi1 x 14) 3 ∧ vi Wi1 (vq Wi1 x 14) 3 ≤ 2147483647 := vi_ir
        exact ih1014 i1 (i2 + 1) V1038 ⟨by omega, by omega, by omega, by omega, trivial⟩ (by show (2147483647 - (i2 + 1)).toNat < (2147483647 - i2).toNat; omega)
      ·
        refine GO.iload_n dX11_over_59 rfl rfl ?_
        refine GO.istore_n (ls1 := [some (.ref x), some (ti i2), some (ti i2), some (ti 1)]) dX11_over_60 rfl rfl rfl ?_
        refine GO.iinc (X := i2) (n := 1) (Y := i2 + 1) (ls1 := [some (.ref x), some (ti i2), some (ti (i2 + 1)), some (ti 1)]) dX11_over_61 rfl rfl rfl rfl ?_
        refine GO.goto (tgt := 4) dX11_over_64 (by decide) ?_
        refine GO.drop [true, true, true, false] rfl ?_
        have q1041 : -2147483648 ≤ vi Wi1 (vq Wi1 x 14) 3 ∧ vi Wi1 (vq Wi1 x 14) 3 ≤ 2147483647 := vi_ir
        exact ih1014 i2 (i2 + 1) V1038 ⟨by omega, by omega, by omega, by omega, trivial⟩ (by show (2147483647 - (i2 + 1)).toNat < (2147483647 - i2).toNat; omega)
    refine GO.icmp_eq (tgt := 41) dX11_over_17 (by decide) r_i1 (ir_c rfl) (fun c1042 => ?_) (fun c1042 => ?_)
    ·
      exact hj1032 
    ·
      refine GO.aload_n dX11_over_20 rfl rfl ?_
      refine GO.getRaw h_x fl_RX11_82 hv1017 dX11_over_21 ?_
      refine GO.iload_n dX11_over_24 rfl rfl ?_
      refine GO.iconst dX11_over_25 ?_
      refine GO.callV (ci := 7) (N := mX8_get) dX11_over_26 (RX8, TX8, 4) rfl gV_RX11_209 h1016 (t_X8_get h1016 r_i2 (ir_c rfl)) rfl [] rfl rfl (Nat.le_of_ble_eq_true rfl) rfl (k_ip fun X1045 r1046 h1047 => ?_)
      refine GO.aload_n dX11_over_29 rfl rfl ?_
      refine GO.getRaw h_x fl_RX11_82 hv1017 dX11_over_30 ?_
      refine GO.iload_n dX11_over_33 rfl rfl ?_
      refine GO.iconst dX11_over_34 ?_
      refine GO.callV (ci := 7) (N := mX8_get) dX11_over_35 (RX8, TX8, 4) rfl gV_RX11_209 h1016 (t_X8_get h1016 r_i1 (ir_c rfl)) rfl [ti X1045] rfl rfl (Nat.le_of_ble_eq_true rfl) rfl (k_ip fun X1050 r1051 h1052 => ?_)
      refine GO.icmp_ge (tgt := 45) dX11_over_38 (by decide) r1046 r1051 (fun c1053 => ?_) (fun c1053 => ?_)
      ·
        refine GO.iconst dX11_over_45 ?_
        refine GO.istore_n (ls1 := [some (.ref x), some (ti i1), some (ti i2), some (ti 0)]) dX11_over_46 rfl rfl rfl ?_
        refine GO.iload_n dX11_over_47 rfl rfl ?_
        refine GO.if_eq (tgt := 61) dX11_over_48 (by decide) (ir_c rfl) (fun c1054 => ?_) (fun h => by exfalso; omega)
        refine GO.iinc (X := i2) (n := 1) (Y := i2 + 1) (ls1 := [some (.ref x), some (ti i1), some (ti (i2 + 1)), some (ti 0)]) dX11_over_61 rfl rfl rfl rfl ?_
        refine GO.goto (tgt := 4) dX11_over_64 (by decide) ?_
        refine GO.drop [true, true, true, false] rfl ?_
        have q1055 : -2147483648 ≤ vi Wi1 (vq Wi1 x 14) 3 ∧ vi Wi1 (vq Wi1 x 14) 3 ≤ 2147483647 := vi_ir
        exact ih1014 i1 (i2 + 1) Wi1 ⟨by omega, by omega, by omega, by omega, trivial⟩ (by show (2147483647 - (i2 + 1)).toNat < (2147483647 - i2).toNat; omega)
      ·
        exact hj1032 

set_option maxHeartbeats 1000000 in
theorem t_X11_isDoubtful {K : Kmap} {V : Vmap} {x : Nat} {p0 : Int} {p1 : Int} (h_x : K x = some (0, 10)) (r_p0 : ir p0) (r_p1 : ir p1) : MC mX11_isDoubtful K V [.ref x, ti p0, ti p1] (IP K V (fun X => (X = 0 ∨ X = 1) ∧ (X ≠ 0 → True) ∧ (X = 0 → True))) := by
  refine MC.start 3 (by decide +kernel) rfl rfl rfl (ls0 := [some (.ref x), some (ti p0), some (ti p1), none, none, none]) rfl ?_
  refine GO.aload_n dX11_isDoubtful_0 rfl rfl ?_
  refine GO.getR h_x fl_RX11_82 rfl rfl dX11_isDoubtful_1 (fun hv2 h1 => ?_)
  refine GO.iload_n dX11_isDoubtful_4 rfl rfl ?_
  refine GO.iconst dX11_isDoubtful_5 ?_
  refine GO.callV (ci := 7) (N := mX8_get) dX11_isDoubtful_6 (RX8, TX8, 4) rfl gV_RX11_209 h1 (t_X8_get h1 r_p0 (ir_c rfl)) rfl [] rfl rfl (Nat.le_of_ble_eq_true rfl) rfl (k_ip fun X3 r4 h5 => ?_)
  refine GO.istore_n (ls1 := [some (.ref x), some (ti p0), some (ti p1), some (ti X3), none, none]) dX11_isDoubtful_9 rfl rfl rfl ?_
  refine GO.aload_n dX11_isDoubtful_10 rfl rfl ?_
  refine GO.getRaw h_x fl_RX11_82 hv2 dX11_isDoubtful_11 ?_
  refine GO.iload_n dX11_isDoubtful_14 rfl rfl ?_
  refine GO.iconst dX11_isDoubtful_15 ?_
  refine GO.callV (ci := 7) (N := mX8_get) dX11_isDoubtful_16 (RX8, TX8, 4) rfl gV_RX11_209 h1 (t_X8_get h1 r_p1 (ir_c rfl)) rfl [] rfl rfl (Nat.le_of_ble_eq_true rfl) rfl (k_ip fun X8 r9 h10 => ?_)
  refine GO.istore (ls1 := [some (.ref x), some (ti p0), some (ti p1), some (ti X3), some (ti X8), none]) dX11_isDoubtful_19 rfl rfl ?_
  refine GO.aload_n dX11_isDoubtful_21 rfl rfl ?_
  refine GO.getRaw h_x fl_RX11_82 hv2 dX11_isDoubtful_22 ?_
  refine GO.iload_n dX11_isDoubtful_25 rfl rfl ?_
  refine GO.iconst dX11_isDoubtful_26 ?_
  refine GO.callV (ci := 7) (N := mX8_get) dX11_isDoubtful_27 (RX8, TX8, 4) rfl gV_RX11_209 h1 (t_X8_get h1 r_p0 (ir_c rfl)) rfl [] rfl rfl (Nat.le_of_ble_eq_true rfl) rfl (k_ip fun X13 r14 h15 => ?_)
  refine GO.aload_n dX11_isDoubtful_30 rfl rfl ?_
  refine GO.getRaw h_x fl_RX11_82 hv2 dX11_isDoubtful_31 ?_
  refine GO.iload_n dX11_isDoubtful_34 rfl rfl ?_
  refine GO.iconst dX11_isDoubtful_35 ?_
  refine GO.callV (ci := 7) (N := mX8_get) dX11_isDoubtful_36 (RX8, TX8, 4) rfl gV_RX11_209 h1 (t_X8_get h1 r_p1 (ir_c rfl)) rfl [ti X13] rfl rfl (Nat.le_of_ble_eq_true rfl) rfl (k_ip fun X18 r19 h20 => ?_)
  refine GO.icmp_ne (tgt := 48) dX11_isDoubtful_39 (by decide) r14 r19 (fun c21 => ?_) (fun c21 => ?_)
  ·
    refine GO.iconst dX11_isDoubtful_48 ?_
    exact GO.retz rfl rfl dX11_isDoubtful_49 (Or.inl rfl) ⟨rfl, rfl, _, rfl, (ir_c rfl), ⟨Or.inl rfl, fun _ => trivial, fun _ => trivial⟩⟩
  ·
    refine GO.iload_n dX11_isDoubtful_42 rfl rfl ?_
    refine GO.iload dX11_isDoubtful_43 rfl ?_
    refine GO.icmp_ne (tgt := 50) dX11_isDoubtful_45 (by decide) r4 r9 (fun c22 => ?_) (fun c22 => ?_)
    ·
      refine GO.aload_n dX11_isDoubtful_50 rfl rfl ?_
      refine GO.getRaw h_x fl_RX11_82 hv2 dX11_isDoubtful_51 ?_
      refine GO.iload_n dX11_isDoubtful_54 rfl rfl ?_
      refine GO.iconst dX11_isDoubtful_55 ?_
      refine GO.callV (ci := 7) (N := mX8_get) dX11_isDoubtful_56 (RX8, TX8, 4) rfl gV_RX11_209 h1 (t_X8_get h1 r_p0 (ir_c rfl)) rfl [] rfl rfl (Nat.le_of_ble_eq_true rfl) rfl (k_ip fun X25 r26 h27 => ?_)
      refine GO.aload_n dX11_isDoubtful_59 rfl rfl ?_
      refine GO.getRaw h_x fl_RX11_82 hv2 dX11_isDoubtful_60 ?_
      refine GO.iload_n dX11_isDoubtful_63 rfl rfl ?_
      refine GO.iconst dX11_isDoubtful_64 ?_
      refine GO.callV (ci := 7) (N := mX8_get) dX11_isDoubtful_65 (RX8, TX8, 4) rfl gV_RX11_209 h1 (t_X8_get h1 r_p1 (ir_c rfl)) rfl [ti X25] rfl rfl (Nat.le_of_ble_eq_true rfl) rfl (k_ip fun X30 r31 h32 => ?_)
      refine GO.isub dX11_isDoubtful_68 ?_
      refine GO.norm (fun z33 r34 _ => ?_)
      refine GO.callS (N := mJ9_abs_0f7a4) dX11_isDoubtful_69 gS_RX11_572 (t_J9_abs_0f7a4 r34) rfl [] rfl rfl (Nat.le_of_ble_eq_true rfl) rfl (k_ip fun X35 r36 h37 => ?_)
      refine GO.istore (ls1 := [some (.ref x), some (ti p0), some (ti p1), some (ti X3), some (ti X8), some (ti X35)]) dX11_isDoubtful_72 rfl rfl ?_
      refine GO.iload dX11_isDoubtful_74 rfl ?_
      refine GO.aload_n dX11_isDoubtful_76 rfl rfl ?_
      refine GO.getR h_x fl_RX11_12 rfl rfl dX11_isDoubtful_77 (fun hv39 h38 => ?_)
      refine GO.getB h38 fl_RX11_400 rfl rfl dX11_isDoubtful_80 (fun n42 hv41 h40 b43 => ?_)
      refine GO.iload_n dX11_isDoubtful_83 rfl rfl ?_
      refine GO.callS (N := mX4_get) dX11_isDoubtful_84 gS_RX11_253 (t_X4_get rfl h40 r4) rfl [ti X35] rfl rfl (Nat.le_of_ble_eq_true rfl) rfl (k_ip fun X44 r45 h46 => ?_)
      refine GO.aload_n dX11_isDoubtful_87 rfl rfl ?_
      refine GO.getRaw h_x fl_RX11_12 hv39 dX11_isDoubtful_88 ?_
      refine GO.getRaw h38 fl_RX11_400 hv41 dX11_isDoubtful_91 ?_
      refine GO.iload dX11_isDoubtful_94 rfl ?_
      refine GO.callS (N := mX4_get) dX11_isDoubtful_96 gS_RX11_253 (t_X4_get rfl h40 r9) rfl [ti X44, ti X35] rfl rfl (Nat.le_of_ble_eq_true rfl) rfl (k_ip fun X51 r52 h53 => ?_)
      refine GO.iadd dX11_isDoubtful_99 ?_
      refine GO.norm (fun z54 r55 _ => ?_)
      refine GO.iconst dX11_isDoubtful_100 ?_
      refine GO.idiv dX11_isDoubtful_101 (ir_c rfl) (by omega) ?_
      refine GO.icmp_ge (tgt := 109) dX11_isDoubtful_102 (by decide) r36 wdiv_ir (fun c56 => ?_) (fun c56 => ?_)
      ·
        refine GO.iconst dX11_isDoubtful_109 ?_
        exact GO.retz rfl rfl dX11_isDoubtful_110 (Or.inl rfl) ⟨rfl, rfl, _, rfl, (ir_c rfl), ⟨Or.inl rfl, fun _ => trivial, fun _ => trivial⟩⟩
      ·
        refine GO.iconst dX11_isDoubtful_105 ?_
        refine GO.goto (tgt := 110) dX11_isDoubtful_106 (by decide) ?_
        exact GO.retz rfl rfl dX11_isDoubtful_110 (Or.inr rfl) ⟨rfl, rfl, _, rfl, (ir_c rfl), ⟨Or.inr rfl, fun _ => trivial, fun _ => trivial⟩⟩
    ·
      refine GO.iconst dX11_isDoubtful_48 ?_
      exact GO.retz rfl rfl dX11_isDoubtful_49 (Or.inl rfl) ⟨rfl, rfl, _, rfl, (ir_c rfl), ⟨Or.inl rfl, fun _ => trivial, fun _ => trivial⟩⟩

set_option maxHeartbeats 1000000 in
theorem t_X11_doubt {K : Kmap} {V : Vmap} {x : Nat} {p0 : Int} (h_x : K x = some (0, 10)) (r_p0 : ir p0) : MC mX11_doubt K V [.ref x, ti p0] (IP K V (fun X => True)) := by
  refine MC.start 2 (by decide +kernel) rfl rfl rfl (ls0 := [some (.ref x), some (ti p0), none, none]) rfl ?_
  refine GO.iload_n dX11_doubt_0 rfl rfl ?_
  refine GO.iconst dX11_doubt_1 ?_
  refine GO.iconst dX11_doubt_2 ?_
  refine GO.callS (N := mX11_between) dX11_doubt_3 gS_RX11_112 (t_X11_between r_p0 (ir_c rfl) (ir_c rfl)) rfl [] rfl rfl (Nat.le_of_ble_eq_true rfl) rfl (k_ip fun X1 r2 h3 => ?_)
  refine GO.if_ne (tgt := 11) dX11_doubt_6 (by decide) r2 (fun c4 => ?_) (fun c4 => ?_)
  ·
    have q5 := h3.2.1 (by omega)
    refine GO.iconst dX11_doubt_11 ?_
    refine GO.istore_n (ls1 := [some (.ref x), some (ti p0), some (ti 0), none]) dX11_doubt_12 rfl rfl rfl ?_
    refine GO.loop1 (fun i6 W => 0 ≤ i6 ∧ i6 ≤ 2147483647 ∧ V = W) (fun i6 => [some (.ref x), some (ti p0), some (ti i6), none]) (fun i6 W => (2147483647 - i6).toNat) 0 ⟨by omega, by omega, rfl⟩ rfl (fun i6 V5354 hp5356 ih5355 => ?_)
    obtain ⟨l_i6, u_i6, rfl⟩ := hp5356
    have r_i6 : ir i6 := ⟨by omega, by omega⟩
    show GO mX11_doubt K V (IP K V (fun X => True)) K V 0 0 13 [some (.ref x), some (ti p0), some (ti i6), none] []
    refine GO.iload_n dX11_doubt_13 rfl rfl ?_
    refine GO.aload_n dX11_doubt_14 rfl rfl ?_
    refine GO.getR h_x fl_RX11_82 rfl rfl dX11_doubt_15 (fun hv5358 h5357 => ?_)
    refine GO.getI h5357 fl_RX11_199 rfl rfl dX11_doubt_18 (fun _ _ => ?_)
    refine GO.icmp_ge (tgt := 70) dX11_doubt_21 (by decide) r_i6 vi_ir (fun c5359 => ?_) (fun c5359 => ?_)
    ·
      refine GO.iconst dX11_doubt_70 ?_
      exact GO.reti rfl rfl dX11_doubt_71 ⟨rfl, rfl, _, rfl, (ir_c rfl), trivial⟩
    ·
      refine GO.iload_n dX11_doubt_24 rfl rfl ?_
      refine GO.iconst dX11_doubt_25 ?_
      refine GO.iadd dX11_doubt_26 ?_
      refine GO.name (fun z5360 hz5361 => ?_)
      refine GO.istore_n (ls1 := [some (.ref x), some (ti p0), some (ti i6), some (ti z5360)]) dX11_doubt_27 rfl rfl rfl ?_
      have q5374 : -2147483648 ≤ vi V (vq V x 14) 3 ∧ vi V (vq V x 14) 3 ≤ 2147483647 := vi_ir
      refine GO.loop1 (fun i5362 W => 1 ≤ i5362 ∧ i5362 ≤ 2147483647 ∧ V = W) (fun i5362 => [some (.ref x), some (ti p0), some (ti i6), some (ti i5362)]) (fun i5362 W => (2147483647 - i5362).toNat) z5360 ⟨by omega, by omega, rfl⟩ rfl (fun i5362 V5373 hp5376 ih5375 => ?_)
      obtain ⟨l_i5362, u_i5362, rfl⟩ := hp5376
      have r_i5362 : ir i5362 := ⟨by omega, by omega⟩
      show GO mX11_doubt K V (IP K V (fun X => True)) K V 0 0 28 [some (.ref x), some (ti p0), some (ti i6), some (ti i5362)] []
      refine GO.iload_n dX11_doubt_28 rfl rfl ?_
      refine GO.aload_n dX11_doubt_29 rfl rfl ?_
      refine GO.getRaw h_x fl_RX11_82 hv5358 dX11_doubt_30 ?_
      refine GO.getI h5357 fl_RX11_199 rfl rfl dX11_doubt_33 (fun _ _ => ?_)
      refine GO.icmp_ge (tgt := 64) dX11_doubt_36 (by decide) r_i5362 vi_ir (fun c5379 => ?_) (fun c5379 => ?_)
      ·
        refine GO.iinc (X := i6) (n := 1) (Y := i6 + 1) (ls1 := [some (.ref x), some (ti p0), some (ti (i6 + 1)), some (ti i5362)]) dX11_doubt_64 rfl rfl rfl rfl ?_
        refine GO.goto (tgt := 13) dX11_doubt_67 (by decide) ?_
        refine GO.drop [true, true, true, false] rfl ?_
        have q5380 : -2147483648 ≤ vi V (vq V x 14) 3 ∧ vi V (vq V x 14) 3 ≤ 2147483647 := vi_ir
        exact ih5355 (i6 + 1) V ⟨by omega, by omega, rfl⟩ (by show (2147483647 - (i6 + 1)).toNat < (2147483647 - i6).toNat; omega)
      ·
        refine GO.aload_n dX11_doubt_39 rfl rfl ?_
        refine GO.iload_n dX11_doubt_40 rfl rfl ?_
        refine GO.iload_n dX11_doubt_41 rfl rfl ?_
        refine GO.callV (ci := 10) (N := mX11_isDoubtful) dX11_doubt_42 (RX11, TX11, 20) rfl gV_RX11_569 h_x (t_X11_isDoubtful h_x r_i6 r_i5362) rfl [] rfl rfl (Nat.le_of_ble_eq_true rfl) rfl (k_ip fun X5381 r5382 h5383 => ?_)
        refine GO.if_eq (tgt := 58) dX11_doubt_45 (by decide) r5382 (fun c5384 => ?_) (fun c5384 => ?_)
        ·
          refine GO.iinc (X := i5362) (n := 1) (Y := i5362 + 1) (ls1 := [some (.ref x), some (ti p0), some (ti i6), some (ti (i5362 + 1))]) dX11_doubt_58 rfl rfl rfl rfl ?_
          refine GO.goto (tgt := 28) dX11_doubt_61 (by decide) ?_
          have q5385 : -2147483648 ≤ vi V (vq V x 14) 3 ∧ vi V (vq V x 14) 3 ≤ 2147483647 := vi_ir
          exact ih5375 (i5362 + 1) V ⟨by omega, by omega, rfl⟩ (by show (2147483647 - (i5362 + 1)).toNat < (2147483647 - i5362).toNat; omega)
        ·
          refine GO.iload_n dX11_doubt_48 rfl rfl ?_
          refine GO.if_ne (tgt := 56) dX11_doubt_49 (by decide) r_p0 (fun c5386 => ?_) (fun c5386 => ?_)
          ·
            refine GO.iload_n dX11_doubt_56 rfl rfl ?_
            have q5387 : -2147483648 ≤ vi V (vq V x 14) 3 ∧ vi V (vq V x 14) 3 ≤ 2147483647 := vi_ir
            exact GO.reti rfl rfl dX11_doubt_57 ⟨rfl, rfl, _, rfl, r_i5362, trivial⟩
          ·
            refine GO.iload_n dX11_doubt_52 rfl rfl ?_
            refine GO.goto (tgt := 57) dX11_doubt_53 (by decide) ?_
            have q5388 : -2147483648 ≤ vi V (vq V x 14) 3 ∧ vi V (vq V x 14) 3 ≤ 2147483647 := vi_ir
            exact GO.reti rfl rfl dX11_doubt_57 ⟨rfl, rfl, _, rfl, r_i6, trivial⟩
  ·
    have q5389 := h3.2.2 (by omega)
    refine GO.iconst dX11_doubt_9 ?_
    exact GO.reti rfl rfl dX11_doubt_10 ⟨rfl, rfl, _, rfl, (ir_c rfl), trivial⟩

set_option maxHeartbeats 1000000 in
theorem t_X11_word {K : Kmap} {V : Vmap} {x : Nat} {p0 : Int} (h_x : K x = some (0, 10)) (r_p0 : ir p0) : MC mX11_word K V [.ref x, ti p0] (IS K (fun X V1 => True)) := by
  refine MC.start 0 (by decide +kernel) rfl rfl rfl (ls0 := [some (.ref x), some (ti p0)]) rfl ?_
  refine GO.iload_n dX11_word_0 rfl rfl ?_
  refine GO.iconst dX11_word_1 ?_
  refine GO.sipush dX11_word_2 rfl ?_
  refine GO.callS (N := mX11_between) dX11_word_5 gS_RX11_112 (t_X11_between r_p0 (ir_c rfl) (ir_c rfl)) rfl [] rfl rfl (Nat.le_of_ble_eq_true rfl) rfl (k_ip fun X1 r2 h3 => ?_)
  refine GO.if_eq (tgt := 26) dX11_word_8 (by decide) r2 (fun c4 => ?_) (fun c4 => ?_)
  ·
    have q5 := h3.2.2 (by omega)
    refine GO.iconst dX11_word_26 ?_
    exact GO.reti rfl rfl dX11_word_27 ⟨rfl, _, rfl, (ir_c rfl), trivial⟩
  ·
    have q6 := h3.2.1 (by omega)
    refine GO.aload_n dX11_word_11 rfl rfl ?_
    refine GO.getR h_x fl_RX11_88 rfl rfl dX11_word_12 (fun hv8 h7 => ?_)
    refine GO.iload_n dX11_word_15 rfl rfl ?_
    refine GO.iconst dX11_word_16 ?_
    refine GO.iconst dX11_word_17 ?_
    refine GO.iconst dX11_word_18 ?_
    refine GO.iconst dX11_word_19 ?_
    refine GO.callV (ci := 7) (N := mX8_append) dX11_word_20 (RX8, TX8, 4) rfl gV_RX11_205 h7 (t_X8_append h7 r_p0 (ir_c rfl) (ir_c rfl) (ir_c rfl) (ir_c rfl)) rfl [] rfl rfl (Nat.le_of_ble_eq_true rfl) rfl (k_is fun X9 V13 r10 h11 hF12 => ?_)
    refine GO.goto (tgt := 27) dX11_word_23 (by decide) ?_
    have q14 : -2147483648 ≤ X9 ∧ X9 ≤ 2147483647 := r10
    exact GO.reti rfl rfl dX11_word_27 ⟨rfl, _, rfl, r10, trivial⟩

set_option maxHeartbeats 1000000 in
theorem t_X11_asks {K : Kmap} {V : Vmap} {x : Nat} {p0 : Int} {p1 : Int} {p2 : Int} (h_x : K x = some (0, 10)) (r_p0 : ir p0) (r_p1 : ir p1) (r_p2 : ir p2) : MC mX11_asks K V [.ref x, ti p0, ti p1, ti p2] (IS K (fun X V1 => (X = 0 ∨ X = 1) ∧ (X ≠ 0 → True) ∧ (X = 0 → True))) := by
  refine MC.start 3 (by decide +kernel) rfl rfl rfl (ls0 := [some (.ref x), some (ti p0), some (ti p1), some (ti p2), none, none, none]) rfl ?_
  refine GO.aload_n dX11_asks_0 rfl rfl ?_
  refine GO.iload_n dX11_asks_1 rfl rfl ?_
  refine GO.callV (ci := 10) (N := mX11_partyOf) dX11_asks_2 (RX11, TX11, 20) rfl gV_RX11_151 h_x (t_X11_partyOf h_x r_p0) rfl [] rfl rfl (Nat.le_of_ble_eq_true rfl) rfl (k_rp (fun h3 => ?_) (fun o1 h2 h3 => ?_))
  ·
    refine GO.astoreN (ls1 := [some (.ref x), some (ti p0), some (ti p1), some (ti p2), some (.null), none, none]) dX11_asks_5 rfl rfl ?_
    refine GO.aloadN dX11_asks_7 rfl ?_
    refine GO.ifnullN (tgt := 44) dX11_asks_9 (by decide) ?_
    refine GO.iconst dX11_asks_44 ?_
    exact GO.retz rfl rfl dX11_asks_45 (Or.inl rfl) ⟨rfl, _, rfl, (ir_c rfl), ⟨Or.inl rfl, fun _ => trivial, fun _ => trivial⟩⟩
  ·
    refine GO.astore (ls1 := [some (.ref x), some (ti p0), some (ti p1), some (ti p2), some (.ref o1), none, none]) dX11_asks_5 rfl rfl ?_
    refine GO.aload dX11_asks_7 rfl ?_
    refine GO.ifnull dX11_asks_9 ?_
    refine GO.aload_n dX11_asks_12 rfl rfl ?_
    refine GO.getR h_x fl_RX11_88 rfl rfl dX11_asks_13 (fun hv5 h4 => ?_)
    refine GO.iload_n dX11_asks_16 rfl rfl ?_
    refine GO.callV (ci := 7) (N := mX8_has) dX11_asks_17 (RX8, TX8, 4) rfl gV_RX11_431 h4 (t_X8_has h4 r_p1) rfl [] rfl rfl (Nat.le_of_ble_eq_true rfl) rfl (k_ip fun X6 r7 h8 => ?_)
    refine GO.if_eq (tgt := 44) dX11_asks_20 (by decide) r7 (fun c9 => ?_) (fun c9 => ?_)
    ·
      refine GO.iconst dX11_asks_44 ?_
      exact GO.retz rfl rfl dX11_asks_45 (Or.inl rfl) ⟨rfl, _, rfl, (ir_c rfl), ⟨Or.inl rfl, fun _ => trivial, fun _ => trivial⟩⟩
    ·
      refine GO.iload_n dX11_asks_23 rfl rfl ?_
      refine GO.iload_n dX11_asks_24 rfl rfl ?_
      refine GO.icmp_eq (tgt := 44) dX11_asks_25 (by decide) r_p2 r_p1 (fun c10 => ?_) (fun c10 => ?_)
      ·
        refine GO.iconst dX11_asks_44 ?_
        exact GO.retz rfl rfl dX11_asks_45 (Or.inl rfl) ⟨rfl, _, rfl, (ir_c rfl), ⟨Or.inl rfl, fun _ => trivial, fun _ => trivial⟩⟩
      ·
        refine GO.iload_n dX11_asks_28 rfl rfl ?_
        refine GO.iconst dX11_asks_29 ?_
        have hj18 : GO mX11_asks K V (IS K (fun X V1 => (X = 0 ∨ X = 1) ∧ (X ≠ 0 → True) ∧ (X = 0 → True))) K V 0 0 46 [some (.ref x), some (ti p0), some (ti p1), some (ti p2), some (.ref o1), none, none] [] := by
          skip
          refine GO.iconst dX11_asks_46 ?_
          refine GO.iload_n dX11_asks_47 rfl rfl ?_
          refine GO.ishl dX11_asks_48 ?_
          refine GO.name (fun z19 hz20 => ?_)
          have r21 : ir z19 := hz20 ▸ wshl_ir
          refine GO.istore (ls1 := [some (.ref x), some (ti p0), some (ti p1), some (ti p2), some (.ref o1), some (ti z19), none]) dX11_asks_49 rfl rfl ?_
          refine GO.iload_n dX11_asks_51 rfl rfl ?_
          refine GO.iconst dX11_asks_52 ?_
          refine GO.icmp_ne (tgt := 89) dX11_asks_53 (by decide) r_p2 (ir_c rfl) (fun c22 => ?_) (fun c22 => ?_)
          ·
            refine GO.aload dX11_asks_89 rfl ?_
            refine GO.getB h2 fl_RX11_578 rfl rfl dX11_asks_91 (fun n25 hv24 h23 b26 => ?_)
            refine GO.iload_n dX11_asks_94 rfl rfl ?_
            refine GO.callS (N := mX4_get) dX11_asks_95 gS_RX11_253 (t_X4_get rfl h23 r_p2) rfl [] rfl rfl (Nat.le_of_ble_eq_true rfl) rfl (k_ip fun X27 r28 h29 => ?_)
            refine GO.istore (ls1 := [some (.ref x), some (ti p0), some (ti p1), some (ti p2), some (.ref o1), some (ti z19), some (ti X27)]) dX11_asks_98 rfl rfl ?_
            refine GO.aload dX11_asks_100 rfl ?_
            refine GO.getRaw h2 fl_RX11_578 hv24 dX11_asks_102 ?_
            refine GO.iload_n dX11_asks_105 rfl rfl ?_
            refine GO.iload dX11_asks_106 rfl ?_
            refine GO.iload dX11_asks_108 rfl ?_
            refine GO.ior dX11_asks_110 ?_
            refine GO.callS (N := mX4_put) dX11_asks_111 gS_RX11_108 (t_X4_put h23 r_p2 wor_ir) rfl [] rfl rfl (Nat.le_of_ble_eq_true rfl) rfl (k_vs fun V34 h33 hF32 => ?_)
            refine GO.iload dX11_asks_114 rfl ?_
            refine GO.iload dX11_asks_116 rfl ?_
            refine GO.iand dX11_asks_118 ?_
            refine GO.if_ne (tgt := 126) dX11_asks_119 (by decide) wand_ir (fun c35 => ?_) (fun c35 => ?_)
            ·
              refine GO.iconst dX11_asks_126 ?_
              exact GO.retz rfl rfl dX11_asks_127 (Or.inl rfl) ⟨rfl, _, rfl, (ir_c rfl), ⟨Or.inl rfl, fun _ => trivial, fun _ => trivial⟩⟩
            ·
              refine GO.iconst dX11_asks_122 ?_
              refine GO.goto (tgt := 127) dX11_asks_123 (by decide) ?_
              exact GO.retz rfl rfl dX11_asks_127 (Or.inr rfl) ⟨rfl, _, rfl, (ir_c rfl), ⟨Or.inr rfl, fun _ => trivial, fun _ => trivial⟩⟩
          ·
            refine GO.aload dX11_asks_56 rfl ?_
            refine GO.getI h2 fl_RX11_575 rfl rfl dX11_asks_58 (fun _ _ => ?_)
            refine GO.iload dX11_asks_61 rfl ?_
            refine GO.iand dX11_asks_63 ?_
            refine GO.if_ne (tgt := 71) dX11_asks_64 (by decide) wand_ir (fun c36 => ?_) (fun c36 => ?_)
            ·
              refine GO.iconst dX11_asks_71 ?_
              refine GO.istore (ls1 := [some (.ref x), some (ti p0), some (ti p1), some (ti p2), some (.ref o1), some (ti z19), some (ti 0)]) dX11_asks_72 rfl rfl ?_
              refine GO.aload dX11_asks_74 rfl ?_
              refine GO.dup dX11_asks_76 rfl ?_
              refine GO.getI h2 fl_RX11_575 rfl rfl dX11_asks_77 (fun _ _ => ?_)
              refine GO.iload dX11_asks_80 rfl ?_
              refine GO.ior dX11_asks_82 ?_
              refine GO.putI h2 fp_RX11_575 rfl (by decide +kernel) wor_ir (wor_ir).1 (wor_ir).2 dX11_asks_83 (fun V38 e37 => ?_)
              refine GO.iload dX11_asks_86 rfl ?_
              exact GO.retz rfl rfl dX11_asks_88 (Or.inl rfl) ⟨rfl, _, rfl, (ir_c rfl), ⟨Or.inl rfl, fun _ => trivial, fun _ => trivial⟩⟩
            ·
              refine GO.iconst dX11_asks_67 ?_
              refine GO.goto (tgt := 72) dX11_asks_68 (by decide) ?_
              refine GO.istore (ls1 := [some (.ref x), some (ti p0), some (ti p1), some (ti p2), some (.ref o1), some (ti z19), some (ti 1)]) dX11_asks_72 rfl rfl ?_
              refine GO.aload dX11_asks_74 rfl ?_
              refine GO.dup dX11_asks_76 rfl ?_
              refine GO.getI h2 fl_RX11_575 rfl rfl dX11_asks_77 (fun _ _ => ?_)
              refine GO.iload dX11_asks_80 rfl ?_
              refine GO.ior dX11_asks_82 ?_
              refine GO.putI h2 fp_RX11_575 rfl (by decide +kernel) wor_ir (wor_ir).1 (wor_ir).2 dX11_asks_83 (fun V40 e39 => ?_)
              refine GO.iload dX11_asks_86 rfl ?_
              exact GO.retz rfl rfl dX11_asks_88 (Or.inr rfl) ⟨rfl, _, rfl, (ir_c rfl), ⟨Or.inr rfl, fun _ => trivial, fun _ => trivial⟩⟩
        refine GO.icmp_eq (tgt := 46) dX11_asks_30 (by decide) r_p2 (ir_c rfl) (fun c41 => ?_) (fun c41 => ?_)
        ·
          exact hj18 
        ·
          refine GO.aload_n dX11_asks_33 rfl rfl ?_
          refine GO.getRaw h_x fl_RX11_88 hv5 dX11_asks_34 ?_
          refine GO.iload_n dX11_asks_37 rfl rfl ?_
          refine GO.callV (ci := 7) (N := mX8_has) dX11_asks_38 (RX8, TX8, 4) rfl gV_RX11_431 h4 (t_X8_has h4 r_p2) rfl [] rfl rfl (Nat.le_of_ble_eq_true rfl) rfl (k_ip fun X44 r45 h46 => ?_)
          refine GO.if_ne (tgt := 46) dX11_asks_41 (by decide) r45 (fun c47 => ?_) (fun c47 => ?_)
          ·
            exact hj18 
          ·
            refine GO.iconst dX11_asks_44 ?_
            exact GO.retz rfl rfl dX11_asks_45 (Or.inl rfl) ⟨rfl, _, rfl, (ir_c rfl), ⟨Or.inl rfl, fun _ => trivial, fun _ => trivial⟩⟩

set_option maxHeartbeats 1000000 in
theorem t_X11_blockers {K : Kmap} {V : Vmap} {x : Nat} {p0 : Int} (h_x : K x = some (0, 10)) (r_p0 : ir p0) : MC mX11_blockers K V [.ref x, ti p0] (IP K V (fun X => True)) := by
  refine MC.start 3 (by decide +kernel) rfl rfl rfl (ls0 := [some (.ref x), some (ti p0), none, none, none]) rfl ?_
  refine GO.iconst dX11_blockers_0 ?_
  refine GO.istore_n (ls1 := [some (.ref x), some (ti p0), some (ti 0), none, none]) dX11_blockers_1 rfl rfl rfl ?_
  refine GO.iconst dX11_blockers_2 ?_
  refine GO.istore_n (ls1 := [some (.ref x), some (ti p0), some (ti 0), some (ti 0), none]) dX11_blockers_3 rfl rfl rfl ?_
  refine GO.loop2 (fun i1 i2 W => (-2147483648) ≤ i1 ∧ i1 ≤ 2147483647 ∧ 0 ≤ i2 ∧ i2 ≤ 9 ∧ V = W) (fun i1 i2 => [some (.ref x), some (ti p0), some (ti i1), some (ti i2), none]) (fun i1 i2 W => (2147483647 - i2).toNat) 0 0 ⟨by omega, by omega, by omega, by omega, rfl⟩ rfl (fun i1 i2 V367 hp369 ih368 => ?_)
  obtain ⟨l_i1, u_i1, l_i2, u_i2, rfl⟩ := hp369
  have r_i1 : ir i1 := ⟨by omega, by omega⟩
  have r_i2 : ir i2 := ⟨by omega, by omega⟩
  show GO mX11_blockers K V (IP K V (fun X => True)) K V 0 0 4 [some (.ref x), some (ti p0), some (ti i1), some (ti i2), none] []
  refine GO.iload_n dX11_blockers_4 rfl rfl ?_
  refine GO.aload_n dX11_blockers_5 rfl rfl ?_
  refine GO.getI h_x fl_RX11_36 rfl rfl dX11_blockers_6 (fun l370 u371 => ?_)
  refine GO.icmp_ge (tgt := 45) dX11_blockers_9 (by decide) r_i2 vi_ir (fun c372 => ?_) (fun c372 => ?_)
  ·
    refine GO.iload_n dX11_blockers_45 rfl rfl ?_
    exact GO.reti rfl rfl dX11_blockers_46 ⟨rfl, rfl, _, rfl, r_i1, trivial⟩
  ·
    refine GO.aload_n dX11_blockers_12 rfl rfl ?_
    refine GO.iload_n dX11_blockers_13 rfl rfl ?_
    refine GO.callV (ci := 10) (N := mX11_partyOf) dX11_blockers_14 (RX11, TX11, 20) rfl gV_RX11_151 h_x (t_X11_partyOf h_x r_i2) rfl [] rfl rfl (Nat.le_of_ble_eq_true rfl) rfl (k_rp (fun h375 => ?_) (fun o373 h374 h375 => ?_))
    ·
      refine GO.astoreN (ls1 := [some (.ref x), some (ti p0), some (ti i1), some (ti i2), some (.null)]) dX11_blockers_17 rfl rfl ?_
      refine GO.aloadN dX11_blockers_19 rfl ?_
      refine GO.ifnullN (tgt := 39) dX11_blockers_21 (by decide) ?_
      refine GO.iinc (X := i2) (n := 1) (Y := i2 + 1) (ls1 := [some (.ref x), some (ti p0), some (ti i1), some (ti (i2 + 1)), some (.null)]) dX11_blockers_39 rfl rfl rfl rfl ?_
      refine GO.goto (tgt := 4) dX11_blockers_42 (by decide) ?_
      refine GO.drop [true, true, true, true, false] rfl ?_
      exact ih368 i1 (i2 + 1) V ⟨by omega, by omega, by omega, by omega, rfl⟩ (by show (2147483647 - (i2 + 1)).toNat < (2147483647 - i2).toNat; omega)
    ·
      refine GO.astore (ls1 := [some (.ref x), some (ti p0), some (ti i1), some (ti i2), some (.ref o373)]) dX11_blockers_17 rfl rfl ?_
      refine GO.aload dX11_blockers_19 rfl ?_
      refine GO.ifnull dX11_blockers_21 ?_
      refine GO.aload dX11_blockers_24 rfl ?_
      refine GO.iload_n dX11_blockers_26 rfl rfl ?_
      refine GO.callV (ci := 2) (N := mX2_blocksWords) dX11_blockers_27 (RX2, TX2, 5) rfl gV_RX11_587 h374 (t_X2_blocksWords h374 r_p0) rfl [] rfl rfl (Nat.le_of_ble_eq_true rfl) rfl (k_ip fun X376 r377 h378 => ?_)
      refine GO.if_eq (tgt := 39) dX11_blockers_30 (by decide) r377 (fun c379 => ?_) (fun c379 => ?_)
      ·
        refine GO.iinc (X := i2) (n := 1) (Y := i2 + 1) (ls1 := [some (.ref x), some (ti p0), some (ti i1), some (ti (i2 + 1)), some (.ref o373)]) dX11_blockers_39 rfl rfl rfl rfl ?_
        refine GO.goto (tgt := 4) dX11_blockers_42 (by decide) ?_
        refine GO.drop [true, true, true, true, false] rfl ?_
        exact ih368 i1 (i2 + 1) V ⟨by omega, by omega, by omega, by omega, rfl⟩ (by show (2147483647 - (i2 + 1)).toNat < (2147483647 - i2).toNat; omega)
      ·
        refine GO.iload_n dX11_blockers_33 rfl rfl ?_
        refine GO.iconst dX11_blockers_34 ?_
        refine GO.iload_n dX11_blockers_35 rfl rfl ?_
        refine GO.ishl dX11_blockers_36 ?_
        refine GO.ior dX11_blockers_37 ?_
        refine GO.name (fun z380 hz381 => ?_)
        have r382 : ir z380 := hz381 ▸ wor_ir
        refine GO.istore_n (ls1 := [some (.ref x), some (ti p0), some (ti z380), some (ti i2), some (.ref o373)]) dX11_blockers_38 rfl rfl rfl ?_
        refine GO.iinc (X := i2) (n := 1) (Y := i2 + 1) (ls1 := [some (.ref x), some (ti p0), some (ti z380), some (ti (i2 + 1)), some (.ref o373)]) dX11_blockers_39 rfl rfl rfl rfl ?_
        refine GO.goto (tgt := 4) dX11_blockers_42 (by decide) ?_
        refine GO.drop [true, true, true, true, false] rfl ?_
        have q383 : -2147483648 ≤ z380 ∧ z380 ≤ 2147483647 := r382
        have q384 : -2147483648 ≤ wor i1 (wshl 1 i2) ∧ wor i1 (wshl 1 i2) ≤ 2147483647 := wor_ir
        exact ih368 z380 (i2 + 1) V ⟨by omega, by omega, by omega, by omega, rfl⟩ (by show (2147483647 - (i2 + 1)).toNat < (2147483647 - i2).toNat; omega)
