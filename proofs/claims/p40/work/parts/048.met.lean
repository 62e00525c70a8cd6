def mX11_decides : MRec := (RX11, cX11_decides, 4, (some .int), yX11_decides, 2, 42, 0, 0, 0)
def mX11_work : MRec := (RX11, cX11_work, 9, (some .int), yX11_work, 2, 37, 1, 15, 1322111937580497197903830616065542079657052199540090654703162523287164522335952992505259938481848179985672078547687726645248)
def mX11_workOf : MRec := (RX11, cX11_workOf, 2, (some (.object "IceTreaty$Work")), yX11_workOf, 0, 0, 0, 0, 0)
def mX11_tell : MRec := (RX11, cX11_tell, 4, (some .boolean), yX11_tell, 1, 21, 0, 0, 29710560942849126597578981376)
def mX11_study : MRec := (RX11, cX11_study, 4, (some .boolean), yX11_study, 1, 22, 0, 0, 118842243771396506390315925504)
def mX11_say : MRec := (RX11, cX11_say, 6, (some .boolean), yX11_say, 1, 21, 0, 0, 475368975085586025561263702016)
def mX11_tellLetters : MRec := (RX11, cX11_tellLetters, 5, (none : Option Jvm.ClassFile.FieldType), yX11_tellLetters, 1, 22, 0, 0, 3794275180128377091639574036764685364535950857523710002444946112771297432041422848)
def mX11_tellNeighbours : MRec := (RX11, cX11_tellNeighbours, 8, (none : Option Jvm.ClassFile.FieldType), yX11_tellNeighbours, 3, 66, 0, 0, 3794275180128377091639574036764685364535950857523710002444946112771297432041422848)
def mX11_decidingOn : MRec := (RX11, cX11_decidingOn, 5, (some .int), yX11_decidingOn, 1, 21, 0, 0, 0)
set_option maxHeartbeats 1000000 in
theorem t_X11_decides {K : Kmap} {V : Vmap} {x : Nat} {p0 : Int} {p1 : Int} (h_x : K x = some (0, 10)) (r_p0 : ir p0) (r_p1 : ir p1) : MC mX11_decides K V [.ref x, ti p0, ti p1] (IP K V (fun X => True)) := by
  refine MC.start 1 (by decide +kernel) rfl rfl rfl (ls0 := [some (.ref x), some (ti p0), some (ti p1), none]) rfl ?_
  refine GO.aload_n dX11_decides_0 rfl rfl ?_
  refine GO.iload_n dX11_decides_1 rfl rfl ?_
  refine GO.callV (ci := 10) (N := mX11_partyOf) dX11_decides_2 (RX11, TX11, 20) rfl gV_RX11_151 h_x (t_X11_partyOf h_x r_p0) rfl [] rfl rfl (Nat.le_of_ble_eq_true rfl) rfl (k_rp (fun h3 => ?_) (fun o1 h2 h3 => ?_))
  ·
    refine GO.astore_nN (ls1 := [some (.ref x), some (ti p0), some (ti p1), some (.null)]) dX11_decides_5 rfl rfl rfl ?_
    refine GO.aload_nN dX11_decides_6 rfl rfl ?_
    refine GO.ifnullN (tgt := 17) dX11_decides_7 (by decide) ?_
    refine GO.iconst dX11_decides_17 ?_
    exact GO.reti rfl rfl dX11_decides_18 ⟨rfl, rfl, _, rfl, (ir_c rfl), trivial⟩
  ·
    refine GO.astore_n (ls1 := [some (.ref x), some (ti p0), some (ti p1), some (.ref o1)]) dX11_decides_5 rfl rfl rfl ?_
    refine GO.aload_n dX11_decides_6 rfl rfl ?_
    refine GO.ifnull dX11_decides_7 ?_
    refine GO.iload_n dX11_decides_10 rfl rfl ?_
    refine GO.callS (N := mX11_isDay) dX11_decides_11 gS_RX11_276 (t_X11_isDay r_p1) rfl [] rfl rfl (Nat.le_of_ble_eq_true rfl) rfl (k_ip fun X4 r5 h6 => ?_)
    refine GO.if_ne (tgt := 19) dX11_decides_14 (by decide) r5 (fun c7 => ?_) (fun c7 => ?_)
    ·
      refine GO.aload_n dX11_decides_19 rfl rfl ?_
      refine GO.iload_n dX11_decides_20 rfl rfl ?_
      refine GO.callV (ci := 2) (N := mX2_decidesOn) dX11_decides_21 (RX2, TX2, 5) rfl gV_RX11_301 h2 (t_X2_decidesOn h2 r_p1) rfl [] rfl rfl (Nat.le_of_ble_eq_true rfl) rfl (k_ip fun X8 r9 h10 => ?_)
      refine GO.if_eq (tgt := 31) dX11_decides_24 (by decide) r9 (fun c11 => ?_) (fun c11 => ?_)
      ·
        refine GO.iconst dX11_decides_31 ?_
        exact GO.reti rfl rfl dX11_decides_32 ⟨rfl, rfl, _, rfl, (ir_c rfl), trivial⟩
      ·
        refine GO.iconst dX11_decides_27 ?_
        refine GO.goto (tgt := 32) dX11_decides_28 (by decide) ?_
        exact GO.reti rfl rfl dX11_decides_32 ⟨rfl, rfl, _, rfl, (ir_c rfl), trivial⟩
    ·
      refine GO.iconst dX11_decides_17 ?_
      exact GO.reti rfl rfl dX11_decides_18 ⟨rfl, rfl, _, rfl, (ir_c rfl), trivial⟩

set_option maxHeartbeats 1000000 in
theorem t_X11_work {K : Kmap} {V : Vmap} {x : Nat} {p0 : Int} {p1 : Int} {p2 : Int} {p3 : Int} {p4 : Int} {p5 : Int} {p6 : Int} (h_x : K x = some (0, 10)) (r_p0 : ir p0) (r_p1 : ir p1) (r_p2 : ir p2) (r_p3 : ir p3) (r_p4 : ir p4) (r_p5 : ir p5) (r_p6 : ir p6) : MC mX11_work K V [.ref x, ti p0, ti p1, ti p2, ti p3, ti p4, ti p5, ti p6] (IX (fun X _ _ => True)) := by
  refine MC.start 1 (by decide +kernel) rfl rfl rfl (ls0 := [some (.ref x), some (ti p0), some (ti p1), some (ti p2), some (ti p3), some (ti p4), some (ti p5), some (ti p6), none]) rfl ?_
  refine GO.iload_n dX11_work_0 rfl rfl ?_
  refine GO.iconst dX11_work_1 ?_
  refine GO.bipush dX11_work_2 rfl ?_
  refine GO.callS (N := mX11_between) dX11_work_4 gS_RX11_112 (t_X11_between r_p0 (ir_c rfl) (ir_c rfl)) rfl [] rfl rfl (Nat.le_of_ble_eq_true rfl) rfl (k_ip fun X1 r2 h3 => ?_)
  refine GO.if_eq (tgt := 41) dX11_work_7 (by decide) r2 (fun c4 => ?_) (fun c4 => ?_)
  ·
    have q5 := h3.2.2 (by omega)
    refine GO.iconst dX11_work_41 ?_
    exact GO.reti rfl rfl dX11_work_42 ⟨_, rfl, (ir_c rfl), trivial⟩
  ·
    have q6 := h3.2.1 (by omega)
    refine GO.aload_n dX11_work_10 rfl rfl ?_
    refine GO.iload_n dX11_work_11 rfl rfl ?_
    refine GO.callV (ci := 10) (N := mX11_partyOf) dX11_work_12 (RX11, TX11, 20) rfl gV_RX11_151 h_x (t_X11_partyOf h_x r_p1) rfl [] rfl rfl (Nat.le_of_ble_eq_true rfl) rfl (k_rp (fun h9 => ?_) (fun o7 h8 h9 => ?_))
    ·
      refine GO.ifnullN (tgt := 41) dX11_work_15 (by decide) ?_
      refine GO.iconst dX11_work_41 ?_
      exact GO.reti rfl rfl dX11_work_42 ⟨_, rfl, (ir_c rfl), trivial⟩
    ·
      refine GO.ifnull dX11_work_15 ?_
      refine GO.aload_n dX11_work_18 rfl rfl ?_
      refine GO.getR h_x fl_RX11_12 rfl rfl dX11_work_19 (fun hv11 h10 => ?_)
      refine GO.iload_n dX11_work_22 rfl rfl ?_
      refine GO.callV (ci := 0) (N := mX0_isCell) dX11_work_23 (RX0, TX0, 13) rfl gV_RX11_119 h10 (t_X0_isCell h10 r_p2) rfl [] rfl rfl (Nat.le_of_ble_eq_true rfl) rfl (k_ip fun X12 r13 h14 => ?_)
      refine GO.if_eq (tgt := 41) dX11_work_26 (by decide) r13 (fun c15 => ?_) (fun c15 => ?_)
      ·
        refine GO.iconst dX11_work_41 ?_
        exact GO.reti rfl rfl dX11_work_42 ⟨_, rfl, (ir_c rfl), trivial⟩
      ·
        refine GO.aload_n dX11_work_29 rfl rfl ?_
        refine GO.getI h_x fl_RX11_55 rfl rfl dX11_work_30 (fun l16 u17 => ?_)
        refine GO.aload_n dX11_work_33 rfl rfl ?_
        refine GO.getA (n := 100) h_x fl_RX11_51 rfl rfl rfl rfl dX11_work_34 (fun hv19 h18 => ?_)
        refine GO.alen h18 dX11_work_37 (fun h20 => ?_)
        refine GO.icmp_lt (tgt := 43) dX11_work_38 (by decide) vi_ir ⟨by omega, by omega⟩ (fun c21 => ?_) (fun c21 => ?_)
        ·
          refine GO.iload dX11_work_43 rfl ?_
          refine GO.iload dX11_work_45 rfl ?_
          refine GO.callS (N := mX11_areDays) dX11_work_47 gS_RX11_213 (t_X11_areDays r_p3 r_p4) rfl [] rfl rfl (Nat.le_of_ble_eq_true rfl) rfl (k_ip fun X22 r23 h24 => ?_)
          refine GO.if_eq (tgt := 88) dX11_work_50 (by decide) r23 (fun c25 => ?_) (fun c25 => ?_)
          ·
            refine GO.iconst dX11_work_88 ?_
            exact GO.reti rfl rfl dX11_work_89 ⟨_, rfl, (ir_c rfl), trivial⟩
          ·
            refine GO.iload dX11_work_53 rfl ?_
            refine GO.aload_n dX11_work_55 rfl rfl ?_
            refine GO.getRaw h_x fl_RX11_12 hv11 dX11_work_56 ?_
            refine GO.getI h10 fl_RX11_145 rfl rfl dX11_work_59 (fun _ _ => ?_)
            refine GO.icmp_lt (tgt := 88) dX11_work_62 (by decide) r_p3 vi_ir (fun c28 => ?_) (fun c28 => ?_)
            ·
              refine GO.iconst dX11_work_88 ?_
              exact GO.reti rfl rfl dX11_work_89 ⟨_, rfl, (ir_c rfl), trivial⟩
            ·
              refine GO.iload dX11_work_65 rfl ?_
              refine GO.iconst dX11_work_67 ?_
              refine GO.sipush dX11_work_68 rfl ?_
              refine GO.callS (N := mX11_between) dX11_work_71 gS_RX11_112 (t_X11_between r_p5 (ir_c rfl) (ir_c rfl)) rfl [] rfl rfl (Nat.le_of_ble_eq_true rfl) rfl (k_ip fun X29 r30 h31 => ?_)
              refine GO.if_eq (tgt := 88) dX11_work_74 (by decide) r30 (fun c32 => ?_) (fun c32 => ?_)
              ·
                have q33 := h31.2.2 (by omega)
                refine GO.iconst dX11_work_88 ?_
                exact GO.reti rfl rfl dX11_work_89 ⟨_, rfl, (ir_c rfl), trivial⟩
              ·
                have q34 := h31.2.1 (by omega)
                refine GO.iload dX11_work_77 rfl ?_
                refine GO.iconst dX11_work_79 ?_
                refine GO.bipush dX11_work_80 rfl ?_
                refine GO.callS (N := mX11_between) dX11_work_82 gS_RX11_112 (t_X11_between r_p6 (ir_c rfl) (ir_c rfl)) rfl [] rfl rfl (Nat.le_of_ble_eq_true rfl) rfl (k_ip fun X35 r36 h37 => ?_)
                refine GO.if_ne (tgt := 90) dX11_work_85 (by decide) r36 (fun c38 => ?_) (fun c38 => ?_)
                ·
                  have q39 := h37.2.1 (by omega)
                  refine GO.new (ci := 21) (RX10, TX10, 15) tyX10 rfl rfl lays_9 tyX10_ok gw_223 gw_875 gw_19 rfl rfl dX11_work_90 (fun o40 K41 V47 hq42 hK43 hE44 h45 _ hV46 => ?_)
                  have h48 := hE44.obj (by decide) h_x
                  refine GO.dup dX11_work_93 rfl ?_
                  refine GO.iload_n dX11_work_94 rfl rfl ?_
                  refine GO.iload_n dX11_work_95 rfl rfl ?_
                  refine GO.iload_n dX11_work_96 rfl rfl ?_
                  refine GO.iload dX11_work_97 rfl ?_
                  refine GO.iload dX11_work_99 rfl ?_
                  refine GO.callI (N := mX10_init) dX11_work_101 gI_RX11_304 rfl (t_X10_init h45 r_p0 r_p1 r_p2 r_p3 r_p4) rfl [.ref o40] rfl rfl (Nat.le_of_ble_eq_true rfl) rfl (k_vx fun K51 V53 h52 hE50 hF49 => ?_)
                  have h54 := hE50.obj (by decide) h48
                  have h55 := h52.1
                  refine GO.astore (ls1 := [some (.ref x), some (ti p0), some (ti p1), some (ti p2), some (ti p3), some (ti p4), some (ti p5), some (ti p6), some (.ref o40)]) dX11_work_104 rfl rfl ?_
                  refine GO.aload dX11_work_106 rfl ?_
                  refine GO.iload dX11_work_108 rfl ?_
                  refine GO.putI h55 fp_RX11_305 rfl (by decide +kernel) r_p5 (r_p5).1 (r_p5).2 dX11_work_110 (fun V57 e56 => ?_)
                  refine GO.aload dX11_work_113 rfl ?_
                  refine GO.iload dX11_work_115 rfl ?_
                  refine GO.putI h55 fp_RX11_306 rfl (by decide +kernel) r_p6 (r_p6).1 (r_p6).2 dX11_work_117 (fun V59 e58 => ?_)
                  refine GO.aload_n dX11_work_120 rfl rfl ?_
                  refine GO.getA (n := 100) h54 fl_RX11_51 rfl rfl rfl rfl dX11_work_121 (fun hv61 h60 => ?_)
                  refine GO.aload_n dX11_work_124 rfl rfl ?_
                  refine GO.getI h54 fl_RX11_55 rfl rfl dX11_work_125 (fun l62 u63 => ?_)
                  have e67 : vi V47 x 8 = vi V x 8 := vi_nw hV46 (K_old h_x hq42)
                  have e66 : vi V53 x 8 = vi V47 x 8 := vi_fr hF49 h48 h54 (by decide +kernel)
                  have e65 : vi V57 x 8 = vi V53 x 8 := vi_up e56 (Or.inl (K_ne h54 h55 (by decide)))
                  have e64 : vi V59 x 8 = vi V57 x 8 := vi_up e58 (Or.inl (K_ne h54 h55 (by decide)))
                  refine GO.aload dX11_work_128 rfl ?_
                  refine GO.aast (t := 6) (by decide) (RX10, TX10, 15) rfl rfl rfl (by decide +kernel) h60 h55 vi_ir (by omega) (by omega) dX11_work_130 (fun V69 e68 => ?_)
                  refine GO.aload_n dX11_work_131 rfl rfl ?_
                  refine GO.dup dX11_work_132 rfl ?_
                  refine GO.getI h54 fl_RX11_55 rfl rfl dX11_work_133 (fun l70 u71 => ?_)
                  have e72 : vi V69 x 8 = vi V59 x 8 := vi_up e68 (Or.inl (K_ne h54 h60 (by decide)))
                  refine GO.dup_x1 dX11_work_136 rfl rfl ?_
                  refine GO.iconst dX11_work_137 ?_
                  refine GO.iadd dX11_work_138 ?_
                  refine GO.putI h54 fp_RX11_55 rfl (by decide +kernel) ⟨by omega, by omega⟩ (by omega) (by omega) dX11_work_139 (fun V74 e73 => ?_)
                  exact GO.reti rfl rfl dX11_work_142 ⟨_, rfl, vi_ir, trivial⟩
                ·
                  have q75 := h37.2.2 (by omega)
                  refine GO.iconst dX11_work_88 ?_
                  exact GO.reti rfl rfl dX11_work_89 ⟨_, rfl, (ir_c rfl), trivial⟩
        ·
          refine GO.iconst dX11_work_41 ?_
          exact GO.reti rfl rfl dX11_work_42 ⟨_, rfl, (ir_c rfl), trivial⟩

set_option maxHeartbeats 1000000 in
theorem t_X11_workOf {K : Kmap} {V : Vmap} {x : Nat} {p0 : Int} (h_x : K x = some (0, 10)) (r_p0 : ir p0) : MC mX11_workOf K V [.ref x, ti p0] (RP K V 9 (True) (fun _ => True)) := by
  refine MC.start 0 (by decide +kernel) rfl rfl rfl (ls0 := [some (.ref x), some (ti p0)]) rfl ?_
  refine GO.iload_n dX11_workOf_0 rfl rfl ?_
  refine GO.if_lt (tgt := 30) dX11_workOf_1 (by decide) r_p0 (fun c1 => ?_) (fun c1 => ?_)
  ·
    refine GO.null dX11_workOf_30 ?_
    exact GO.reta rfl rfl (Or.inl ⟨_, rfl⟩) dX11_workOf_31 (Or.inl rfl) ⟨rfl, rfl, Or.inl ⟨rfl, trivial⟩⟩
  ·
    refine GO.iload_n dX11_workOf_4 rfl rfl ?_
    refine GO.aload_n dX11_workOf_5 rfl rfl ?_
    refine GO.getI h_x fl_RX11_55 rfl rfl dX11_workOf_6 (fun l2 u3 => ?_)
    refine GO.icmp_ge (tgt := 30) dX11_workOf_9 (by decide) r_p0 vi_ir (fun c4 => ?_) (fun c4 => ?_)
    ·
      refine GO.null dX11_workOf_30 ?_
      exact GO.reta rfl rfl (Or.inl ⟨_, rfl⟩) dX11_workOf_31 (Or.inl rfl) ⟨rfl, rfl, Or.inl ⟨rfl, trivial⟩⟩
    ·
      refine GO.iload_n dX11_workOf_12 rfl rfl ?_
      refine GO.aload_n dX11_workOf_13 rfl rfl ?_
      refine GO.getA (n := 100) h_x fl_RX11_51 rfl rfl rfl rfl dX11_workOf_14 (fun hv6 h5 => ?_)
      refine GO.alen h5 dX11_workOf_17 (fun h7 => ?_)
      have q9 : -2147483648 ≤ p0 ∧ p0 ≤ 2147483647 := r_p0
      refine GO.icmp_ge (tgt := 30) dX11_workOf_18 (by decide) r_p0 ⟨by omega, by omega⟩ (fun h => by exfalso; omega) (fun c8 => ?_)
      refine GO.aload_n dX11_workOf_21 rfl rfl ?_
      refine GO.getRaw h_x fl_RX11_51 hv6 dX11_workOf_22 ?_
      refine GO.iload_n dX11_workOf_25 rfl rfl ?_
      refine GO.aald (t := 6) rfl rfl h5 r_p0 (by omega) (by omega) dX11_workOf_26 (fun _ => ?_) (fun _ h12 => ?_)
      ·
        refine GO.goto (tgt := 31) dX11_workOf_27 (by decide) ?_
        exact GO.reta rfl rfl (Or.inl ⟨_, rfl⟩) dX11_workOf_31 (Or.inl rfl) ⟨rfl, rfl, Or.inl ⟨rfl, trivial⟩⟩
      ·
        refine GO.goto (tgt := 31) dX11_workOf_27 (by decide) ?_
        exact GO.reta rfl rfl (Or.inl ⟨_, rfl⟩) dX11_workOf_31 (Or.inr ⟨_, rfl⟩) ⟨rfl, rfl, Or.inr ⟨_, rfl, h12, trivial⟩⟩

set_option maxHeartbeats 1000000 in
theorem t_X11_tell {K : Kmap} {V : Vmap} {x : Nat} {p0 : Int} {p1 : Int} (h_x : K x = some (0, 10)) (r_p0 : ir p0) (r_p1 : ir p1) : MC mX11_tell K V [.ref x, ti p0, ti p1] (IS K (fun X V1 => (X = 0 ∨ X = 1) ∧ (X ≠ 0 → True) ∧ (X = 0 → True))) := by
  refine MC.start 1 (by decide +kernel) rfl rfl rfl (ls0 := [some (.ref x), some (ti p0), some (ti p1), none]) rfl ?_
  refine GO.aload_n dX11_tell_0 rfl rfl ?_
  refine GO.iload_n dX11_tell_1 rfl rfl ?_
  refine GO.callV (ci := 10) (N := mX11_workOf) dX11_tell_2 (RX11, TX11, 20) rfl gV_RX11_309 h_x (t_X11_workOf h_x r_p0) rfl [] rfl rfl (Nat.le_of_ble_eq_true rfl) rfl (k_rp (fun h3 => ?_) (fun o1 h2 h3 => ?_))
  ·
    refine GO.astore_nN (ls1 := [some (.ref x), some (ti p0), some (ti p1), some (.null)]) dX11_tell_5 rfl rfl rfl ?_
    refine GO.aload_nN dX11_tell_6 rfl rfl ?_
    refine GO.ifnonnullN dX11_tell_7 ?_
    refine GO.iconst dX11_tell_10 ?_
    exact GO.retz rfl rfl dX11_tell_11 (Or.inl rfl) ⟨rfl, _, rfl, (ir_c rfl), ⟨Or.inl rfl, fun _ => trivial, fun _ => trivial⟩⟩
  ·
    refine GO.astore_n (ls1 := [some (.ref x), some (ti p0), some (ti p1), some (.ref o1)]) dX11_tell_5 rfl rfl rfl ?_
    refine GO.aload_n dX11_tell_6 rfl rfl ?_
    refine GO.ifnonnull (tgt := 12) dX11_tell_7 (by decide) ?_
    refine GO.iload_n dX11_tell_12 rfl rfl ?_
    have hj10 : GO mX11_tell K V (IS K (fun X V1 => (X = 0 ∨ X = 1) ∧ (X ≠ 0 → True) ∧ (X = 0 → True))) K V 0 0 37 [some (.ref x), some (ti p0), some (ti p1), some (.ref o1)] [] := by
      skip
      refine GO.iload_n dX11_tell_37 rfl rfl ?_
      refine GO.iconst dX11_tell_38 ?_
      refine GO.icmp_ne (tgt := 63) dX11_tell_39 (by decide) r_p1 (ir_c rfl) (fun c11 => ?_) (fun c11 => ?_)
      ·
        refine GO.iconst dX11_tell_63 ?_
        exact GO.retz rfl rfl dX11_tell_64 (Or.inl rfl) ⟨rfl, _, rfl, (ir_c rfl), ⟨Or.inl rfl, fun _ => trivial, fun _ => trivial⟩⟩
      ·
        refine GO.aload_n dX11_tell_42 rfl rfl ?_
        refine GO.getI h2 fl_RX11_316 rfl rfl dX11_tell_43 (fun _ _ => ?_)
        refine GO.iconst dX11_tell_46 ?_
        refine GO.icmp_ne (tgt := 63) dX11_tell_47 (by decide) vi_ir (ir_c rfl) (fun c12 => ?_) (fun c12 => ?_)
        ·
          refine GO.iconst dX11_tell_63 ?_
          exact GO.retz rfl rfl dX11_tell_64 (Or.inl rfl) ⟨rfl, _, rfl, (ir_c rfl), ⟨Or.inl rfl, fun _ => trivial, fun _ => trivial⟩⟩
        ·
          refine GO.aload_n dX11_tell_50 rfl rfl ?_
          refine GO.aload_n dX11_tell_51 rfl rfl ?_
          refine GO.getR h_x fl_RX11_12 rfl rfl dX11_tell_52 (fun hv14 h13 => ?_)
          refine GO.getI h13 fl_RX11_145 rfl rfl dX11_tell_55 (fun _ _ => ?_)
          refine GO.putI h2 fp_RX11_316 rfl (by decide +kernel) vi_ir (vi_ir).1 (vi_ir).2 dX11_tell_58 (fun V16 e15 => ?_)
          refine GO.iconst dX11_tell_61 ?_
          exact GO.retz rfl rfl dX11_tell_62 (Or.inr rfl) ⟨rfl, _, rfl, (ir_c rfl), ⟨Or.inr rfl, fun _ => trivial, fun _ => trivial⟩⟩
    refine GO.if_ne (tgt := 37) dX11_tell_13 (by decide) r_p1 (fun c17 => ?_) (fun c17 => ?_)
    ·
      exact hj10 
    ·
      refine GO.aload_n dX11_tell_16 rfl rfl ?_
      refine GO.getI h2 fl_RX11_313 rfl rfl dX11_tell_17 (fun _ _ => ?_)
      refine GO.iconst dX11_tell_20 ?_
      refine GO.icmp_ne (tgt := 37) dX11_tell_21 (by decide) vi_ir (ir_c rfl) (fun c18 => ?_) (fun c18 => ?_)
      ·
        exact hj10 
      ·
        refine GO.aload_n dX11_tell_24 rfl rfl ?_
        refine GO.aload_n dX11_tell_25 rfl rfl ?_
        refine GO.getR h_x fl_RX11_12 rfl rfl dX11_tell_26 (fun hv20 h19 => ?_)
        refine GO.getI h19 fl_RX11_145 rfl rfl dX11_tell_29 (fun _ _ => ?_)
        refine GO.putI h2 fp_RX11_313 rfl (by decide +kernel) vi_ir (vi_ir).1 (vi_ir).2 dX11_tell_32 (fun V22 e21 => ?_)
        refine GO.iconst dX11_tell_35 ?_
        exact GO.retz rfl rfl dX11_tell_36 (Or.inr rfl) ⟨rfl, _, rfl, (ir_c rfl), ⟨Or.inr rfl, fun _ => trivial, fun _ => trivial⟩⟩

set_option maxHeartbeats 1000000 in
theorem t_X11_study {K : Kmap} {V : Vmap} {x : Nat} {p0 : Int} {p1 : Int} (h_x : K x = some (0, 10)) (r_p0 : ir p0) (r_p1 : ir p1) : MC mX11_study K V [.ref x, ti p0, ti p1] (IS K (fun X V1 => (X = 0 ∨ X = 1) ∧ (X ≠ 0 → True) ∧ (X = 0 → True))) := by
  refine MC.start 1 (by decide +kernel) rfl rfl rfl (ls0 := [some (.ref x), some (ti p0), some (ti p1), none]) rfl ?_
  refine GO.aload_n dX11_study_0 rfl rfl ?_
  refine GO.iload_n dX11_study_1 rfl rfl ?_
  refine GO.callV (ci := 10) (N := mX11_workOf) dX11_study_2 (RX11, TX11, 20) rfl gV_RX11_309 h_x (t_X11_workOf h_x r_p0) rfl [] rfl rfl (Nat.le_of_ble_eq_true rfl) rfl (k_rp (fun h3 => ?_) (fun o1 h2 h3 => ?_))
  ·
    refine GO.astore_nN (ls1 := [some (.ref x), some (ti p0), some (ti p1), some (.null)]) dX11_study_5 rfl rfl rfl ?_
    refine GO.aload_nN dX11_study_6 rfl rfl ?_
    refine GO.ifnullN (tgt := 29) dX11_study_7 (by decide) ?_
    refine GO.iconst dX11_study_29 ?_
    exact GO.retz rfl rfl dX11_study_30 (Or.inl rfl) ⟨rfl, _, rfl, (ir_c rfl), ⟨Or.inl rfl, fun _ => trivial, fun _ => trivial⟩⟩
  ·
    refine GO.astore_n (ls1 := [some (.ref x), some (ti p0), some (ti p1), some (.ref o1)]) dX11_study_5 rfl rfl rfl ?_
    refine GO.aload_n dX11_study_6 rfl rfl ?_
    refine GO.ifnull dX11_study_7 ?_
    refine GO.iload_n dX11_study_10 rfl rfl ?_
    refine GO.iconst dX11_study_11 ?_
    refine GO.sipush dX11_study_12 rfl ?_
    refine GO.callS (N := mX11_between) dX11_study_15 gS_RX11_112 (t_X11_between r_p1 (ir_c rfl) (ir_c rfl)) rfl [] rfl rfl (Nat.le_of_ble_eq_true rfl) rfl (k_ip fun X4 r5 h6 => ?_)
    refine GO.if_eq (tgt := 29) dX11_study_18 (by decide) r5 (fun c7 => ?_) (fun c7 => ?_)
    ·
      have q8 := h6.2.2 (by omega)
      refine GO.iconst dX11_study_29 ?_
      exact GO.retz rfl rfl dX11_study_30 (Or.inl rfl) ⟨rfl, _, rfl, (ir_c rfl), ⟨Or.inl rfl, fun _ => trivial, fun _ => trivial⟩⟩
    ·
      have q9 := h6.2.1 (by omega)
      refine GO.aload_n dX11_study_21 rfl rfl ?_
      refine GO.getI h2 fl_RX11_319 rfl rfl dX11_study_22 (fun _ _ => ?_)
      refine GO.iconst dX11_study_25 ?_
      refine GO.icmp_eq (tgt := 31) dX11_study_26 (by decide) vi_ir (ir_c rfl) (fun c10 => ?_) (fun c10 => ?_)
      ·
        refine GO.aload_n dX11_study_31 rfl rfl ?_
        refine GO.aload_n dX11_study_32 rfl rfl ?_
        refine GO.getR h_x fl_RX11_12 rfl rfl dX11_study_33 (fun hv12 h11 => ?_)
        refine GO.getI h11 fl_RX11_145 rfl rfl dX11_study_36 (fun _ _ => ?_)
        refine GO.putI h2 fp_RX11_319 rfl (by decide +kernel) vi_ir (vi_ir).1 (vi_ir).2 dX11_study_39 (fun V14 e13 => ?_)
        refine GO.aload_n dX11_study_42 rfl rfl ?_
        refine GO.iload_n dX11_study_43 rfl rfl ?_
        refine GO.putI h2 fp_RX11_322 rfl (by decide +kernel) r_p1 (r_p1).1 (r_p1).2 dX11_study_44 (fun V16 e15 => ?_)
        refine GO.iconst dX11_study_47 ?_
        exact GO.retz rfl rfl dX11_study_48 (Or.inr rfl) ⟨rfl, _, rfl, (ir_c rfl), ⟨Or.inr rfl, fun _ => trivial, fun _ => trivial⟩⟩
      ·
        refine GO.iconst dX11_study_29 ?_
        exact GO.retz rfl rfl dX11_study_30 (Or.inl rfl) ⟨rfl, _, rfl, (ir_c rfl), ⟨Or.inl rfl, fun _ => trivial, fun _ => trivial⟩⟩

set_option maxHeartbeats 1000000 in
theorem t_X11_say {K : Kmap} {V : Vmap} {x : Nat} {p0 : Int} {p1 : Int} {p2 : Int} (h_x : K x = some (0, 10)) (r_p0 : ir p0) (r_p1 : ir p1) (r_p2 : ir p2) (z_p2 : p2 = 0 ∨ p2 = 1) : MC mX11_say K V [.ref x, ti p0, ti p1, ti p2] (IS K (fun X V1 => (X = 0 ∨ X = 1) ∧ (X ≠ 0 → True) ∧ (X = 0 → True))) := by
  refine MC.start 2 (by decide +kernel) rfl rfl rfl (ls0 := [some (.ref x), some (ti p0), some (ti p1), some (ti p2), none, none]) rfl ?_
  refine GO.aload_n dX11_say_0 rfl rfl ?_
  refine GO.iload_n dX11_say_1 rfl rfl ?_
  refine GO.callV (ci := 10) (N := mX11_workOf) dX11_say_2 (RX11, TX11, 20) rfl gV_RX11_309 h_x (t_X11_workOf h_x r_p1) rfl [] rfl rfl (Nat.le_of_ble_eq_true rfl) rfl (k_rp (fun h3 => ?_) (fun o1 h2 h3 => ?_))
  ·
    refine GO.astoreN (ls1 := [some (.ref x), some (ti p0), some (ti p1), some (ti p2), some (.null), none]) dX11_say_5 rfl rfl ?_
    refine GO.aload_n dX11_say_7 rfl rfl ?_
    refine GO.iload_n dX11_say_8 rfl rfl ?_
    refine GO.callV (ci := 10) (N := mX11_partyOf) dX11_say_9 (RX11, TX11, 20) rfl gV_RX11_151 h_x (t_X11_partyOf h_x r_p0) rfl [] rfl rfl (Nat.le_of_ble_eq_true rfl) rfl (k_rp (fun h6 => ?_) (fun o4 h5 h6 => ?_))
    ·
      refine GO.ifnullN (tgt := 20) dX11_say_12 (by decide) ?_
      refine GO.iconst dX11_say_20 ?_
      exact GO.retz rfl rfl dX11_say_21 (Or.inl rfl) ⟨rfl, _, rfl, (ir_c rfl), ⟨Or.inl rfl, fun _ => trivial, fun _ => trivial⟩⟩
    ·
      refine GO.ifnull dX11_say_12 ?_
      refine GO.aloadN dX11_say_15 rfl ?_
      refine GO.ifnonnullN dX11_say_17 ?_
      refine GO.iconst dX11_say_20 ?_
      exact GO.retz rfl rfl dX11_say_21 (Or.inl rfl) ⟨rfl, _, rfl, (ir_c rfl), ⟨Or.inl rfl, fun _ => trivial, fun _ => trivial⟩⟩
  ·
    refine GO.astore (ls1 := [some (.ref x), some (ti p0), some (ti p1), some (ti p2), some (.ref o1), none]) dX11_say_5 rfl rfl ?_
    refine GO.aload_n dX11_say_7 rfl rfl ?_
    refine GO.iload_n dX11_say_8 rfl rfl ?_
    refine GO.callV (ci := 10) (N := mX11_partyOf) dX11_say_9 (RX11, TX11, 20) rfl gV_RX11_151 h_x (t_X11_partyOf h_x r_p0) rfl [] rfl rfl (Nat.le_of_ble_eq_true rfl) rfl (k_rp (fun h9 => ?_) (fun o7 h8 h9 => ?_))
    ·
      refine GO.ifnullN (tgt := 20) dX11_say_12 (by decide) ?_
      refine GO.iconst dX11_say_20 ?_
      exact GO.retz rfl rfl dX11_say_21 (Or.inl rfl) ⟨rfl, _, rfl, (ir_c rfl), ⟨Or.inl rfl, fun _ => trivial, fun _ => trivial⟩⟩
    ·
      refine GO.ifnull dX11_say_12 ?_
      refine GO.aload dX11_say_15 rfl ?_
      refine GO.ifnonnull (tgt := 22) dX11_say_17 (by decide) ?_
      refine GO.iconst dX11_say_22 ?_
      refine GO.iload_n dX11_say_23 rfl rfl ?_
      refine GO.ishl dX11_say_24 ?_
      refine GO.name (fun z10 hz11 => ?_)
      have r12 : ir z10 := hz11 ▸ wshl_ir
      refine GO.istore (ls1 := [some (.ref x), some (ti p0), some (ti p1), some (ti p2), some (.ref o1), some (ti z10)]) dX11_say_25 rfl rfl ?_
      refine GO.aload dX11_say_27 rfl ?_
      refine GO.iload_n dX11_say_29 rfl rfl ?_
      have hj15 : ∀ (z14 : Int), ∀ (l16 : (-2147483648) ≤ z14), ∀ (u17 : z14 ≤ 2147483647), GO mX11_say K V (IS K (fun X V1 => (X = 0 ∨ X = 1) ∧ (X ≠ 0 → True) ∧ (X = 0 → True))) K V 0 0 54 [some (.ref x), some (ti p0), some (ti p1), some (ti p2), some (.ref o1), some (ti z10)] [ti z14, .ref o1] := by
        intro z14 l16 u17
        have r18 : ir z14 := ⟨by omega, by omega⟩
        refine GO.putI h2 fp_RX11_325 rfl (by decide +kernel) r18 (r18).1 (r18).2 dX11_say_54 (fun V20 e19 => ?_)
        refine GO.aload dX11_say_57 rfl ?_
        refine GO.iload_n dX11_say_59 rfl rfl ?_
        refine GO.if_eq (tgt := 76) dX11_say_60 (by decide) r_p2 (fun c21 => ?_) (fun c21 => ?_)
        ·
          refine GO.aload dX11_say_76 rfl ?_
          refine GO.getI h2 fl_RX11_328 rfl rfl dX11_say_78 (fun _ _ => ?_)
          refine GO.iload dX11_say_81 rfl ?_
          refine GO.ior dX11_say_83 ?_
          refine GO.putI h2 fp_RX11_328 rfl (by decide +kernel) wor_ir (wor_ir).1 (wor_ir).2 dX11_say_84 (fun V23 e22 => ?_)
          refine GO.iconst dX11_say_87 ?_
          exact GO.retz rfl rfl dX11_say_88 (Or.inr rfl) ⟨rfl, _, rfl, (ir_c rfl), ⟨Or.inr rfl, fun _ => trivial, fun _ => trivial⟩⟩
        ·
          refine GO.aload dX11_say_63 rfl ?_
          refine GO.getI h2 fl_RX11_328 rfl rfl dX11_say_65 (fun _ _ => ?_)
          refine GO.iload dX11_say_68 rfl ?_
          refine GO.iconst dX11_say_70 ?_
          refine GO.ixor dX11_say_71 ?_
          refine GO.iand dX11_say_72 ?_
          refine GO.goto (tgt := 84) dX11_say_73 (by decide) ?_
          refine GO.putI h2 fp_RX11_328 rfl (by decide +kernel) wand_ir (wand_ir).1 (wand_ir).2 dX11_say_84 (fun V25 e24 => ?_)
          refine GO.iconst dX11_say_87 ?_
          exact GO.retz rfl rfl dX11_say_88 (Or.inr rfl) ⟨rfl, _, rfl, (ir_c rfl), ⟨Or.inr rfl, fun _ => trivial, fun _ => trivial⟩⟩
      refine GO.if_eq (tgt := 44) dX11_say_30 (by decide) r_p2 (fun c26 => ?_) (fun c26 => ?_)
      ·
        refine GO.aload dX11_say_44 rfl ?_
        refine GO.getI h2 fl_RX11_325 rfl rfl dX11_say_46 (fun _ _ => ?_)
        refine GO.iload dX11_say_49 rfl ?_
        refine GO.iconst dX11_say_51 ?_
        refine GO.ixor dX11_say_52 ?_
        refine GO.iand dX11_say_53 ?_
        have q27 : -2147483648 ≤ wand (vi V o1 13) (wxor z10 (-1)) ∧ wand (vi V o1 13) (wxor z10 (-1)) ≤ 2147483647 := wand_ir
        exact hj15 (wand (vi V o1 13) (wxor z10 (-1))) (by omega) (by omega)
      ·
        refine GO.aload dX11_say_33 rfl ?_
        refine GO.getI h2 fl_RX11_325 rfl rfl dX11_say_35 (fun _ _ => ?_)
        refine GO.iload dX11_say_38 rfl ?_
        refine GO.ior dX11_say_40 ?_
        refine GO.goto (tgt := 54) dX11_say_41 (by decide) ?_
        have q28 : -2147483648 ≤ wor (vi V o1 13) z10 ∧ wor (vi V o1 13) z10 ≤ 2147483647 := wor_ir
        exact hj15 (wor (vi V o1 13) z10) (by omega) (by omega)

set_option maxHeartbeats 1000000 in
theorem t_X11_tellLetters {K : Kmap} {V : Vmap} {x : Nat} {p0 : Nat} {p1 : Nat} {p2 : Int} (h_x : K x = some (0, 10)) (h_p0 : K p0 = some (0, 9)) (h_p1 : K p1 = some (0, 2)) (r_p2 : ir p2) : MC mX11_tellLetters K V [.ref x, .ref p0, .ref p1, ti p2] (VS K (fun V1 => (True))) := by
  refine MC.start 1 (by decide +kernel) rfl rfl rfl (ls0 := [some (.ref x), some (.ref p0), some (.ref p1), some (ti p2), none]) rfl ?_
  refine GO.aload_n dX11_tellLetters_0 rfl rfl ?_
  refine GO.getR h_x fl_RX11_19 rfl rfl dX11_tellLetters_1 (fun hv2 h1 => ?_)
  refine GO.getB h1 fl_RX11_372 rfl rfl dX11_tellLetters_4 (fun n5 hv4 h3 b6 => ?_)
  refine GO.astore (ls1 := [some (.ref x), some (.ref p0), some (.ref p1), some (ti p2), some (.ref (vq V (vq V x 1) 8))]) dX11_tellLetters_7 rfl rfl ?_
  refine GO.aload dX11_tellLetters_9 rfl ?_
  refine GO.iconst dX11_tellLetters_11 ?_
  refine GO.aload_n dX11_tellLetters_12 rfl rfl ?_
  refine GO.getI h_p0 fl_RX11_375 rfl rfl dX11_tellLetters_13 (fun _ _ => ?_)
  refine GO.callS (N := mX4_put) dX11_tellLetters_16 gS_RX11_108 (t_X4_put h3 (ir_c rfl) vi_ir) rfl [] rfl rfl (Nat.le_of_ble_eq_true rfl) rfl (k_vs fun V9 h8 hF7 => ?_)
  refine GO.aload dX11_tellLetters_19 rfl ?_
  refine GO.iconst dX11_tellLetters_21 ?_
  refine GO.aload_n dX11_tellLetters_22 rfl rfl ?_
  refine GO.getI h_p0 fl_RX11_353 rfl rfl dX11_tellLetters_23 (fun _ _ => ?_)
  refine GO.callS (N := mX4_put) dX11_tellLetters_26 gS_RX11_108 (t_X4_put h3 (ir_c rfl) vi_ir) rfl [] rfl rfl (Nat.le_of_ble_eq_true rfl) rfl (k_vs fun V12 h11 hF10 => ?_)
  refine GO.aload dX11_tellLetters_29 rfl ?_
  refine GO.iconst dX11_tellLetters_31 ?_
  refine GO.aload_n dX11_tellLetters_32 rfl rfl ?_
  refine GO.iload_n dX11_tellLetters_33 rfl rfl ?_
  refine GO.callV (ci := 2) (N := mX2_decidesOn) dX11_tellLetters_34 (RX2, TX2, 5) rfl gV_RX11_301 h_p1 (t_X2_decidesOn h_p1 r_p2) rfl [ti 2, .ref (vq V (vq V x 1) 8)] rfl rfl (Nat.le_of_ble_eq_true rfl) rfl (k_ip fun X13 r14 h15 => ?_)
  have hj18 : ∀ (z17 : Int), ∀ (l19 : 0 ≤ z17), ∀ (u20 : z17 ≤ 1), GO mX11_tellLetters K V (VS K (fun V1 => (True))) K V12 0 0 45 [some (.ref x), some (.ref p0), some (.ref p1), some (ti p2), some (.ref (vq V (vq V x 1) 8))] [ti z17, ti 2, .ref (vq V (vq V x 1) 8)] := by
    intro z17 l19 u20
    have r21 : ir z17 := ⟨by omega, by omega⟩
    refine GO.callS (N := mX4_put) dX11_tellLetters_45 gS_RX11_108 (t_X4_put h3 (ir_c rfl) r21) rfl [] rfl rfl (Nat.le_of_ble_eq_true rfl) rfl (k_vs fun V24 h23 hF22 => ?_)
    refine GO.aload dX11_tellLetters_48 rfl ?_
    refine GO.iconst dX11_tellLetters_50 ?_
    refine GO.aload_n dX11_tellLetters_51 rfl rfl ?_
    refine GO.getR h_x fl_RX11_12 rfl rfl dX11_tellLetters_52 (fun hv26 h25 => ?_)
    refine GO.getB h25 fl_RX11_123 rfl rfl dX11_tellLetters_55 (fun n29 hv28 h27 b30 => ?_)
    refine GO.aload_n dX11_tellLetters_58 rfl rfl ?_
    refine GO.getI h_p0 fl_RX11_378 rfl rfl dX11_tellLetters_59 (fun _ _ => ?_)
    refine GO.callS (N := mX4_get) dX11_tellLetters_62 gS_RX11_253 (t_X4_get rfl h27 vi_ir) rfl [ti 3, .ref (vq V (vq V x 1) 8)] rfl rfl (Nat.le_of_ble_eq_true rfl) rfl (k_ip fun X31 r32 h33 => ?_)
    refine GO.callS (N := mX4_put) dX11_tellLetters_65 gS_RX11_108 (t_X4_put h3 (ir_c rfl) r32) rfl [] rfl rfl (Nat.le_of_ble_eq_true rfl) rfl (k_vs fun V36 h35 hF34 => ?_)
    refine GO.aload dX11_tellLetters_68 rfl ?_
    refine GO.iconst dX11_tellLetters_70 ?_
    refine GO.aload_n dX11_tellLetters_71 rfl rfl ?_
    refine GO.getRaw h_x fl_RX11_12 (Eq.trans (hF34 _ _ _ h_x h_x (by decide +kernel)) hv26) dX11_tellLetters_72 ?_
    refine GO.getB h25 fl_RX11_126 rfl rfl dX11_tellLetters_75 (fun n41 hv40 h39 b42 => ?_)
    refine GO.aload_n dX11_tellLetters_78 rfl rfl ?_
    refine GO.getI h_p0 fl_RX11_378 rfl rfl dX11_tellLetters_79 (fun _ _ => ?_)
    refine GO.callS (N := mX4_get) dX11_tellLetters_82 gS_RX11_253 (t_X4_get rfl h39 vi_ir) rfl [ti 4, .ref (vq V (vq V x 1) 8)] rfl rfl (Nat.le_of_ble_eq_true rfl) rfl (k_ip fun X43 r44 h45 => ?_)
    refine GO.callS (N := mX4_put) dX11_tellLetters_85 gS_RX11_108 (t_X4_put h3 (ir_c rfl) r44) rfl [] rfl rfl (Nat.le_of_ble_eq_true rfl) rfl (k_vs fun V48 h47 hF46 => ?_)
    refine GO.aload dX11_tellLetters_88 rfl ?_
    refine GO.bipush dX11_tellLetters_90 rfl ?_
    refine GO.aload_n dX11_tellLetters_92 rfl rfl ?_
    refine GO.getI h_p0 fl_RX11_305 rfl rfl dX11_tellLetters_93 (fun _ _ => ?_)
    refine GO.callS (N := mX4_put) dX11_tellLetters_96 gS_RX11_108 (t_X4_put h3 (ir_c rfl) vi_ir) rfl [] rfl rfl (Nat.le_of_ble_eq_true rfl) rfl (k_vs fun V51 h50 hF49 => ?_)
    refine GO.aload dX11_tellLetters_99 rfl ?_
    refine GO.bipush dX11_tellLetters_101 rfl ?_
    refine GO.aload_n dX11_tellLetters_103 rfl rfl ?_
    refine GO.getI h_p0 fl_RX11_306 rfl rfl dX11_tellLetters_104 (fun _ _ => ?_)
    refine GO.callS (N := mX4_put) dX11_tellLetters_107 gS_RX11_108 (t_X4_put h3 (ir_c rfl) vi_ir) rfl [] rfl rfl (Nat.le_of_ble_eq_true rfl) rfl (k_vs fun V54 h53 hF52 => ?_)
    refine GO.aload dX11_tellLetters_110 rfl ?_
    refine GO.bipush dX11_tellLetters_112 rfl ?_
    refine GO.iload_n dX11_tellLetters_114 rfl rfl ?_
    refine GO.sipush dX11_tellLetters_115 rfl ?_
    refine GO.irem dX11_tellLetters_118 (ir_c rfl) (by omega) ?_
    refine GO.callS (N := mX4_put) dX11_tellLetters_119 gS_RX11_108 (t_X4_put h3 (ir_c rfl) wrem_ir) rfl [] rfl rfl (Nat.le_of_ble_eq_true rfl) rfl (k_vs fun V57 h56 hF55 => ?_)
    refine GO.aload dX11_tellLetters_122 rfl ?_
    refine GO.bipush dX11_tellLetters_124 rfl ?_
    refine GO.iload_n dX11_tellLetters_126 rfl rfl ?_
    refine GO.sipush dX11_tellLetters_127 rfl ?_
    refine GO.idiv dX11_tellLetters_130 (ir_c rfl) (by omega) ?_
    refine GO.callS (N := mX4_put) dX11_tellLetters_131 gS_RX11_108 (t_X4_put h3 (ir_c rfl) wdiv_ir) rfl [] rfl rfl (Nat.le_of_ble_eq_true rfl) rfl (k_vs fun V60 h59 hF58 => ?_)
    refine GO.aload dX11_tellLetters_134 rfl ?_
    refine GO.bipush dX11_tellLetters_136 rfl ?_
    refine GO.aload_n dX11_tellLetters_138 rfl rfl ?_
    refine GO.getRaw h_x fl_RX11_12 (Eq.trans (hF58 _ _ _ h_x h_x (by decide +kernel)) (Eq.trans (hF55 _ _ _ h_x h_x (by decide +kernel)) (Eq.trans (hF52 _ _ _ h_x h_x (by decide +kernel)) (Eq.trans (hF49 _ _ _ h_x h_x (by decide +kernel)) (Eq.trans (hF46 _ _ _ h_x h_x (by decide +kernel)) (Eq.trans (hF34 _ _ _ h_x h_x (by decide +kernel)) hv26)))))) dX11_tellLetters_139 ?_
    refine GO.iload_n dX11_tellLetters_142 rfl rfl ?_
    refine GO.callV (ci := 0) (N := mX0_isDark) dX11_tellLetters_143 (RX0, TX0, 13) rfl gV_RX11_381 h25 (t_X0_isDark h25 r_p2) rfl [ti 13, .ref (vq V (vq V x 1) 8)] rfl rfl (Nat.le_of_ble_eq_true rfl) rfl (k_ip fun X63 r64 h65 => ?_)
    refine GO.if_eq (tgt := 153) dX11_tellLetters_146 (by decide) r64 (fun c66 => ?_) (fun c66 => ?_)
    ·
      refine GO.iconst dX11_tellLetters_153 ?_
      refine GO.callS (N := mX4_put) dX11_tellLetters_154 gS_RX11_108 (t_X4_put h3 (ir_c rfl) (ir_c rfl)) rfl [] rfl rfl (Nat.le_of_ble_eq_true rfl) rfl (k_vs fun V69 h68 hF67 => ?_)
      exact GO.retv rfl rfl dX11_tellLetters_157 ⟨rfl, rfl, trivial⟩
    ·
      refine GO.iconst dX11_tellLetters_149 ?_
      refine GO.goto (tgt := 154) dX11_tellLetters_150 (by decide) ?_
      refine GO.callS (N := mX4_put) dX11_tellLetters_154 gS_RX11_108 (t_X4_put h3 (ir_c rfl) (ir_c rfl)) rfl [] rfl rfl (Nat.le_of_ble_eq_true rfl) rfl (k_vs fun V72 h71 hF70 => ?_)
      exact GO.retv rfl rfl dX11_tellLetters_157 ⟨rfl, rfl, trivial⟩
  refine GO.if_eq (tgt := 44) dX11_tellLetters_37 (by decide) r14 (fun c73 => ?_) (fun c73 => ?_)
  ·
    refine GO.iconst dX11_tellLetters_44 ?_
    exact hj18 0 (by omega) (by omega)
  ·
    refine GO.iconst dX11_tellLetters_40 ?_
    refine GO.goto (tgt := 45) dX11_tellLetters_41 (by decide) ?_
    exact hj18 1 (by omega) (by omega)

set_option maxHeartbeats 1000000 in
theorem t_X11_tellNeighbours {K : Kmap} {V : Vmap} {x : Nat} {p0 : Nat} (h_x : K x = some (0, 10)) (h_p0 : K p0 = some (0, 9)) : MC mX11_tellNeighbours K V [.ref x, .ref p0] (VS K (fun V1 => (True))) := by
  refine MC.start 6 (by decide +kernel) rfl rfl rfl (ls0 := [some (.ref x), some (.ref p0), none, none, none, none, none, none]) rfl ?_
  refine GO.iconst dX11_tellNeighbours_0 ?_
  refine GO.istore_n (ls1 := [some (.ref x), some (.ref p0), some (ti 0), none, none, none, none, none]) dX11_tellNeighbours_1 rfl rfl rfl ?_
  refine GO.iconst dX11_tellNeighbours_2 ?_
  refine GO.istore_n (ls1 := [some (.ref x), some (.ref p0), some (ti 0), some (ti 0), none, none, none, none]) dX11_tellNeighbours_3 rfl rfl rfl ?_
  refine GO.iconst dX11_tellNeighbours_4 ?_
  refine GO.istore (ls1 := [some (.ref x), some (.ref p0), some (ti 0), some (ti 0), some (ti 0), none, none, none]) dX11_tellNeighbours_5 rfl rfl ?_
  refine GO.iconst dX11_tellNeighbours_7 ?_
  refine GO.istore (ls1 := [some (.ref x), some (.ref p0), some (ti 0), some (ti 0), some (ti 0), some (ti 0), none, none]) dX11_tellNeighbours_8 rfl rfl ?_
  refine GO.iconst dX11_tellNeighbours_10 ?_
  refine GO.istore (ls1 := [some (.ref x), some (.ref p0), some (ti 0), some (ti 0), some (ti 0), some (ti 0), some (ti 0), none]) dX11_tellNeighbours_11 rfl rfl ?_
  refine GO.loop5 (fun i1 i2 i3 i4 i5 W => 0 ≤ i1 ∧ i1 ≤ 2147483647 ∧ (-2147483648) ≤ i2 ∧ i2 ≤ 2147483647 ∧ (-2147483648) ≤ i3 ∧ i3 ≤ 2147483647 ∧ (-2147483648) ≤ i4 ∧ i4 ≤ 2147483647 ∧ 0 ≤ i5 ∧ i5 ≤ 60 ∧ V = W) (fun i1 i2 i3 i4 i5 => [some (.ref x), some (.ref p0), some (ti i1), some (ti i2), some (ti i3), some (ti i4), some (ti i5), none]) (fun i1 i2 i3 i4 i5 W => (2147483647 - i5).toNat) 0 0 0 0 0 ⟨by omega, by omega, by omega, by omega, by omega, by omega, by omega, by omega, by omega, by omega, rfl⟩ rfl (fun i1 i2 i3 i4 i5 V10671 hp10673 ih10672 => ?_)
  obtain ⟨l_i1, u_i1, l_i2, u_i2, l_i3, u_i3, l_i4, u_i4, l_i5, u_i5, rfl⟩ := hp10673
  have r_i1 : ir i1 := ⟨by omega, by omega⟩
  have r_i2 : ir i2 := ⟨by omega, by omega⟩
  have r_i3 : ir i3 := ⟨by omega, by omega⟩
  have r_i4 : ir i4 := ⟨by omega, by omega⟩
  have r_i5 : ir i5 := ⟨by omega, by omega⟩
  show GO mX11_tellNeighbours K V (VS K (fun V1 => (True))) K V 0 0 13 [some (.ref x), some (.ref p0), some (ti i1), some (ti i2), some (ti i3), some (ti i4), some (ti i5), none] []
  refine GO.iload dX11_tellNeighbours_13 rfl ?_
  refine GO.aload_n dX11_tellNeighbours_15 rfl rfl ?_
  refine GO.getI h_x fl_RX11_46 rfl rfl dX11_tellNeighbours_16 (fun l10674 u10675 => ?_)
  refine GO.icmp_ge (tgt := 204) dX11_tellNeighbours_19 (by decide) r_i5 vi_ir (fun c10676 => ?_) (fun c10676 => ?_)
  ·
    refine GO.aload_n dX11_tellNeighbours_204 rfl rfl ?_
    refine GO.getR h_x fl_RX11_19 rfl rfl dX11_tellNeighbours_205 (fun hv10678 h10677 => ?_)
    refine GO.getB h10677 fl_RX11_372 rfl rfl dX11_tellNeighbours_208 (fun n10681 hv10680 h10679 b10682 => ?_)
    refine GO.iconst dX11_tellNeighbours_211 ?_
    refine GO.iload_n dX11_tellNeighbours_212 rfl rfl ?_
    refine GO.callS (N := mX4_put) dX11_tellNeighbours_213 gS_RX11_108 (t_X4_put h10679 (ir_c rfl) r_i1) rfl [] rfl rfl (Nat.le_of_ble_eq_true rfl) rfl (k_vs fun V10685 h10684 hF10683 => ?_)
    refine GO.aload_n dX11_tellNeighbours_216 rfl rfl ?_
    refine GO.getRaw h_x fl_RX11_19 (Eq.trans (hF10683 _ _ _ h_x h_x (by decide +kernel)) hv10678) dX11_tellNeighbours_217 ?_
    refine GO.getB h10677 fl_RX11_372 rfl rfl dX11_tellNeighbours_220 (fun n10690 hv10689 h10688 b10691 => ?_)
    refine GO.bipush dX11_tellNeighbours_223 rfl ?_
    refine GO.iload_n dX11_tellNeighbours_225 rfl rfl ?_
    refine GO.callS (N := mX4_put) dX11_tellNeighbours_226 gS_RX11_108 (t_X4_put h10688 (ir_c rfl) r_i2) rfl [] rfl rfl (Nat.le_of_ble_eq_true rfl) rfl (k_vs fun V10694 h10693 hF10692 => ?_)
    refine GO.aload_n dX11_tellNeighbours_229 rfl rfl ?_
    refine GO.getRaw h_x fl_RX11_19 (Eq.trans (hF10692 _ _ _ h_x h_x (by decide +kernel)) (Eq.trans (hF10683 _ _ _ h_x h_x (by decide +kernel)) hv10678)) dX11_tellNeighbours_230 ?_
    refine GO.getB h10677 fl_RX11_372 rfl rfl dX11_tellNeighbours_233 (fun n10699 hv10698 h10697 b10700 => ?_)
    refine GO.bipush dX11_tellNeighbours_236 rfl ?_
    refine GO.iload dX11_tellNeighbours_238 rfl ?_
    refine GO.callS (N := mX4_put) dX11_tellNeighbours_240 gS_RX11_108 (t_X4_put h10697 (ir_c rfl) r_i3) rfl [] rfl rfl (Nat.le_of_ble_eq_true rfl) rfl (k_vs fun V10703 h10702 hF10701 => ?_)
    refine GO.aload_n dX11_tellNeighbours_243 rfl rfl ?_
    refine GO.getRaw h_x fl_RX11_19 (Eq.trans (hF10701 _ _ _ h_x h_x (by decide +kernel)) (Eq.trans (hF10692 _ _ _ h_x h_x (by decide +kernel)) (Eq.trans (hF10683 _ _ _ h_x h_x (by decide +kernel)) hv10678))) dX11_tellNeighbours_244 ?_
    refine GO.getB h10677 fl_RX11_372 rfl rfl dX11_tellNeighbours_247 (fun n10708 hv10707 h10706 b10709 => ?_)
    refine GO.bipush dX11_tellNeighbours_250 rfl ?_
    refine GO.iload dX11_tellNeighbours_252 rfl ?_
    refine GO.callS (N := mX4_put) dX11_tellNeighbours_254 gS_RX11_108 (t_X4_put h10706 (ir_c rfl) r_i4) rfl [] rfl rfl (Nat.le_of_ble_eq_true rfl) rfl (k_vs fun V10712 h10711 hF10710 => ?_)
    exact GO.retv rfl rfl dX11_tellNeighbours_257 ⟨rfl, rfl, trivial⟩
  ·
    refine GO.aload_n dX11_tellNeighbours_22 rfl rfl ?_
    refine GO.iload dX11_tellNeighbours_23 rfl ?_
    refine GO.callV (ci := 10) (N := mX11_anyPlace) dX11_tellNeighbours_25 (RX11, TX11, 20) rfl gV_RX11_384 h_x (t_X11_anyPlace h_x r_i5) rfl [] rfl rfl (Nat.le_of_ble_eq_true rfl) rfl (k_rp (fun h10715 => ?_) (fun o10713 h10714 h10715 => ?_))
    ·
      refine GO.astoreN (ls1 := [some (.ref x), some (.ref p0), some (ti i1), some (ti i2), some (ti i3), some (ti i4), some (ti i5), some (.null)]) dX11_tellNeighbours_28 rfl rfl ?_
      refine GO.aloadN dX11_tellNeighbours_30 rfl ?_
      refine GO.ifnonnullN dX11_tellNeighbours_32 ?_
      refine GO.goto (tgt := 198) dX11_tellNeighbours_35 (by decide) ?_
      refine GO.iinc (X := i5) (n := 1) (Y := i5 + 1) (ls1 := [some (.ref x), some (.ref p0), some (ti i1), some (ti i2), some (ti i3), some (ti i4), some (ti (i5 + 1)), some (.null)]) dX11_tellNeighbours_198 rfl rfl rfl rfl ?_
      refine GO.goto (tgt := 13) dX11_tellNeighbours_201 (by decide) ?_
      refine GO.drop [true, true, true, true, true, true, true, false] rfl ?_
      exact ih10672 i1 i2 i3 i4 (i5 + 1) V ⟨by omega, by omega, by omega, by omega, by omega, by omega, by omega, by omega, by omega, by omega, rfl⟩ (by show (2147483647 - (i5 + 1)).toNat < (2147483647 - i5).toNat; omega)
    ·
      refine GO.astore (ls1 := [some (.ref x), some (.ref p0), some (ti i1), some (ti i2), some (ti i3), some (ti i4), some (ti i5), some (.ref o10713)]) dX11_tellNeighbours_28 rfl rfl ?_
      refine GO.aload dX11_tellNeighbours_30 rfl ?_
      refine GO.ifnonnull (tgt := 38) dX11_tellNeighbours_32 (by decide) ?_
      refine GO.aload dX11_tellNeighbours_38 rfl ?_
      refine GO.getI h10714 fl_RX11_387 rfl rfl dX11_tellNeighbours_40 (fun _ _ => ?_)
      refine GO.iconst dX11_tellNeighbours_43 ?_
      have hj10728 : GO mX11_tellNeighbours K V (VS K (fun V1 => (True))) K V 0 0 84 [some (.ref x), some (.ref p0), some (ti i1), some (ti i2), some (ti i3), some (ti i4), some (ti i5), some (.ref o10713)] [] := by
        skip
        refine GO.aload dX11_tellNeighbours_84 rfl ?_
        refine GO.getI h10714 fl_RX11_387 rfl rfl dX11_tellNeighbours_86 (fun _ _ => ?_)
        refine GO.iconst dX11_tellNeighbours_89 ?_
        have hj10738 : GO mX11_tellNeighbours K V (VS K (fun V1 => (True))) K V 0 0 119 [some (.ref x), some (.ref p0), some (ti i1), some (ti i2), some (ti i3), some (ti i4), some (ti i5), some (.ref o10713)] [] := by
          skip
          refine GO.aload dX11_tellNeighbours_119 rfl ?_
          refine GO.getI h10714 fl_RX11_387 rfl rfl dX11_tellNeighbours_121 (fun _ _ => ?_)
          refine GO.iconst dX11_tellNeighbours_124 ?_
          have hj10748 : GO mX11_tellNeighbours K V (VS K (fun V1 => (True))) K V 0 0 154 [some (.ref x), some (.ref p0), some (ti i1), some (ti i2), some (ti i3), some (ti i4), some (ti i5), some (.ref o10713)] [] := by
            skip
            refine GO.aload dX11_tellNeighbours_154 rfl ?_
            refine GO.getI h10714 fl_RX11_387 rfl rfl dX11_tellNeighbours_156 (fun _ _ => ?_)
            refine GO.iconst dX11_tellNeighbours_159 ?_
            refine GO.icmp_ne (tgt := 198) dX11_tellNeighbours_160 (by decide) vi_ir (ir_c rfl) (fun c10749 => ?_) (fun c10749 => ?_)
            ·
              refine GO.iinc (X := i5) (n := 1) (Y := i5 + 1) (ls1 := [some (.ref x), some (.ref p0), some (ti i1), some (ti i2), some (ti i3), some (ti i4), some (ti (i5 + 1)), some (.ref o10713)]) dX11_tellNeighbours_198 rfl rfl rfl rfl ?_
              refine GO.goto (tgt := 13) dX11_tellNeighbours_201 (by decide) ?_
              refine GO.drop [true, true, true, true, true, true, true, false] rfl ?_
              exact ih10672 i1 i2 i3 i4 (i5 + 1) V ⟨by omega, by omega, by omega, by omega, by omega, by omega, by omega, by omega, by omega, by omega, rfl⟩ (by show (2147483647 - (i5 + 1)).toNat < (2147483647 - i5).toNat; omega)
            ·
              refine GO.aload dX11_tellNeighbours_163 rfl ?_
              refine GO.getI h10714 fl_RX11_173 rfl rfl dX11_tellNeighbours_165 (fun _ _ => ?_)
              refine GO.aload_n dX11_tellNeighbours_168 rfl rfl ?_
              refine GO.getI h_p0 fl_RX11_353 rfl rfl dX11_tellNeighbours_169 (fun _ _ => ?_)
              refine GO.icmp_eq (tgt := 198) dX11_tellNeighbours_172 (by decide) vi_ir vi_ir (fun c10750 => ?_) (fun c10750 => ?_)
              ·
                refine GO.iinc (X := i5) (n := 1) (Y := i5 + 1) (ls1 := [some (.ref x), some (.ref p0), some (ti i1), some (ti i2), some (ti i3), some (ti i4), some (ti (i5 + 1)), some (.ref o10713)]) dX11_tellNeighbours_198 rfl rfl rfl rfl ?_
                refine GO.goto (tgt := 13) dX11_tellNeighbours_201 (by decide) ?_
                refine GO.drop [true, true, true, true, true, true, true, false] rfl ?_
                exact ih10672 i1 i2 i3 i4 (i5 + 1) V ⟨by omega, by omega, by omega, by omega, by omega, by omega, by omega, by omega, by omega, by omega, rfl⟩ (by show (2147483647 - (i5 + 1)).toNat < (2147483647 - i5).toNat; omega)
              ·
                refine GO.aload_n dX11_tellNeighbours_175 rfl rfl ?_
                refine GO.getR h_x fl_RX11_12 rfl rfl dX11_tellNeighbours_176 (fun hv10752 h10751 => ?_)
                refine GO.aload_n dX11_tellNeighbours_179 rfl rfl ?_
                refine GO.getI h_p0 fl_RX11_378 rfl rfl dX11_tellNeighbours_180 (fun _ _ => ?_)
                refine GO.aload dX11_tellNeighbours_183 rfl ?_
                refine GO.getI h10714 fl_RX11_344 rfl rfl dX11_tellNeighbours_185 (fun _ _ => ?_)
                refine GO.callV (ci := 0) (N := mX0_far) dX11_tellNeighbours_188 (RX0, TX0, 13) rfl gV_RX11_388 h10751 (t_X0_far h10751 vi_ir vi_ir) rfl [] rfl rfl (Nat.le_of_ble_eq_true rfl) rfl (k_ip fun X10753 r10754 h10755 => ?_)
                refine GO.iconst dX11_tellNeighbours_191 ?_
                refine GO.icmp_gt (tgt := 198) dX11_tellNeighbours_192 (by decide) r10754 (ir_c rfl) (fun c10756 => ?_) (fun c10756 => ?_)
                ·
                  refine GO.iinc (X := i5) (n := 1) (Y := i5 + 1) (ls1 := [some (.ref x), some (.ref p0), some (ti i1), some (ti i2), some (ti i3), some (ti i4), some (ti (i5 + 1)), some (.ref o10713)]) dX11_tellNeighbours_198 rfl rfl rfl rfl ?_
                  refine GO.goto (tgt := 13) dX11_tellNeighbours_201 (by decide) ?_
                  refine GO.drop [true, true, true, true, true, true, true, false] rfl ?_
                  exact ih10672 i1 i2 i3 i4 (i5 + 1) V ⟨by omega, by omega, by omega, by omega, by omega, by omega, by omega, by omega, by omega, by omega, rfl⟩ (by show (2147483647 - (i5 + 1)).toNat < (2147483647 - i5).toNat; omega)
                ·
                  refine GO.iincN (X := i4) (n := 1) dX11_tellNeighbours_195 rfl rfl (fun z10757 r10758 => ?_)
                  show GO mX11_tellNeighbours K V (VS K (fun V1 => (True))) K V 0 0 198 [some (.ref x), some (.ref p0), some (ti i1), some (ti i2), some (ti i3), some (ti z10757), some (ti i5), some (.ref o10713)] []
                  refine GO.iinc (X := i5) (n := 1) (Y := i5 + 1) (ls1 := [some (.ref x), some (.ref p0), some (ti i1), some (ti i2), some (ti i3), some (ti z10757), some (ti (i5 + 1)), some (.ref o10713)]) dX11_tellNeighbours_198 rfl rfl rfl rfl ?_
                  refine GO.goto (tgt := 13) dX11_tellNeighbours_201 (by decide) ?_
                  refine GO.drop [true, true, true, true, true, true, true, false] rfl ?_
                  have q10759 : -2147483648 ≤ z10757 ∧ z10757 ≤ 2147483647 := r10758
                  exact ih10672 i1 i2 i3 z10757 (i5 + 1) V ⟨by omega, by omega, by omega, by omega, by omega, by omega, by omega, by omega, by omega, by omega, rfl⟩ (by show (2147483647 - (i5 + 1)).toNat < (2147483647 - i5).toNat; omega)
          refine GO.icmp_ne (tgt := 154) dX11_tellNeighbours_125 (by decide) vi_ir (ir_c rfl) (fun c10760 => ?_) (fun c10760 => ?_)
          ·
            exact hj10748 
          ·
            refine GO.aload_n dX11_tellNeighbours_128 rfl rfl ?_
            refine GO.getR h_x fl_RX11_12 rfl rfl dX11_tellNeighbours_129 (fun hv10762 h10761 => ?_)
            refine GO.aload_n dX11_tellNeighbours_132 rfl rfl ?_
            refine GO.getI h_p0 fl_RX11_378 rfl rfl dX11_tellNeighbours_133 (fun _ _ => ?_)
            refine GO.aload dX11_tellNeighbours_136 rfl ?_
            refine GO.getI h10714 fl_RX11_344 rfl rfl dX11_tellNeighbours_138 (fun _ _ => ?_)
            refine GO.callV (ci := 0) (N := mX0_far) dX11_tellNeighbours_141 (RX0, TX0, 13) rfl gV_RX11_388 h10761 (t_X0_far h10761 vi_ir vi_ir) rfl [] rfl rfl (Nat.le_of_ble_eq_true rfl) rfl (k_ip fun X10763 r10764 h10765 => ?_)
            refine GO.iconst dX11_tellNeighbours_144 ?_
            refine GO.icmp_gt (tgt := 154) dX11_tellNeighbours_145 (by decide) r10764 (ir_c rfl) (fun c10766 => ?_) (fun c10766 => ?_)
            ·
              exact hj10748 
            ·
              refine GO.iincN (X := i3) (n := 1) dX11_tellNeighbours_148 rfl rfl (fun z10767 r10768 => ?_)
              show GO mX11_tellNeighbours K V (VS K (fun V1 => (True))) K V 0 0 151 [some (.ref x), some (.ref p0), some (ti i1), some (ti i2), some (ti z10767), some (ti i4), some (ti i5), some (.ref o10713)] []
              refine GO.goto (tgt := 198) dX11_tellNeighbours_151 (by decide) ?_
              refine GO.iinc (X := i5) (n := 1) (Y := i5 + 1) (ls1 := [some (.ref x), some (.ref p0), some (ti i1), some (ti i2), some (ti z10767), some (ti i4), some (ti (i5 + 1)), some (.ref o10713)]) dX11_tellNeighbours_198 rfl rfl rfl rfl ?_
              refine GO.goto (tgt := 13) dX11_tellNeighbours_201 (by decide) ?_
              refine GO.drop [true, true, true, true, true, true, true, false] rfl ?_
              have q10769 : -2147483648 ≤ z10767 ∧ z10767 ≤ 2147483647 := r10768
              exact ih10672 i1 i2 z10767 i4 (i5 + 1) V ⟨by omega, by omega, by omega, by omega, by omega, by omega, by omega, by omega, by omega, by omega, rfl⟩ (by show (2147483647 - (i5 + 1)).toNat < (2147483647 - i5).toNat; omega)
        refine GO.icmp_ne (tgt := 119) dX11_tellNeighbours_90 (by decide) vi_ir (ir_c rfl) (fun c10770 => ?_) (fun c10770 => ?_)
        ·
          exact hj10738 
        ·
          refine GO.aload_n dX11_tellNeighbours_93 rfl rfl ?_
          refine GO.getR h_x fl_RX11_12 rfl rfl dX11_tellNeighbours_94 (fun hv10772 h10771 => ?_)
          refine GO.aload_n dX11_tellNeighbours_97 rfl rfl ?_
          refine GO.getI h_p0 fl_RX11_378 rfl rfl dX11_tellNeighbours_98 (fun _ _ => ?_)
          refine GO.aload dX11_tellNeighbours_101 rfl ?_
          refine GO.getI h10714 fl_RX11_344 rfl rfl dX11_tellNeighbours_103 (fun _ _ => ?_)
          refine GO.callV (ci := 0) (N := mX0_far) dX11_tellNeighbours_106 (RX0, TX0, 13) rfl gV_RX11_388 h10771 (t_X0_far h10771 vi_ir vi_ir) rfl [] rfl rfl (Nat.le_of_ble_eq_true rfl) rfl (k_ip fun X10773 r10774 h10775 => ?_)
          refine GO.iconst dX11_tellNeighbours_109 ?_
          refine GO.icmp_gt (tgt := 119) dX11_tellNeighbours_110 (by decide) r10774 (ir_c rfl) (fun c10776 => ?_) (fun c10776 => ?_)
          ·
            exact hj10738 
          ·
            refine GO.iincN (X := i2) (n := 1) dX11_tellNeighbours_113 rfl rfl (fun z10777 r10778 => ?_)
            show GO mX11_tellNeighbours K V (VS K (fun V1 => (True))) K V 0 0 116 [some (.ref x), some (.ref p0), some (ti i1), some (ti z10777), some (ti i3), some (ti i4), some (ti i5), some (.ref o10713)] []
            refine GO.goto (tgt := 198) dX11_tellNeighbours_116 (by decide) ?_
            refine GO.iinc (X := i5) (n := 1) (Y := i5 + 1) (ls1 := [some (.ref x), some (.ref p0), some (ti i1), some (ti z10777), some (ti i3), some (ti i4), some (ti (i5 + 1)), some (.ref o10713)]) dX11_tellNeighbours_198 rfl rfl rfl rfl ?_
            refine GO.goto (tgt := 13) dX11_tellNeighbours_201 (by decide) ?_
            refine GO.drop [true, true, true, true, true, true, true, false] rfl ?_
            have q10779 : -2147483648 ≤ z10777 ∧ z10777 ≤ 2147483647 := r10778
            exact ih10672 i1 z10777 i3 i4 (i5 + 1) V ⟨by omega, by omega, by omega, by omega, by omega, by omega, by omega, by omega, by omega, by omega, rfl⟩ (by show (2147483647 - (i5 + 1)).toNat < (2147483647 - i5).toNat; omega)
      refine GO.icmp_ne (tgt := 84) dX11_tellNeighbours_44 (by decide) vi_ir (ir_c rfl) (fun c10780 => ?_) (fun c10780 => ?_)
      ·
        exact hj10728 
      ·
        refine GO.aload_n dX11_tellNeighbours_47 rfl rfl ?_
        refine GO.getR h_x fl_RX11_12 rfl rfl dX11_tellNeighbours_48 (fun hv10782 h10781 => ?_)
        refine GO.aload_n dX11_tellNeighbours_51 rfl rfl ?_
        refine GO.getI h_p0 fl_RX11_378 rfl rfl dX11_tellNeighbours_52 (fun _ _ => ?_)
        refine GO.aload dX11_tellNeighbours_55 rfl ?_
        refine GO.getI h10714 fl_RX11_344 rfl rfl dX11_tellNeighbours_57 (fun _ _ => ?_)
        refine GO.aload dX11_tellNeighbours_60 rfl ?_
        refine GO.getI h10714 fl_RX11_347 rfl rfl dX11_tellNeighbours_62 (fun _ _ => ?_)
        refine GO.callV (ci := 0) (N := mX0_isWithin) dX11_tellNeighbours_65 (RX0, TX0, 13) rfl gV_RX11_350 h10781 (t_X0_isWithin h10781 vi_ir vi_ir vi_ir) rfl [] rfl rfl (Nat.le_of_ble_eq_true rfl) rfl (k_ip fun X10783 r10784 h10785 => ?_)
        refine GO.if_eq (tgt := 84) dX11_tellNeighbours_68 (by decide) r10784 (fun c10786 => ?_) (fun c10786 => ?_)
        ·
          exact hj10728 
        ·
          refine GO.iload_n dX11_tellNeighbours_71 rfl rfl ?_
          refine GO.aload dX11_tellNeighbours_72 rfl ?_
          refine GO.getI h10714 fl_RX11_176 rfl rfl dX11_tellNeighbours_74 (fun _ _ => ?_)
          refine GO.callS (N := mJ9_max_7cf53) dX11_tellNeighbours_77 gS_RX11_296 (t_J9_max_7cf53 r_i1 vi_ir) rfl [] rfl rfl (Nat.le_of_ble_eq_true rfl) rfl (k_ip fun X10787 r10788 h10789 => ?_)
          have q10790 : -2147483648 ≤ vi V o10713 4 ∧ vi V o10713 4 ≤ 2147483647 := vi_ir
          have q10791 : -2147483648 ≤ X10787 ∧ X10787 ≤ 2147483647 := r10788
          refine GO.istore_n (ls1 := [some (.ref x), some (.ref p0), some (ti X10787), some (ti i2), some (ti i3), some (ti i4), some (ti i5), some (.ref o10713)]) dX11_tellNeighbours_80 rfl rfl rfl ?_
          refine GO.goto (tgt := 198) dX11_tellNeighbours_81 (by decide) ?_
          refine GO.iinc (X := i5) (n := 1) (Y := i5 + 1) (ls1 := [some (.ref x), some (.ref p0), some (ti X10787), some (ti i2), some (ti i3), some (ti i4), some (ti (i5 + 1)), some (.ref o10713)]) dX11_tellNeighbours_198 rfl rfl rfl rfl ?_
          refine GO.goto (tgt := 13) dX11_tellNeighbours_201 (by decide) ?_
          refine GO.drop [true, true, true, true, true, true, true, false] rfl ?_
          exact ih10672 X10787 i2 i3 i4 (i5 + 1) V ⟨by omega, by omega, by omega, by omega, by omega, by omega, by omega, by omega, by omega, by omega, rfl⟩ (by show (2147483647 - (i5 + 1)).toNat < (2147483647 - i5).toNat; omega)

set_option maxHeartbeats 1000000 in
theorem t_X11_decidingOn {K : Kmap} {V : Vmap} {x : Nat} {p0 : Int} (h_x : K x = some (0, 10)) (r_p0 : ir p0) : MC mX11_decidingOn K V [.ref x, ti p0] (IP K V (fun X => True)) := by
  refine MC.start 3 (by decide +kernel) rfl rfl rfl (ls0 := [some (.ref x), some (ti p0), none, none, none]) rfl ?_
  refine GO.iconst dX11_decidingOn_0 ?_
  refine GO.istore_n (ls1 := [some (.ref x), some (ti p0), some (ti 0), none, none]) dX11_decidingOn_1 rfl rfl rfl ?_
  refine GO.iconst dX11_decidingOn_2 ?_
  refine GO.istore_n (ls1 := [some (.ref x), some (ti p0), some (ti 0), some (ti 0), none]) dX11_decidingOn_3 rfl rfl rfl ?_
  refine GO.loop2 (fun i1 i2 W => (-2147483648) ≤ i1 ∧ i1 ≤ 2147483647 ∧ 0 ≤ i2 ∧ i2 ≤ 9 ∧ V = W) (fun i1 i2 => [some (.ref x), some (ti p0), some (ti i1), some (ti i2), none]) (fun i1 i2 W => (2147483647 - i2).toNat) 0 0 ⟨by omega, by omega, by omega, by omega, rfl⟩ rfl (fun i1 i2 V367 hp369 ih368 => ?_)
  obtain ⟨l_i1, u_i1, l_i2, u_i2, rfl⟩ := hp369
  have r_i1 : ir i1 := ⟨by omega, by omega⟩
  have r_i2 : ir i2 := ⟨by omega, by omega⟩
  show GO mX11_decidingOn K V (IP K V (fun X => True)) K V 0 0 4 [some (.ref x), some (ti p0), some (ti i1), some (ti i2), none] []
  refine GO.iload_n dX11_decidingOn_4 rfl rfl ?_
  refine GO.aload_n dX11_decidingOn_5 rfl rfl ?_
  refine GO.getI h_x fl_RX11_36 rfl rfl dX11_decidingOn_6 (fun l370 u371 => ?_)
  refine GO.icmp_ge (tgt := 45) dX11_decidingOn_9 (by decide) r_i2 vi_ir (fun c372 => ?_) (fun c372 => ?_)
  ·
    refine GO.iload_n dX11_decidingOn_45 rfl rfl ?_
    exact GO.reti rfl rfl dX11_decidingOn_46 ⟨rfl, rfl, _, rfl, r_i1, trivial⟩
  ·
    refine GO.aload_n dX11_decidingOn_12 rfl rfl ?_
    refine GO.iload_n dX11_decidingOn_13 rfl rfl ?_
    refine GO.callV (ci := 10) (N := mX11_partyOf) dX11_decidingOn_14 (RX11, TX11, 20) rfl gV_RX11_151 h_x (t_X11_partyOf h_x r_i2) rfl [] rfl rfl (Nat.le_of_ble_eq_true rfl) rfl (k_rp (fun h375 => ?_) (fun o373 h374 h375 => ?_))
    ·
      refine GO.astoreN (ls1 := [some (.ref x), some (ti p0), some (ti i1), some (ti i2), some (.null)]) dX11_decidingOn_17 rfl rfl ?_
      refine GO.aloadN dX11_decidingOn_19 rfl ?_
      refine GO.ifnullN (tgt := 39) dX11_decidingOn_21 (by decide) ?_
      refine GO.iinc (X := i2) (n := 1) (Y := i2 + 1) (ls1 := [some (.ref x), some (ti p0), some (ti i1), some (ti (i2 + 1)), some (.null)]) dX11_decidingOn_39 rfl rfl rfl rfl ?_
      refine GO.goto (tgt := 4) dX11_decidingOn_42 (by decide) ?_
      refine GO.drop [true, true, true, true, false] rfl ?_
      exact ih368 i1 (i2 + 1) V ⟨by omega, by omega, by omega, by omega, rfl⟩ (by show (2147483647 - (i2 + 1)).toNat < (2147483647 - i2).toNat; omega)
    ·
      refine GO.astore (ls1 := [some (.ref x), some (ti p0), some (ti i1), some (ti i2), some (.ref o373)]) dX11_decidingOn_17 rfl rfl ?_
      refine GO.aload dX11_decidingOn_19 rfl ?_
      refine GO.ifnull dX11_decidingOn_21 ?_
      refine GO.aload dX11_decidingOn_24 rfl ?_
      refine GO.iload_n dX11_decidingOn_26 rfl rfl ?_
      refine GO.callV (ci := 2) (N := mX2_decidesOn) dX11_decidingOn_27 (RX2, TX2, 5) rfl gV_RX11_301 h374 (t_X2_decidesOn h374 r_p0) rfl [] rfl rfl (Nat.le_of_ble_eq_true rfl) rfl (k_ip fun X376 r377 h378 => ?_)
      refine GO.if_eq (tgt := 39) dX11_decidingOn_30 (by decide) r377 (fun c379 => ?_) (fun c379 => ?_)
      ·
        refine GO.iinc (X := i2) (n := 1) (Y := i2 + 1) (ls1 := [some (.ref x), some (ti p0), some (ti i1), some (ti (i2 + 1)), some (.ref o373)]) dX11_decidingOn_39 rfl rfl rfl rfl ?_
        refine GO.goto (tgt := 4) dX11_decidingOn_42 (by decide) ?_
        refine GO.drop [true, true, true, true, false] rfl ?_
        exact ih368 i1 (i2 + 1) V ⟨by omega, by omega, by omega, by omega, rfl⟩ (by show (2147483647 - (i2 + 1)).toNat < (2147483647 - i2).toNat; omega)
      ·
        refine GO.iload_n dX11_decidingOn_33 rfl rfl ?_
        refine GO.iconst dX11_decidingOn_34 ?_
        refine GO.iload_n dX11_decidingOn_35 rfl rfl ?_
        refine GO.ishl dX11_decidingOn_36 ?_
        refine GO.ior dX11_decidingOn_37 ?_
        refine GO.name (fun z380 hz381 => ?_)
        have r382 : ir z380 := hz381 ▸ wor_ir
        refine GO.istore_n (ls1 := [some (.ref x), some (ti p0), some (ti z380), some (ti i2), some (.ref o373)]) dX11_decidingOn_38 rfl rfl rfl ?_
        refine GO.iinc (X := i2) (n := 1) (Y := i2 + 1) (ls1 := [some (.ref x), some (ti p0), some (ti z380), some (ti (i2 + 1)), some (.ref o373)]) dX11_decidingOn_39 rfl rfl rfl rfl ?_
        refine GO.goto (tgt := 4) dX11_decidingOn_42 (by decide) ?_
        refine GO.drop [true, true, true, true, false] rfl ?_
        have q383 : -2147483648 ≤ z380 ∧ z380 ≤ 2147483647 := r382
        have q384 : -2147483648 ≤ wor i1 (wshl 1 i2) ∧ wor i1 (wshl 1 i2) ≤ 2147483647 := wor_ir
        exact ih368 z380 (i2 + 1) V ⟨by omega, by omega, by omega, by omega, rfl⟩ (by show (2147483647 - (i2 + 1)).toNat < (2147483647 - i2).toNat; omega)
