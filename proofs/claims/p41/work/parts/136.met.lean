def mX12_planned : MRec := (RX12, cX12_planned, 5, (some .int), yX12_planned, 6, 143, 0, 0, 472824074356733750547348481201723365661188455424059992406226662820966037073673067306302476186697902857695362142961664)
def mX12_report : MRec := (RX12, cX12_report, 5, (some .boolean), yX12_report, 2, 43, 0, 0, 19543395073411661689290403889671232447349193452995614493330787700668102103073053579335880046817019299346113244380004352)
def mX12_known : MRec := (RX12, cX12_known, 7, (some .int), yX12_known, 2, 43, 0, 0, 0)
def mX12_tapeNumber : MRec := (RX12, cX12_tapeNumber, 4, (some .int), yX12_tapeNumber, 0, 0, 0, 0, 0)
def mX12_check : MRec := (RX12, cX12_check, 4, (some .int), yX12_check, 3, 64, 0, 0, 713623846352979940529142984724747568191373312)
def mX12_lookAt : MRec := (RX12, cX12_lookAt, 3, (some .int), yX12_lookAt, 0, 0, 0, 0, 0)
def mX12_look : MRec := (RX12, cX12_look, 3, (some .int), yX12_look, 1, 22, 0, 0, 0)
set_option maxHeartbeats 1000000 in
theorem t_X12_planned {K : Kmap} {V : Vmap} {x : Nat} {p0 : Int} {p1 : Int} {p2 : Int} {p3 : Int} (h_x : K x = some (0, 11)) (r_p0 : ir p0) (r_p1 : ir p1) (r_p2 : ir p2) (r_p3 : ir p3) : MC mX12_planned K V [.ref x, ti p0, ti p1, ti p2, ti p3] (IS K (fun X V1 => True)) := by
  refine MC.start 0 (by decide +kernel) rfl rfl rfl (ls0 := [some (.ref x), some (ti p0), some (ti p1), some (ti p2), some (ti p3)]) rfl ?_
  refine GO.aload_n dX12_planned_0 rfl rfl ?_
  refine GO.iload_n dX12_planned_1 rfl rfl ?_
  refine GO.iload_n dX12_planned_2 rfl rfl ?_
  refine GO.iload_n dX12_planned_3 rfl rfl ?_
  refine GO.callV (ci := 11) (N := mX12_plan) dX12_planned_4 (RX12, TX12, 151) rfl gV_RX12_758 h_x (t_X12_plan h_x r_p0 r_p1 r_p2) rfl [] rfl rfl (Nat.le_of_ble_eq_true rfl) rfl (k_is fun X1 V5 r2 h3 hF4 => ?_)
  refine GO.iconst dX12_planned_7 ?_
  refine GO.icmp_eq (tgt := 25) dX12_planned_8 (by decide) r2 (ir_c rfl) (fun c6 => ?_) (fun c6 => ?_)
  ·
    refine GO.iconst dX12_planned_25 ?_
    exact GO.reti rfl rfl dX12_planned_26 ⟨rfl, _, rfl, (ir_c rfl), trivial⟩
  ·
    refine GO.iload dX12_planned_11 rfl ?_
    refine GO.if_lt (tgt := 25) dX12_planned_13 (by decide) r_p3 (fun c7 => ?_) (fun c7 => ?_)
    ·
      refine GO.iconst dX12_planned_25 ?_
      exact GO.reti rfl rfl dX12_planned_26 ⟨rfl, _, rfl, (ir_c rfl), trivial⟩
    ·
      refine GO.iload dX12_planned_16 rfl ?_
      refine GO.aload_n dX12_planned_18 rfl rfl ?_
      refine GO.getI h_x fl_RX12_736 rfl rfl dX12_planned_19 (fun l8 u9 => ?_)
      refine GO.icmp_lt (tgt := 27) dX12_planned_22 (by decide) r_p3 vi_ir (fun c11 => ?_) (fun c11 => ?_)
      ·
        refine GO.aload_n dX12_planned_27 rfl rfl ?_
        refine GO.getA (n := 8) h_x fl_RX12_343 rfl rfl rfl rfl dX12_planned_28 (fun hv13 h12 => ?_)
        refine GO.iload dX12_planned_31 rfl ?_
        have q14 : -2147483648 ≤ p3 ∧ p3 ≤ 2147483647 := r_p3
        refine GO.iald (t := 116) rfl rfl h12 r_p3 (by omega) (by omega) dX12_planned_33 (fun _ _ => ?_)
        have q16 : -2147483648 ≤ vi V5 (vq V5 x 144) (p3).toNat ∧ vi V5 (vq V5 x 144) (p3).toNat ≤ 2147483647 := vi_ir
        exact GO.reti rfl rfl dX12_planned_34 ⟨rfl, _, rfl, vi_ir, trivial⟩
      ·
        refine GO.iconst dX12_planned_25 ?_
        exact GO.reti rfl rfl dX12_planned_26 ⟨rfl, _, rfl, (ir_c rfl), trivial⟩

set_option maxHeartbeats 1000000 in
theorem t_X12_report {K : Kmap} {V : Vmap} {x : Nat} {p0 : Int} {p1 : Int} {p2 : Int} {p3 : Int} (h_x : K x = some (0, 11)) (r_p0 : ir p0) (r_p1 : ir p1) (r_p2 : ir p2) (r_p3 : ir p3) (z_p3 : p3 = 0 ∨ p3 = 1) : MC mX12_report K V [.ref x, ti p0, ti p1, ti p2, ti p3] (IS K (fun X V1 => (X = 0 ∨ X = 1) ∧ (X ≠ 0 → True) ∧ (X = 0 → True))) := by
  refine MC.start 0 (by decide +kernel) rfl rfl rfl (ls0 := [some (.ref x), some (ti p0), some (ti p1), some (ti p2), some (ti p3)]) rfl ?_
  refine GO.aload_n dX12_report_0 rfl rfl ?_
  refine GO.iload_n dX12_report_1 rfl rfl ?_
  refine GO.callV (ci := 11) (N := mX12_isStation) dX12_report_2 (RX12, TX12, 151) rfl gV_RX12_403 h_x (t_X12_isStation h_x r_p0) rfl [] rfl rfl (Nat.le_of_ble_eq_true rfl) rfl (k_ip fun X1 r2 h3 => ?_)
  have raw_isStation := h3.2.2.2
  have rw2 := h3.2.2.2
  refine GO.if_eq (tgt := 43) dX12_report_5 (by decide) r2 (fun c4 => ?_) (fun c4 => ?_)
  ·
    refine GO.iconst dX12_report_43 ?_
    exact GO.retz rfl rfl dX12_report_44 (Or.inl rfl) ⟨rfl, _, rfl, (ir_c rfl), ⟨Or.inl rfl, fun _ => trivial, fun _ => trivial⟩⟩
  ·
    have q5 := h3.2.1 (by omega)
    refine GO.iload_n dX12_report_8 rfl rfl ?_
    refine GO.iconst dX12_report_9 ?_
    refine GO.aload_n dX12_report_10 rfl rfl ?_
    refine GO.getI h_x fl_RX12_396 rfl rfl dX12_report_11 (fun l6 u7 => ?_)
    refine GO.callS (N := mX12_in) dX12_report_14 gS_RX12_371 (t_X12_in r_p1 (ir_c rfl) vi_ir) rfl [] rfl rfl (Nat.le_of_ble_eq_true rfl) rfl (k_ip fun X8 r9 h10 => ?_)
    have raw_in := h10.2.2.2
    have rw14 := h10.2.2.2
    refine GO.if_eq (tgt := 43) dX12_report_17 (by decide) r9 (fun c11 => ?_) (fun c11 => ?_)
    ·
      have q12 := h10.2.2.1 (by omega)
      refine GO.iconst dX12_report_43 ?_
      exact GO.retz rfl rfl dX12_report_44 (Or.inl rfl) ⟨rfl, _, rfl, (ir_c rfl), ⟨Or.inl rfl, fun _ => trivial, fun _ => trivial⟩⟩
    ·
      have q13 := h10.2.1 (by omega)
      refine GO.iload_n dX12_report_20 rfl rfl ?_
      refine GO.sipush dX12_report_21 rfl ?_
      refine GO.ldcw (X := 1000000) dX12_report_24 gw_2291 rfl ?_
      refine GO.callS (N := mX12_in) dX12_report_27 gS_RX12_371 (t_X12_in r_p2 (ir_c rfl) (ir_c rfl)) rfl [] rfl rfl (Nat.le_of_ble_eq_true rfl) rfl (k_ip fun X14 r15 h16 => ?_)
      have raw_in := h16.2.2.2
      have rw27 := h16.2.2.2
      refine GO.if_eq (tgt := 43) dX12_report_30 (by decide) r15 (fun c17 => ?_) (fun c17 => ?_)
      ·
        have q18 := h16.2.2.1 (by omega)
        refine GO.iconst dX12_report_43 ?_
        exact GO.retz rfl rfl dX12_report_44 (Or.inl rfl) ⟨rfl, _, rfl, (ir_c rfl), ⟨Or.inl rfl, fun _ => trivial, fun _ => trivial⟩⟩
      ·
        have q19 := h16.2.1 (by omega)
        refine GO.aload_n dX12_report_33 rfl rfl ?_
        refine GO.getI h_x fl_RX12_761 rfl rfl dX12_report_34 (fun l20 u21 => ?_)
        refine GO.sipush dX12_report_37 rfl ?_
        refine GO.icmp_ne (tgt := 45) dX12_report_40 (by decide) vi_ir (ir_c rfl) (fun c22 => ?_) (fun c22 => ?_)
        ·
          refine GO.aload_n dX12_report_45 rfl rfl ?_
          refine GO.getA (n := 200) h_x fl_RX12_346 rfl rfl rfl rfl dX12_report_46 (fun hv24 h23 => ?_)
          refine GO.aload_n dX12_report_49 rfl rfl ?_
          refine GO.getI h_x fl_RX12_761 rfl rfl dX12_report_50 (fun l25 u26 => ?_)
          refine GO.iload_n dX12_report_53 rfl rfl ?_
          refine GO.iast (t := 117) rfl rfl (by decide +kernel) h23 vi_ir (by omega) (by omega) r_p0 (r_p0).1 (r_p0).2 dX12_report_54 (fun V28 e27 => ?_)
          refine GO.aload_n dX12_report_55 rfl rfl ?_
          refine GO.getA (n := 200) h_x fl_RX12_349 rfl rfl rfl rfl dX12_report_56 (fun hv30 h29 => ?_)
          refine GO.aload_n dX12_report_59 rfl rfl ?_
          refine GO.getI h_x fl_RX12_761 rfl rfl dX12_report_60 (fun l31 u32 => ?_)
          have e33 : vi V28 x 145 = vi V x 145 := vi_up e27 (Or.inl (K_ne h_x h23 (by decide)))
          refine GO.iload_n dX12_report_63 rfl rfl ?_
          refine GO.iast (t := 118) rfl rfl (by decide +kernel) h29 vi_ir (by omega) (by omega) r_p1 (r_p1).1 (r_p1).2 dX12_report_64 (fun V35 e34 => ?_)
          refine GO.aload_n dX12_report_65 rfl rfl ?_
          refine GO.getA (n := 200) h_x fl_RX12_352 rfl rfl rfl rfl dX12_report_66 (fun hv37 h36 => ?_)
          refine GO.aload_n dX12_report_69 rfl rfl ?_
          refine GO.getI h_x fl_RX12_761 rfl rfl dX12_report_70 (fun l38 u39 => ?_)
          have e40 : vi V35 x 145 = vi V28 x 145 := vi_up e34 (Or.inl (K_ne h_x h29 (by decide)))
          refine GO.iload_n dX12_report_73 rfl rfl ?_
          refine GO.iast (t := 119) rfl rfl (by decide +kernel) h36 vi_ir (by omega) (by omega) r_p2 (r_p2).1 (r_p2).2 dX12_report_74 (fun V42 e41 => ?_)
          refine GO.aload_n dX12_report_75 rfl rfl ?_
          refine GO.getA (n := 200) h_x fl_RX12_355 rfl rfl rfl rfl dX12_report_76 (fun hv44 h43 => ?_)
          refine GO.aload_n dX12_report_79 rfl rfl ?_
          refine GO.getI h_x fl_RX12_761 rfl rfl dX12_report_80 (fun l45 u46 => ?_)
          have e47 : vi V42 x 145 = vi V35 x 145 := vi_up e41 (Or.inl (K_ne h_x h36 (by decide)))
          refine GO.aload_n dX12_report_83 rfl rfl ?_
          refine GO.getI h_x fl_RX12_396 rfl rfl dX12_report_84 (fun l48 u49 => ?_)
          have e52 : vi V28 x 2 = vi V x 2 := vi_up e27 (Or.inl (K_ne h_x h23 (by decide)))
          have e51 : vi V35 x 2 = vi V28 x 2 := vi_up e34 (Or.inl (K_ne h_x h29 (by decide)))
          have e50 : vi V42 x 2 = vi V35 x 2 := vi_up e41 (Or.inl (K_ne h_x h36 (by decide)))
          refine GO.iast (t := 120) rfl rfl (by decide +kernel) h43 vi_ir (by omega) (by omega) vi_ir (vi_ir).1 (vi_ir).2 dX12_report_87 (fun V54 e53 => ?_)
          refine GO.aload_n dX12_report_88 rfl rfl ?_
          refine GO.getA (n := 200) h_x fl_RX12_358 rfl rfl rfl rfl dX12_report_89 (fun hv56 h55 => ?_)
          refine GO.aload_n dX12_report_92 rfl rfl ?_
          refine GO.getI h_x fl_RX12_761 rfl rfl dX12_report_93 (fun l57 u58 => ?_)
          have e59 : vi V54 x 145 = vi V42 x 145 := vi_up e53 (Or.inl (K_ne h_x h43 (by decide)))
          refine GO.iload dX12_report_96 rfl ?_
          refine GO.zast (t := 121) rfl rfl (by decide +kernel) h55 vi_ir (by omega) (by omega) (by omega) (by omega) (by omega) dX12_report_98 (fun V61 e60 => ?_)
          refine GO.aload_n dX12_report_99 rfl rfl ?_
          refine GO.aload_n dX12_report_100 rfl rfl ?_
          refine GO.getI h_x fl_RX12_761 rfl rfl dX12_report_101 (fun l62 u63 => ?_)
          have e64 : vi V61 x 145 = vi V54 x 145 := vi_up e60 (Or.inl (K_ne h_x h55 (by decide)))
          refine GO.iconst dX12_report_104 ?_
          refine GO.iadd dX12_report_105 ?_
          refine GO.putI h_x fp_RX12_761 rfl (by decide +kernel) ⟨by omega, by omega⟩ (by omega) (by omega) dX12_report_106 (fun V66 e65 => ?_)
          refine GO.iconst dX12_report_109 ?_
          exact GO.retz rfl rfl dX12_report_110 (Or.inr rfl) ⟨rfl, _, rfl, (ir_c rfl), ⟨Or.inr rfl, fun _ => trivial, fun _ => trivial⟩⟩
        ·
          refine GO.iconst dX12_report_43 ?_
          exact GO.retz rfl rfl dX12_report_44 (Or.inl rfl) ⟨rfl, _, rfl, (ir_c rfl), ⟨Or.inl rfl, fun _ => trivial, fun _ => trivial⟩⟩

set_option maxHeartbeats 1000000 in
theorem t_X12_known {K : Kmap} {V : Vmap} {x : Nat} {p0 : Int} {p1 : Int} {p2 : Int} (h_x : K x = some (0, 11)) (r_p0 : ir p0) (r_p1 : ir p1) (r_p2 : ir p2) : MC mX12_known K V [.ref x, ti p0, ti p1, ti p2] (IP K V (fun X => True)) := by
  refine MC.start 3 (by decide +kernel) rfl rfl rfl (ls0 := [some (.ref x), some (ti p0), some (ti p1), some (ti p2), none, none, none]) rfl ?_
  refine GO.aload_n dX12_known_0 rfl rfl ?_
  refine GO.iload_n dX12_known_1 rfl rfl ?_
  refine GO.callV (ci := 11) (N := mX12_isStation) dX12_known_2 (RX12, TX12, 151) rfl gV_RX12_403 h_x (t_X12_isStation h_x r_p0) rfl [] rfl rfl (Nat.le_of_ble_eq_true rfl) rfl (k_ip fun X1 r2 h3 => ?_)
  have raw_isStation := h3.2.2.2
  have rw2 := h3.2.2.2
  refine GO.if_eq (tgt := 22) dX12_known_5 (by decide) r2 (fun c4 => ?_) (fun c4 => ?_)
  ·
    refine GO.ldcw (X := (-1000001)) dX12_known_22 gw_2507 rfl ?_
    exact GO.reti rfl rfl dX12_known_25 ⟨rfl, rfl, _, rfl, (ir_c rfl), trivial⟩
  ·
    have q5 := h3.2.1 (by omega)
    refine GO.iload_n dX12_known_8 rfl rfl ?_
    refine GO.callS (N := mX12_isDay) dX12_known_9 gS_RX12_409 (t_X12_isDay r_p1) rfl [] rfl rfl (Nat.le_of_ble_eq_true rfl) rfl (k_ip fun X6 r7 h8 => ?_)
    refine GO.if_eq (tgt := 22) dX12_known_12 (by decide) r7 (fun c9 => ?_) (fun c9 => ?_)
    ·
      have q10 := h8.2.2 (by omega)
      refine GO.ldcw (X := (-1000001)) dX12_known_22 gw_2507 rfl ?_
      exact GO.reti rfl rfl dX12_known_25 ⟨rfl, rfl, _, rfl, (ir_c rfl), trivial⟩
    ·
      have q11 := h8.2.1 (by omega)
      refine GO.iload_n dX12_known_15 rfl rfl ?_
      refine GO.callS (N := mX12_isDay) dX12_known_16 gS_RX12_409 (t_X12_isDay r_p2) rfl [] rfl rfl (Nat.le_of_ble_eq_true rfl) rfl (k_ip fun X12 r13 h14 => ?_)
      refine GO.if_ne (tgt := 26) dX12_known_19 (by decide) r13 (fun c15 => ?_) (fun c15 => ?_)
      ·
        have q16 := h14.2.1 (by omega)
        refine GO.iconst dX12_known_26 ?_
        refine GO.istore (ls1 := [some (.ref x), some (ti p0), some (ti p1), some (ti p2), some (ti (-1)), none, none]) dX12_known_27 rfl rfl ?_
        refine GO.iconst dX12_known_29 ?_
        refine GO.istore (ls1 := [some (.ref x), some (ti p0), some (ti p1), some (ti p2), some (ti (-1)), some (ti (-1)), none]) dX12_known_30 rfl rfl ?_
        refine GO.iconst dX12_known_32 ?_
        refine GO.istore (ls1 := [some (.ref x), some (ti p0), some (ti p1), some (ti p2), some (ti (-1)), some (ti (-1)), some (ti 0)]) dX12_known_33 rfl rfl ?_
        refine GO.loop3 (fun i17 i18 i19 W => (-1) ≤ i17 ∧ i17 ≤ 199 ∧ (-1) ≤ i18 ∧ i18 ≤ 199 ∧ 0 ≤ i19 ∧ i19 ≤ 200 ∧ V = W) (fun i17 i18 i19 => [some (.ref x), some (ti p0), some (ti p1), some (ti p2), some (ti i17), some (ti i18), some (ti i19)]) (fun i17 i18 i19 W => (2147483647 - i19).toNat) (-1) (-1) 0 ⟨by omega, by omega, by omega, by omega, by omega, by omega, rfl⟩ rfl (fun i17 i18 i19 V1127 hp1129 ih1128 => ?_)
        obtain ⟨l_i17, u_i17, l_i18, u_i18, l_i19, u_i19, rfl⟩ := hp1129
        have r_i17 : ir i17 := ⟨by omega, by omega⟩
        have r_i18 : ir i18 := ⟨by omega, by omega⟩
        have r_i19 : ir i19 := ⟨by omega, by omega⟩
        show GO mX12_known K V (IP K V (fun X => True)) K V 0 0 35 [some (.ref x), some (ti p0), some (ti p1), some (ti p2), some (ti i17), some (ti i18), some (ti i19)] []
        refine GO.iload dX12_known_35 rfl ?_
        refine GO.aload_n dX12_known_37 rfl rfl ?_
        refine GO.getI h_x fl_RX12_761 rfl rfl dX12_known_38 (fun l1130 u1131 => ?_)
        refine GO.icmp_ge (tgt := 138) dX12_known_41 (by decide) r_i19 vi_ir (fun c1132 => ?_) (fun c1132 => ?_)
        ·
          refine GO.iload dX12_known_138 rfl ?_
          refine GO.iconst dX12_known_140 ?_
          refine GO.icmp_eq (tgt := 162) dX12_known_141 (by decide) r_i17 (ir_c rfl) (fun c1133 => ?_) (fun c1133 => ?_)
          ·
            refine GO.iload dX12_known_162 rfl ?_
            refine GO.iconst dX12_known_164 ?_
            refine GO.icmp_ne (tgt := 174) dX12_known_165 (by decide) r_i18 (ir_c rfl) (fun c1134 => ?_) (fun c1134 => ?_)
            ·
              refine GO.aload_n dX12_known_174 rfl rfl ?_
              refine GO.getA (n := 200) h_x fl_RX12_352 rfl rfl rfl rfl dX12_known_175 (fun hv1136 h1135 => ?_)
              refine GO.iload dX12_known_178 rfl ?_
              refine GO.iald (t := 119) rfl rfl h1135 r_i18 (by omega) (by omega) dX12_known_180 (fun _ _ => ?_)
              have q1137 : -2147483648 ≤ vi V (vq V x 148) (i18).toNat ∧ vi V (vq V x 148) (i18).toNat ≤ 2147483647 := vi_ir
              exact GO.reti rfl rfl dX12_known_181 ⟨rfl, rfl, _, rfl, vi_ir, trivial⟩
            ·
              refine GO.ldcw (X := (-1000001)) dX12_known_168 gw_2507 rfl ?_
              refine GO.goto (tgt := 181) dX12_known_171 (by decide) ?_
              exact GO.reti rfl rfl dX12_known_181 ⟨rfl, rfl, _, rfl, (ir_c rfl), trivial⟩
          ·
            refine GO.aload_n dX12_known_144 rfl rfl ?_
            refine GO.getA (n := 200) h_x fl_RX12_358 rfl rfl rfl rfl dX12_known_145 (fun hv1139 h1138 => ?_)
            refine GO.iload dX12_known_148 rfl ?_
            refine GO.zald (t := 121) rfl rfl h1138 r_i17 (by omega) (by omega) dX12_known_150 (fun l1140 u1141 => ?_)
            refine GO.if_eq (tgt := 162) dX12_known_151 (by decide) vi_ir (fun c1142 => ?_) (fun c1142 => ?_)
            ·
              refine GO.iload dX12_known_162 rfl ?_
              refine GO.iconst dX12_known_164 ?_
              refine GO.icmp_ne (tgt := 174) dX12_known_165 (by decide) r_i18 (ir_c rfl) (fun c1143 => ?_) (fun c1143 => ?_)
              ·
                refine GO.aload_n dX12_known_174 rfl rfl ?_
                refine GO.getA (n := 200) h_x fl_RX12_352 rfl rfl rfl rfl dX12_known_175 (fun hv1145 h1144 => ?_)
                refine GO.iload dX12_known_178 rfl ?_
                refine GO.iald (t := 119) rfl rfl h1144 r_i18 (by omega) (by omega) dX12_known_180 (fun _ _ => ?_)
                have q1146 : -2147483648 ≤ vi V (vq V x 148) (i18).toNat ∧ vi V (vq V x 148) (i18).toNat ≤ 2147483647 := vi_ir
                exact GO.reti rfl rfl dX12_known_181 ⟨rfl, rfl, _, rfl, vi_ir, trivial⟩
              ·
                refine GO.ldcw (X := (-1000001)) dX12_known_168 gw_2507 rfl ?_
                refine GO.goto (tgt := 181) dX12_known_171 (by decide) ?_
                exact GO.reti rfl rfl dX12_known_181 ⟨rfl, rfl, _, rfl, (ir_c rfl), trivial⟩
            ·
              refine GO.aload_n dX12_known_154 rfl rfl ?_
              refine GO.getA (n := 200) h_x fl_RX12_352 rfl rfl rfl rfl dX12_known_155 (fun hv1148 h1147 => ?_)
              refine GO.iload dX12_known_158 rfl ?_
              refine GO.iald (t := 119) rfl rfl h1147 r_i17 (by omega) (by omega) dX12_known_160 (fun _ _ => ?_)
              have q1149 : -2147483648 ≤ vi V (vq V x 148) (i17).toNat ∧ vi V (vq V x 148) (i17).toNat ≤ 2147483647 := vi_ir
              exact GO.reti rfl rfl dX12_known_161 ⟨rfl, rfl, _, rfl, vi_ir, trivial⟩
        ·
          refine GO.aload_n dX12_known_44 rfl rfl ?_
          refine GO.getA (n := 200) h_x fl_RX12_346 rfl rfl rfl rfl dX12_known_45 (fun hv1151 h1150 => ?_)
          refine GO.iload dX12_known_48 rfl ?_
          refine GO.iald (t := 117) rfl rfl h1150 r_i19 (by omega) (by omega) dX12_known_50 (fun _ _ => ?_)
          refine GO.iload_n dX12_known_51 rfl rfl ?_
          refine GO.icmp_ne (tgt := 132) dX12_known_52 (by decide) vi_ir r_p0 (fun c1152 => ?_) (fun c1152 => ?_)
          ·
            refine GO.iinc (X := i19) (n := 1) (Y := i19 + 1) (ls1 := [some (.ref x), some (ti p0), some (ti p1), some (ti p2), some (ti i17), some (ti i18), some (ti (i19 + 1))]) dX12_known_132 rfl rfl rfl rfl ?_
            refine GO.goto (tgt := 35) dX12_known_135 (by decide) ?_
            exact ih1128 i17 i18 (i19 + 1) V ⟨by omega, by omega, by omega, by omega, by omega, by omega, rfl⟩ (by show (2147483647 - (i19 + 1)).toNat < (2147483647 - i19).toNat; omega)
          ·
            refine GO.aload_n dX12_known_55 rfl rfl ?_
            refine GO.getA (n := 200) h_x fl_RX12_355 rfl rfl rfl rfl dX12_known_56 (fun hv1154 h1153 => ?_)
            refine GO.iload dX12_known_59 rfl ?_
            refine GO.iald (t := 120) rfl rfl h1153 r_i19 (by omega) (by omega) dX12_known_61 (fun _ _ => ?_)
            refine GO.iload_n dX12_known_62 rfl rfl ?_
            refine GO.icmp_le (tgt := 69) dX12_known_63 (by decide) vi_ir r_p2 (fun c1155 => ?_) (fun c1155 => ?_)
            ·
              refine GO.aload_n dX12_known_69 rfl rfl ?_
              refine GO.getA (n := 200) h_x fl_RX12_349 rfl rfl rfl rfl dX12_known_70 (fun hv1157 h1156 => ?_)
              refine GO.iload dX12_known_73 rfl ?_
              refine GO.iald (t := 118) rfl rfl h1156 r_i19 (by omega) (by omega) dX12_known_75 (fun _ _ => ?_)
              refine GO.iload_n dX12_known_76 rfl rfl ?_
              have hj1160 : ∀ (z1159 : Int), ∀ (l1161 : (-1) ≤ z1159), ∀ (u1162 : z1159 ≤ 199), GO mX12_known K V (IP K V (fun X => True)) K V 0 0 84 [some (.ref x), some (ti p0), some (ti p1), some (ti p2), some (ti z1159), some (ti i18), some (ti i19)] [] := by
                intro z1159 l1161 u1162
                have r1163 : ir z1159 := ⟨by omega, by omega⟩
                refine GO.aload_n dX12_known_84 rfl rfl ?_
                refine GO.getRaw h_x fl_RX12_349 hv1157 dX12_known_85 ?_
                refine GO.iload dX12_known_88 rfl ?_
                refine GO.iald (t := 118) rfl rfl h1156 r_i19 (by omega) (by omega) dX12_known_90 (fun _ _ => ?_)
                refine GO.iload_n dX12_known_91 rfl rfl ?_
                refine GO.icmp_ge (tgt := 132) dX12_known_92 (by decide) vi_ir r_p1 (fun c1166 => ?_) (fun c1166 => ?_)
                ·
                  refine GO.iinc (X := i19) (n := 1) (Y := i19 + 1) (ls1 := [some (.ref x), some (ti p0), some (ti p1), some (ti p2), some (ti z1159), some (ti i18), some (ti (i19 + 1))]) dX12_known_132 rfl rfl rfl rfl ?_
                  refine GO.goto (tgt := 35) dX12_known_135 (by decide) ?_
                  exact ih1128 z1159 i18 (i19 + 1) V ⟨by omega, by omega, by omega, by omega, by omega, by omega, rfl⟩ (by show (2147483647 - (i19 + 1)).toNat < (2147483647 - i19).toNat; omega)
                ·
                  refine GO.aload_n dX12_known_95 rfl rfl ?_
                  refine GO.getA (n := 200) h_x fl_RX12_358 rfl rfl rfl rfl dX12_known_96 (fun hv1168 h1167 => ?_)
                  refine GO.iload dX12_known_99 rfl ?_
                  refine GO.zald (t := 121) rfl rfl h1167 r_i19 (by omega) (by omega) dX12_known_101 (fun l1169 u1170 => ?_)
                  refine GO.if_eq (tgt := 132) dX12_known_102 (by decide) vi_ir (fun c1171 => ?_) (fun c1171 => ?_)
                  ·
                    refine GO.iinc (X := i19) (n := 1) (Y := i19 + 1) (ls1 := [some (.ref x), some (ti p0), some (ti p1), some (ti p2), some (ti z1159), some (ti i18), some (ti (i19 + 1))]) dX12_known_132 rfl rfl rfl rfl ?_
                    refine GO.goto (tgt := 35) dX12_known_135 (by decide) ?_
                    exact ih1128 z1159 i18 (i19 + 1) V ⟨by omega, by omega, by omega, by omega, by omega, by omega, rfl⟩ (by show (2147483647 - (i19 + 1)).toNat < (2147483647 - i19).toNat; omega)
                  ·
                    refine GO.iload dX12_known_105 rfl ?_
                    refine GO.iconst dX12_known_107 ?_
                    refine GO.icmp_eq (tgt := 128) dX12_known_108 (by decide) r_i18 (ir_c rfl) (fun c1172 => ?_) (fun c1172 => ?_)
                    ·
                      refine GO.iload dX12_known_128 rfl ?_
                      refine GO.istore (ls1 := [some (.ref x), some (ti p0), some (ti p1), some (ti p2), some (ti z1159), some (ti i19), some (ti i19)]) dX12_known_130 rfl rfl ?_
                      refine GO.iinc (X := i19) (n := 1) (Y := i19 + 1) (ls1 := [some (.ref x), some (ti p0), some (ti p1), some (ti p2), some (ti z1159), some (ti i19), some (ti (i19 + 1))]) dX12_known_132 rfl rfl rfl rfl ?_
                      refine GO.goto (tgt := 35) dX12_known_135 (by decide) ?_
                      exact ih1128 z1159 i19 (i19 + 1) V ⟨by omega, by omega, by omega, by omega, by omega, by omega, rfl⟩ (by show (2147483647 - (i19 + 1)).toNat < (2147483647 - i19).toNat; omega)
                    ·
                      refine GO.aload_n dX12_known_111 rfl rfl ?_
                      refine GO.getRaw h_x fl_RX12_349 hv1157 dX12_known_112 ?_
                      refine GO.iload dX12_known_115 rfl ?_
                      refine GO.iald (t := 118) rfl rfl h1156 r_i19 (by omega) (by omega) dX12_known_117 (fun _ _ => ?_)
                      refine GO.aload_n dX12_known_118 rfl rfl ?_
                      refine GO.getRaw h_x fl_RX12_349 hv1157 dX12_known_119 ?_
                      refine GO.iload dX12_known_122 rfl ?_
                      refine GO.iald (t := 118) rfl rfl h1156 r_i18 (by omega) (by omega) dX12_known_124 (fun _ _ => ?_)
                      refine GO.icmp_lt (tgt := 132) dX12_known_125 (by decide) vi_ir vi_ir (fun c1177 => ?_) (fun c1177 => ?_)
                      ·
                        refine GO.iinc (X := i19) (n := 1) (Y := i19 + 1) (ls1 := [some (.ref x), some (ti p0), some (ti p1), some (ti p2), some (ti z1159), some (ti i18), some (ti (i19 + 1))]) dX12_known_132 rfl rfl rfl rfl ?_
                        refine GO.goto (tgt := 35) dX12_known_135 (by decide) ?_
                        exact ih1128 z1159 i18 (i19 + 1) V ⟨by omega, by omega, by omega, by omega, by omega, by omega, rfl⟩ (by show (2147483647 - (i19 + 1)).toNat < (2147483647 - i19).toNat; omega)
                      ·
                        refine GO.iload dX12_known_128 rfl ?_
                        refine GO.istore (ls1 := [some (.ref x), some (ti p0), some (ti p1), some (ti p2), some (ti z1159), some (ti i19), some (ti i19)]) dX12_known_130 rfl rfl ?_
                        refine GO.iinc (X := i19) (n := 1) (Y := i19 + 1) (ls1 := [some (.ref x), some (ti p0), some (ti p1), some (ti p2), some (ti z1159), some (ti i19), some (ti (i19 + 1))]) dX12_known_132 rfl rfl rfl rfl ?_
                        refine GO.goto (tgt := 35) dX12_known_135 (by decide) ?_
                        exact ih1128 z1159 i19 (i19 + 1) V ⟨by omega, by omega, by omega, by omega, by omega, by omega, rfl⟩ (by show (2147483647 - (i19 + 1)).toNat < (2147483647 - i19).toNat; omega)
              refine GO.icmp_ne (tgt := 84) dX12_known_77 (by decide) vi_ir r_p1 (fun c1178 => ?_) (fun c1178 => ?_)
              ·
                exact hj1160 i17 (by omega) (by omega)
              ·
                refine GO.iload dX12_known_80 rfl ?_
                refine GO.istore (ls1 := [some (.ref x), some (ti p0), some (ti p1), some (ti p2), some (ti i19), some (ti i18), some (ti i19)]) dX12_known_82 rfl rfl ?_
                exact hj1160 i19 (by omega) (by omega)
            ·
              refine GO.goto (tgt := 132) dX12_known_66 (by decide) ?_
              refine GO.iinc (X := i19) (n := 1) (Y := i19 + 1) (ls1 := [some (.ref x), some (ti p0), some (ti p1), some (ti p2), some (ti i17), some (ti i18), some (ti (i19 + 1))]) dX12_known_132 rfl rfl rfl rfl ?_
              refine GO.goto (tgt := 35) dX12_known_135 (by decide) ?_
              exact ih1128 i17 i18 (i19 + 1) V ⟨by omega, by omega, by omega, by omega, by omega, by omega, rfl⟩ (by show (2147483647 - (i19 + 1)).toNat < (2147483647 - i19).toNat; omega)
      ·
        have q1179 := h14.2.2 (by omega)
        refine GO.ldcw (X := (-1000001)) dX12_known_22 gw_2507 rfl ?_
        exact GO.reti rfl rfl dX12_known_25 ⟨rfl, rfl, _, rfl, (ir_c rfl), trivial⟩

set_option maxHeartbeats 1000000 in
theorem t_X12_tapeNumber {K : Kmap} {V : Vmap} {x : Nat} {p0 : Int} (h_x : K x = some (0, 11)) (r_p0 : ir p0) (q_0 : p0 ≥ 0) (q_1 : p0 ≤ 99) : MC mX12_tapeNumber K V [.ref x, ti p0] (IP K V (fun X => True)) := by
  refine MC.start 2 (by decide +kernel) rfl rfl rfl (ls0 := [some (.ref x), some (ti p0), none, none]) rfl ?_
  refine GO.iconst dX12_tapeNumber_0 ?_
  refine GO.istore_n (ls1 := [some (.ref x), some (ti p0), some (ti 0), none]) dX12_tapeNumber_1 rfl rfl rfl ?_
  refine GO.iconst dX12_tapeNumber_2 ?_
  refine GO.iload_n dX12_tapeNumber_3 rfl rfl ?_
  refine GO.imul dX12_tapeNumber_4 ?_
  refine GO.name (fun z1 hz2 => ?_)
  refine GO.istore_n (ls1 := [some (.ref x), some (ti p0), some (ti 0), some (ti z1)]) dX12_tapeNumber_5 rfl rfl rfl ?_
  have q266 : -2147483648 ≤ p0 ∧ p0 ≤ 2147483647 := r_p0
  refine GO.loop2 (fun i3 i4 W => (-2147483648) ≤ i3 ∧ i3 ≤ 2147483647 ∧ 0 ≤ i4 ∧ i4 ≤ 400 ∧ V = W) (fun i3 i4 => [some (.ref x), some (ti p0), some (ti i3), some (ti i4)]) (fun i3 i4 W => (2147483647 - i4).toNat) 0 z1 ⟨by omega, by omega, by omega, by omega, rfl⟩ rfl (fun i3 i4 V265 hp268 ih267 => ?_)
  obtain ⟨l_i3, u_i3, l_i4, u_i4, rfl⟩ := hp268
  have r_i3 : ir i3 := ⟨by omega, by omega⟩
  have r_i4 : ir i4 := ⟨by omega, by omega⟩
  show GO mX12_tapeNumber K V (IP K V (fun X => True)) K V 0 0 6 [some (.ref x), some (ti p0), some (ti i3), some (ti i4)] []
  refine GO.iload_n dX12_tapeNumber_6 rfl rfl ?_
  refine GO.iconst dX12_tapeNumber_7 ?_
  refine GO.iload_n dX12_tapeNumber_8 rfl rfl ?_
  refine GO.imul dX12_tapeNumber_9 ?_
  refine GO.iconst dX12_tapeNumber_10 ?_
  refine GO.iadd dX12_tapeNumber_11 ?_
  have q269 : -2147483648 ≤ p0 ∧ p0 ≤ 2147483647 := r_p0
  refine GO.icmp_ge (tgt := 37) dX12_tapeNumber_12 (by decide) r_i4 ⟨by omega, by omega⟩ (fun c270 => ?_) (fun c270 => ?_)
  ·
    refine GO.iload_n dX12_tapeNumber_37 rfl rfl ?_
    exact GO.reti rfl rfl dX12_tapeNumber_38 ⟨rfl, rfl, _, rfl, r_i3, trivial⟩
  ·
    refine GO.iload_n dX12_tapeNumber_15 rfl rfl ?_
    refine GO.bipush dX12_tapeNumber_16 rfl ?_
    refine GO.ishl dX12_tapeNumber_18 ?_
    refine GO.aload_n dX12_tapeNumber_19 rfl rfl ?_
    refine GO.getA (n := 400) h_x fl_RX12_84 rfl rfl rfl rfl dX12_tapeNumber_20 (fun hv272 h271 => ?_)
    refine GO.iload_n dX12_tapeNumber_23 rfl rfl ?_
    refine GO.bald (t := 31) rfl rfl h271 r_i4 (by omega) (by omega) dX12_tapeNumber_24 (fun l273 u274 => ?_)
    refine GO.sipush dX12_tapeNumber_25 rfl ?_
    refine GO.iand dX12_tapeNumber_28 ?_
    have h275 := wand_rng (X := vi V (vq V x 29) (i4).toNat)
    refine GO.ior dX12_tapeNumber_29 ?_
    refine GO.name (fun z276 hz277 => ?_)
    have r278 : ir z276 := hz277 ▸ wor_ir
    refine GO.istore_n (ls1 := [some (.ref x), some (ti p0), some (ti z276), some (ti i4)]) dX12_tapeNumber_30 rfl rfl rfl ?_
    refine GO.iinc (X := i4) (n := 1) (Y := i4 + 1) (ls1 := [some (.ref x), some (ti p0), some (ti z276), some (ti (i4 + 1))]) dX12_tapeNumber_31 rfl rfl rfl rfl ?_
    refine GO.goto (tgt := 6) dX12_tapeNumber_34 (by decide) ?_
    have q279 : -2147483648 ≤ z276 ∧ z276 ≤ 2147483647 := r278
    have q280 : -2147483648 ≤ wor (wshl i3 8) (wand (vi V (vq V x 29) (i4).toNat) 255) ∧ wor (wshl i3 8) (wand (vi V (vq V x 29) (i4).toNat) 255) ≤ 2147483647 := wor_ir
    exact ih267 z276 (i4 + 1) V ⟨by omega, by omega, by omega, by omega, rfl⟩ (by show (2147483647 - (i4 + 1)).toNat < (2147483647 - i4).toNat; omega)

set_option maxHeartbeats 1000000 in
theorem t_X12_check {K : Kmap} {V : Vmap} {x : Nat} {p0 : Int} (h_x : K x = some (0, 11)) (r_p0 : ir p0) : MC mX12_check K V [.ref x, ti p0] (IS K (fun X V1 => (X ≥ (-2147483648) ∧ X ≤ 2147483647) ∧ (MKC V V1 x p0))) := by
  refine MC.start 2 (by decide +kernel) rfl rfl rfl (ls0 := [some (.ref x), some (ti p0), none, none]) rfl ?_
  refine GO.iload_n dX12_check_0 rfl rfl ?_
  refine GO.if_lt (tgt := 15) dX12_check_1 (by decide) r_p0 (fun c1 => ?_) (fun c1 => ?_)
  ·
    refine GO.bipush dX12_check_15 rfl ?_
    exact GO.reti rfl rfl dX12_check_17 ⟨rfl, _, rfl, (ir_c rfl), ⟨(by first | exact trivial | omega), (by first | exact MKC.no (by omega) | exact Or.inr ⟨by omega, by omega, by omega⟩)⟩⟩
  ·
    refine GO.iload_n dX12_check_4 rfl rfl ?_
    refine GO.aload_n dX12_check_5 rfl rfl ?_
    refine GO.getI h_x fl_RX12_436 rfl rfl dX12_check_6 (fun l2 u3 => ?_)
    refine GO.bipush dX12_check_9 rfl ?_
    refine GO.idivP dX12_check_11 vi_ir (ir_c rfl) (by omega) (by omega) ?_
    refine GO.icmp_le (tgt := 18) dX12_check_12 (by decide) r_p0 ⟨by omega, by omega⟩ (fun c4 => ?_) (fun c4 => ?_)
    ·
      refine GO.aload_n dX12_check_18 rfl rfl ?_
      refine GO.iconst dX12_check_19 ?_
      refine GO.putI h_x fp_RX12_436 rfl (by decide +kernel) (ir_c rfl) (by decide) (by decide) dX12_check_20 (fun V6 e5 => ?_)
      refine GO.iconst dX12_check_23 ?_
      refine GO.istore_n (ls1 := [some (.ref x), some (ti p0), some (ti 0), none]) dX12_check_24 rfl rfl rfl ?_
      refine GO.iconst dX12_check_25 ?_
      refine GO.istore_n (ls1 := [some (.ref x), some (ti p0), some (ti 0), some (ti 0)]) dX12_check_26 rfl rfl rfl ?_
      have q9 : -2147483648 ≤ p0 ∧ p0 ≤ 2147483647 := r_p0
      have e10 : vi V6 x 30 = 0 := upd2_int e5 (ir_c rfl)
      refine GO.loop2 (fun i7 i8 W => 0 ≤ i7 ∧ i7 ≤ 101 ∧ 0 ≤ i8 ∧ i8 ≤ 60 ∧ (i7 ≤ (2 * p0) ∧ i7 ≥ 0 ∧ vi W x 30 = 0) ∧ (i7 % 2 = 0) ∧ V6 = W) (fun i7 i8 => [some (.ref x), some (ti p0), some (ti i7), some (ti i8)]) (fun i7 i8 W => (2147483647 - i8).toNat) 0 0 ⟨by omega, by omega, by omega, by omega, by omega, by omega, rfl⟩ rfl (fun i7 i8 V290 hp292 ih291 => ?_)
      obtain ⟨l_i7, u_i7, l_i8, u_i8, n_i7, w0_i7, rfl⟩ := hp292
      have r_i7 : ir i7 := ⟨by omega, by omega⟩
      have r_i8 : ir i8 := ⟨by omega, by omega⟩
      show GO mX12_check K V (IS K (fun X V1 => (X ≥ (-2147483648) ∧ X ≤ 2147483647) ∧ (MKC V V1 x p0))) K V6 0 0 27 [some (.ref x), some (ti p0), some (ti i7), some (ti i8)] []
      refine GO.iload_n dX12_check_27 rfl rfl ?_
      refine GO.aload_n dX12_check_28 rfl rfl ?_
      refine GO.getI h_x fl_RX12_375 rfl rfl dX12_check_29 (fun l293 u294 => ?_)
      refine GO.icmp_ge (tgt := 101) dX12_check_32 (by decide) r_i8 vi_ir (fun c296 => ?_) (fun c296 => ?_)
      ·
        refine GO.iload_n dX12_check_101 rfl rfl ?_
        refine GO.iconst dX12_check_102 ?_
        refine GO.iload_n dX12_check_103 rfl rfl ?_
        refine GO.imul dX12_check_104 ?_
        refine GO.icmp_ge (tgt := 112) dX12_check_105 (by decide) r_i7 ⟨by omega, by omega⟩ (fun c297 => ?_) (fun c297 => ?_)
        ·
          refine GO.iconst dX12_check_112 ?_
          exact GO.reti rfl rfl dX12_check_113 ⟨rfl, _, rfl, (ir_c rfl), ⟨(by first | exact trivial | omega), (by first | exact MKC.no (by omega) | exact Or.inr ⟨by omega, by omega, by omega⟩)⟩⟩
        ·
          refine GO.iload_n dX12_check_108 rfl rfl ?_
          refine GO.goto (tgt := 113) dX12_check_109 (by decide) ?_
          exact GO.reti rfl rfl dX12_check_113 ⟨rfl, _, rfl, r_i7, ⟨(by first | exact trivial | omega), (by first | exact MKC.no (by omega) | exact Or.inr ⟨by omega, by omega, by omega⟩)⟩⟩
      ·
        refine GO.aload_n dX12_check_35 rfl rfl ?_
        refine GO.iload_n dX12_check_36 rfl rfl ?_
        refine GO.callV (ci := 11) (N := mX12_stands) dX12_check_37 (RX12, TX12, 151) rfl gV_RX12_433 h_x (t_X12_stands h_x r_i8) rfl [] rfl rfl (Nat.le_of_ble_eq_true rfl) rfl (k_ip fun X298 r299 h300 => ?_)
        have raw_stands := h300.2.2.2
        have rw37 := h300.2.2.2
        refine GO.if_ne (tgt := 46) dX12_check_40 (by decide) r299 (fun c301 => ?_) (fun c301 => ?_)
        ·
          have q302 := h300.2.1 (by omega)
          refine GO.iload_n dX12_check_46 rfl rfl ?_
          refine GO.iconst dX12_check_47 ?_
          refine GO.iload_n dX12_check_48 rfl rfl ?_
          refine GO.imul dX12_check_49 ?_
          refine GO.icmp_eq (tgt := 62) dX12_check_50 (by decide) r_i7 ⟨by omega, by omega⟩ (fun c303 => ?_) (fun c303 => ?_)
          ·
            refine GO.iload_n dX12_check_62 rfl rfl ?_
            exact GO.reti rfl rfl dX12_check_63 ⟨rfl, _, rfl, r_i7, ⟨(by first | exact trivial | omega), (by first | exact MKC.no (by omega) | exact Or.inr ⟨by omega, by omega, by omega⟩)⟩⟩
          ·
            refine GO.aload_n dX12_check_53 rfl rfl ?_
            refine GO.iload_n dX12_check_54 rfl rfl ?_
            refine GO.callV (ci := 11) (N := mX12_tapeNumber) dX12_check_55 (RX12, TX12, 151) rfl gV_RX12_765 h_x (t_X12_tapeNumber h_x r_i7 (by omega) (by omega)) rfl [] rfl rfl (Nat.le_of_ble_eq_true rfl) rfl (k_ip fun X304 r305 h306 => ?_)
            refine GO.iload_n dX12_check_58 rfl rfl ?_
            refine GO.icmp_eq (tgt := 64) dX12_check_59 (by decide) r305 r_i8 (fun c307 => ?_) (fun c307 => ?_)
            ·
              refine GO.aload_n dX12_check_64 rfl rfl ?_
              refine GO.iload_n dX12_check_65 rfl rfl ?_
              refine GO.iconst dX12_check_66 ?_
              refine GO.iadd dX12_check_67 ?_
              refine GO.callV (ci := 11) (N := mX12_tapeNumber) dX12_check_68 (RX12, TX12, 151) rfl gV_RX12_765 h_x (t_X12_tapeNumber h_x ⟨by omega, by omega⟩ (by omega) (by omega)) rfl [] rfl rfl (Nat.le_of_ble_eq_true rfl) rfl (k_ip fun X308 r309 h310 => ?_)
              refine GO.aload_n dX12_check_71 rfl rfl ?_
              refine GO.getA (n := 60) h_x fl_RX12_56 rfl rfl rfl rfl dX12_check_72 (fun hv312 h311 => ?_)
              refine GO.iload_n dX12_check_75 rfl rfl ?_
              have q313 : -2147483648 ≤ X304 ∧ X304 ≤ 2147483647 := r305
              refine GO.iald (t := 22) rfl rfl h311 r_i8 (by omega) (by omega) dX12_check_76 (fun _ _ => ?_)
              refine GO.aload_n dX12_check_77 rfl rfl ?_
              refine GO.getA (n := 60) h_x fl_RX12_59 rfl rfl rfl rfl dX12_check_78 (fun hv316 h315 => ?_)
              refine GO.iload_n dX12_check_81 rfl rfl ?_
              refine GO.iald (t := 23) rfl rfl h315 r_i8 (by omega) (by omega) dX12_check_82 (fun _ _ => ?_)
              refine GO.iadd dX12_check_83 ?_
              refine GO.norm (fun z318 r319 hn320 => ?_)
              refine GO.icmp_eq (tgt := 91) dX12_check_84 (by decide) r309 r319 (fun c321 => ?_) (fun c321 => ?_)
              ·
                refine GO.iload_n dX12_check_91 rfl rfl ?_
                refine GO.iconst dX12_check_92 ?_
                refine GO.iadd dX12_check_93 ?_
                refine GO.name (fun z322 hz323 => ?_)
                refine GO.istore_n (ls1 := [some (.ref x), some (ti p0), some (ti z322), some (ti i8)]) dX12_check_94 rfl rfl rfl ?_
                refine GO.iinc (X := i8) (n := 1) (Y := i8 + 1) (ls1 := [some (.ref x), some (ti p0), some (ti z322), some (ti (i8 + 1))]) dX12_check_95 rfl rfl rfl rfl ?_
                refine GO.goto (tgt := 27) dX12_check_98 (by decide) ?_
                exact ih291 z322 (i8 + 1) V6 ⟨by omega, by omega, by omega, by omega, by omega, by omega, rfl⟩ (by show (2147483647 - (i8 + 1)).toNat < (2147483647 - i8).toNat; omega)
              ·
                refine GO.iload_n dX12_check_87 rfl rfl ?_
                refine GO.iconst dX12_check_88 ?_
                refine GO.iadd dX12_check_89 ?_
                exact GO.reti rfl rfl dX12_check_90 ⟨rfl, _, rfl, ⟨by omega, by omega⟩, ⟨(by first | exact trivial | omega), (by first | exact MKC.no (by omega) | exact Or.inr ⟨by omega, by omega, by omega⟩)⟩⟩
            ·
              refine GO.iload_n dX12_check_62 rfl rfl ?_
              exact GO.reti rfl rfl dX12_check_63 ⟨rfl, _, rfl, r_i7, ⟨(by first | exact trivial | omega), (by first | exact MKC.no (by omega) | exact Or.inr ⟨by omega, by omega, by omega⟩)⟩⟩
        ·
          refine GO.goto (tgt := 95) dX12_check_43 (by decide) ?_
          refine GO.iinc (X := i8) (n := 1) (Y := i8 + 1) (ls1 := [some (.ref x), some (ti p0), some (ti i7), some (ti (i8 + 1))]) dX12_check_95 rfl rfl rfl rfl ?_
          refine GO.goto (tgt := 27) dX12_check_98 (by decide) ?_
          exact ih291 i7 (i8 + 1) V6 ⟨by omega, by omega, by omega, by omega, by omega, by omega, rfl⟩ (by show (2147483647 - (i8 + 1)).toNat < (2147483647 - i8).toNat; omega)
    ·
      refine GO.bipush dX12_check_15 rfl ?_
      exact GO.reti rfl rfl dX12_check_17 ⟨rfl, _, rfl, (ir_c rfl), ⟨(by first | exact trivial | omega), (by first | exact MKC.no (by omega) | exact Or.inr ⟨by omega, by omega, by omega⟩)⟩⟩

set_option maxHeartbeats 1000000 in
theorem t_X12_lookAt {K : Kmap} {V : Vmap} {x : Nat} {p0 : Int} {p1 : Int} (h_x : K x = some (0, 11)) (r_p0 : ir p0) (r_p1 : ir p1) (q_0 : p0 ≥ 0) (q_1 : p0 ≤ 59) : MC mX12_lookAt K V [.ref x, ti p0, ti p1] (IP K V (fun X => True)) := by
  refine MC.start 0 (by decide +kernel) rfl rfl rfl (ls0 := [some (.ref x), some (ti p0), some (ti p1)]) rfl ?_
  refine GO.iload_n dX12_lookAt_0 rfl rfl ?_
  have q1 : -2147483648 ≤ p1 ∧ p1 ≤ 2147483647 := r_p1
  rcases (show (p1 < 6 ∨ 13 < p1) ∨ p1 = 6 ∨ p1 = 7 ∨ p1 = 8 ∨ p1 = 9 ∨ p1 = 10 ∨ p1 = 11 ∨ p1 = 12 ∨ p1 = 13 by omega) with c2 | c2 | c2 | c2 | c2 | c2 | c2 | c2 | c2
  ·
    refine GO.tableOut (tgt := 90) dX12_lookAt_1 r_p1 c2 (by decide) ?_
    refine GO.iconst dX12_lookAt_90 ?_
    exact GO.reti rfl rfl dX12_lookAt_91 ⟨rfl, rfl, _, rfl, (ir_c rfl), trivial⟩
  ·
    refine GO.tableAt (n := 6) (tgt := 48) dX12_lookAt_1 (ir_c rfl) c2 (by decide) (by decide) rfl (by decide) ?_
    refine GO.aload_n dX12_lookAt_48 rfl rfl ?_
    refine GO.getA (n := 60) h_x fl_RX12_53 rfl rfl rfl rfl dX12_lookAt_49 (fun hv4 h3 => ?_)
    refine GO.iload_n dX12_lookAt_52 rfl rfl ?_
    have q5 : -2147483648 ≤ p0 ∧ p0 ≤ 2147483647 := r_p0
    refine GO.iald (t := 21) rfl rfl h3 r_p0 (by omega) (by omega) dX12_lookAt_53 (fun l6 u7 => ?_)
    exact GO.reti rfl rfl dX12_lookAt_54 ⟨rfl, rfl, _, rfl, vi_ir, trivial⟩
  ·
    refine GO.tableAt (n := 7) (tgt := 55) dX12_lookAt_1 (ir_c rfl) c2 (by decide) (by decide) rfl (by decide) ?_
    refine GO.aload_n dX12_lookAt_55 rfl rfl ?_
    refine GO.getA (n := 60) h_x fl_RX12_56 rfl rfl rfl rfl dX12_lookAt_56 (fun hv9 h8 => ?_)
    refine GO.iload_n dX12_lookAt_59 rfl rfl ?_
    have q10 : -2147483648 ≤ p0 ∧ p0 ≤ 2147483647 := r_p0
    refine GO.iald (t := 22) rfl rfl h8 r_p0 (by omega) (by omega) dX12_lookAt_60 (fun _ _ => ?_)
    have q11 : -2147483648 ≤ vi V (vq V x 20) (p0).toNat ∧ vi V (vq V x 20) (p0).toNat ≤ 2147483647 := vi_ir
    exact GO.reti rfl rfl dX12_lookAt_61 ⟨rfl, rfl, _, rfl, vi_ir, trivial⟩
  ·
    refine GO.tableAt (n := 8) (tgt := 62) dX12_lookAt_1 (ir_c rfl) c2 (by decide) (by decide) rfl (by decide) ?_
    refine GO.aload_n dX12_lookAt_62 rfl rfl ?_
    refine GO.getA (n := 60) h_x fl_RX12_59 rfl rfl rfl rfl dX12_lookAt_63 (fun hv13 h12 => ?_)
    refine GO.iload_n dX12_lookAt_66 rfl rfl ?_
    have q14 : -2147483648 ≤ p0 ∧ p0 ≤ 2147483647 := r_p0
    refine GO.iald (t := 23) rfl rfl h12 r_p0 (by omega) (by omega) dX12_lookAt_67 (fun _ _ => ?_)
    have q15 : -2147483648 ≤ vi V (vq V x 21) (p0).toNat ∧ vi V (vq V x 21) (p0).toNat ≤ 2147483647 := vi_ir
    exact GO.reti rfl rfl dX12_lookAt_68 ⟨rfl, rfl, _, rfl, vi_ir, trivial⟩
  ·
    refine GO.tableAt (n := 9) (tgt := 69) dX12_lookAt_1 (ir_c rfl) c2 (by decide) (by decide) rfl (by decide) ?_
    refine GO.aload_n dX12_lookAt_69 rfl rfl ?_
    refine GO.getA (n := 60) h_x fl_RX12_62 rfl rfl rfl rfl dX12_lookAt_70 (fun hv17 h16 => ?_)
    refine GO.iload_n dX12_lookAt_73 rfl rfl ?_
    have q18 : -2147483648 ≤ p0 ∧ p0 ≤ 2147483647 := r_p0
    refine GO.iald (t := 24) rfl rfl h16 r_p0 (by omega) (by omega) dX12_lookAt_74 (fun _ _ => ?_)
    have q19 : -2147483648 ≤ vi V (vq V x 22) (p0).toNat ∧ vi V (vq V x 22) (p0).toNat ≤ 2147483647 := vi_ir
    exact GO.reti rfl rfl dX12_lookAt_75 ⟨rfl, rfl, _, rfl, vi_ir, trivial⟩
  ·
    refine GO.tableAt (n := 10) (tgt := 76) dX12_lookAt_1 (ir_c rfl) c2 (by decide) (by decide) rfl (by decide) ?_
    refine GO.aload_n dX12_lookAt_76 rfl rfl ?_
    refine GO.getA (n := 240) h_x fl_RX12_65 rfl rfl rfl rfl dX12_lookAt_77 (fun hv21 h20 => ?_)
    refine GO.iconst dX12_lookAt_80 ?_
    refine GO.iload_n dX12_lookAt_81 rfl rfl ?_
    refine GO.imul dX12_lookAt_82 ?_
    refine GO.iload_n dX12_lookAt_83 rfl rfl ?_
    refine GO.iadd dX12_lookAt_84 ?_
    refine GO.bipush dX12_lookAt_85 rfl ?_
    refine GO.isub dX12_lookAt_87 ?_
    have q22 : -2147483648 ≤ p0 ∧ p0 ≤ 2147483647 := r_p0
    refine GO.iald (t := 25) rfl rfl h20 ⟨by omega, by omega⟩ (by omega) (by omega) dX12_lookAt_88 (fun _ _ => ?_)
    have q23 : -2147483648 ≤ vi V (vq V x 23) (((4 * p0) + p1) - 10).toNat ∧ vi V (vq V x 23) (((4 * p0) + p1) - 10).toNat ≤ 2147483647 := vi_ir
    exact GO.reti rfl rfl dX12_lookAt_89 ⟨rfl, rfl, _, rfl, vi_ir, trivial⟩
  ·
    refine GO.tableAt (n := 11) (tgt := 76) dX12_lookAt_1 (ir_c rfl) c2 (by decide) (by decide) rfl (by decide) ?_
    refine GO.aload_n dX12_lookAt_76 rfl rfl ?_
    refine GO.getA (n := 240) h_x fl_RX12_65 rfl rfl rfl rfl dX12_lookAt_77 (fun hv25 h24 => ?_)
    refine GO.iconst dX12_lookAt_80 ?_
    refine GO.iload_n dX12_lookAt_81 rfl rfl ?_
    refine GO.imul dX12_lookAt_82 ?_
    refine GO.iload_n dX12_lookAt_83 rfl rfl ?_
    refine GO.iadd dX12_lookAt_84 ?_
    refine GO.bipush dX12_lookAt_85 rfl ?_
    refine GO.isub dX12_lookAt_87 ?_
    have q26 : -2147483648 ≤ p0 ∧ p0 ≤ 2147483647 := r_p0
    refine GO.iald (t := 25) rfl rfl h24 ⟨by omega, by omega⟩ (by omega) (by omega) dX12_lookAt_88 (fun _ _ => ?_)
    have q27 : -2147483648 ≤ vi V (vq V x 23) (((4 * p0) + p1) - 10).toNat ∧ vi V (vq V x 23) (((4 * p0) + p1) - 10).toNat ≤ 2147483647 := vi_ir
    exact GO.reti rfl rfl dX12_lookAt_89 ⟨rfl, rfl, _, rfl, vi_ir, trivial⟩
  ·
    refine GO.tableAt (n := 12) (tgt := 76) dX12_lookAt_1 (ir_c rfl) c2 (by decide) (by decide) rfl (by decide) ?_
    refine GO.aload_n dX12_lookAt_76 rfl rfl ?_
    refine GO.getA (n := 240) h_x fl_RX12_65 rfl rfl rfl rfl dX12_lookAt_77 (fun hv29 h28 => ?_)
    refine GO.iconst dX12_lookAt_80 ?_
    refine GO.iload_n dX12_lookAt_81 rfl rfl ?_
    refine GO.imul dX12_lookAt_82 ?_
    refine GO.iload_n dX12_lookAt_83 rfl rfl ?_
    refine GO.iadd dX12_lookAt_84 ?_
    refine GO.bipush dX12_lookAt_85 rfl ?_
    refine GO.isub dX12_lookAt_87 ?_
    have q30 : -2147483648 ≤ p0 ∧ p0 ≤ 2147483647 := r_p0
    refine GO.iald (t := 25) rfl rfl h28 ⟨by omega, by omega⟩ (by omega) (by omega) dX12_lookAt_88 (fun _ _ => ?_)
    have q31 : -2147483648 ≤ vi V (vq V x 23) (((4 * p0) + p1) - 10).toNat ∧ vi V (vq V x 23) (((4 * p0) + p1) - 10).toNat ≤ 2147483647 := vi_ir
    exact GO.reti rfl rfl dX12_lookAt_89 ⟨rfl, rfl, _, rfl, vi_ir, trivial⟩
  ·
    refine GO.tableAt (n := 13) (tgt := 76) dX12_lookAt_1 (ir_c rfl) c2 (by decide) (by decide) rfl (by decide) ?_
    refine GO.aload_n dX12_lookAt_76 rfl rfl ?_
    refine GO.getA (n := 240) h_x fl_RX12_65 rfl rfl rfl rfl dX12_lookAt_77 (fun hv33 h32 => ?_)
    refine GO.iconst dX12_lookAt_80 ?_
    refine GO.iload_n dX12_lookAt_81 rfl rfl ?_
    refine GO.imul dX12_lookAt_82 ?_
    refine GO.iload_n dX12_lookAt_83 rfl rfl ?_
    refine GO.iadd dX12_lookAt_84 ?_
    refine GO.bipush dX12_lookAt_85 rfl ?_
    refine GO.isub dX12_lookAt_87 ?_
    have q34 : -2147483648 ≤ p0 ∧ p0 ≤ 2147483647 := r_p0
    refine GO.iald (t := 25) rfl rfl h32 ⟨by omega, by omega⟩ (by omega) (by omega) dX12_lookAt_88 (fun _ _ => ?_)
    have q35 : -2147483648 ≤ vi V (vq V x 23) (((4 * p0) + p1) - 10).toNat ∧ vi V (vq V x 23) (((4 * p0) + p1) - 10).toNat ≤ 2147483647 := vi_ir
    exact GO.reti rfl rfl dX12_lookAt_89 ⟨rfl, rfl, _, rfl, vi_ir, trivial⟩

set_option maxHeartbeats 1000000 in
theorem t_X12_look {K : Kmap} {V : Vmap} {x : Nat} {p0 : Int} {p1 : Int} (h_x : K x = some (0, 11)) (r_p0 : ir p0) (r_p1 : ir p1) : MC mX12_look K V [.ref x, ti p0, ti p1] (IP K V (fun X => True)) := by
  refine MC.start 0 (by decide +kernel) rfl rfl rfl (ls0 := [some (.ref x), some (ti p0), some (ti p1)]) rfl ?_
  refine GO.iload_n dX12_look_0 rfl rfl ?_
  refine GO.if_lt (tgt := 12) dX12_look_1 (by decide) r_p0 (fun c1 => ?_) (fun c1 => ?_)
  ·
    refine GO.iconst dX12_look_12 ?_
    exact GO.reti rfl rfl dX12_look_13 ⟨rfl, rfl, _, rfl, (ir_c rfl), trivial⟩
  ·
    refine GO.iload_n dX12_look_4 rfl rfl ?_
    refine GO.aload_n dX12_look_5 rfl rfl ?_
    refine GO.getI h_x fl_RX12_375 rfl rfl dX12_look_6 (fun l2 u3 => ?_)
    refine GO.icmp_lt (tgt := 14) dX12_look_9 (by decide) r_p0 vi_ir (fun c4 => ?_) (fun c4 => ?_)
    ·
      refine GO.iload_n dX12_look_14 rfl rfl ?_
      have q5 : -2147483648 ≤ p1 ∧ p1 ≤ 2147483647 := r_p1
      rcases (show (p1 < 0 ∨ 5 < p1) ∨ p1 = 0 ∨ p1 = 1 ∨ p1 = 2 ∨ p1 = 3 ∨ p1 = 4 ∨ p1 = 5 by omega) with c6 | c6 | c6 | c6 | c6 | c6 | c6
      ·
        refine GO.tableOut (tgt := 135) dX12_look_15 r_p1 c6 (by decide) ?_
        refine GO.aload_n dX12_look_135 rfl rfl ?_
        refine GO.getA (n := 60) h_x fl_RX12_35 rfl rfl rfl rfl dX12_look_136 (fun hv8 h7 => ?_)
        refine GO.iload_n dX12_look_139 rfl rfl ?_
        have q9 : -2147483648 ≤ p0 ∧ p0 ≤ 2147483647 := r_p0
        refine GO.iald (t := 15) rfl rfl h7 r_p0 (by omega) (by omega) dX12_look_140 (fun l10 u11 => ?_)
        refine GO.iconst dX12_look_141 ?_
        refine GO.icmp_ne (tgt := 154) dX12_look_142 (by decide) vi_ir (ir_c rfl) (fun c12 => ?_) (fun c12 => ?_)
        ·
          refine GO.iconst dX12_look_154 ?_
          exact GO.reti rfl rfl dX12_look_155 ⟨rfl, rfl, _, rfl, (ir_c rfl), trivial⟩
        ·
          refine GO.aload_n dX12_look_145 rfl rfl ?_
          refine GO.iload_n dX12_look_146 rfl rfl ?_
          refine GO.iload_n dX12_look_147 rfl rfl ?_
          refine GO.callV (ci := 11) (N := mX12_lookAt) dX12_look_148 (RX12, TX12, 151) rfl gV_RX12_768 h_x (t_X12_lookAt h_x r_p0 r_p1 (by omega) (by omega)) rfl [] rfl rfl (Nat.le_of_ble_eq_true rfl) rfl (k_ip fun X13 r14 h15 => ?_)
          refine GO.goto (tgt := 155) dX12_look_151 (by decide) ?_
          have q16 : -2147483648 ≤ X13 ∧ X13 ≤ 2147483647 := r14
          exact GO.reti rfl rfl dX12_look_155 ⟨rfl, rfl, _, rfl, r14, trivial⟩
      ·
        refine GO.tableAt (n := 0) (tgt := 52) dX12_look_15 (ir_c rfl) c6 (by decide) (by decide) rfl (by decide) ?_
        refine GO.aload_n dX12_look_52 rfl rfl ?_
        refine GO.getA (n := 60) h_x fl_RX12_35 rfl rfl rfl rfl dX12_look_53 (fun hv18 h17 => ?_)
        refine GO.iload_n dX12_look_56 rfl rfl ?_
        have q19 : -2147483648 ≤ p0 ∧ p0 ≤ 2147483647 := r_p0
        refine GO.iald (t := 15) rfl rfl h17 r_p0 (by omega) (by omega) dX12_look_57 (fun l20 u21 => ?_)
        exact GO.reti rfl rfl dX12_look_58 ⟨rfl, rfl, _, rfl, vi_ir, trivial⟩
      ·
        refine GO.tableAt (n := 1) (tgt := 59) dX12_look_15 (ir_c rfl) c6 (by decide) (by decide) rfl (by decide) ?_
        refine GO.aload_n dX12_look_59 rfl rfl ?_
        refine GO.getA (n := 60) h_x fl_RX12_38 rfl rfl rfl rfl dX12_look_60 (fun hv23 h22 => ?_)
        refine GO.iload_n dX12_look_63 rfl rfl ?_
        have q24 : -2147483648 ≤ p0 ∧ p0 ≤ 2147483647 := r_p0
        refine GO.iald (t := 16) rfl rfl h22 r_p0 (by omega) (by omega) dX12_look_64 (fun l25 u26 => ?_)
        exact GO.reti rfl rfl dX12_look_65 ⟨rfl, rfl, _, rfl, vi_ir, trivial⟩
      ·
        refine GO.tableAt (n := 2) (tgt := 66) dX12_look_15 (ir_c rfl) c6 (by decide) (by decide) rfl (by decide) ?_
        refine GO.aload_n dX12_look_66 rfl rfl ?_
        refine GO.getA (n := 60) h_x fl_RX12_41 rfl rfl rfl rfl dX12_look_67 (fun hv28 h27 => ?_)
        refine GO.iload_n dX12_look_70 rfl rfl ?_
        have q29 : -2147483648 ≤ p0 ∧ p0 ≤ 2147483647 := r_p0
        refine GO.iald (t := 17) rfl rfl h27 r_p0 (by omega) (by omega) dX12_look_71 (fun l30 u31 => ?_)
        exact GO.reti rfl rfl dX12_look_72 ⟨rfl, rfl, _, rfl, vi_ir, trivial⟩
      ·
        refine GO.tableAt (n := 3) (tgt := 73) dX12_look_15 (ir_c rfl) c6 (by decide) (by decide) rfl (by decide) ?_
        refine GO.aload_n dX12_look_73 rfl rfl ?_
        refine GO.getA (n := 60) h_x fl_RX12_44 rfl rfl rfl rfl dX12_look_74 (fun hv33 h32 => ?_)
        refine GO.iload_n dX12_look_77 rfl rfl ?_
        have q34 : -2147483648 ≤ p0 ∧ p0 ≤ 2147483647 := r_p0
        refine GO.iald (t := 18) rfl rfl h32 r_p0 (by omega) (by omega) dX12_look_78 (fun l35 u36 => ?_)
        exact GO.reti rfl rfl dX12_look_79 ⟨rfl, rfl, _, rfl, vi_ir, trivial⟩
      ·
        refine GO.tableAt (n := 4) (tgt := 80) dX12_look_15 (ir_c rfl) c6 (by decide) (by decide) rfl (by decide) ?_
        refine GO.aload_n dX12_look_80 rfl rfl ?_
        refine GO.getA (n := 60) h_x fl_RX12_35 rfl rfl rfl rfl dX12_look_81 (fun hv38 h37 => ?_)
        refine GO.iload_n dX12_look_84 rfl rfl ?_
        have q39 : -2147483648 ≤ p0 ∧ p0 ≤ 2147483647 := r_p0
        refine GO.iald (t := 15) rfl rfl h37 r_p0 (by omega) (by omega) dX12_look_85 (fun l40 u41 => ?_)
        refine GO.if_eq (tgt := 109) dX12_look_86 (by decide) vi_ir (fun c42 => ?_) (fun c42 => ?_)
        ·
          refine GO.aload_n dX12_look_109 rfl rfl ?_
          refine GO.getA (n := 60) h_x fl_RX12_47 rfl rfl rfl rfl dX12_look_110 (fun hv44 h43 => ?_)
          refine GO.iload_n dX12_look_113 rfl rfl ?_
          refine GO.iald (t := 19) rfl rfl h43 r_p0 (by omega) (by omega) dX12_look_114 (fun _ _ => ?_)
          refine GO.goto (tgt := 119) dX12_look_115 (by decide) ?_
          have q45 : -2147483648 ≤ vi V (vq V x 17) (p0).toNat ∧ vi V (vq V x 17) (p0).toNat ≤ 2147483647 := vi_ir
          exact GO.reti rfl rfl dX12_look_119 ⟨rfl, rfl, _, rfl, vi_ir, trivial⟩
        ·
          refine GO.aload_n dX12_look_89 rfl rfl ?_
          refine GO.getRaw h_x fl_RX12_35 hv38 dX12_look_90 ?_
          refine GO.iload_n dX12_look_93 rfl rfl ?_
          refine GO.iald (t := 15) rfl rfl h37 r_p0 (by omega) (by omega) dX12_look_94 (fun l48 u49 => ?_)
          refine GO.iconst dX12_look_95 ?_
          refine GO.icmp_eq (tgt := 109) dX12_look_96 (by decide) vi_ir (ir_c rfl) (fun c50 => ?_) (fun c50 => ?_)
          ·
            refine GO.aload_n dX12_look_109 rfl rfl ?_
            refine GO.getA (n := 60) h_x fl_RX12_47 rfl rfl rfl rfl dX12_look_110 (fun hv52 h51 => ?_)
            refine GO.iload_n dX12_look_113 rfl rfl ?_
            refine GO.iald (t := 19) rfl rfl h51 r_p0 (by omega) (by omega) dX12_look_114 (fun _ _ => ?_)
            refine GO.goto (tgt := 119) dX12_look_115 (by decide) ?_
            have q53 : -2147483648 ≤ vi V (vq V x 17) (p0).toNat ∧ vi V (vq V x 17) (p0).toNat ≤ 2147483647 := vi_ir
            exact GO.reti rfl rfl dX12_look_119 ⟨rfl, rfl, _, rfl, vi_ir, trivial⟩
          ·
            refine GO.aload_n dX12_look_99 rfl rfl ?_
            refine GO.getRaw h_x fl_RX12_35 hv38 dX12_look_100 ?_
            refine GO.iload_n dX12_look_103 rfl rfl ?_
            refine GO.iald (t := 15) rfl rfl h37 r_p0 (by omega) (by omega) dX12_look_104 (fun l56 u57 => ?_)
            refine GO.iconst dX12_look_105 ?_
            refine GO.icmp_ne (tgt := 118) dX12_look_106 (by decide) vi_ir (ir_c rfl) (fun c58 => ?_) (fun c58 => ?_)
            ·
              refine GO.iconst dX12_look_118 ?_
              exact GO.reti rfl rfl dX12_look_119 ⟨rfl, rfl, _, rfl, (ir_c rfl), trivial⟩
            ·
              refine GO.aload_n dX12_look_109 rfl rfl ?_
              refine GO.getA (n := 60) h_x fl_RX12_47 rfl rfl rfl rfl dX12_look_110 (fun hv60 h59 => ?_)
              refine GO.iload_n dX12_look_113 rfl rfl ?_
              refine GO.iald (t := 19) rfl rfl h59 r_p0 (by omega) (by omega) dX12_look_114 (fun _ _ => ?_)
              refine GO.goto (tgt := 119) dX12_look_115 (by decide) ?_
              have q61 : -2147483648 ≤ vi V (vq V x 17) (p0).toNat ∧ vi V (vq V x 17) (p0).toNat ≤ 2147483647 := vi_ir
              exact GO.reti rfl rfl dX12_look_119 ⟨rfl, rfl, _, rfl, vi_ir, trivial⟩
      ·
        refine GO.tableAt (n := 5) (tgt := 120) dX12_look_15 (ir_c rfl) c6 (by decide) (by decide) rfl (by decide) ?_
        refine GO.aload_n dX12_look_120 rfl rfl ?_
        refine GO.getA (n := 60) h_x fl_RX12_80 rfl rfl rfl rfl dX12_look_121 (fun hv63 h62 => ?_)
        refine GO.iload_n dX12_look_124 rfl rfl ?_
        have q64 : -2147483648 ≤ p0 ∧ p0 ≤ 2147483647 := r_p0
        refine GO.zald (t := 30) rfl rfl h62 r_p0 (by omega) (by omega) dX12_look_125 (fun l65 u66 => ?_)
        refine GO.if_eq (tgt := 133) dX12_look_126 (by decide) vi_ir (fun c67 => ?_) (fun c67 => ?_)
        ·
          refine GO.iconst dX12_look_133 ?_
          exact GO.reti rfl rfl dX12_look_134 ⟨rfl, rfl, _, rfl, (ir_c rfl), trivial⟩
        ·
          refine GO.iconst dX12_look_129 ?_
          refine GO.goto (tgt := 134) dX12_look_130 (by decide) ?_
          exact GO.reti rfl rfl dX12_look_134 ⟨rfl, rfl, _, rfl, (ir_c rfl), trivial⟩
    ·
      refine GO.iconst dX12_look_12 ?_
      exact GO.reti rfl rfl dX12_look_13 ⟨rfl, rfl, _, rfl, (ir_c rfl), trivial⟩
