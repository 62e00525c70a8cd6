def mX12_planned : MRec := (RX12, cX12_planned, 5, (some .int), yX12_planned, 6, 143, 0, 0, 472824074356733750547348481201723365661188455424059992406226662820966037073673067306302476186697902857695362142961664)
def mX12_report : MRec := (RX12, cX12_report, 5, (some .boolean), yX12_report, 2, 43, 0, 0, 19543395073411661689290403889671232447349193452995614493330787700668102103073053579335880046817019299346113244380004352)
def mX12_known : MRec := (RX12, cX12_known, 7, (some .int), yX12_known, 2, 43, 0, 0, 0)
def mX12_tapeNumber : MRec := (RX12, cX12_tapeNumber, 4, (some .int), yX12_tapeNumber, 0, 0, 0, 0, 0)
set_option maxHeartbeats 1000000 in
theorem t_X12_planned {K : Kmap} {V : Vmap} {x : Nat} {p0 : Int} {p1 : Int} {p2 : Int} {p3 : Int} (h_x : K x = some (0, 11)) (r_p0 : ir p0) (r_p1 : ir p1) (r_p2 : ir p2) (r_p3 : ir p3) : MC mX12_planned K V [.ref x, ti p0, ti p1, ti p2, ti p3] (IS K (fun X V1 => True)) := by
  refine MC.start 0 (by decide +kernel) rfl rfl rfl (ls0 := [some (.ref x), some (ti p0), some (ti p1), some (ti p2), some (ti p3)]) rfl ?_
  refine GO.aload_n dX12_planned_0 rfl rfl ?_
  refine GO.iload_n dX12_planned_1 rfl rfl ?_
  refine GO.iload_n dX12_planned_2 rfl rfl ?_
  refine GO.iload_n dX12_planned_3 rfl rfl ?_
  refine GO.callV (ci := 11) (N := mX12_plan) dX12_planned_4 (RX12, TX12, 151) rfl gV_RX12_758 h_x (t_X12_plan h_x r_p0 r_p1 r_p2) rfl [] rfl rfl (Nat.le_of_ble_eq_true rfl) rfl (k_is fun X1 V5 r2 h3 hF4 => ?_)
  refine GO.iconst dX12_planned_7 ?_
  refine GO.icmp_eq (tgt := 25) dX12_planned_8 (by decide) r2 (ir_c rfl) (fun c6 => ?_) (fun c6 => ?_)
  ·
    refine GO.iconst dX12_planned_25 ?_
    exact GO.reti rfl rfl dX12_planned_26 ⟨rfl, _, rfl, (ir_c rfl), trivial⟩
  ·
    refine GO.iload dX12_planned_11 rfl ?_
    refine GO.if_lt (tgt := 25) dX12_planned_13 (by decide) r_p3 (fun c7 => ?_) (fun c7 => ?_)
    ·
      refine GO.iconst dX12_planned_25 ?_
      exact GO.reti rfl rfl dX12_planned_26 ⟨rfl, _, rfl, (ir_c rfl), trivial⟩
    ·
      refine GO.iload dX12_planned_16 rfl ?_
      refine GO.aload_n dX12_planned_18 rfl rfl ?_
      refine GO.getI h_x fl_RX12_736 rfl rfl dX12_planned_19 (fun l8 u9 => ?_)
      refine GO.icmp_lt (tgt := 27) dX12_planned_22 (by decide) r_p3 vi_ir (fun c11 => ?_) (fun c11 => ?_)
      ·
        refine GO.aload_n dX12_planned_27 rfl rfl ?_
        refine GO.getA (n := 8) h_x fl_RX12_343 rfl rfl rfl rfl dX12_planned_28 (fun hv13 h12 => ?_)
        refine GO.iload dX12_planned_31 rfl ?_
        have q14 : -2147483648 ≤ p3 ∧ p3 ≤ 2147483647 := r_p3
        refine GO.iald (t := 116) rfl rfl h12 r_p3 (by omega) (by omega) dX12_planned_33 (fun _ _ => ?_)
        have q16 : -2147483648 ≤ vi V5 (vq V5 x 144) (p3).toNat ∧ vi V5 (vq V5 x 144) (p3).toNat ≤ 2147483647 := vi_ir
        exact GO.reti rfl rfl dX12_planned_34 ⟨rfl, _, rfl, vi_ir, trivial⟩
      ·
        refine GO.iconst dX12_planned_25 ?_
        exact GO.reti rfl rfl dX12_planned_26 ⟨rfl, _, rfl, (ir_c rfl), trivial⟩

set_option maxHeartbeats 1000000 in
theorem t_X12_report {K : Kmap} {V : Vmap} {x : Nat} {p0 : Int} {p1 : Int} {p2 : Int} {p3 : Int} (h_x : K x = some (0, 11)) (r_p0 : ir p0) (r_p1 : ir p1) (r_p2 : ir p2) (r_p3 : ir p3) (z_p3 : p3 = 0 ∨ p3 = 1) : MC mX12_report K V [.ref x, ti p0, ti p1, ti p2, ti p3] (IS K (fun X V1 => (X = 0 ∨ X = 1) ∧ (X ≠ 0 → True) ∧ (X = 0 → True))) := by
  refine MC.start 0 (by decide +kernel) rfl rfl rfl (ls0 := [some (.ref x), some (ti p0), some (ti p1), some (ti p2), some (ti p3)]) rfl ?_
  refine GO.aload_n dX12_report_0 rfl rfl ?_
  refine GO.iload_n dX12_report_1 rfl rfl ?_
  refine GO.callV (ci := 11) (N := mX12_isStation) dX12_report_2 (RX12, TX12, 151) rfl gV_RX12_403 h_x (t_X12_isStation h_x r_p0) rfl [] rfl rfl (Nat.le_of_ble_eq_true rfl) rfl (k_ip fun X1 r2 h3 => ?_)
  have raw_isStation := h3.2.2.2
  have rw2 := h3.2.2.2
  refine GO.if_eq (tgt := 43) dX12_report_5 (by decide) r2 (fun c4 => ?_) (fun c4 => ?_)
  ·
    refine GO.iconst dX12_report_43 ?_
    exact GO.retz rfl rfl dX12_report_44 (Or.inl rfl) ⟨rfl, _, rfl, (ir_c rfl), ⟨Or.inl rfl, fun _ => trivial, fun _ => trivial⟩⟩
  ·
    have q5 := h3.2.1 (by omega)
    refine GO.iload_n dX12_report_8 rfl rfl ?_
    refine GO.iconst dX12_report_9 ?_
    refine GO.aload_n dX12_report_10 rfl rfl ?_
    refine GO.getI h_x fl_RX12_396 rfl rfl dX12_report_11 (fun l6 u7 => ?_)
    refine GO.callS (N := mX12_in) dX12_report_14 gS_RX12_371 (t_X12_in r_p1 (ir_c rfl) vi_ir) rfl [] rfl rfl (Nat.le_of_ble_eq_true rfl) rfl (k_ip fun X8 r9 h10 => ?_)
    have raw_in := h10.2.2.2
    have rw14 := h10.2.2.2
    refine GO.if_eq (tgt := 43) dX12_report_17 (by decide) r9 (fun c11 => ?_) (fun c11 => ?_)
    ·
      have q12 := h10.2.2.1 (by omega)
      refine GO.iconst dX12_report_43 ?_
      exact GO.retz rfl rfl dX12_report_44 (Or.inl rfl) ⟨rfl, _, rfl, (ir_c rfl), ⟨Or.inl rfl, fun _ => trivial, fun _ => trivial⟩⟩
    ·
      have q13 := h10.2.1 (by omega)
      refine GO.iload_n dX12_report_20 rfl rfl ?_
      refine GO.sipush dX12_report_21 rfl ?_
      refine GO.ldcw (X := 1000000) dX12_report_24 gw_2291 rfl ?_
      refine GO.callS (N := mX12_in) dX12_report_27 gS_RX12_371 (t_X12_in r_p2 (ir_c rfl) (ir_c rfl)) rfl [] rfl rfl (Nat.le_of_ble_eq_true rfl) rfl (k_ip fun X14 r15 h16 => ?_)
      have raw_in := h16.2.2.2
      have rw27 := h16.2.2.2
      refine GO.if_eq (tgt := 43) dX12_report_30 (by decide) r15 (fun c17 => ?_) (fun c17 => ?_)
      ·
        have q18 := h16.2.2.1 (by omega)
        refine GO.iconst dX12_report_43 ?_
        exact GO.retz rfl rfl dX12_report_44 (Or.inl rfl) ⟨rfl, _, rfl, (ir_c rfl), ⟨Or.inl rfl, fun _ => trivial, fun _ => trivial⟩⟩
      ·
        have q19 := h16.2.1 (by omega)
        refine GO.aload_n dX12_report_33 rfl rfl ?_
        refine GO.getI h_x fl_RX12_761 rfl rfl dX12_report_34 (fun l20 u21 => ?_)
        refine GO.sipush dX12_report_37 rfl ?_
        refine GO.icmp_ne (tgt := 45) dX12_report_40 (by decide) vi_ir (ir_c rfl) (fun c22 => ?_) (fun c22 => ?_)
        ·
          refine GO.aload_n dX12_report_45 rfl rfl ?_
          refine GO.getA (n := 200) h_x fl_RX12_346 rfl rfl rfl rfl dX12_report_46 (fun hv24 h23 => ?_)
          refine GO.aload_n dX12_report_49 rfl rfl ?_
          refine GO.getI h_x fl_RX12_761 rfl rfl dX12_report_50 (fun l25 u26 => ?_)
          refine GO.iload_n dX12_report_53 rfl rfl ?_
          refine GO.iast (t := 117) rfl rfl (by decide +kernel) h23 vi_ir (by omega) (by omega) r_p0 (r_p0).1 (r_p0).2 dX12_report_54 (fun V28 e27 => ?_)
          refine GO.aload_n dX12_report_55 rfl rfl ?_
          refine GO.getA (n := 200) h_x fl_RX12_349 rfl rfl rfl rfl dX12_report_56 (fun hv30 h29 => ?_)
          refine GO.aload_n dX12_report_59 rfl rfl ?_
          refine GO.getI h_x fl_RX12_761 rfl rfl dX12_report_60 (fun l31 u32 => ?_)
          have e33 : vi V28 x 145 = vi V x 145 := vi_up e27 (Or.inl (K_ne h_x h23 (by decide)))
          refine GO.iload_n dX12_report_63 rfl rfl ?_
          refine GO.iast (t := 118) rfl rfl (by decide +kernel) h29 vi_ir (by omega) (by omega) r_p1 (r_p1).1 (r_p1).2 dX12_report_64 (fun V35 e34 => ?_)
          refine GO.aload_n dX12_report_65 rfl rfl ?_
          refine GO.getA (n := 200) h_x fl_RX12_352 rfl rfl rfl rfl dX12_report_66 (fun hv37 h36 => ?_)
          refine GO.aload_n dX12_report_69 rfl rfl ?_
          refine GO.getI h_x fl_RX12_761 rfl rfl dX12_report_70 (fun l38 u39 => ?_)
          have e40 : vi V35 x 145 = vi V28 x 145 := vi_up e34 (Or.inl (K_ne h_x h29 (by decide)))
          refine GO.iload_n dX12_report_73 rfl rfl ?_
          refine GO.iast (t := 119) rfl rfl (by decide +kernel) h36 vi_ir (by omega) (by omega) r_p2 (r_p2).1 (r_p2).2 dX12_report_74 (fun V42 e41 => ?_)
          refine GO.aload_n dX12_report_75 rfl rfl ?_
          refine GO.getA (n := 200) h_x fl_RX12_355 rfl rfl rfl rfl dX12_report_76 (fun hv44 h43 => ?_)
          refine GO.aload_n dX12_report_79 rfl rfl ?_
          refine GO.getI h_x fl_RX12_761 rfl rfl dX12_report_80 (fun l45 u46 => ?_)
          have e47 : vi V42 x 145 = vi V35 x 145 := vi_up e41 (Or.inl (K_ne h_x h36 (by decide)))
          refine GO.aload_n dX12_report_83 rfl rfl ?_
          refine GO.getI h_x fl_RX12_396 rfl rfl dX12_report_84 (fun l48 u49 => ?_)
          have e52 : vi V28 x 2 = vi V x 2 := vi_up e27 (Or.inl (K_ne h_x h23 (by decide)))
          have e51 : vi V35 x 2 = vi V28 x 2 := vi_up e34 (Or.inl (K_ne h_x h29 (by decide)))
          have e50 : vi V42 x 2 = vi V35 x 2 := vi_up e41 (Or.inl (K_ne h_x h36 (by decide)))
          refine GO.iast (t := 120) rfl rfl (by decide +kernel) h43 vi_ir (by omega) (by omega) vi_ir (vi_ir).1 (vi_ir).2 dX12_report_87 (fun V54 e53 => ?_)
          refine GO.aload_n dX12_report_88 rfl rfl ?_
          refine GO.getA (n := 200) h_x fl_RX12_358 rfl rfl rfl rfl dX12_report_89 (fun hv56 h55 => ?_)
          refine GO.aload_n dX12_report_92 rfl rfl ?_
          refine GO.getI h_x fl_RX12_761 rfl rfl dX12_report_93 (fun l57 u58 => ?_)
          have e59 : vi V54 x 145 = vi V42 x 145 := vi_up e53 (Or.inl (K_ne h_x h43 (by decide)))
          refine GO.iload dX12_report_96 rfl ?_
          refine GO.zast (t := 121) rfl rfl (by decide +kernel) h55 vi_ir (by omega) (by omega) (by omega) (by omega) (by omega) dX12_report_98 (fun V61 e60 => ?_)
          refine GO.aload_n dX12_report_99 rfl rfl ?_
          refine GO.aload_n dX12_report_100 rfl rfl ?_
          refine GO.getI h_x fl_RX12_761 rfl rfl dX12_report_101 (fun l62 u63 => ?_)
          have e64 : vi V61 x 145 = vi V54 x 145 := vi_up e60 (Or.inl (K_ne h_x h55 (by decide)))
          refine GO.iconst dX12_report_104 ?_
          refine GO.iadd dX12_report_105 ?_
          refine GO.putI h_x fp_RX12_761 rfl (by decide +kernel) ⟨by omega, by omega⟩ (by omega) (by omega) dX12_report_106 (fun V66 e65 => ?_)
          refine GO.iconst dX12_report_109 ?_
          exact GO.retz rfl rfl dX12_report_110 (Or.inr rfl) ⟨rfl, _, rfl, (ir_c rfl), ⟨Or.inr rfl, fun _ => trivial, fun _ => trivial⟩⟩
        ·
          refine GO.iconst dX12_report_43 ?_
          exact GO.retz rfl rfl dX12_report_44 (Or.inl rfl) ⟨rfl, _, rfl, (ir_c rfl), ⟨Or.inl rfl, fun _ => trivial, fun _ => trivial⟩⟩

set_option maxHeartbeats 1000000 in
theorem t_X12_known {K : Kmap} {V : Vmap} {x : Nat} {p0 : Int} {p1 : Int} {p2 : Int} (h_x : K x = some (0, 11)) (r_p0 : ir p0) (r_p1 : ir p1) (r_p2 : ir p2) : MC mX12_known K V [.ref x, ti p0, ti p1, ti p2] (IP K V (fun X => True)) := by
  refine MC.start 3 (by decide +kernel) rfl rfl rfl (ls0 := [some (.ref x), some (ti p0), some (ti p1), some (ti p2), none, none, none]) rfl ?_
  refine GO.aload_n dX12_known_0 rfl rfl ?_
  refine GO.iload_n dX12_known_1 rfl rfl ?_
  refine GO.callV (ci := 11) (N := mX12_isStation) dX12_known_2 (RX12, TX12, 151) rfl gV_RX12_403 h_x (t_X12_isStation h_x r_p0) rfl [] rfl rfl (Nat.le_of_ble_eq_true rfl) rfl (k_ip fun X1 r2 h3 => ?_)
  have raw_isStation := h3.2.2.2
  have rw2 := h3.2.2.2
  refine GO.if_eq (tgt := 22) dX12_known_5 (by decide) r2 (fun c4 => ?_) (fun c4 => ?_)
  ·
    refine GO.ldcw (X := (-1000001)) dX12_known_22 gw_2507 rfl ?_
    exact GO.reti rfl rfl dX12_known_25 ⟨rfl, rfl, _, rfl, (ir_c rfl), trivial⟩
  ·
    have q5 := h3.2.1 (by omega)
    refine GO.iload_n dX12_known_8 rfl rfl ?_
    refine GO.callS (N := mX12_isDay) dX12_known_9 gS_RX12_409 (t_X12_isDay r_p1) rfl [] rfl rfl (Nat.le_of_ble_eq_true rfl) rfl (k_ip fun X6 r7 h8 => ?_)
    refine GO.if_eq (tgt := 22) dX12_known_12 (by decide) r7 (fun c9 => ?_) (fun c9 => ?_)
    ·
      have q10 := h8.2.2 (by omega)
      refine GO.ldcw (X := (-1000001)) dX12_known_22 gw_2507 rfl ?_
      exact GO.reti rfl rfl dX12_known_25 ⟨rfl, rfl, _, rfl, (ir_c rfl), trivial⟩
    ·
      have q11 := h8.2.1 (by omega)
      refine GO.iload_n dX12_known_15 rfl rfl ?_
      refine GO.callS (N := mX12_isDay) dX12_known_16 gS_RX12_409 (t_X12_isDay r_p2) rfl [] rfl rfl (Nat.le_of_ble_eq_true rfl) rfl (k_ip fun X12 r13 h14 => ?_)
      refine GO.if_ne (tgt := 26) dX12_known_19 (by decide) r13 (fun c15 => ?_) (fun c15 => ?_)
      ·
        have q16 := h14.2.1 (by omega)
        refine GO.iconst dX12_known_26 ?_
        refine GO.istore (ls1 := [some (.ref x), some (ti p0), some (ti p1), some (ti p2), some (ti (-1)), none, none]) dX12_known_27 rfl rfl ?_
        refine GO.iconst dX12_known_29 ?_
        refine GO.istore (ls1 := [some (.ref x), some (ti p0), some (ti p1), some (ti p2), some (ti (-1)), some (ti (-1)), none]) dX12_known_30 rfl rfl ?_
        refine GO.iconst dX12_known_32 ?_
        refine GO.istore (ls1 := [some (.ref x), some (ti p0), some (ti p1), some (ti p2), some (ti (-1)), some (ti (-1)), some (ti 0)]) dX12_known_33 rfl rfl ?_
        refine GO.loop3 (fun i17 i18 i19 W => (-1) ≤ i17 ∧ i17 ≤ 199 ∧ (-1) ≤ i18 ∧ i18 ≤ 199 ∧ 0 ≤ i19 ∧ i19 ≤ 200 ∧ V = W) (fun i17 i18 i19 => [some (.ref x), some (ti p0), some (ti p1), some (ti p2), some (ti i17), some (ti i18), some (ti i19)]) (fun i17 i18 i19 W => (2147483647 - i19).toNat) (-1) (-1) 0 ⟨by omega, by omega, by omega, by omega, by omega, by omega, rfl⟩ rfl (fun i17 i18 i19 V1127 hp1129 ih1128 => ?_)
        obtain ⟨l_i17, u_i17, l_i18, u_i18, l_i19, u_i19, rfl⟩ := hp1129
        have r_i17 : ir i17 := ⟨by omega, by omega⟩
        have r_i18 : ir i18 := ⟨by omega, by omega⟩
        have r_i19 : ir i19 := ⟨by omega, by omega⟩
        show GO mX12_known K V (IP K V (fun X => True)) K V 0 0 35 [some (.ref x), some (ti p0), some (ti p1), some (ti p2), some (ti i17), some (ti i18), some (ti i19)] []
        refine GO.iload dX12_known_35 rfl ?_
        refine GO.aload_n dX12_known_37 rfl rfl ?_
        refine GO.getI h_x fl_RX12_761 rfl rfl dX12_known_38 (fun l1130 u1131 => ?_)
        refine GO.icmp_ge (tgt := 138) dX12_known_41 (by decide) r_i19 vi_ir (fun c1132 => ?_) (fun c1132 => ?_)
        ·
          refine GO.iload dX12_known_138 rfl ?_
          refine GO.iconst dX12_known_140 ?_
          refine GO.icmp_eq (tgt := 162) dX12_known_141 (by decide) r_i17 (ir_c rfl) (fun c1133 => ?_) (fun c1133 => ?_)
          ·
            refine GO.iload dX12_known_162 rfl ?_
            refine GO.iconst dX12_known_164 ?_
            refine GO.icmp_ne (tgt := 174) dX12_known_165 (by decide) r_i18 (ir_c rfl) (fun c1134 => ?_) (fun c1134 => ?_)
            ·
              refine GO.aload_n dX12_known_174 rfl rfl ?_
              refine GO.getA (n := 200) h_x fl_RX12_352 rfl rfl rfl rfl dX12_known_175 (fun hv1136 h1135 => ?_)
              refine GO.iload dX12_known_178 rfl ?_
              refine GO.iald (t := 119) rfl rfl h1135 r_i18 (by omega) (by omega) dX12_known_180 (fun _ _ => ?_)
              have q1137 : -2147483648 ≤ vi V (vq V x 148) (i18).toNat ∧ vi V (vq V x 148) (i18).toNat ≤ 2147483647 := vi_ir
              exact GO.reti rfl rfl dX12_known_181 ⟨rfl, rfl, _, rfl, vi_ir, trivial⟩
            ·
              refine GO.ldcw (X := (-1000001)) dX12_known_168 gw_2507 rfl ?_
              refine GO.goto (tgt := 181) dX12_known_171 (by decide) ?_
              exact GO.reti rfl rfl dX12_known_181 ⟨rfl, rfl, _, rfl, (ir_c rfl), trivial⟩
          ·
            refine GO.aload_n dX12_known_144 rfl rfl ?_
            refine GO.getA (n := 200) h_x fl_RX12_358 rfl rfl rfl rfl dX12_known_145 (fun hv1139 h1138 => ?_)
            refine GO.iload dX12_known_148 rfl ?_
            refine GO.zald (t := 121) rfl rfl h1138 r_i17 (by omega) (by omega) dX12_known_150 (fun l1140 u1141 => ?_)
            refine GO.if_eq (tgt := 162) dX12_known_151 (by decide) vi_ir (fun c1142 => ?_) (fun c1142 => ?_)
            ·
              refine GO.iload dX12_known_162 rfl ?_
              refine GO.iconst dX12_known_164 ?_
              refine GO.icmp_ne (tgt := 174) dX12_known_165 (by decide) r_i18 (ir_c rfl) (fun c1143 => ?_) (fun c1143 => ?_)
              ·
                refine GO.aload_n dX12_known_174 rfl rfl ?_
                refine GO.getA (n := 200) h_x fl_RX12_352 rfl rfl rfl rfl dX12_known_175 (fun hv1145 h1144 => ?_)
                refine GO.iload dX12_known_178 rfl ?_
                refine GO.iald (t := 119) rfl rfl h1144 r_i18 (by omega) (by omega) dX12_known_180 (fun _ _ => ?_)
                have q1146 : -2147483648 ≤ vi V (vq V x 148) (i18).toNat ∧ vi V (vq V x 148) (i18).toNat ≤ 2147483647 := vi_ir
                exact GO.reti rfl rfl dX12_known_181 ⟨rfl, rfl, _, rfl, vi_ir, trivial⟩
              ·
                refine GO.ldcw (X := (-1000001)) dX12_known_168 gw_2507 rfl ?_
                refine GO.goto (tgt := 181) dX12_known_171 (by decide) ?_
                exact GO.reti rfl rfl dX12_known_181 ⟨rfl, rfl, _, rfl, (ir_c rfl), trivial⟩
            ·
              refine GO.aload_n dX12_known_154 rfl rfl ?_
              refine GO.getA (n := 200) h_x fl_RX12_352 rfl rfl rfl rfl dX12_known_155 (fun hv1148 h1147 => ?_)
              refine GO.iload dX12_known_158 rfl ?_
              refine GO.iald (t := 119) rfl rfl h1147 r_i17 (by omega) (by omega) dX12_known_160 (fun _ _ => ?_)
              have q1149 : -2147483648 ≤ vi V (vq V x 148) (i17).toNat ∧ vi V (vq V x 148) (i17).toNat ≤ 2147483647 := vi_ir
              exact GO.reti rfl rfl dX12_known_161 ⟨rfl, rfl, _, rfl, vi_ir, trivial⟩
        ·
          refine GO.aload_n dX12_known_44 rfl rfl ?_
          refine GO.getA (n := 200) h_x fl_RX12_346 rfl rfl rfl rfl dX12_known_45 (fun hv1151 h1150 => ?_)
          refine GO.iload dX12_known_48 rfl ?_
          refine GO.iald (t := 117) rfl rfl h1150 r_i19 (by omega) (by omega) dX12_known_50 (fun _ _ => ?_)
          refine GO.iload_n dX12_known_51 rfl rfl ?_
          refine GO.icmp_ne (tgt := 132) dX12_known_52 (by decide) vi_ir r_p0 (fun c1152 => ?_) (fun c1152 => ?_)
          ·
            refine GO.iinc (X := i19) (n := 1) (Y := i19 + 1) (ls1 := [some (.ref x), some (ti p0), some (ti p1), some (ti p2), some (ti i17), some (ti i18), some (ti (i19 + 1))]) dX12_known_132 rfl rfl rfl rfl ?_
            refine GO.goto (tgt := 35) dX12_known_135 (by decide) ?_
            exact ih1128 i17 i18 (i19 + 1) V ⟨by omega, by omega, by omega, by omega, by omega, by omega, rfl⟩ (by show (2147483647 - (i19 + 1)).toNat < (2147483647 - i19).toNat; omega)
          ·
            refine GO.aload_n dX12_known_55 rfl rfl ?_
            refine GO.getA (n := 200) h_x fl_RX12_355 rfl rfl rfl rfl dX12_known_56 (fun hv1154 h1153 => ?_)
            refine GO.iload dX12_known_59 rfl ?_
            refine GO.iald (t := 120) rfl rfl h1153 r_i19 (by omega) (by omega) dX12_known_61 (fun _ _ => ?_)
            refine GO.iload_n dX12_known_62 rfl rfl ?_
            refine GO.icmp_le (tgt := 69) dX12_known_63 (by decide) vi_ir r_p2 (fun c1155 => ?_) (fun c1155 => ?_)
            ·
              refine GO.aload_n dX12_known_69 rfl rfl ?_
              refine GO.getA (n := 200) h_x fl_RX12_349 rfl rfl rfl rfl dX12_known_70 (fun hv1157 h1156 => ?_)
              refine GO.iload dX12_known_73 rfl ?_
              refine GO.iald (t := 118) rfl rfl h1156 r_i19 (by omega) (by omega) dX12_known_75 (fun _ _ => ?_)
              refine GO.iload_n dX12_known_76 rfl rfl ?_
              have hj1160 : ∀ (z1159 : Int), ∀ (l1161 : (-1) ≤ z1159), ∀ (u1162 : z1159 ≤ 199), GO mX12_known K V (IP K V (fun X => True)) K V 0 0 84 [some (.ref x), some (ti p0), some (ti p1), some (ti p2), some (ti z1159), some (ti i18), some (ti i19)] [] := by
                intro z1159 l1161 u1162
                have r1163 : ir z1159 := ⟨by omega, by omega⟩
                refine GO.aload_n dX12_known_84 rfl rfl ?_
                refine GO.getRaw h_x fl_RX12_349 hv1157 dX12_known_85 ?_
                refine GO.iload dX12_known_88 rfl ?_
                refine GO.iald (t := 118) rfl rfl h1156 r_i19 (by omega) (by omega) dX12_known_90 (fun _ _ => ?_)
                refine GO.iload_n dX12_known_91 rfl rfl ?_
                refine GO.icmp_ge (tgt := 132) dX12_known_92 (by decide) vi_ir r_p1 (fun c1166 => ?_) (fun c1166 => ?_)
                ·
                  refine GO.iinc (X := i19) (n := 1) (Y := i19 + 1) (ls1 := [some (.ref x), some (ti p0), some (ti p1), some (ti p2), some (ti z1159), some (ti i18), some (ti (i19 + 1))]) dX12_known_132 rfl rfl rfl rfl ?_
                  refine GO.goto (tgt := 35) dX12_known_135 (by decide) ?_
                  exact ih1128 z1159 i18 (i19 + 1) V ⟨by omega, by omega, by omega, by omega, by omega, by omega, rfl⟩ (by show (2147483647 - (i19 + 1)).toNat < (2147483647 - i19).toNat; omega)
                ·
                  refine GO.aload_n dX12_known_95 rfl rfl ?_
                  refine GO.getA (n := 200) h_x fl_RX12_358 rfl rfl rfl rfl dX12_known_96 (fun hv1168 h1167 => ?_)
                  refine GO.iload dX12_known_99 rfl ?_
                  refine GO.zald (t := 121) rfl rfl h1167 r_i19 (by omega) (by omega) dX12_known_101 (fun l1169 u1170 => ?_)
                  refine GO.if_eq (tgt := 132) dX12_known_102 (by decide) vi_ir (fun c1171 => ?_) (fun c1171 => ?_)
                  ·
                    refine GO.iinc (X := i19) (n := 1) (Y := i19 + 1) (ls1 := [some (.ref x), some (ti p0), some (ti p1), some (ti p2), some (ti z1159), some (ti i18), some (ti (i19 + 1))]) dX12_known_132 rfl rfl rfl rfl ?_
                    refine GO.goto (tgt := 35) dX12_known_135 (by decide) ?_
                    exact ih1128 z1159 i18 (i19 + 1) V ⟨by omega, by omega, by omega, by omega, by omega, by omega, rfl⟩ (by show (2147483647 - (i19 + 1)).toNat < (2147483647 - i19).toNat; omega)
                  ·
                    refine GO.iload dX12_known_105 rfl ?_
                    refine GO.iconst dX12_known_107 ?_
                    refine GO.icmp_eq (tgt := 128) dX12_known_108 (by decide) r_i18 (ir_c rfl) (fun c1172 => ?_) (fun c1172 => ?_)
                    ·
                      refine GO.iload dX12_known_128 rfl ?_
                      refine GO.istore (ls1 := [some (.ref x), some (ti p0), some (ti p1), some (ti p2), some (ti z1159), some (ti i19), some (ti i19)]) dX12_known_130 rfl rfl ?_
                      refine GO.iinc (X := i19) (n := 1) (Y := i19 + 1) (ls1 := [some (.ref x), some (ti p0), some (ti p1), some (ti p2), some (ti z1159), some (ti i19), some (ti (i19 + 1))]) dX12_known_132 rfl rfl rfl rfl ?_
                      refine GO.goto (tgt := 35) dX12_known_135 (by decide) ?_
                      exact ih1128 z1159 i19 (i19 + 1) V ⟨by omega, by omega, by omega, by omega, by omega, by omega, rfl⟩ (by show (2147483647 - (i19 + 1)).toNat < (2147483647 - i19).toNat; omega)
                    ·
                      refine GO.aload_n dX12_known_111 rfl rfl ?_
                      refine GO.getRaw h_x fl_RX12_349 hv1157 dX12_known_112 ?_
                      refine GO.iload dX12_known_115 rfl ?_
                      refine GO.iald (t := 118) rfl rfl h1156 r_i19 (by omega) (by omega) dX12_known_117 (fun _ _ => ?_)
                      refine GO.aload_n dX12_known_118 rfl rfl ?_
                      refine GO.getRaw h_x fl_RX12_349 hv1157 dX12_known_119 ?_
                      refine GO.iload dX12_known_122 rfl ?_
                      refine GO.iald (t := 118) rfl rfl h1156 r_i18 (by omega) (by omega) dX12_known_124 (fun _ _ => ?_)
                      refine GO.icmp_lt (tgt := 132) dX12_known_125 (by decide) vi_ir vi_ir (fun c1177 => ?_) (fun c1177 => ?_)
                      ·
                        refine GO.iinc (X := i19) (n := 1) (Y := i19 + 1) (ls1 := [some (.ref x), some (ti p0), some (ti p1), some (ti p2), some (ti z1159), some (ti i18), some (ti (i19 + 1))]) dX12_known_132 rfl rfl rfl rfl ?_
                        refine GO.goto (tgt := 35) dX12_known_135 (by decide) ?_
                        exact ih1128 z1159 i18 (i19 + 1) V ⟨by omega, by omega, by omega, by omega, by omega, by omega, rfl⟩ (by show (2147483647 - (i19 + 1)).toNat < (2147483647 - i19).toNat; omega)
                      ·
                        refine GO.iload dX12_known_128 rfl ?_
                        refine GO.istore (ls1 := [some (.ref x), some (ti p0), some (ti p1), some (ti p2), some (ti z1159), some (ti i19), some (ti i19)]) dX12_known_130 rfl rfl ?_
                        refine GO.iinc (X := i19) (n := 1) (Y := i19 + 1) (ls1 := [some (.ref x), some (ti p0), some (ti p1), some (ti p2), some (ti z1159), some (ti i19), some (ti (i19 + 1))]) dX12_known_132 rfl rfl rfl rfl ?_
                        refine GO.goto (tgt := 35) dX12_known_135 (by decide) ?_
                        exact ih1128 z1159 i19 (i19 + 1) V ⟨by omega, by omega, by omega, by omega, by omega, by omega, rfl⟩ (by show (2147483647 - (i19 + 1)).toNat < (2147483647 - i19).toNat; omega)
              refine GO.icmp_ne (tgt := 84) dX12_known_77 (by decide) vi_ir r_p1 (fun c1178 => ?_) (fun c1178 => ?_)
              ·
                exact hj1160 i17 (by omega) (by omega)
              ·
                refine GO.iload dX12_known_80 rfl ?_
                refine GO.istore (ls1 := [some (.ref x), some (ti p0), some (ti p1), some (ti p2), some (ti i19), some (ti i18), some (ti i19)]) dX12_known_82 rfl rfl ?_
                exact hj1160 i19 (by omega) (by omega)
            ·
              refine GO.goto (tgt := 132) dX12_known_66 (by decide) ?_
              refine GO.iinc (X := i19) (n := 1) (Y := i19 + 1) (ls1 := [some (.ref x), some (ti p0), some (ti p1), some (ti p2), some (ti i17), some (ti i18), some (ti (i19 + 1))]) dX12_known_132 rfl rfl rfl rfl ?_
              refine GO.goto (tgt := 35) dX12_known_135 (by decide) ?_
              exact ih1128 i17 i18 (i19 + 1) V ⟨by omega, by omega, by omega, by omega, by omega, by omega, rfl⟩ (by show (2147483647 - (i19 + 1)).toNat < (2147483647 - i19).toNat; omega)
      ·
        have q1179 := h14.2.2 (by omega)
        refine GO.ldcw (X := (-1000001)) dX12_known_22 gw_2507 rfl ?_
        exact GO.reti rfl rfl dX12_known_25 ⟨rfl, rfl, _, rfl, (ir_c rfl), trivial⟩

set_option maxHeartbeats 1000000 in
theorem t_X12_tapeNumber {K : Kmap} {V : Vmap} {x : Nat} {p0 : Int} (h_x : K x = some (0, 11)) (r_p0 : ir p0) (q_0 : p0 ≥ 0) (q_1 : p0 ≤ 99) : MC mX12_tapeNumber K V [.ref x, ti p0] (IP K V (fun X => (X ≥ (-2147483648) ∧ X ≤ 2147483647) ∧ (X = numb (mtC V x) p0))) := by
  refine MC.start 2 (by decide +kernel) rfl rfl rfl (ls0 := [some (.ref x), some (ti p0), none, none]) rfl ?_
  refine GO.iconst dX12_tapeNumber_0 ?_
  refine GO.istore_n (ls1 := [some (.ref x), some (ti p0), some (ti 0), none]) dX12_tapeNumber_1 rfl rfl rfl ?_
  refine GO.iconst dX12_tapeNumber_2 ?_
  refine GO.iload_n dX12_tapeNumber_3 rfl rfl ?_
  refine GO.imul dX12_tapeNumber_4 ?_
  refine GO.name (fun z1 hz2 => ?_)
  refine GO.istore_n (ls1 := [some (.ref x), some (ti p0), some (ti 0), some (ti z1)]) dX12_tapeNumber_5 rfl rfl rfl ?_
  have q5 : -2147483648 ≤ p0 ∧ p0 ≤ 2147483647 := r_p0
  refine GO.loop2 (fun i3 i4 W => (-2147483648) ≤ i3 ∧ i3 ≤ 2147483647 ∧ 0 ≤ i4 ∧ i4 ≤ 400 ∧ (i4 ≥ (4 * p0) ∧ i4 ≤ ((4 * p0) + 4)) ∧ (i3 = n4 (mtC W x) (p0).toNat (i4 - 4 * p0).toNat) ∧ V = W) (fun i3 i4 => [some (.ref x), some (ti p0), some (ti i3), some (ti i4)]) (fun i3 i4 W => (2147483647 - i4).toNat) 0 z1 ⟨by omega, by omega, by omega, by omega, by omega, (by first | exact N4.beg (by omega)), rfl⟩ rfl (fun i3 i4 V240 hp242 ih241 => ?_)
  obtain ⟨l_i3, u_i3, l_i4, u_i4, n_i3, htn, rfl⟩ := hp242
  have r_i3 : ir i3 := ⟨by omega, by omega⟩
  have r_i4 : ir i4 := ⟨by omega, by omega⟩
  show GO mX12_tapeNumber K V (IP K V (fun X => (X ≥ (-2147483648) ∧ X ≤ 2147483647) ∧ (X = numb (mtC V x) p0))) K V 0 0 6 [some (.ref x), some (ti p0), some (ti i3), some (ti i4)] []
  refine GO.iload_n dX12_tapeNumber_6 rfl rfl ?_
  refine GO.iconst dX12_tapeNumber_7 ?_
  refine GO.iload_n dX12_tapeNumber_8 rfl rfl ?_
  refine GO.imul dX12_tapeNumber_9 ?_
  refine GO.iconst dX12_tapeNumber_10 ?_
  refine GO.iadd dX12_tapeNumber_11 ?_
  refine GO.icmp_ge (tgt := 37) dX12_tapeNumber_12 (by decide) r_i4 ⟨by omega, by omega⟩ (fun c243 => ?_) (fun c243 => ?_)
  ·
    refine GO.iload_n dX12_tapeNumber_37 rfl rfl ?_
    exact GO.reti rfl rfl dX12_tapeNumber_38 ⟨rfl, rfl, _, rfl, r_i3, ⟨(by first | exact trivial | omega), (by first | exact N4.end htn (by omega))⟩⟩
  ·
    refine GO.iload_n dX12_tapeNumber_15 rfl rfl ?_
    refine GO.bipush dX12_tapeNumber_16 rfl ?_
    refine GO.ishl dX12_tapeNumber_18 ?_
    refine GO.aload_n dX12_tapeNumber_19 rfl rfl ?_
    refine GO.getA (n := 400) h_x fl_RX12_84 rfl rfl rfl rfl dX12_tapeNumber_20 (fun hv245 h244 => ?_)
    refine GO.iload_n dX12_tapeNumber_23 rfl rfl ?_
    refine GO.bald (t := 31) rfl rfl h244 r_i4 (by omega) (by omega) dX12_tapeNumber_24 (fun l246 u247 => ?_)
    refine GO.sipush dX12_tapeNumber_25 rfl ?_
    refine GO.iand dX12_tapeNumber_28 ?_
    have h248 := wand_rng (X := vi V (vq V x 29) (i4).toNat)
    refine GO.ior dX12_tapeNumber_29 ?_
    refine GO.name (fun z249 hz250 => ?_)
    have r251 : ir z249 := hz250 ▸ wor_ir
    refine GO.istore_n (ls1 := [some (.ref x), some (ti p0), some (ti z249), some (ti i4)]) dX12_tapeNumber_30 rfl rfl rfl ?_
    refine GO.iinc (X := i4) (n := 1) (Y := i4 + 1) (ls1 := [some (.ref x), some (ti p0), some (ti z249), some (ti (i4 + 1))]) dX12_tapeNumber_31 rfl rfl rfl rfl ?_
    refine GO.goto (tgt := 6) dX12_tapeNumber_34 (by decide) ?_
    have q252 : -2147483648 ≤ z249 ∧ z249 ≤ 2147483647 := r251
    have q253 : -2147483648 ≤ wor (wshl i3 8) (wand (vi V (vq V x 29) (i4).toNat) 255) ∧ wor (wshl i3 8) (wand (vi V (vq V x 29) (i4).toNat) 255) ≤ 2147483647 := wor_ir
    exact ih241 z249 (i4 + 1) V ⟨by omega, by omega, by omega, by omega, by omega, (by first | exact N4.beg (by omega) | exact N4.mst htn (by first | assumption | rfl) (by omega) (by omega) (by omega)), rfl⟩ (by show (2147483647 - (i4 + 1)).toNat < (2147483647 - i4).toNat; omega)
