def mX12_text : MRec := (RX12, cX12_text, 7, (some .int), yX12_text, 8, 168, 0, 0, 8543931847395829653691396677112701183385529677773362518872825501679930289431200552663524355080192)
set_option maxHeartbeats 8000000 in
theorem t_X12_text {K : Kmap} {V : Vmap} {x : Nat} {p0 : Int} {p1 : Int} {p2 : Int} (h_x : K x = some (0, 11)) (r_p0 : ir p0) (r_p1 : ir p1) (r_p2 : ir p2) (w_0 : GX V x) : MC mX12_text K V [.ref x, ti p0, ti p1, ti p2] (IS K (fun X V1 => (X ≥ (-2147483648) ∧ X ≤ 2147483647) ∧ (GX V1 x) ∧ (MTX V V1 x p0 p1 p2 X) ∧ (YTX V V1 x))) := by
  refine MC.start 3 (by decide +kernel) rfl rfl rfl (ls0 := [some (.ref x), some (ti p0), some (ti p1), some (ti p2), none, none, none]) rfl ?_
  refine GO.useWT (fun hW_0 => ?_)
  refine GO.useWT (fun hW1 => ?_)
  have aq2 := hW1.aq h_x
  refine GO.useWT (fun hW3 => ?_)
  have ak4 := hW3.arr h_x 39 32 (by decide) rfl (by decide)
  have ak5 := hW3.arr h_x 41 34 (by decide) rfl (by decide)
  have ak6 := hW3.arr h_x 42 35 (by decide) rfl (by decide)
  have ak7 := hW3.arr h_x 43 36 (by decide) rfl (by decide)
  have ak8 := hW3.arr h_x 49 40 (by decide) rfl (by decide)
  have ak9 := hW3.arr h_x 50 41 (by decide) rfl (by decide)
  have ak10 := hW3.arr h_x 53 44 (by decide) rfl (by decide)
  have ak11 := hW3.arr h_x 54 45 (by decide) rfl (by decide)
  have ak12 := hW3.arr h_x 55 46 (by decide) rfl (by decide)
  have ak13 := hW3.arr h_x 60 51 (by decide) rfl (by decide)
  have ak14 := hW3.arr h_x 61 52 (by decide) rfl (by decide)
  have ak15 := hW3.arr h_x 44 37 (by decide) rfl (by decide)
  have ak16 := hW3.arr h_x 45 38 (by decide) rfl (by decide)
  have ak17 := hW3.arr h_x 46 39 (by decide) rfl (by decide)
  have ak18 := hW3.arr h_x 51 42 (by decide) rfl (by decide)
  have ak19 := hW3.arr h_x 52 43 (by decide) rfl (by decide)
  have ak20 := hW3.arr h_x 56 47 (by decide) rfl (by decide)
  have ak21 := hW3.arr h_x 57 48 (by decide) rfl (by decide)
  have ak22 := hW3.arr h_x 58 49 (by decide) rfl (by decide)
  have ak23 := hW3.arr h_x 59 50 (by decide) rfl (by decide)
  refine GO.useWT (fun hW_0 => ?_)
  have hcn := (hW1).cnt h_x
  refine GO.iload_n dX12_text_0 rfl rfl ?_
  refine GO.callS (N := mX12_isDay) dX12_text_1 gS_RX12_409 (t_X12_isDay r_p0) rfl [] rfl rfl (Nat.le_of_ble_eq_true rfl) rfl (k_ip fun X24 r25 h26 => ?_)
  refine GO.if_eq (tgt := 46) dX12_text_4 (by decide) r25 (fun c27 => ?_) (fun c27 => ?_)
  ·
    clear ak4 ak5 ak6 ak7 ak8 ak9 ak10 ak11 ak12 ak13 ak14 ak15 ak16 ak17 ak18 ak19 ak20 ak21 ak22 ak23
    have q28 := h26.2.2 (by omega)
    refine GO.iconst dX12_text_46 ?_
    exact GO.reti rfl rfl dX12_text_47 ⟨rfl, _, rfl, (ir_c rfl), ⟨(by first | exact trivial | omega), (by first | exact w_0 | exact GX.mk w_0 (by omega) (by omega) (rfl : ar 49 V x = ar 49 V x) (rfl : ar 50 V x = ar 50 V x) (rfl : ar 53 V x = ar 53 V x) (rfl : ar 54 V x = ar 54 V x) (rfl : ar 55 V x = ar 55 V x) (rfl : ar 60 V x = ar 60 V x) (rfl : ar 61 V x = ar 61 V x)), (by first | exact MTX.no (by unfold MTC; omega) rfl), (by first | exact YTX.same (rfl : ar 59 V x = ar 59 V x) (by omega))⟩⟩
  ·
    have q29 := h26.2.1 (by omega)
    refine GO.iload_n dX12_text_7 rfl rfl ?_
    refine GO.iload_n dX12_text_8 rfl rfl ?_
    refine GO.sipush dX12_text_9 rfl ?_
    refine GO.callS (N := mX12_in) dX12_text_12 gS_RX12_371 (t_X12_in r_p1 r_p0 (ir_c rfl)) rfl [] rfl rfl (Nat.le_of_ble_eq_true rfl) rfl (k_ip fun X30 r31 h32 => ?_)
    have raw_in := h32.2.2.2
    have rw12 := h32.2.2.2
    refine GO.if_eq (tgt := 46) dX12_text_15 (by decide) r31 (fun c33 => ?_) (fun c33 => ?_)
    ·
      clear ak4 ak5 ak6 ak7 ak8 ak9 ak10 ak11 ak12 ak13 ak14 ak15 ak16 ak17 ak18 ak19 ak20 ak21 ak22 ak23
      have q34 := h32.2.2.1 (by omega)
      refine GO.iconst dX12_text_46 ?_
      exact GO.reti rfl rfl dX12_text_47 ⟨rfl, _, rfl, (ir_c rfl), ⟨(by first | exact trivial | omega), (by first | exact w_0 | exact GX.mk w_0 (by omega) (by omega) (rfl : ar 49 V x = ar 49 V x) (rfl : ar 50 V x = ar 50 V x) (rfl : ar 53 V x = ar 53 V x) (rfl : ar 54 V x = ar 54 V x) (rfl : ar 55 V x = ar 55 V x) (rfl : ar 60 V x = ar 60 V x) (rfl : ar 61 V x = ar 61 V x)), (by first | exact MTX.no (by unfold MTC; omega) rfl), (by first | exact YTX.same (rfl : ar 59 V x = ar 59 V x) (by omega))⟩⟩
    ·
      have q35 := h32.2.1 (by omega)
      refine GO.iload_n dX12_text_18 rfl rfl ?_
      refine GO.iconst dX12_text_19 ?_
      refine GO.sipush dX12_text_20 rfl ?_
      refine GO.callS (N := mX12_in) dX12_text_23 gS_RX12_371 (t_X12_in r_p2 (ir_c rfl) (ir_c rfl)) rfl [] rfl rfl (Nat.le_of_ble_eq_true rfl) rfl (k_ip fun X36 r37 h38 => ?_)
      have raw_in := h38.2.2.2
      have rw23 := h38.2.2.2
      refine GO.if_eq (tgt := 46) dX12_text_26 (by decide) r37 (fun c39 => ?_) (fun c39 => ?_)
      ·
        clear ak4 ak5 ak6 ak7 ak8 ak9 ak10 ak11 ak12 ak13 ak14 ak15 ak16 ak17 ak18 ak19 ak20 ak21 ak22 ak23
        have q40 := h38.2.2.1 (by omega)
        refine GO.iconst dX12_text_46 ?_
        exact GO.reti rfl rfl dX12_text_47 ⟨rfl, _, rfl, (ir_c rfl), ⟨(by first | exact trivial | omega), (by first | exact w_0 | exact GX.mk w_0 (by omega) (by omega) (rfl : ar 49 V x = ar 49 V x) (rfl : ar 50 V x = ar 50 V x) (rfl : ar 53 V x = ar 53 V x) (rfl : ar 54 V x = ar 54 V x) (rfl : ar 55 V x = ar 55 V x) (rfl : ar 60 V x = ar 60 V x) (rfl : ar 61 V x = ar 61 V x)), (by first | exact MTX.no (by unfold MTC; omega) rfl), (by first | exact YTX.same (rfl : ar 59 V x = ar 59 V x) (by omega))⟩⟩
      ·
        have q41 := h38.2.1 (by omega)
        refine GO.iload_n dX12_text_29 rfl rfl ?_
        refine GO.aload_n dX12_text_30 rfl rfl ?_
        refine GO.getI h_x fl_RX12_436 rfl rfl dX12_text_31 (fun l42 u43 => ?_)
        refine GO.icmp_gt (tgt := 46) dX12_text_34 (by decide) r_p2 vi_ir (fun c44 => ?_) (fun c44 => ?_)
        ·
          clear ak4 ak5 ak6 ak7 ak8 ak9 ak10 ak11 ak12 ak13 ak14 ak15 ak16 ak17 ak18 ak19 ak20 ak21 ak22 ak23
          refine GO.iconst dX12_text_46 ?_
          exact GO.reti rfl rfl dX12_text_47 ⟨rfl, _, rfl, (ir_c rfl), ⟨(by first | exact trivial | omega), (by first | exact w_0 | exact GX.mk w_0 (by omega) (by omega) (rfl : ar 49 V x = ar 49 V x) (rfl : ar 50 V x = ar 50 V x) (rfl : ar 53 V x = ar 53 V x) (rfl : ar 54 V x = ar 54 V x) (rfl : ar 55 V x = ar 55 V x) (rfl : ar 60 V x = ar 60 V x) (rfl : ar 61 V x = ar 61 V x)), (by first | exact MTX.no (by unfold MTC; omega) rfl), (by first | exact YTX.same (rfl : ar 59 V x = ar 59 V x) (by omega))⟩⟩
        ·
          refine GO.aload_n dX12_text_37 rfl rfl ?_
          refine GO.getI h_x fl_RX12_535 rfl rfl dX12_text_38 (fun l45 u46 => ?_)
          refine GO.bipush dX12_text_41 rfl ?_
          refine GO.icmp_ne (tgt := 48) dX12_text_43 (by decide) vi_ir (ir_c rfl) (fun c47 => ?_) (fun c47 => ?_)
          ·
            have hmc : MTC V x p0 p1 p2 := by unfold MTC; omega
            refine GO.aload_n dX12_text_48 rfl rfl ?_
            refine GO.iconst dX12_text_49 ?_
            refine GO.putI h_x fp_RX12_443 rfl (by decide +kernel) (ir_c rfl) (by decide) (by decide) dX12_text_50 (fun V49 e48 => ?_)
            have k50 := st_fld e48 aq2 h_x (by decide) (by decide)
            have sS51 : sd V49 x = sd V x := k50.2.1.trans (rfl : sd V x = sd V x)
            have sQ52 : wt V49 x = wt V x := k50.2.2.trans (rfl : wt V x = wt V x)
            have ak53 := tk_fld e48 ak4 h_x (by decide) (rfl : ar 39 V x = ar 39 V x)
            clear ak4
            have ak54 := tk_fld e48 ak5 h_x (by decide) (rfl : ar 41 V x = ar 41 V x)
            clear ak5
            have ak55 := tk_fld e48 ak6 h_x (by decide) (rfl : ar 42 V x = ar 42 V x)
            clear ak6
            have ak56 := tk_fld e48 ak7 h_x (by decide) (rfl : ar 43 V x = ar 43 V x)
            clear ak7
            have ak57 := tk_fld e48 ak8 h_x (by decide) (rfl : ar 49 V x = ar 49 V x)
            clear ak8
            have ak58 := tk_fld e48 ak9 h_x (by decide) (rfl : ar 50 V x = ar 50 V x)
            clear ak9
            have ak59 := tk_fld e48 ak10 h_x (by decide) (rfl : ar 53 V x = ar 53 V x)
            clear ak10
            have ak60 := tk_fld e48 ak11 h_x (by decide) (rfl : ar 54 V x = ar 54 V x)
            clear ak11
            have ak61 := tk_fld e48 ak12 h_x (by decide) (rfl : ar 55 V x = ar 55 V x)
            clear ak12
            have ak62 := tk_fld e48 ak13 h_x (by decide) (rfl : ar 60 V x = ar 60 V x)
            clear ak13
            have ak63 := tk_fld e48 ak14 h_x (by decide) (rfl : ar 61 V x = ar 61 V x)
            clear ak14
            have ak64 := tk_fld e48 ak15 h_x (by decide) (rfl : ar 44 V x = ar 44 V x)
            clear ak15
            have ak65 := tk_fld e48 ak16 h_x (by decide) (rfl : ar 45 V x = ar 45 V x)
            clear ak16
            have ak66 := tk_fld e48 ak17 h_x (by decide) (rfl : ar 46 V x = ar 46 V x)
            clear ak17
            have ak67 := tk_fld e48 ak18 h_x (by decide) (rfl : ar 51 V x = ar 51 V x)
            clear ak18
            have ak68 := tk_fld e48 ak19 h_x (by decide) (rfl : ar 52 V x = ar 52 V x)
            clear ak19
            have ak69 := tk_fld e48 ak20 h_x (by decide) (rfl : ar 56 V x = ar 56 V x)
            clear ak20
            have ak70 := tk_fld e48 ak21 h_x (by decide) (rfl : ar 57 V x = ar 57 V x)
            clear ak21
            have ak71 := tk_fld e48 ak22 h_x (by decide) (rfl : ar 58 V x = ar 58 V x)
            clear ak22
            have ak72 := tk_fld e48 ak23 h_x (by decide) (rfl : ar 59 V x = ar 59 V x)
            clear ak23
            refine GO.aload_n dX12_text_53 rfl rfl ?_
            refine GO.iload_n dX12_text_54 rfl rfl ?_
            have q74 : -2147483648 ≤ p2 ∧ p2 ≤ 2147483647 := r_p2
            refine GO.putI h_x fp_RX12_446 rfl (by decide +kernel) r_p2 (by omega) (by omega) dX12_text_55 (fun V75 e73 => ?_)
            have k76 := st_fld e73 k50.1 h_x (by decide) (by decide)
            clear k50
            have sS77 : sd V75 x = sd V x := k76.2.1.trans sS51
            have sQ78 : wt V75 x = wt V x := k76.2.2.trans sQ52
            have ak79 := tk_fld e73 ak53.1 h_x (by decide) ak53.2
            clear ak53
            have ak80 := tk_fld e73 ak54.1 h_x (by decide) ak54.2
            clear ak54
            have ak81 := tk_fld e73 ak55.1 h_x (by decide) ak55.2
            clear ak55
            have ak82 := tk_fld e73 ak56.1 h_x (by decide) ak56.2
            clear ak56
            have ak83 := tk_fld e73 ak57.1 h_x (by decide) ak57.2
            clear ak57
            have ak84 := tk_fld e73 ak58.1 h_x (by decide) ak58.2
            clear ak58
            have ak85 := tk_fld e73 ak59.1 h_x (by decide) ak59.2
            clear ak59
            have ak86 := tk_fld e73 ak60.1 h_x (by decide) ak60.2
            clear ak60
            have ak87 := tk_fld e73 ak61.1 h_x (by decide) ak61.2
            clear ak61
            have ak88 := tk_fld e73 ak62.1 h_x (by decide) ak62.2
            clear ak62
            have ak89 := tk_fld e73 ak63.1 h_x (by decide) ak63.2
            clear ak63
            have ak90 := tk_fld e73 ak64.1 h_x (by decide) ak64.2
            clear ak64
            have ak91 := tk_fld e73 ak65.1 h_x (by decide) ak65.2
            clear ak65
            have ak92 := tk_fld e73 ak66.1 h_x (by decide) ak66.2
            clear ak66
            have ak93 := tk_fld e73 ak67.1 h_x (by decide) ak67.2
            clear ak67
            have ak94 := tk_fld e73 ak68.1 h_x (by decide) ak68.2
            clear ak68
            have ak95 := tk_fld e73 ak69.1 h_x (by decide) ak69.2
            clear ak69
            have ak96 := tk_fld e73 ak70.1 h_x (by decide) ak70.2
            clear ak70
            have ak97 := tk_fld e73 ak71.1 h_x (by decide) ak71.2
            clear ak71
            have ak98 := tk_fld e73 ak72.1 h_x (by decide) ak72.2
            clear ak72
            refine GO.aload_n dX12_text_58 rfl rfl ?_
            refine GO.iconst dX12_text_59 ?_
            refine GO.putI h_x fp_RX12_466 rfl (by decide +kernel) (ir_c rfl) (by decide) (by decide) dX12_text_60 (fun V100 e99 => ?_)
            have k101 := st_fld e99 k76.1 h_x (by decide) (by decide)
            clear k76
            have sS102 : sd V100 x = sd V x := k101.2.1.trans sS77
            have sQ103 : wt V100 x = wt V x := k101.2.2.trans sQ78
            have ak104 := tk_fld e99 ak79.1 h_x (by decide) ak79.2
            clear ak79
            have ak105 := tk_fld e99 ak80.1 h_x (by decide) ak80.2
            clear ak80
            have ak106 := tk_fld e99 ak81.1 h_x (by decide) ak81.2
            clear ak81
            have ak107 := tk_fld e99 ak82.1 h_x (by decide) ak82.2
            clear ak82
            have ak108 := tk_fld e99 ak83.1 h_x (by decide) ak83.2
            clear ak83
            have ak109 := tk_fld e99 ak84.1 h_x (by decide) ak84.2
            clear ak84
            have ak110 := tk_fld e99 ak85.1 h_x (by decide) ak85.2
            clear ak85
            have ak111 := tk_fld e99 ak86.1 h_x (by decide) ak86.2
            clear ak86
            have ak112 := tk_fld e99 ak87.1 h_x (by decide) ak87.2
            clear ak87
            have ak113 := tk_fld e99 ak88.1 h_x (by decide) ak88.2
            clear ak88
            have ak114 := tk_fld e99 ak89.1 h_x (by decide) ak89.2
            clear ak89
            have ak115 := tk_fld e99 ak90.1 h_x (by decide) ak90.2
            clear ak90
            have ak116 := tk_fld e99 ak91.1 h_x (by decide) ak91.2
            clear ak91
            have ak117 := tk_fld e99 ak92.1 h_x (by decide) ak92.2
            clear ak92
            have ak118 := tk_fld e99 ak93.1 h_x (by decide) ak93.2
            clear ak93
            have ak119 := tk_fld e99 ak94.1 h_x (by decide) ak94.2
            clear ak94
            have ak120 := tk_fld e99 ak95.1 h_x (by decide) ak95.2
            clear ak95
            have ak121 := tk_fld e99 ak96.1 h_x (by decide) ak96.2
            clear ak96
            have ak122 := tk_fld e99 ak97.1 h_x (by decide) ak97.2
            clear ak97
            have ak123 := tk_fld e99 ak98.1 h_x (by decide) ak98.2
            clear ak98
            refine GO.aload_n dX12_text_63 rfl rfl ?_
            refine GO.iconst dX12_text_64 ?_
            refine GO.putI h_x fp_RX12_526 rfl (by decide +kernel) (ir_c rfl) (by decide) (by decide) dX12_text_65 (fun V125 e124 => ?_)
            have k126 := st_fld e124 k101.1 h_x (by decide) (by decide)
            clear k101
            have sS127 : sd V125 x = sd V x := k126.2.1.trans sS102
            have sQ128 : wt V125 x = wt V x := k126.2.2.trans sQ103
            clear k126
            have ak129 := tk_fld e124 ak104.1 h_x (by decide) ak104.2
            clear ak104 ak129
            have ak130 := tk_fld e124 ak105.1 h_x (by decide) ak105.2
            clear ak105 ak130
            have ak131 := tk_fld e124 ak106.1 h_x (by decide) ak106.2
            clear ak106 ak131
            have ak132 := tk_fld e124 ak107.1 h_x (by decide) ak107.2
            clear ak107 ak132
            have ak133 := tk_fld e124 ak108.1 h_x (by decide) ak108.2
            clear ak108
            have ak134 := tk_fld e124 ak109.1 h_x (by decide) ak109.2
            clear ak109
            have ak135 := tk_fld e124 ak110.1 h_x (by decide) ak110.2
            clear ak110
            have ak136 := tk_fld e124 ak111.1 h_x (by decide) ak111.2
            clear ak111
            have ak137 := tk_fld e124 ak112.1 h_x (by decide) ak112.2
            clear ak112
            have ak138 := tk_fld e124 ak113.1 h_x (by decide) ak113.2
            clear ak113
            have ak139 := tk_fld e124 ak114.1 h_x (by decide) ak114.2
            clear ak114
            have ak140 := tk_fld e124 ak115.1 h_x (by decide) ak115.2
            clear ak115 ak140
            have ak141 := tk_fld e124 ak116.1 h_x (by decide) ak116.2
            clear ak116 ak141
            have ak142 := tk_fld e124 ak117.1 h_x (by decide) ak117.2
            clear ak117 ak142
            have ak143 := tk_fld e124 ak118.1 h_x (by decide) ak118.2
            clear ak118
            have ak144 := tk_fld e124 ak119.1 h_x (by decide) ak119.2
            clear ak119
            have ak145 := tk_fld e124 ak120.1 h_x (by decide) ak120.2
            clear ak120
            have ak146 := tk_fld e124 ak121.1 h_x (by decide) ak121.2
            clear ak121
            have ak147 := tk_fld e124 ak122.1 h_x (by decide) ak122.2
            clear ak122
            have ak148 := tk_fld e124 ak123.1 h_x (by decide) ak123.2
            clear ak123
            have e149 : vi V125 x 38 = 0 := upd2_int e124 (ir_c rfl)
            have e151 : vi V100 x 36 = 0 := upd2_int e99 (ir_c rfl)
            have e150 : vi V125 x 36 = vi V100 x 36 := vi_up e124 (Or.inr (by decide))
            have e155 : vi V49 x 31 = 0 := upd2_int e48 (ir_c rfl)
            have e154 : vi V75 x 31 = vi V49 x 31 := vi_up e73 (Or.inr (by decide))
            have e153 : vi V100 x 31 = vi V75 x 31 := vi_up e99 (Or.inr (by decide))
            have e152 : vi V125 x 31 = vi V100 x 31 := vi_up e124 (Or.inr (by decide))
            have e158 : vi V75 x 32 = p2 := upd2_int e73 r_p2
            have e157 : vi V100 x 32 = vi V75 x 32 := vi_up e99 (Or.inr (by decide))
            have e156 : vi V125 x 32 = vi V100 x 32 := vi_up e124 (Or.inr (by decide))
            refine GO.useFR (fun hFs => ?_)
            have hT0 : ∀ src, SRM V x (p2).toNat src → TP V125 x src (p2).toNat := fun src h => TP.of hFs h_x hW_0 (by decide +kernel) (by decide +kernel) (by omega) h
            refine GO.aload_n dX12_text_68 rfl rfl ?_
            refine GO.callV (ci := 11) (N := mX12_readsClause) dX12_text_69 (RX12, TX12, 151) rfl gV_RX12_538 h_x (t_X12_readsClause h_x (by omega) ((by first | exact TC.nil (by omega)))) rfl [] rfl rfl (Nat.le_of_ble_eq_true rfl) rfl (k_is fun X159 V163 r160 h161 hF162 => ?_)
            refine GO.useWT (fun hW164 => ?_)
            have aq165 := hW164.aq h_x
            have ak166 := tk_fr hF162 ak133.1 h_x (by decide +kernel) (by decide +kernel) ak133.2
            clear ak133
            have ak167 := tk_fr hF162 ak134.1 h_x (by decide +kernel) (by decide +kernel) ak134.2
            clear ak134
            have ak168 := tk_fr hF162 ak135.1 h_x (by decide +kernel) (by decide +kernel) ak135.2
            clear ak135
            have ak169 := tk_fr hF162 ak136.1 h_x (by decide +kernel) (by decide +kernel) ak136.2
            clear ak136
            have ak170 := tk_fr hF162 ak137.1 h_x (by decide +kernel) (by decide +kernel) ak137.2
            clear ak137
            have ak171 := tk_fr hF162 ak138.1 h_x (by decide +kernel) (by decide +kernel) ak138.2
            clear ak138
            have ak172 := tk_fr hF162 ak139.1 h_x (by decide +kernel) (by decide +kernel) ak139.2
            clear ak139
            have ak173 := tk_fr hF162 ak143.1 h_x (by decide +kernel) (by decide +kernel) ak143.2
            clear ak143
            have ak174 := tk_fr hF162 ak144.1 h_x (by decide +kernel) (by decide +kernel) ak144.2
            clear ak144
            have ak175 := tk_fr hF162 ak145.1 h_x (by decide +kernel) (by decide +kernel) ak145.2
            clear ak145
            have ak176 := tk_fr hF162 ak146.1 h_x (by decide +kernel) (by decide +kernel) ak146.2
            clear ak146
            have ak177 := tk_fr hF162 ak147.1 h_x (by decide +kernel) (by decide +kernel) ak147.2
            clear ak147
            have ak178 := tk_fr hF162 ak148.1 h_x (by decide +kernel) (by decide +kernel) ak148.2
            clear ak148
            refine GO.useWT (fun hW179 => ?_)
            have ak180 := hW179.arr h_x 39 32 (by decide) rfl (by decide)
            clear ak180
            have ak181 := hW179.arr h_x 41 34 (by decide) rfl (by decide)
            clear ak181
            have ak182 := hW179.arr h_x 42 35 (by decide) rfl (by decide)
            clear ak182
            have ak183 := hW179.arr h_x 43 36 (by decide) rfl (by decide)
            clear ak183
            have ak184 := hW179.arr h_x 44 37 (by decide) rfl (by decide)
            clear ak184
            have ak185 := hW179.arr h_x 45 38 (by decide) rfl (by decide)
            clear ak185
            have ak186 := hW179.arr h_x 46 39 (by decide) rfl (by decide)
            clear ak186
            have raw_readsClause := h161.2.2.2.1
            have rq0_69 := h161.2.2.2.2
            have rw69 := h161.2.2.2.1
            refine GO.istore (ls1 := [some (.ref x), some (ti p0), some (ti p1), some (ti p2), some (ti X159), none, none]) dX12_text_72 rfl rfl ?_
            have e194 : vi V49 x 47 = vi V x 47 := vi_up e48 (Or.inr (by decide))
            have e193 : vi V75 x 47 = vi V49 x 47 := vi_up e73 (Or.inr (by decide))
            have e192 : vi V100 x 47 = vi V75 x 47 := vi_up e99 (Or.inr (by decide))
            have e191 : vi V125 x 47 = vi V100 x 47 := vi_up e124 (Or.inr (by decide))
            have e190 : vi V163 x 47 = vi V125 x 47 := vi_fr hF162 h_x h_x (by decide +kernel)
            have q195 : -2147483648 ≤ vi V x 47 ∧ vi V x 47 ≤ 2147483647 := vi_ir
            have e200 : vi V49 x 48 = vi V x 48 := vi_up e48 (Or.inr (by decide))
            have e199 : vi V75 x 48 = vi V49 x 48 := vi_up e73 (Or.inr (by decide))
            have e198 : vi V100 x 48 = vi V75 x 48 := vi_up e99 (Or.inr (by decide))
            have e197 : vi V125 x 48 = vi V100 x 48 := vi_up e124 (Or.inr (by decide))
            have e196 : vi V163 x 48 = vi V125 x 48 := vi_fr hF162 h_x h_x (by decide +kernel)
            have q201 : -2147483648 ≤ vi V x 48 ∧ vi V x 48 ≤ 2147483647 := vi_ir
            have q202 : -2147483648 ≤ vi V163 x 36 ∧ vi V163 x 36 ≤ 2147483647 := vi_ir
            have q203 : -2147483648 ≤ vi V163 x 31 ∧ vi V163 x 31 ≤ 2147483647 := vi_ir
            have e204 : vi V163 x 32 = vi V125 x 32 := vi_fr hF162 h_x h_x (by decide +kernel)
            refine GO.loop1 (fun i189 W => 0 ≤ i189 ∧ i189 ≤ 1 ∧ (vi W x 47 = vi V163 x 47 ∧ vi W x 48 = vi V163 x 48 ∧ (i189 ≠ 0 → vi W x 36 ≤ vi W x 31) ∧ vi W x 32 = p2) ∧ (i189 ≠ 0 → TC W x) ∧ (RTI V V125 W x p2 i189) ∧ ar 49 W x = ar 49 V x ∧ ar 50 W x = ar 50 V x ∧ ar 53 W x = ar 53 V x ∧ ar 54 W x = ar 54 V x ∧ ar 55 W x = ar 55 V x ∧ ar 60 W x = ar 60 V x ∧ ar 61 W x = ar 61 V x ∧ ar 51 W x = ar 51 V x ∧ ar 52 W x = ar 52 V x ∧ ar 56 W x = ar 56 V x ∧ ar 57 W x = ar 57 V x ∧ ar 58 W x = ar 58 V x ∧ ar 59 W x = ar 59 V x ∧ True) (fun i189 => [some (.ref x), some (ti p0), some (ti p1), some (ti p2), some (ti i189), none, none]) (fun i189 W => (((1000 * i189) + (vi W x 32 - vi W x 31))).toNat) X159 ⟨by omega, by omega, by omega, (by first | exact fun h => raw_readsClause (by omega) | exact fun h => absurd rfl h | exact fun h => absurd h (by omega)), (by first | exact RTI.beg hT0 (by omega) (by omega) rq0_69), ak166.2, ak167.2, ak168.2, ak169.2, ak170.2, ak171.2, ak172.2, ak173.2, ak174.2, ak175.2, ak176.2, ak177.2, ak178.2, trivial⟩ rfl (fun i189 Wi189 hp56557 ih56556 => ?_)
            clear ak166 ak167 ak168 ak169 ak170 ak171 ak172 ak173 ak174 ak175 ak176 ak177 ak178
            obtain ⟨l_i189, u_i189, n_i189, htc, hrt, kp56558, kp56559, kp56560, kp56561, kp56562, kp56563, kp56564, kp56565, kp56566, kp56567, kp56568, kp56569, kp56570, -⟩ := hp56557
            have r_i189 : ir i189 := ⟨by omega, by omega⟩
            show GO mX12_text K V (IS K (fun X V1 => (X ≥ (-2147483648) ∧ X ≤ 2147483647) ∧ (GX V1 x) ∧ (MTX V V1 x p0 p1 p2 X) ∧ (YTX V V1 x))) K Wi189 0 0 74 [some (.ref x), some (ti p0), some (ti p1), some (ti p2), some (ti i189), none, none] []
            refine GO.useWT (fun hW56571 => ?_)
            have aq56572 := hW56571.aq h_x
            refine GO.useWT (fun hW56573 => ?_)
            have ak56574 := hW56573.arr h_x 39 32 (by decide) rfl (by decide)
            have ak56575 := hW56573.arr h_x 41 34 (by decide) rfl (by decide)
            have ak56576 := hW56573.arr h_x 42 35 (by decide) rfl (by decide)
            have ak56577 := hW56573.arr h_x 43 36 (by decide) rfl (by decide)
            have ak56578 := hW56573.arr h_x 49 40 (by decide) rfl (by decide)
            have ak56579 := hW56573.arr h_x 50 41 (by decide) rfl (by decide)
            have ak56580 := hW56573.arr h_x 53 44 (by decide) rfl (by decide)
            have ak56581 := hW56573.arr h_x 54 45 (by decide) rfl (by decide)
            have ak56582 := hW56573.arr h_x 55 46 (by decide) rfl (by decide)
            have ak56583 := hW56573.arr h_x 60 51 (by decide) rfl (by decide)
            have ak56584 := hW56573.arr h_x 61 52 (by decide) rfl (by decide)
            have ak56585 := hW56573.arr h_x 44 37 (by decide) rfl (by decide)
            have ak56586 := hW56573.arr h_x 45 38 (by decide) rfl (by decide)
            have ak56587 := hW56573.arr h_x 46 39 (by decide) rfl (by decide)
            have ak56588 := hW56573.arr h_x 51 42 (by decide) rfl (by decide)
            have ak56589 := hW56573.arr h_x 52 43 (by decide) rfl (by decide)
            have ak56590 := hW56573.arr h_x 56 47 (by decide) rfl (by decide)
            have ak56591 := hW56573.arr h_x 57 48 (by decide) rfl (by decide)
            have ak56592 := hW56573.arr h_x 58 49 (by decide) rfl (by decide)
            have ak56593 := hW56573.arr h_x 59 50 (by decide) rfl (by decide)
            have hrd := (hW56571).rd h_x
            refine GO.useFR (fun hFs => ?_)
            have hTp : ∀ src, SRM V x (p2).toNat src → TP Wi189 x src (p2).toNat := fun src h => TP.of hFs h_x hW_0 (by decide +kernel) (by decide +kernel) (by omega) h
            refine GO.iload dX12_text_74 rfl ?_
            refine GO.if_eq (tgt := 116) dX12_text_76 (by decide) r_i189 (fun c56594 => ?_) (fun c56594 => ?_)
            ·
              refine GO.aload_n dX12_text_116 rfl rfl ?_
              refine GO.iconst dX12_text_117 ?_
              refine GO.putI h_x fp_RX12_436 rfl (by decide +kernel) (ir_c rfl) (by decide) (by decide) dX12_text_118 (fun V56596 e56595 => ?_)
              have k56597 := st_fld e56595 aq56572 h_x (by decide) (by decide)
              have sS56598 : sd V56596 x = sd Wi189 x := k56597.2.1.trans (rfl : sd Wi189 x = sd Wi189 x)
              have sQ56599 : wt V56596 x = wt Wi189 x := k56597.2.2.trans (rfl : wt Wi189 x = wt Wi189 x)
              clear k56597
              have ak56600 := tk_fld e56595 ak56574 h_x (by decide) (rfl : ar 39 Wi189 x = ar 39 Wi189 x)
              clear ak56574 ak56600
              have ak56601 := tk_fld e56595 ak56575 h_x (by decide) (rfl : ar 41 Wi189 x = ar 41 Wi189 x)
              clear ak56575 ak56601
              have ak56602 := tk_fld e56595 ak56576 h_x (by decide) (rfl : ar 42 Wi189 x = ar 42 Wi189 x)
              clear ak56576 ak56602
              have ak56603 := tk_fld e56595 ak56577 h_x (by decide) (rfl : ar 43 Wi189 x = ar 43 Wi189 x)
              clear ak56577 ak56603
              have ak56604 := tk_fld e56595 ak56578 h_x (by decide) kp56558
              clear kp56558 ak56578
              have ak56605 := tk_fld e56595 ak56579 h_x (by decide) kp56559
              clear kp56559 ak56579
              have ak56606 := tk_fld e56595 ak56580 h_x (by decide) kp56560
              clear kp56560 ak56580
              have ak56607 := tk_fld e56595 ak56581 h_x (by decide) kp56561
              clear kp56561 ak56581
              have ak56608 := tk_fld e56595 ak56582 h_x (by decide) kp56562
              clear kp56562 ak56582
              have ak56609 := tk_fld e56595 ak56583 h_x (by decide) kp56563
              clear kp56563 ak56583
              have ak56610 := tk_fld e56595 ak56584 h_x (by decide) kp56564
              clear kp56564 ak56584
              have ak56611 := tk_fld e56595 ak56585 h_x (by decide) (rfl : ar 44 Wi189 x = ar 44 Wi189 x)
              clear ak56585 ak56611
              have ak56612 := tk_fld e56595 ak56586 h_x (by decide) (rfl : ar 45 Wi189 x = ar 45 Wi189 x)
              clear ak56586 ak56612
              have ak56613 := tk_fld e56595 ak56587 h_x (by decide) (rfl : ar 46 Wi189 x = ar 46 Wi189 x)
              clear ak56587 ak56613
              have ak56614 := tk_fld e56595 ak56588 h_x (by decide) kp56565
              clear kp56565 ak56588
              have ak56615 := tk_fld e56595 ak56589 h_x (by decide) kp56566
              clear kp56566 ak56589
              have ak56616 := tk_fld e56595 ak56590 h_x (by decide) kp56567
              clear kp56567 ak56590
              have ak56617 := tk_fld e56595 ak56591 h_x (by decide) kp56568
              clear kp56568 ak56591
              have ak56618 := tk_fld e56595 ak56592 h_x (by decide) kp56569
              clear kp56569 ak56592
              have ak56619 := tk_fld e56595 ak56593 h_x (by decide) kp56570
              clear kp56570 ak56593
              refine GO.iload dX12_text_121 rfl ?_
              refine GO.if_ne (tgt := 131) dX12_text_123 (by decide) r_i189 (fun h => by exfalso; omega) (fun c56620 => ?_)
              refine GO.aload_n dX12_text_126 rfl rfl ?_
              refine GO.getI h_x fl_RX12_453 rfl rfl dX12_text_127 (fun _ _ => ?_)
              have e56621 : vi V56596 x 33 = vi Wi189 x 33 := vi_up e56595 (Or.inr (by decide))
              have q56622 : -2147483648 ≤ vi V56596 x 33 ∧ vi V56596 x 33 ≤ 2147483647 := vi_ir
              have q56623 : -2147483648 ≤ vi Wi189 x 33 ∧ vi Wi189 x 33 ≤ 2147483647 := vi_ir
              have e56624 : vi V56596 x 47 = vi Wi189 x 47 := vi_up e56595 (Or.inr (by decide))
              have e56625 : vi V56596 x 48 = vi Wi189 x 48 := vi_up e56595 (Or.inr (by decide))
              have e56626 : vi V56596 x 30 = 0 := upd2_int e56595 (ir_c rfl)
              have e56627 : vi V56596 x 31 = vi Wi189 x 31 := vi_up e56595 (Or.inr (by decide))
              have e56628 : vi V56596 x 36 = vi Wi189 x 36 := vi_up e56595 (Or.inr (by decide))
              have e56629 : vi V56596 x 38 = vi Wi189 x 38 := vi_up e56595 (Or.inr (by decide))
              exact GO.reti rfl rfl dX12_text_130 ⟨rfl, _, rfl, vi_ir, ⟨(by first | exact trivial | omega), (by first | exact w_0 | exact GX.mk w_0 (by omega) (by omega) ak56604.2 ak56605.2 ak56606.2 ak56607.2 ak56608.2 ak56609.2 ak56610.2), (by first | exact MTX.no (by unfold MTC; omega) rfl | exact MTX.er hmc hrt (by omega) (by omega) (by omega) (by omega) (by omega) (by omega) (by omega) ak56605.2 ak56614.2 ak56615.2 ak56606.2 ak56616.2 ak56617.2 ak56618.2), (by first | exact YTX.same ak56619.2 (by omega))⟩⟩
            ·
              refine GO.aload_n dX12_text_79 rfl rfl ?_
              refine GO.getI h_x fl_RX12_443 rfl rfl dX12_text_80 (fun l56630 u56631 => ?_)
              refine GO.aload_n dX12_text_83 rfl rfl ?_
              refine GO.getI h_x fl_RX12_446 rfl rfl dX12_text_84 (fun l56632 u56633 => ?_)
              refine GO.icmp_ge (tgt := 116) dX12_text_87 (by decide) vi_ir vi_ir (fun c56634 => ?_) (fun c56634 => ?_)
              ·
                refine GO.aload_n dX12_text_116 rfl rfl ?_
                refine GO.iconst dX12_text_117 ?_
                refine GO.putI h_x fp_RX12_436 rfl (by decide +kernel) (ir_c rfl) (by decide) (by decide) dX12_text_118 (fun V56636 e56635 => ?_)
                have k56637 := st_fld e56635 aq56572 h_x (by decide) (by decide)
                have sS56638 : sd V56636 x = sd Wi189 x := k56637.2.1.trans (rfl : sd Wi189 x = sd Wi189 x)
                have sQ56639 : wt V56636 x = wt Wi189 x := k56637.2.2.trans (rfl : wt Wi189 x = wt Wi189 x)
                have ak56640 := tk_fld e56635 ak56574 h_x (by decide) (rfl : ar 39 Wi189 x = ar 39 Wi189 x)
                clear ak56574
                have ak56641 := tk_fld e56635 ak56575 h_x (by decide) (rfl : ar 41 Wi189 x = ar 41 Wi189 x)
                clear ak56575
                have ak56642 := tk_fld e56635 ak56576 h_x (by decide) (rfl : ar 42 Wi189 x = ar 42 Wi189 x)
                clear ak56576
                have ak56643 := tk_fld e56635 ak56577 h_x (by decide) (rfl : ar 43 Wi189 x = ar 43 Wi189 x)
                clear ak56577
                have ak56644 := tk_fld e56635 ak56578 h_x (by decide) kp56558
                clear kp56558 ak56578
                have ak56645 := tk_fld e56635 ak56579 h_x (by decide) kp56559
                clear kp56559 ak56579
                have ak56646 := tk_fld e56635 ak56580 h_x (by decide) kp56560
                clear kp56560 ak56580
                have ak56647 := tk_fld e56635 ak56581 h_x (by decide) kp56561
                clear kp56561 ak56581
                have ak56648 := tk_fld e56635 ak56582 h_x (by decide) kp56562
                clear kp56562 ak56582
                have ak56649 := tk_fld e56635 ak56583 h_x (by decide) kp56563
                clear kp56563 ak56583
                have ak56650 := tk_fld e56635 ak56584 h_x (by decide) kp56564
                clear kp56564 ak56584
                have ak56651 := tk_fld e56635 ak56585 h_x (by decide) (rfl : ar 44 Wi189 x = ar 44 Wi189 x)
                clear ak56585
                have ak56652 := tk_fld e56635 ak56586 h_x (by decide) (rfl : ar 45 Wi189 x = ar 45 Wi189 x)
                clear ak56586
                have ak56653 := tk_fld e56635 ak56587 h_x (by decide) (rfl : ar 46 Wi189 x = ar 46 Wi189 x)
                clear ak56587
                have ak56654 := tk_fld e56635 ak56588 h_x (by decide) kp56565
                clear kp56565 ak56588
                have ak56655 := tk_fld e56635 ak56589 h_x (by decide) kp56566
                clear kp56566 ak56589
                have ak56656 := tk_fld e56635 ak56590 h_x (by decide) kp56567
                clear kp56567 ak56590
                have ak56657 := tk_fld e56635 ak56591 h_x (by decide) kp56568
                clear kp56568 ak56591
                have ak56658 := tk_fld e56635 ak56592 h_x (by decide) kp56569
                clear kp56569 ak56592
                have ak56659 := tk_fld e56635 ak56593 h_x (by decide) kp56570
                clear kp56570 ak56593
                refine GO.iload dX12_text_121 rfl ?_
                refine GO.if_ne (tgt := 131) dX12_text_123 (by decide) r_i189 (fun c56660 => ?_) (fun h => by exfalso; omega)
                have e56661 : vi V56636 x 38 = vi Wi189 x 38 := vi_up e56635 (Or.inr (by decide))
                have e56662 : vi V56636 x 36 = vi Wi189 x 36 := vi_up e56635 (Or.inr (by decide))
                have e56663 : vi V56636 x 47 = vi Wi189 x 47 := vi_up e56635 (Or.inr (by decide))
                have e56664 : vi V56636 x 48 = vi Wi189 x 48 := vi_up e56635 (Or.inr (by decide))
                have e56665 : vi V56636 x 30 = 0 := upd2_int e56635 (ir_c rfl)
                have e56666 : vi V56636 x 31 = vi Wi189 x 31 := vi_up e56635 (Or.inr (by decide))
                have e56667 : vi V56636 x 32 = vi Wi189 x 32 := vi_up e56635 (Or.inr (by decide))
                have hm39 := ak56640.2
                have hm41 := ak56641.2
                have hm42 := ak56642.2
                have hm43 := ak56643.2
                refine GO.useWT (fun hWm => ?_)
                have hcm := hWm.cnt h_x
                have hrm := hWm.rd h_x
                have htm := TC.eq (htc (by omega)) ak56641.2 ak56642.2 ak56643.2 ak56640.2 (by omega) (by omega)
                have hm44 := ak56651.2
                have hm45 := ak56652.2
                have hm46 := ak56653.2
                refine GO.aload_n dX12_text_131 rfl rfl ?_
                refine GO.getA (n := 20) h_x fl_RX12_118 rfl rfl rfl rfl dX12_text_132 (fun hv56669 h56668 => ?_)
                refine GO.aload_n dX12_text_135 rfl rfl ?_
                refine GO.getI h_x fl_RX12_535 rfl rfl dX12_text_136 (fun l56670 u56671 => ?_)
                refine GO.iload_n dX12_text_139 rfl rfl ?_
                have q56672 : -2147483648 ≤ vi Wi189 x 47 ∧ vi Wi189 x 47 ≤ 2147483647 := vi_ir
                refine GO.iast (t := 42) rfl rfl (by decide +kernel) h56668 vi_ir (by omega) (by omega) r_p0 (r_p0).1 (r_p0).2 dX12_text_140 (fun V56674 e56673 => ?_)
                have k56675 := st_oth e56673 k56637.1 h_x h56668 (by decide) (by decide)
                clear k56637
                have sS56676 : sd V56674 x = sd Wi189 x := k56675.2.1.trans sS56638
                have sQ56677 : wt V56674 x = wt Wi189 x := k56675.2.2.trans sQ56639
                have ak56678 := tk_oth e56673 ak56640.1 h_x h56668 (by decide) (by decide) ak56640.2
                clear ak56640
                have ak56679 := tk_oth e56673 ak56641.1 h_x h56668 (by decide) (by decide) ak56641.2
                clear ak56641
                have ak56680 := tk_oth e56673 ak56642.1 h_x h56668 (by decide) (by decide) ak56642.2
                clear ak56642
                have ak56681 := tk_oth e56673 ak56643.1 h_x h56668 (by decide) (by decide) ak56643.2
                clear ak56643
                have ak56682 := tk_oth e56673 ak56644.1 h_x h56668 (by decide) (by decide) ak56644.2
                clear ak56644
                have ak56683 := tk_oth e56673 ak56645.1 h_x h56668 (by decide) (by decide) ak56645.2
                clear ak56645
                have ak56684 := tk_oth e56673 ak56646.1 h_x h56668 (by decide) (by decide) ak56646.2
                clear ak56646
                have ak56685 := tk_oth e56673 ak56647.1 h_x h56668 (by decide) (by decide) ak56647.2
                clear ak56647
                have ak56686 := tk_oth e56673 ak56648.1 h_x h56668 (by decide) (by decide) ak56648.2
                clear ak56648
                have ak56687 := tk_oth e56673 ak56649.1 h_x h56668 (by decide) (by decide) ak56649.2
                clear ak56649
                have ak56688 := tk_oth e56673 ak56650.1 h_x h56668 (by decide) (by decide) ak56650.2
                clear ak56650
                have ak56689 := tk_oth e56673 ak56651.1 h_x h56668 (by decide) (by decide) ak56651.2
                clear ak56651
                have ak56690 := tk_oth e56673 ak56652.1 h_x h56668 (by decide) (by decide) ak56652.2
                clear ak56652
                have ak56691 := tk_oth e56673 ak56653.1 h_x h56668 (by decide) (by decide) ak56653.2
                clear ak56653
                have ak56692 := tk_put e56673 ak56654.1 h_x (vq_of hv56669) r_p0 ak56654.2
                clear ak56654
                have ak56693 := tk_oth e56673 ak56655.1 h_x h56668 (by decide) (by decide) ak56655.2
                clear ak56655
                have ak56694 := tk_oth e56673 ak56656.1 h_x h56668 (by decide) (by decide) ak56656.2
                clear ak56656
                have ak56695 := tk_oth e56673 ak56657.1 h_x h56668 (by decide) (by decide) ak56657.2
                clear ak56657
                have ak56696 := tk_oth e56673 ak56658.1 h_x h56668 (by decide) (by decide) ak56658.2
                clear ak56658
                have ak56697 := tk_oth e56673 ak56659.1 h_x h56668 (by decide) (by decide) ak56659.2
                clear ak56659
                refine GO.aload_n dX12_text_141 rfl rfl ?_
                refine GO.getA (n := 20) h_x fl_RX12_121 rfl rfl rfl rfl dX12_text_142 (fun hv56699 h56698 => ?_)
                refine GO.aload_n dX12_text_145 rfl rfl ?_
                refine GO.getI h_x fl_RX12_535 rfl rfl dX12_text_146 (fun l56700 u56701 => ?_)
                have e56702 : vi V56674 x 47 = vi V56636 x 47 := vi_up e56673 (Or.inl (K_ne h_x h56668 (by decide)))
                refine GO.iload_n dX12_text_149 rfl rfl ?_
                refine GO.iast (t := 43) rfl rfl (by decide +kernel) h56698 vi_ir (by omega) (by omega) r_p1 (r_p1).1 (r_p1).2 dX12_text_150 (fun V56704 e56703 => ?_)
                have k56705 := st_oth e56703 k56675.1 h_x h56698 (by decide) (by decide)
                clear k56675
                have sS56706 : sd V56704 x = sd Wi189 x := k56705.2.1.trans sS56676
                have sQ56707 : wt V56704 x = wt Wi189 x := k56705.2.2.trans sQ56677
                have ak56708 := tk_oth e56703 ak56678.1 h_x h56698 (by decide) (by decide) ak56678.2
                clear ak56678
                have ak56709 := tk_oth e56703 ak56679.1 h_x h56698 (by decide) (by decide) ak56679.2
                clear ak56679
                have ak56710 := tk_oth e56703 ak56680.1 h_x h56698 (by decide) (by decide) ak56680.2
                clear ak56680
                have ak56711 := tk_oth e56703 ak56681.1 h_x h56698 (by decide) (by decide) ak56681.2
                clear ak56681
                have ak56712 := tk_oth e56703 ak56682.1 h_x h56698 (by decide) (by decide) ak56682.2
                clear ak56682
                have ak56713 := tk_oth e56703 ak56683.1 h_x h56698 (by decide) (by decide) ak56683.2
                clear ak56683
                have ak56714 := tk_oth e56703 ak56684.1 h_x h56698 (by decide) (by decide) ak56684.2
                clear ak56684
                have ak56715 := tk_oth e56703 ak56685.1 h_x h56698 (by decide) (by decide) ak56685.2
                clear ak56685
                have ak56716 := tk_oth e56703 ak56686.1 h_x h56698 (by decide) (by decide) ak56686.2
                clear ak56686
                have ak56717 := tk_oth e56703 ak56687.1 h_x h56698 (by decide) (by decide) ak56687.2
                clear ak56687
                have ak56718 := tk_oth e56703 ak56688.1 h_x h56698 (by decide) (by decide) ak56688.2
                clear ak56688
                have ak56719 := tk_oth e56703 ak56689.1 h_x h56698 (by decide) (by decide) ak56689.2
                clear ak56689
                have ak56720 := tk_oth e56703 ak56690.1 h_x h56698 (by decide) (by decide) ak56690.2
                clear ak56690
                have ak56721 := tk_oth e56703 ak56691.1 h_x h56698 (by decide) (by decide) ak56691.2
                clear ak56691
                have ak56722 := tk_oth e56703 ak56692.1 h_x h56698 (by decide) (by decide) ak56692.2
                clear ak56692
                have ak56723 := tk_put e56703 ak56693.1 h_x (vq_of hv56699) r_p1 ak56693.2
                clear ak56693
                have ak56724 := tk_oth e56703 ak56694.1 h_x h56698 (by decide) (by decide) ak56694.2
                clear ak56694
                have ak56725 := tk_oth e56703 ak56695.1 h_x h56698 (by decide) (by decide) ak56695.2
                clear ak56695
                have ak56726 := tk_oth e56703 ak56696.1 h_x h56698 (by decide) (by decide) ak56696.2
                clear ak56696
                have ak56727 := tk_oth e56703 ak56697.1 h_x h56698 (by decide) (by decide) ak56697.2
                clear ak56697
                refine GO.aload_n dX12_text_151 rfl rfl ?_
                refine GO.getA (n := 20) h_x fl_RX12_115 rfl rfl rfl rfl dX12_text_152 (fun hv56729 h56728 => ?_)
                refine GO.aload_n dX12_text_155 rfl rfl ?_
                refine GO.getI h_x fl_RX12_535 rfl rfl dX12_text_156 (fun l56730 u56731 => ?_)
                have e56732 : vi V56704 x 47 = vi V56674 x 47 := vi_up e56703 (Or.inl (K_ne h_x h56698 (by decide)))
                refine GO.aload_n dX12_text_159 rfl rfl ?_
                refine GO.getI h_x fl_RX12_526 rfl rfl dX12_text_160 (fun l56733 u56734 => ?_)
                have e56736 : vi V56674 x 38 = vi V56636 x 38 := vi_up e56673 (Or.inl (K_ne h_x h56668 (by decide)))
                have e56735 : vi V56704 x 38 = vi V56674 x 38 := vi_up e56703 (Or.inl (K_ne h_x h56698 (by decide)))
                have q56738 : -2147483648 ≤ vi Wi189 x 38 ∧ vi Wi189 x 38 ≤ 2147483647 := vi_ir
                refine GO.iast (t := 41) rfl rfl (by decide +kernel) h56728 vi_ir (by omega) (by omega) vi_ir (by omega) (by omega) dX12_text_163 (fun V56739 e56737 => ?_)
                have k56740 := st_oth e56737 k56705.1 h_x h56728 (by decide) (by decide)
                clear k56705
                have sS56741 : sd V56739 x = sd Wi189 x := k56740.2.1.trans sS56706
                have sQ56742 : wt V56739 x = wt Wi189 x := k56740.2.2.trans sQ56707
                clear k56740
                have ak56743 := tk_oth e56737 ak56708.1 h_x h56728 (by decide) (by decide) ak56708.2
                clear ak56708
                have ak56744 := tk_oth e56737 ak56709.1 h_x h56728 (by decide) (by decide) ak56709.2
                clear ak56709
                have ak56745 := tk_oth e56737 ak56710.1 h_x h56728 (by decide) (by decide) ak56710.2
                clear ak56710
                have ak56746 := tk_oth e56737 ak56711.1 h_x h56728 (by decide) (by decide) ak56711.2
                clear ak56711
                have ak56747 := tk_oth e56737 ak56712.1 h_x h56728 (by decide) (by decide) ak56712.2
                clear ak56712
                have ak56748 := tk_put e56737 ak56713.1 h_x (vq_of hv56729) vi_ir ak56713.2
                clear ak56713
                have ak56749 := tk_oth e56737 ak56714.1 h_x h56728 (by decide) (by decide) ak56714.2
                clear ak56714
                have ak56750 := tk_oth e56737 ak56715.1 h_x h56728 (by decide) (by decide) ak56715.2
                clear ak56715
                have ak56751 := tk_oth e56737 ak56716.1 h_x h56728 (by decide) (by decide) ak56716.2
                clear ak56716
                have ak56752 := tk_oth e56737 ak56717.1 h_x h56728 (by decide) (by decide) ak56717.2
                clear ak56717
                have ak56753 := tk_oth e56737 ak56718.1 h_x h56728 (by decide) (by decide) ak56718.2
                clear ak56718
                have ak56754 := tk_oth e56737 ak56719.1 h_x h56728 (by decide) (by decide) ak56719.2
                clear ak56719
                have ak56755 := tk_oth e56737 ak56720.1 h_x h56728 (by decide) (by decide) ak56720.2
                clear ak56720
                have ak56756 := tk_oth e56737 ak56721.1 h_x h56728 (by decide) (by decide) ak56721.2
                clear ak56721
                have ak56757 := tk_oth e56737 ak56722.1 h_x h56728 (by decide) (by decide) ak56722.2
                clear ak56722
                have ak56758 := tk_oth e56737 ak56723.1 h_x h56728 (by decide) (by decide) ak56723.2
                clear ak56723
                have ak56759 := tk_oth e56737 ak56724.1 h_x h56728 (by decide) (by decide) ak56724.2
                clear ak56724
                have ak56760 := tk_oth e56737 ak56725.1 h_x h56728 (by decide) (by decide) ak56725.2
                clear ak56725
                have ak56761 := tk_oth e56737 ak56726.1 h_x h56728 (by decide) (by decide) ak56726.2
                clear ak56726
                have ak56762 := tk_oth e56737 ak56727.1 h_x h56728 (by decide) (by decide) ak56727.2
                clear ak56727
                refine GO.iconst dX12_text_164 ?_
                refine GO.istore (ls1 := [some (.ref x), some (ti p0), some (ti p1), some (ti p2), some (ti i189), some (ti 0), none]) dX12_text_165 rfl rfl ?_
                have e56764 : vi V56739 x 47 = vi V56704 x 47 := vi_up e56737 (Or.inl (K_ne h_x h56728 (by decide)))
                have e56767 : vi V56674 x 48 = vi V56636 x 48 := vi_up e56673 (Or.inl (K_ne h_x h56668 (by decide)))
                have e56766 : vi V56704 x 48 = vi V56674 x 48 := vi_up e56703 (Or.inl (K_ne h_x h56698 (by decide)))
                have e56765 : vi V56739 x 48 = vi V56704 x 48 := vi_up e56737 (Or.inl (K_ne h_x h56728 (by decide)))
                have q56768 : -2147483648 ≤ vi Wi189 x 48 ∧ vi Wi189 x 48 ≤ 2147483647 := vi_ir
                have e56771 : vi V56674 x 36 = vi V56636 x 36 := vi_up e56673 (Or.inl (K_ne h_x h56668 (by decide)))
                have e56770 : vi V56704 x 36 = vi V56674 x 36 := vi_up e56703 (Or.inl (K_ne h_x h56698 (by decide)))
                have e56769 : vi V56739 x 36 = vi V56704 x 36 := vi_up e56737 (Or.inl (K_ne h_x h56728 (by decide)))
                have q56772 : -2147483648 ≤ vi Wi189 x 36 ∧ vi Wi189 x 36 ≤ 2147483647 := vi_ir
                have q56773 : -2147483648 ≤ vi Wi189 x 31 ∧ vi Wi189 x 31 ≤ 2147483647 := vi_ir
                have q56774 : -2147483648 ≤ vi Wi189 x 32 ∧ vi Wi189 x 32 ≤ 2147483647 := vi_ir
                have e56775 : vi V56739 x 38 = vi V56704 x 38 := vi_up e56737 (Or.inl (K_ne h_x h56728 (by decide)))
                have e56778 : vi V56674 x 30 = vi V56636 x 30 := vi_up e56673 (Or.inl (K_ne h_x h56668 (by decide)))
                have e56777 : vi V56704 x 30 = vi V56674 x 30 := vi_up e56703 (Or.inl (K_ne h_x h56698 (by decide)))
                have e56776 : vi V56739 x 30 = vi V56704 x 30 := vi_up e56737 (Or.inl (K_ne h_x h56728 (by decide)))
                refine GO.loop1 (fun i56763 W => 0 ≤ i56763 ∧ i56763 ≤ 200 ∧ (vi W x 47 = vi V56739 x 47 ∧ vi W x 48 = vi V56739 x 48 ∧ vi W x 36 = vi V56636 x 36 ∧ vi W x 38 = vi V56636 x 38 ∧ vi W x 30 = 0) ∧ (CPf (ar 49 V x) (ar 39 V56636 x) (ar 49 W x) (220 * vi V x 47) 0 i56763) ∧ ar 39 W x = ar 39 Wi189 x ∧ ar 41 W x = ar 41 Wi189 x ∧ ar 42 W x = ar 42 Wi189 x ∧ ar 43 W x = ar 43 Wi189 x ∧ ar 50 W x = updf (ar 50 V x) (vi V56704 x 47).toNat (vi V56704 x 38) ∧ ar 53 W x = ar 53 V x ∧ ar 54 W x = ar 54 V x ∧ ar 55 W x = ar 55 V x ∧ ar 60 W x = ar 60 V x ∧ ar 61 W x = ar 61 V x ∧ ar 44 W x = ar 44 Wi189 x ∧ ar 45 W x = ar 45 Wi189 x ∧ ar 46 W x = ar 46 Wi189 x ∧ ar 51 W x = updf (ar 51 V x) (vi V56636 x 47).toNat p0 ∧ ar 52 W x = updf (ar 52 V x) (vi V56674 x 47).toNat p1 ∧ ar 56 W x = ar 56 V x ∧ ar 57 W x = ar 57 V x ∧ ar 58 W x = ar 58 V x ∧ ar 59 W x = ar 59 V x ∧ True) (fun i56763 => [some (.ref x), some (ti p0), some (ti p1), some (ti p2), some (ti i189), some (ti i56763), none]) (fun i56763 W => (2147483647 - i56763).toNat) 0 ⟨by omega, by omega, by omega, (by first | exact CPf.rf.at ak56747.2), ak56743.2, ak56744.2, ak56745.2, ak56746.2, ak56748.2, ak56749.2, ak56750.2, ak56751.2, ak56752.2, ak56753.2, ak56754.2, ak56755.2, ak56756.2, ak56757.2, ak56758.2, ak56759.2, ak56760.2, ak56761.2, ak56762.2, trivial⟩ rfl (fun i56763 Wi56763 hp107216 ih107215 => ?_)
                clear ak56743 ak56744 ak56745 ak56746 ak56747 ak56748 ak56749 ak56750 ak56751 ak56752 ak56753 ak56754 ak56755 ak56756 ak56757 ak56758 ak56759 ak56760 ak56761 ak56762
                obtain ⟨l_i56763, u_i56763, n_i56763, h49, kp107217, kp107218, kp107219, kp107220, kp107221, kp107222, kp107223, kp107224, kp107225, kp107226, kp107227, kp107228, kp107229, kp107230, kp107231, kp107232, kp107233, kp107234, kp107235, -⟩ := hp107216
                have r_i56763 : ir i56763 := ⟨by omega, by omega⟩
                show GO mX12_text K V (IS K (fun X V1 => (X ≥ (-2147483648) ∧ X ≤ 2147483647) ∧ (GX V1 x) ∧ (MTX V V1 x p0 p1 p2 X) ∧ (YTX V V1 x))) K Wi56763 0 0 167 [some (.ref x), some (ti p0), some (ti p1), some (ti p2), some (ti i189), some (ti i56763), none] []
                refine GO.useWT (fun hW107236 => ?_)
                have aq107237 := hW107236.aq h_x
                refine GO.useWT (fun hW107238 => ?_)
                have ak107239 := hW107238.arr h_x 39 32 (by decide) rfl (by decide)
                have ak107240 := hW107238.arr h_x 41 34 (by decide) rfl (by decide)
                have ak107241 := hW107238.arr h_x 42 35 (by decide) rfl (by decide)
                have ak107242 := hW107238.arr h_x 43 36 (by decide) rfl (by decide)
                have ak107243 := hW107238.arr h_x 49 40 (by decide) rfl (by decide)
                have ak107244 := hW107238.arr h_x 50 41 (by decide) rfl (by decide)
                have ak107245 := hW107238.arr h_x 53 44 (by decide) rfl (by decide)
                have ak107246 := hW107238.arr h_x 54 45 (by decide) rfl (by decide)
                have ak107247 := hW107238.arr h_x 55 46 (by decide) rfl (by decide)
                have ak107248 := hW107238.arr h_x 60 51 (by decide) rfl (by decide)
                have ak107249 := hW107238.arr h_x 61 52 (by decide) rfl (by decide)
                have ak107250 := hW107238.arr h_x 44 37 (by decide) rfl (by decide)
                have ak107251 := hW107238.arr h_x 45 38 (by decide) rfl (by decide)
                have ak107252 := hW107238.arr h_x 46 39 (by decide) rfl (by decide)
                have ak107253 := hW107238.arr h_x 51 42 (by decide) rfl (by decide)
                have ak107254 := hW107238.arr h_x 52 43 (by decide) rfl (by decide)
                have ak107255 := hW107238.arr h_x 56 47 (by decide) rfl (by decide)
                have ak107256 := hW107238.arr h_x 57 48 (by decide) rfl (by decide)
                have ak107257 := hW107238.arr h_x 58 49 (by decide) rfl (by decide)
                have ak107258 := hW107238.arr h_x 59 50 (by decide) rfl (by decide)
                refine GO.iload dX12_text_167 rfl ?_
                refine GO.aload_n dX12_text_169 rfl rfl ?_
                refine GO.getI h_x fl_RX12_466 rfl rfl dX12_text_170 (fun l107259 u107260 => ?_)
                refine GO.icmp_ge (tgt := 205) dX12_text_173 (by decide) r_i56763 vi_ir (fun c107261 => ?_) (fun c107261 => ?_)
                ·
                  clear ak107239 ak107240 ak107241 ak107242 ak107243 ak107244 ak107245 ak107246 ak107247 ak107248 ak107249 ak107250 ak107251 ak107252 ak107253 ak107254 ak107255 ak107256 ak107257 ak107258
                  refine GO.iconst dX12_text_205 ?_
                  refine GO.istore (ls1 := [some (.ref x), some (ti p0), some (ti p1), some (ti p2), some (ti i189), some (ti 0), none]) dX12_text_206 rfl rfl ?_
                  have q107263 : -2147483648 ≤ vi Wi56763 x 47 ∧ vi Wi56763 x 47 ≤ 2147483647 := vi_ir
                  have q107264 : -2147483648 ≤ vi Wi56763 x 48 ∧ vi Wi56763 x 48 ≤ 2147483647 := vi_ir
                  have q107265 : -2147483648 ≤ vi Wi56763 x 36 ∧ vi Wi56763 x 36 ≤ 2147483647 := vi_ir
                  have q107266 : -2147483648 ≤ vi Wi56763 x 38 ∧ vi Wi56763 x 38 ≤ 2147483647 := vi_ir
                  have q107267 : -2147483648 ≤ vi Wi56763 x 30 ∧ vi Wi56763 x 30 ≤ 2147483647 := vi_ir
                  refine GO.loop1 (fun i107262 W => 0 ≤ i107262 ∧ i107262 ≤ 12 ∧ (vi W x 47 = vi Wi56763 x 47 ∧ vi W x 48 = vi Wi56763 x 48 ∧ vi W x 36 = vi V56636 x 36 ∧ vi W x 38 = vi V56636 x 38 ∧ vi W x 30 = 0) ∧ (CPf (ar 53 V x) (ar 41 V56636 x) (ar 53 W x) (12 * vi V x 47) 0 i107262) ∧ (CPf (ar 54 V x) (ar 42 V56636 x) (ar 54 W x) (12 * vi V x 47) (220 * vi V x 47) i107262) ∧ (CPf (ar 55 V x) (ar 43 V56636 x) (ar 55 W x) (12 * vi V x 47) (220 * vi V x 47) i107262) ∧ (CPf (ar 56 V x) (ar 44 V56636 x) (ar 56 W x) (12 * vi V x 47) 0 i107262) ∧ (CPf (ar 57 V x) (ar 45 V56636 x) (ar 57 W x) (12 * vi V x 47) 0 i107262) ∧ (CPf (ar 58 V x) (ar 46 V56636 x) (ar 58 W x) (12 * vi V x 47) 0 i107262) ∧ ar 39 W x = ar 39 Wi189 x ∧ ar 41 W x = ar 41 Wi189 x ∧ ar 42 W x = ar 42 Wi189 x ∧ ar 43 W x = ar 43 Wi189 x ∧ ar 49 W x = ar 49 Wi56763 x ∧ ar 50 W x = updf (ar 50 V x) (vi V56704 x 47).toNat (vi V56704 x 38) ∧ ar 60 W x = ar 60 V x ∧ ar 61 W x = ar 61 V x ∧ ar 44 W x = ar 44 Wi189 x ∧ ar 45 W x = ar 45 Wi189 x ∧ ar 46 W x = ar 46 Wi189 x ∧ ar 51 W x = updf (ar 51 V x) (vi V56636 x 47).toNat p0 ∧ ar 52 W x = updf (ar 52 V x) (vi V56674 x 47).toNat p1 ∧ ar 59 W x = ar 59 V x ∧ True) (fun i107262 => [some (.ref x), some (ti p0), some (ti p1), some (ti p2), some (ti i189), some (ti i107262), none]) (fun i107262 W => (2147483647 - i107262).toNat) 0 ⟨by omega, by omega, by omega, (by first | exact CPf.rf.at kp107222), (by first | exact CPf.rf.at kp107223), (by first | exact CPf.rf.at kp107224), (by first | exact CPf.rf.at kp107232), (by first | exact CPf.rf.at kp107233), (by first | exact CPf.rf.at kp107234), kp107217, kp107218, kp107219, kp107220, (rfl : ar 49 Wi56763 x = ar 49 Wi56763 x), kp107221, kp107225, kp107226, kp107227, kp107228, kp107229, kp107230, kp107231, kp107235, trivial⟩ rfl (fun i107262 Wi107262 hp112210 ih112209 => ?_)
                  clear kp107217 kp107218 kp107219 kp107220 kp107221 kp107222 kp107223 kp107224 kp107225 kp107226 kp107227 kp107228 kp107229 kp107230 kp107231 kp107232 kp107233 kp107234 kp107235
                  obtain ⟨l_i107262, u_i107262, n_i107262, h53, h54, h55, h56, h57, h58, kp112211, kp112212, kp112213, kp112214, kp112215, kp112216, kp112217, kp112218, kp112219, kp112220, kp112221, kp112222, kp112223, kp112224, -⟩ := hp112210
                  have r_i107262 : ir i107262 := ⟨by omega, by omega⟩
                  show GO mX12_text K V (IS K (fun X V1 => (X ≥ (-2147483648) ∧ X ≤ 2147483647) ∧ (GX V1 x) ∧ (MTX V V1 x p0 p1 p2 X) ∧ (YTX V V1 x))) K Wi107262 0 0 208 [some (.ref x), some (ti p0), some (ti p1), some (ti p2), some (ti i189), some (ti i107262), none] []
                  refine GO.useWT (fun hW112225 => ?_)
                  have aq112226 := hW112225.aq h_x
                  refine GO.useWT (fun hW112227 => ?_)
                  have ak112228 := hW112227.arr h_x 39 32 (by decide) rfl (by decide)
                  have ak112229 := hW112227.arr h_x 41 34 (by decide) rfl (by decide)
                  have ak112230 := hW112227.arr h_x 42 35 (by decide) rfl (by decide)
                  have ak112231 := hW112227.arr h_x 43 36 (by decide) rfl (by decide)
                  have ak112232 := hW112227.arr h_x 49 40 (by decide) rfl (by decide)
                  have ak112233 := hW112227.arr h_x 50 41 (by decide) rfl (by decide)
                  have ak112234 := hW112227.arr h_x 53 44 (by decide) rfl (by decide)
                  have ak112235 := hW112227.arr h_x 54 45 (by decide) rfl (by decide)
                  have ak112236 := hW112227.arr h_x 55 46 (by decide) rfl (by decide)
                  have ak112237 := hW112227.arr h_x 60 51 (by decide) rfl (by decide)
                  have ak112238 := hW112227.arr h_x 61 52 (by decide) rfl (by decide)
                  have ak112239 := hW112227.arr h_x 44 37 (by decide) rfl (by decide)
                  have ak112240 := hW112227.arr h_x 45 38 (by decide) rfl (by decide)
                  have ak112241 := hW112227.arr h_x 46 39 (by decide) rfl (by decide)
                  have ak112242 := hW112227.arr h_x 51 42 (by decide) rfl (by decide)
                  have ak112243 := hW112227.arr h_x 52 43 (by decide) rfl (by decide)
                  have ak112244 := hW112227.arr h_x 56 47 (by decide) rfl (by decide)
                  have ak112245 := hW112227.arr h_x 57 48 (by decide) rfl (by decide)
                  have ak112246 := hW112227.arr h_x 58 49 (by decide) rfl (by decide)
                  have ak112247 := hW112227.arr h_x 59 50 (by decide) rfl (by decide)
                  refine GO.iload dX12_text_208 rfl ?_
                  refine GO.aload_n dX12_text_210 rfl rfl ?_
                  refine GO.getI h_x fl_RX12_526 rfl rfl dX12_text_211 (fun l112248 u112249 => ?_)
                  refine GO.icmp_ge (tgt := 337) dX12_text_214 (by decide) r_i107262 vi_ir (fun c112250 => ?_) (fun c112250 => ?_)
                  ·
                    clear kp112211 kp112212 kp112213 kp112214 kp112219 kp112220 kp112221 ak112228 ak112229 ak112230 ak112231 ak112232 ak112233 ak112234 ak112235 ak112236 ak112237 ak112238 ak112239 ak112240 ak112241 ak112242 ak112243 ak112244 ak112245 ak112246 ak112247
                    refine GO.iconst dX12_text_337 ?_
                    refine GO.istore (ls1 := [some (.ref x), some (ti p0), some (ti p1), some (ti p2), some (ti i189), some (ti 0), none]) dX12_text_338 rfl rfl ?_
                    have q112252 : -2147483648 ≤ vi Wi107262 x 47 ∧ vi Wi107262 x 47 ≤ 2147483647 := vi_ir
                    have q112253 : -2147483648 ≤ vi Wi107262 x 48 ∧ vi Wi107262 x 48 ≤ 2147483647 := vi_ir
                    have q112254 : -2147483648 ≤ vi Wi107262 x 30 ∧ vi Wi107262 x 30 ≤ 2147483647 := vi_ir
                    refine GO.loop1 (fun i112251 W => 0 ≤ i112251 ∧ i112251 ≤ 9 ∧ (vi W x 47 = vi Wi107262 x 47 ∧ vi W x 48 = vi Wi107262 x 48 ∧ vi W x 30 = 0) ∧ (YLP (ar 59 V x) (ar 59 W x) (vi V x 47) i112251) ∧ ar 49 W x = ar 49 Wi56763 x ∧ ar 50 W x = updf (ar 50 V x) (vi V56704 x 47).toNat (vi V56704 x 38) ∧ ar 53 W x = ar 53 Wi107262 x ∧ ar 54 W x = ar 54 Wi107262 x ∧ ar 55 W x = ar 55 Wi107262 x ∧ ar 60 W x = ar 60 V x ∧ ar 61 W x = ar 61 V x ∧ ar 51 W x = updf (ar 51 V x) (vi V56636 x 47).toNat p0 ∧ ar 52 W x = updf (ar 52 V x) (vi V56674 x 47).toNat p1 ∧ ar 56 W x = ar 56 Wi107262 x ∧ ar 57 W x = ar 57 Wi107262 x ∧ ar 58 W x = ar 58 Wi107262 x ∧ True) (fun i112251 => [some (.ref x), some (ti p0), some (ti p1), some (ti p2), some (ti i189), some (ti i112251), none]) (fun i112251 W => (2147483647 - i112251).toNat) 0 ⟨by omega, by omega, by omega, (by first | exact YLP.beg kp112224), kp112215, kp112216, (rfl : ar 53 Wi107262 x = ar 53 Wi107262 x), (rfl : ar 54 Wi107262 x = ar 54 Wi107262 x), (rfl : ar 55 Wi107262 x = ar 55 Wi107262 x), kp112217, kp112218, kp112222, kp112223, (rfl : ar 56 Wi107262 x = ar 56 Wi107262 x), (rfl : ar 57 Wi107262 x = ar 57 Wi107262 x), (rfl : ar 58 Wi107262 x = ar 58 Wi107262 x), trivial⟩ rfl (fun i112251 Wi112251 hp112479 ih112478 => ?_)
                    clear kp112215 kp112216 kp112217 kp112218 kp112222 kp112223 kp112224
                    obtain ⟨l_i112251, u_i112251, n_i112251, hyl, kp112480, kp112481, kp112482, kp112483, kp112484, kp112485, kp112486, kp112487, kp112488, kp112489, kp112490, kp112491, -⟩ := hp112479
                    have r_i112251 : ir i112251 := ⟨by omega, by omega⟩
                    show GO mX12_text K V (IS K (fun X V1 => (X ≥ (-2147483648) ∧ X ≤ 2147483647) ∧ (GX V1 x) ∧ (MTX V V1 x p0 p1 p2 X) ∧ (YTX V V1 x))) K Wi112251 0 0 340 [some (.ref x), some (ti p0), some (ti p1), some (ti p2), some (ti i189), some (ti i112251), none] []
                    refine GO.useWT (fun hW112492 => ?_)
                    have aq112493 := hW112492.aq h_x
                    refine GO.useWT (fun hW112494 => ?_)
                    have ak112495 := hW112494.arr h_x 39 32 (by decide) rfl (by decide)
                    have ak112496 := hW112494.arr h_x 41 34 (by decide) rfl (by decide)
                    have ak112497 := hW112494.arr h_x 42 35 (by decide) rfl (by decide)
                    have ak112498 := hW112494.arr h_x 43 36 (by decide) rfl (by decide)
                    have ak112499 := hW112494.arr h_x 49 40 (by decide) rfl (by decide)
                    have ak112500 := hW112494.arr h_x 50 41 (by decide) rfl (by decide)
                    have ak112501 := hW112494.arr h_x 53 44 (by decide) rfl (by decide)
                    have ak112502 := hW112494.arr h_x 54 45 (by decide) rfl (by decide)
                    have ak112503 := hW112494.arr h_x 55 46 (by decide) rfl (by decide)
                    have ak112504 := hW112494.arr h_x 60 51 (by decide) rfl (by decide)
                    have ak112505 := hW112494.arr h_x 61 52 (by decide) rfl (by decide)
                    have ak112506 := hW112494.arr h_x 44 37 (by decide) rfl (by decide)
                    have ak112507 := hW112494.arr h_x 45 38 (by decide) rfl (by decide)
                    have ak112508 := hW112494.arr h_x 46 39 (by decide) rfl (by decide)
                    have ak112509 := hW112494.arr h_x 51 42 (by decide) rfl (by decide)
                    have ak112510 := hW112494.arr h_x 52 43 (by decide) rfl (by decide)
                    have ak112511 := hW112494.arr h_x 56 47 (by decide) rfl (by decide)
                    have ak112512 := hW112494.arr h_x 57 48 (by decide) rfl (by decide)
                    have ak112513 := hW112494.arr h_x 58 49 (by decide) rfl (by decide)
                    have ak112514 := hW112494.arr h_x 59 50 (by decide) rfl (by decide)
                    refine GO.iload dX12_text_340 rfl ?_
                    refine GO.bipush dX12_text_342 rfl ?_
                    refine GO.icmp_ge (tgt := 369) dX12_text_344 (by decide) r_i112251 (ir_c rfl) (fun c112515 => ?_) (fun c112515 => ?_)
                    ·
                      refine GO.aload_n dX12_text_369 rfl rfl ?_
                      refine GO.aload_n dX12_text_370 rfl rfl ?_
                      refine GO.getI h_x fl_RX12_535 rfl rfl dX12_text_371 (fun l112516 u112517 => ?_)
                      refine GO.iconst dX12_text_374 ?_
                      refine GO.iadd dX12_text_375 ?_
                      have q112519 : -2147483648 ≤ vi Wi112251 x 47 ∧ vi Wi112251 x 47 ≤ 2147483647 := vi_ir
                      refine GO.putI h_x fp_RX12_535 rfl (by decide +kernel) ⟨by omega, by omega⟩ (by omega) (by omega) dX12_text_376 (fun V112520 e112518 => ?_)
                      have k112521 := st_fld e112518 aq112493 h_x (by decide) (by decide)
                      have sS112522 : sd V112520 x = sd Wi112251 x := k112521.2.1.trans (rfl : sd Wi112251 x = sd Wi112251 x)
                      have sQ112523 : wt V112520 x = wt Wi112251 x := k112521.2.2.trans (rfl : wt Wi112251 x = wt Wi112251 x)
                      clear k112521
                      have ak112524 := tk_fld e112518 ak112495 h_x (by decide) (rfl : ar 39 Wi112251 x = ar 39 Wi112251 x)
                      clear ak112495 ak112524
                      have ak112525 := tk_fld e112518 ak112496 h_x (by decide) (rfl : ar 41 Wi112251 x = ar 41 Wi112251 x)
                      clear ak112496 ak112525
                      have ak112526 := tk_fld e112518 ak112497 h_x (by decide) (rfl : ar 42 Wi112251 x = ar 42 Wi112251 x)
                      clear ak112497 ak112526
                      have ak112527 := tk_fld e112518 ak112498 h_x (by decide) (rfl : ar 43 Wi112251 x = ar 43 Wi112251 x)
                      clear ak112498 ak112527
                      have ak112528 := tk_fld e112518 ak112499 h_x (by decide) kp112480
                      clear kp112480 ak112499
                      have ak112529 := tk_fld e112518 ak112500 h_x (by decide) kp112481
                      clear kp112481 ak112500
                      have ak112530 := tk_fld e112518 ak112501 h_x (by decide) kp112482
                      clear kp112482 ak112501
                      have ak112531 := tk_fld e112518 ak112502 h_x (by decide) kp112483
                      clear kp112483 ak112502
                      have ak112532 := tk_fld e112518 ak112503 h_x (by decide) kp112484
                      clear kp112484 ak112503
                      have ak112533 := tk_fld e112518 ak112504 h_x (by decide) kp112485
                      clear kp112485 ak112504
                      have ak112534 := tk_fld e112518 ak112505 h_x (by decide) kp112486
                      clear kp112486 ak112505
                      have ak112535 := tk_fld e112518 ak112506 h_x (by decide) (rfl : ar 44 Wi112251 x = ar 44 Wi112251 x)
                      clear ak112506 ak112535
                      have ak112536 := tk_fld e112518 ak112507 h_x (by decide) (rfl : ar 45 Wi112251 x = ar 45 Wi112251 x)
                      clear ak112507 ak112536
                      have ak112537 := tk_fld e112518 ak112508 h_x (by decide) (rfl : ar 46 Wi112251 x = ar 46 Wi112251 x)
                      clear ak112508 ak112537
                      have ak112538 := tk_fld e112518 ak112509 h_x (by decide) kp112487
                      clear kp112487 ak112509
                      have ak112539 := tk_fld e112518 ak112510 h_x (by decide) kp112488
                      clear kp112488 ak112510
                      have ak112540 := tk_fld e112518 ak112511 h_x (by decide) kp112489
                      clear kp112489 ak112511
                      have ak112541 := tk_fld e112518 ak112512 h_x (by decide) kp112490
                      clear kp112490 ak112512
                      have ak112542 := tk_fld e112518 ak112513 h_x (by decide) kp112491
                      clear kp112491 ak112513
                      have ak112543 := tk_fld e112518 ak112514 h_x (by decide) (rfl : ar 59 Wi112251 x = ar 59 Wi112251 x)
                      clear ak112514
                      refine GO.aload_n dX12_text_379 rfl rfl ?_
                      refine GO.getI h_x fl_RX12_535 rfl rfl dX12_text_380 (fun l112544 u112545 => ?_)
                      have e112546 : vi V112520 x 47 = (vi Wi112251 x 47) + 1 := upd2_int e112518 ⟨by omega, by omega⟩
                      refine GO.iconst dX12_text_383 ?_
                      refine GO.isub dX12_text_384 ?_
                      have e112547 : vi V112520 x 48 = vi Wi112251 x 48 := vi_up e112518 (Or.inr (by decide))
                      have e112548 : vi V112520 x 30 = vi Wi112251 x 30 := vi_up e112518 (Or.inr (by decide))
                      exact GO.reti rfl rfl dX12_text_385 ⟨rfl, _, rfl, ⟨by omega, by omega⟩, ⟨(by first | exact trivial | omega), (by first | exact w_0 | exact GX.mk w_0 (by omega) (by omega) ak112528.2 ak112529.2 ak112530.2 ak112531.2 ak112532.2 ak112533.2 ak112534.2 | exact GX.text hW_0 hWm h_x w_0 htm (by omega) (by omega) (by omega) ak112529.2 (by omega) (by omega) ak112530.2 ak112531.2 ak112532.2 ak112528.2 h53 h54 h55 (by omega) h49 (by omega) ak112533.2 ak112534.2), (by first | exact MTX.no (by unfold MTC; omega) rfl | exact MTX.er hmc hrt (by omega) (by omega) (by omega) (by omega) (by omega) (by omega) (by omega) ak112529.2 ak112538.2 ak112539.2 ak112530.2 ak112540.2 ak112541.2 ak112542.2 | exact MTX.ok hmc hrt (by omega) (by omega) (by omega) (by omega) (by omega) hm41 hm44 hm45 hm46 (by omega) ak112538.2 (by omega) ak112539.2 (by omega) ak112529.2 (by omega) (by omega) ak112530.2 ak112540.2 ak112541.2 ak112542.2 h53 h56 h57 h58 (by omega) (by omega) (by omega)), (by first | exact YTX.same ak112543.2 (by omega) | exact YTX.ok hyl (by omega) ak112543.2 (by omega) rfl)⟩⟩
                    ·
                      refine GO.aload_n dX12_text_347 rfl rfl ?_
                      refine GO.getA (n := 180) h_x fl_RX12_142 rfl rfl rfl rfl dX12_text_348 (fun hv112554 h112553 => ?_)
                      refine GO.bipush dX12_text_351 rfl ?_
                      refine GO.iload dX12_text_353 rfl ?_
                      refine GO.imul dX12_text_355 ?_
                      refine GO.aload_n dX12_text_356 rfl rfl ?_
                      refine GO.getI h_x fl_RX12_535 rfl rfl dX12_text_357 (fun l112555 u112556 => ?_)
                      refine GO.iadd dX12_text_360 ?_
                      refine GO.iconst dX12_text_361 ?_
                      have q112557 : -2147483648 ≤ vi Wi112251 x 47 ∧ vi Wi112251 x 47 ≤ 2147483647 := vi_ir
                      refine GO.iast (t := 50) rfl rfl (by decide +kernel) h112553 ⟨by omega, by omega⟩ (by omega) (by omega) (ir_c rfl) (by decide) (by decide) dX12_text_362 (fun V112559 e112558 => ?_)
                      have k112560 := st_oth e112558 aq112493 h_x h112553 (by decide) (by decide)
                      have sS112561 : sd V112559 x = sd Wi112251 x := k112560.2.1.trans (rfl : sd Wi112251 x = sd Wi112251 x)
                      have sQ112562 : wt V112559 x = wt Wi112251 x := k112560.2.2.trans (rfl : wt Wi112251 x = wt Wi112251 x)
                      clear k112560
                      have ak112563 := tk_oth e112558 ak112495 h_x h112553 (by decide) (by decide) (rfl : ar 39 Wi112251 x = ar 39 Wi112251 x)
                      clear ak112495 ak112563
                      have ak112564 := tk_oth e112558 ak112496 h_x h112553 (by decide) (by decide) (rfl : ar 41 Wi112251 x = ar 41 Wi112251 x)
                      clear ak112496 ak112564
                      have ak112565 := tk_oth e112558 ak112497 h_x h112553 (by decide) (by decide) (rfl : ar 42 Wi112251 x = ar 42 Wi112251 x)
                      clear ak112497 ak112565
                      have ak112566 := tk_oth e112558 ak112498 h_x h112553 (by decide) (by decide) (rfl : ar 43 Wi112251 x = ar 43 Wi112251 x)
                      clear ak112498 ak112566
                      have ak112567 := tk_oth e112558 ak112499 h_x h112553 (by decide) (by decide) kp112480
                      clear kp112480 ak112499
                      have ak112568 := tk_oth e112558 ak112500 h_x h112553 (by decide) (by decide) kp112481
                      clear kp112481 ak112500
                      have ak112569 := tk_oth e112558 ak112501 h_x h112553 (by decide) (by decide) kp112482
                      clear kp112482 ak112501
                      have ak112570 := tk_oth e112558 ak112502 h_x h112553 (by decide) (by decide) kp112483
                      clear kp112483 ak112502
                      have ak112571 := tk_oth e112558 ak112503 h_x h112553 (by decide) (by decide) kp112484
                      clear kp112484 ak112503
                      have ak112572 := tk_oth e112558 ak112504 h_x h112553 (by decide) (by decide) kp112485
                      clear kp112485 ak112504
                      have ak112573 := tk_oth e112558 ak112505 h_x h112553 (by decide) (by decide) kp112486
                      clear kp112486 ak112505
                      have ak112574 := tk_oth e112558 ak112506 h_x h112553 (by decide) (by decide) (rfl : ar 44 Wi112251 x = ar 44 Wi112251 x)
                      clear ak112506 ak112574
                      have ak112575 := tk_oth e112558 ak112507 h_x h112553 (by decide) (by decide) (rfl : ar 45 Wi112251 x = ar 45 Wi112251 x)
                      clear ak112507 ak112575
                      have ak112576 := tk_oth e112558 ak112508 h_x h112553 (by decide) (by decide) (rfl : ar 46 Wi112251 x = ar 46 Wi112251 x)
                      clear ak112508 ak112576
                      have ak112577 := tk_oth e112558 ak112509 h_x h112553 (by decide) (by decide) kp112487
                      clear kp112487 ak112509
                      have ak112578 := tk_oth e112558 ak112510 h_x h112553 (by decide) (by decide) kp112488
                      clear kp112488 ak112510
                      have ak112579 := tk_oth e112558 ak112511 h_x h112553 (by decide) (by decide) kp112489
                      clear kp112489 ak112511
                      have ak112580 := tk_oth e112558 ak112512 h_x h112553 (by decide) (by decide) kp112490
                      clear kp112490 ak112512
                      have ak112581 := tk_oth e112558 ak112513 h_x h112553 (by decide) (by decide) kp112491
                      clear kp112491 ak112513
                      have ak112582 := tk_put e112558 ak112514 h_x (vq_of hv112554) (ir_c rfl) (rfl : ar 59 Wi112251 x = ar 59 Wi112251 x)
                      clear ak112514
                      refine GO.iinc (X := i112251) (n := 1) (Y := i112251 + 1) (ls1 := [some (.ref x), some (ti p0), some (ti p1), some (ti p2), some (ti i189), some (ti (i112251 + 1)), none]) dX12_text_363 rfl rfl rfl rfl ?_
                      refine GO.goto (tgt := 340) dX12_text_366 (by decide) ?_
                      have e112583 : vi V112559 x 47 = vi Wi112251 x 47 := vi_up e112558 (Or.inl (K_ne h_x h112553 (by decide)))
                      have e112584 : vi V112559 x 48 = vi Wi112251 x 48 := vi_up e112558 (Or.inl (K_ne h_x h112553 (by decide)))
                      have q112585 : -2147483648 ≤ vi Wi112251 x 48 ∧ vi Wi112251 x 48 ≤ 2147483647 := vi_ir
                      have e112586 : vi V112559 x 30 = vi Wi112251 x 30 := vi_up e112558 (Or.inl (K_ne h_x h112553 (by decide)))
                      have q112587 : -2147483648 ≤ vi Wi112251 x 30 ∧ vi Wi112251 x 30 ≤ 2147483647 := vi_ir
                      exact ih112478 (i112251 + 1) V112559 ⟨by omega, by omega, by omega, (by first | exact YLP.beg ak112582.2 | exact YLP.put hyl ak112582.2 (by omega) (by omega) ⟨by omega, by omega⟩ ⟨by omega, by omega⟩ (by omega)), ak112567.2, ak112568.2, ak112569.2, ak112570.2, ak112571.2, ak112572.2, ak112573.2, ak112577.2, ak112578.2, ak112579.2, ak112580.2, ak112581.2, trivial⟩ (by show (2147483647 - (i112251 + 1)).toNat < (2147483647 - i112251).toNat; omega)
                  ·
                    refine GO.bipush dX12_text_217 rfl ?_
                    refine GO.aload_n dX12_text_219 rfl rfl ?_
                    refine GO.getI h_x fl_RX12_535 rfl rfl dX12_text_220 (fun l112588 u112589 => ?_)
                    refine GO.imul dX12_text_223 ?_
                    refine GO.iload dX12_text_224 rfl ?_
                    refine GO.iadd dX12_text_226 ?_
                    refine GO.name (fun z112590 hz112591 => ?_)
                    refine GO.istore (ls1 := [some (.ref x), some (ti p0), some (ti p1), some (ti p2), some (ti i189), some (ti i107262), some (ti z112590)]) dX12_text_227 rfl rfl ?_
                    refine GO.aload_n dX12_text_229 rfl rfl ?_
                    refine GO.getA (n := 240) h_x fl_RX12_124 rfl rfl rfl rfl dX12_text_230 (fun hv112593 h112592 => ?_)
                    refine GO.iload dX12_text_233 rfl ?_
                    refine GO.aload_n dX12_text_235 rfl rfl ?_
                    refine GO.getA (n := 12) h_x fl_RX12_94 rfl rfl rfl rfl dX12_text_236 (fun hv112595 h112594 => ?_)
                    refine GO.iload dX12_text_239 rfl ?_
                    have hl41 : vi Wi107262 (vq Wi107262 x 41) (i107262).toNat = ar 41 V56636 x (i107262).toNat := (congrFun kp112212 (i107262).toNat).trans (congrFun hm41 (i107262).toNat).symm
                    have q112596 : -2147483648 ≤ vi Wi107262 x 47 ∧ vi Wi107262 x 47 ≤ 2147483647 := vi_ir
                    have q112597 : -2147483648 ≤ vi Wi107262 x 38 ∧ vi Wi107262 x 38 ≤ 2147483647 := vi_ir
                    refine GO.iald (t := 34) rfl rfl h112594 r_i107262 (by omega) (by omega) dX12_text_241 (fun _ _ => ?_)
                    refine GO.iast (t := 44) rfl rfl (by decide +kernel) h112592 ⟨by omega, by omega⟩ (by omega) (by omega) vi_ir (vi_ir).1 (vi_ir).2 dX12_text_242 (fun V112599 e112598 => ?_)
                    have k112600 := st_oth e112598 aq112226 h_x h112592 (by decide) (by decide)
                    have sS112601 : sd V112599 x = sd Wi107262 x := k112600.2.1.trans (rfl : sd Wi107262 x = sd Wi107262 x)
                    have sQ112602 : wt V112599 x = wt Wi107262 x := k112600.2.2.trans (rfl : wt Wi107262 x = wt Wi107262 x)
                    have ak112603 := tk_oth e112598 ak112228 h_x h112592 (by decide) (by decide) kp112211
                    clear kp112211 ak112228
                    have ak112604 := tk_oth e112598 ak112229 h_x h112592 (by decide) (by decide) kp112212
                    clear kp112212 ak112229
                    have ak112605 := tk_oth e112598 ak112230 h_x h112592 (by decide) (by decide) kp112213
                    clear kp112213 ak112230
                    have ak112606 := tk_oth e112598 ak112231 h_x h112592 (by decide) (by decide) kp112214
                    clear kp112214 ak112231
                    have ak112607 := tk_oth e112598 ak112232 h_x h112592 (by decide) (by decide) kp112215
                    clear kp112215 ak112232
                    have ak112608 := tk_oth e112598 ak112233 h_x h112592 (by decide) (by decide) kp112216
                    clear kp112216 ak112233
                    have ak112609 := tk_put e112598 ak112234 h_x (vq_of hv112593) vi_ir (rfl : ar 53 Wi107262 x = ar 53 Wi107262 x)
                    clear ak112234
                    have ak112610 := tk_oth e112598 ak112235 h_x h112592 (by decide) (by decide) (rfl : ar 54 Wi107262 x = ar 54 Wi107262 x)
                    clear ak112235
                    have ak112611 := tk_oth e112598 ak112236 h_x h112592 (by decide) (by decide) (rfl : ar 55 Wi107262 x = ar 55 Wi107262 x)
                    clear ak112236
                    have ak112612 := tk_oth e112598 ak112237 h_x h112592 (by decide) (by decide) kp112217
                    clear kp112217 ak112237
                    have ak112613 := tk_oth e112598 ak112238 h_x h112592 (by decide) (by decide) kp112218
                    clear kp112218 ak112238
                    have ak112614 := tk_oth e112598 ak112239 h_x h112592 (by decide) (by decide) kp112219
                    clear kp112219 ak112239
                    have ak112615 := tk_oth e112598 ak112240 h_x h112592 (by decide) (by decide) kp112220
                    clear kp112220 ak112240
                    have ak112616 := tk_oth e112598 ak112241 h_x h112592 (by decide) (by decide) kp112221
                    clear kp112221 ak112241
                    have ak112617 := tk_oth e112598 ak112242 h_x h112592 (by decide) (by decide) kp112222
                    clear kp112222 ak112242
                    have ak112618 := tk_oth e112598 ak112243 h_x h112592 (by decide) (by decide) kp112223
                    clear kp112223 ak112243
                    have ak112619 := tk_oth e112598 ak112244 h_x h112592 (by decide) (by decide) (rfl : ar 56 Wi107262 x = ar 56 Wi107262 x)
                    clear ak112244
                    have ak112620 := tk_oth e112598 ak112245 h_x h112592 (by decide) (by decide) (rfl : ar 57 Wi107262 x = ar 57 Wi107262 x)
                    clear ak112245
                    have ak112621 := tk_oth e112598 ak112246 h_x h112592 (by decide) (by decide) (rfl : ar 58 Wi107262 x = ar 58 Wi107262 x)
                    clear ak112246
                    have ak112622 := tk_oth e112598 ak112247 h_x h112592 (by decide) (by decide) kp112224
                    clear kp112224 ak112247
                    refine GO.aload_n dX12_text_243 rfl rfl ?_
                    refine GO.getA (n := 240) h_x fl_RX12_127 rfl rfl rfl rfl dX12_text_244 (fun hv112624 h112623 => ?_)
                    refine GO.iload dX12_text_247 rfl ?_
                    refine GO.sipush dX12_text_249 rfl ?_
                    refine GO.aload_n dX12_text_252 rfl rfl ?_
                    refine GO.getI h_x fl_RX12_535 rfl rfl dX12_text_253 (fun l112625 u112626 => ?_)
                    have e112627 : vi V112599 x 47 = vi Wi107262 x 47 := vi_up e112598 (Or.inl (K_ne h_x h112592 (by decide)))
                    refine GO.imul dX12_text_256 ?_
                    refine GO.aload_n dX12_text_257 rfl rfl ?_
                    refine GO.getA (n := 12) h_x fl_RX12_97 rfl rfl rfl rfl dX12_text_258 (fun hv112629 h112628 => ?_)
                    refine GO.iload dX12_text_261 rfl ?_
                    have hl42 : vi V112599 (vq V112599 x 42) (i107262).toNat = ar 42 V56636 x (i107262).toNat := (congrFun ak112605.2 (i107262).toNat).trans (congrFun hm42 (i107262).toNat).symm
                    refine GO.iald (t := 35) rfl rfl h112628 r_i107262 (by omega) (by omega) dX12_text_263 (fun l112630 u112631 => ?_)
                    refine GO.iadd dX12_text_264 ?_
                    refine GO.iast (t := 45) rfl rfl (by decide +kernel) h112623 ⟨by omega, by omega⟩ (by omega) (by omega) ⟨by omega, by omega⟩ (by omega) (by omega) dX12_text_265 (fun V112634 e112633 => ?_)
                    have k112635 := st_oth e112633 k112600.1 h_x h112623 (by decide) (by decide)
                    clear k112600
                    have sS112636 : sd V112634 x = sd Wi107262 x := k112635.2.1.trans sS112601
                    have sQ112637 : wt V112634 x = wt Wi107262 x := k112635.2.2.trans sQ112602
                    have ak112638 := tk_oth e112633 ak112603.1 h_x h112623 (by decide) (by decide) ak112603.2
                    clear ak112603
                    have ak112639 := tk_oth e112633 ak112604.1 h_x h112623 (by decide) (by decide) ak112604.2
                    clear ak112604
                    have ak112640 := tk_oth e112633 ak112605.1 h_x h112623 (by decide) (by decide) ak112605.2
                    clear ak112605
                    have ak112641 := tk_oth e112633 ak112606.1 h_x h112623 (by decide) (by decide) ak112606.2
                    clear ak112606
                    have ak112642 := tk_oth e112633 ak112607.1 h_x h112623 (by decide) (by decide) ak112607.2
                    clear ak112607
                    have ak112643 := tk_oth e112633 ak112608.1 h_x h112623 (by decide) (by decide) ak112608.2
                    clear ak112608
                    have ak112644 := tk_oth e112633 ak112609.1 h_x h112623 (by decide) (by decide) ak112609.2
                    clear ak112609
                    have ak112645 := tk_put e112633 ak112610.1 h_x (vq_of hv112624) ⟨by omega, by omega⟩ ak112610.2
                    clear ak112610
                    have ak112646 := tk_oth e112633 ak112611.1 h_x h112623 (by decide) (by decide) ak112611.2
                    clear ak112611
                    have ak112647 := tk_oth e112633 ak112612.1 h_x h112623 (by decide) (by decide) ak112612.2
                    clear ak112612
                    have ak112648 := tk_oth e112633 ak112613.1 h_x h112623 (by decide) (by decide) ak112613.2
                    clear ak112613
                    have ak112649 := tk_oth e112633 ak112614.1 h_x h112623 (by decide) (by decide) ak112614.2
                    clear ak112614
                    have ak112650 := tk_oth e112633 ak112615.1 h_x h112623 (by decide) (by decide) ak112615.2
                    clear ak112615
                    have ak112651 := tk_oth e112633 ak112616.1 h_x h112623 (by decide) (by decide) ak112616.2
                    clear ak112616
                    have ak112652 := tk_oth e112633 ak112617.1 h_x h112623 (by decide) (by decide) ak112617.2
                    clear ak112617
                    have ak112653 := tk_oth e112633 ak112618.1 h_x h112623 (by decide) (by decide) ak112618.2
                    clear ak112618
                    have ak112654 := tk_oth e112633 ak112619.1 h_x h112623 (by decide) (by decide) ak112619.2
                    clear ak112619
                    have ak112655 := tk_oth e112633 ak112620.1 h_x h112623 (by decide) (by decide) ak112620.2
                    clear ak112620
                    have ak112656 := tk_oth e112633 ak112621.1 h_x h112623 (by decide) (by decide) ak112621.2
                    clear ak112621
                    have ak112657 := tk_oth e112633 ak112622.1 h_x h112623 (by decide) (by decide) ak112622.2
                    clear ak112622
                    refine GO.aload_n dX12_text_266 rfl rfl ?_
                    refine GO.getA (n := 240) h_x fl_RX12_130 rfl rfl rfl rfl dX12_text_267 (fun hv112659 h112658 => ?_)
                    refine GO.iload dX12_text_270 rfl ?_
                    refine GO.sipush dX12_text_272 rfl ?_
                    refine GO.aload_n dX12_text_275 rfl rfl ?_
                    refine GO.getI h_x fl_RX12_535 rfl rfl dX12_text_276 (fun l112660 u112661 => ?_)
                    have e112662 : vi V112634 x 47 = vi V112599 x 47 := vi_up e112633 (Or.inl (K_ne h_x h112623 (by decide)))
                    refine GO.imul dX12_text_279 ?_
                    refine GO.aload_n dX12_text_280 rfl rfl ?_
                    refine GO.getA (n := 12) h_x fl_RX12_100 rfl rfl rfl rfl dX12_text_281 (fun hv112664 h112663 => ?_)
                    refine GO.iload dX12_text_284 rfl ?_
                    have hl43 : vi V112634 (vq V112634 x 43) (i107262).toNat = ar 43 V56636 x (i107262).toNat := (congrFun ak112641.2 (i107262).toNat).trans (congrFun hm43 (i107262).toNat).symm
                    refine GO.iald (t := 36) rfl rfl h112663 r_i107262 (by omega) (by omega) dX12_text_286 (fun l112665 u112666 => ?_)
                    refine GO.iadd dX12_text_287 ?_
                    refine GO.iast (t := 46) rfl rfl (by decide +kernel) h112658 ⟨by omega, by omega⟩ (by omega) (by omega) ⟨by omega, by omega⟩ (by omega) (by omega) dX12_text_288 (fun V112670 e112669 => ?_)
                    have k112671 := st_oth e112669 k112635.1 h_x h112658 (by decide) (by decide)
                    clear k112635
                    have sS112672 : sd V112670 x = sd Wi107262 x := k112671.2.1.trans sS112636
                    have sQ112673 : wt V112670 x = wt Wi107262 x := k112671.2.2.trans sQ112637
                    have ak112674 := tk_oth e112669 ak112638.1 h_x h112658 (by decide) (by decide) ak112638.2
                    clear ak112638
                    have ak112675 := tk_oth e112669 ak112639.1 h_x h112658 (by decide) (by decide) ak112639.2
                    clear ak112639
                    have ak112676 := tk_oth e112669 ak112640.1 h_x h112658 (by decide) (by decide) ak112640.2
                    clear ak112640
                    have ak112677 := tk_oth e112669 ak112641.1 h_x h112658 (by decide) (by decide) ak112641.2
                    clear ak112641
                    have ak112678 := tk_oth e112669 ak112642.1 h_x h112658 (by decide) (by decide) ak112642.2
                    clear ak112642
                    have ak112679 := tk_oth e112669 ak112643.1 h_x h112658 (by decide) (by decide) ak112643.2
                    clear ak112643
                    have ak112680 := tk_oth e112669 ak112644.1 h_x h112658 (by decide) (by decide) ak112644.2
                    clear ak112644
                    have ak112681 := tk_oth e112669 ak112645.1 h_x h112658 (by decide) (by decide) ak112645.2
                    clear ak112645
                    have ak112682 := tk_put e112669 ak112646.1 h_x (vq_of hv112659) ⟨by omega, by omega⟩ ak112646.2
                    clear ak112646
                    have ak112683 := tk_oth e112669 ak112647.1 h_x h112658 (by decide) (by decide) ak112647.2
                    clear ak112647
                    have ak112684 := tk_oth e112669 ak112648.1 h_x h112658 (by decide) (by decide) ak112648.2
                    clear ak112648
                    have ak112685 := tk_oth e112669 ak112649.1 h_x h112658 (by decide) (by decide) ak112649.2
                    clear ak112649
                    have ak112686 := tk_oth e112669 ak112650.1 h_x h112658 (by decide) (by decide) ak112650.2
                    clear ak112650
                    have ak112687 := tk_oth e112669 ak112651.1 h_x h112658 (by decide) (by decide) ak112651.2
                    clear ak112651
                    have ak112688 := tk_oth e112669 ak112652.1 h_x h112658 (by decide) (by decide) ak112652.2
                    clear ak112652
                    have ak112689 := tk_oth e112669 ak112653.1 h_x h112658 (by decide) (by decide) ak112653.2
                    clear ak112653
                    have ak112690 := tk_oth e112669 ak112654.1 h_x h112658 (by decide) (by decide) ak112654.2
                    clear ak112654
                    have ak112691 := tk_oth e112669 ak112655.1 h_x h112658 (by decide) (by decide) ak112655.2
                    clear ak112655
                    have ak112692 := tk_oth e112669 ak112656.1 h_x h112658 (by decide) (by decide) ak112656.2
                    clear ak112656
                    have ak112693 := tk_oth e112669 ak112657.1 h_x h112658 (by decide) (by decide) ak112657.2
                    clear ak112657
                    refine GO.aload_n dX12_text_289 rfl rfl ?_
                    refine GO.getA (n := 240) h_x fl_RX12_133 rfl rfl rfl rfl dX12_text_290 (fun hv112695 h112694 => ?_)
                    refine GO.iload dX12_text_293 rfl ?_
                    refine GO.aload_n dX12_text_295 rfl rfl ?_
                    refine GO.getA (n := 12) h_x fl_RX12_103 rfl rfl rfl rfl dX12_text_296 (fun hv112697 h112696 => ?_)
                    refine GO.iload dX12_text_299 rfl ?_
                    have hl44 : vi V112670 (vq V112670 x 44) (i107262).toNat = ar 44 V56636 x (i107262).toNat := (congrFun ak112685.2 (i107262).toNat).trans (congrFun hm44 (i107262).toNat).symm
                    refine GO.iald (t := 37) rfl rfl h112696 r_i107262 (by omega) (by omega) dX12_text_301 (fun _ _ => ?_)
                    refine GO.iast (t := 47) rfl rfl (by decide +kernel) h112694 ⟨by omega, by omega⟩ (by omega) (by omega) vi_ir (vi_ir).1 (vi_ir).2 dX12_text_302 (fun V112702 e112701 => ?_)
                    have k112703 := st_oth e112701 k112671.1 h_x h112694 (by decide) (by decide)
                    clear k112671
                    have sS112704 : sd V112702 x = sd Wi107262 x := k112703.2.1.trans sS112672
                    have sQ112705 : wt V112702 x = wt Wi107262 x := k112703.2.2.trans sQ112673
                    have ak112706 := tk_oth e112701 ak112674.1 h_x h112694 (by decide) (by decide) ak112674.2
                    clear ak112674
                    have ak112707 := tk_oth e112701 ak112675.1 h_x h112694 (by decide) (by decide) ak112675.2
                    clear ak112675
                    have ak112708 := tk_oth e112701 ak112676.1 h_x h112694 (by decide) (by decide) ak112676.2
                    clear ak112676
                    have ak112709 := tk_oth e112701 ak112677.1 h_x h112694 (by decide) (by decide) ak112677.2
                    clear ak112677
                    have ak112710 := tk_oth e112701 ak112678.1 h_x h112694 (by decide) (by decide) ak112678.2
                    clear ak112678
                    have ak112711 := tk_oth e112701 ak112679.1 h_x h112694 (by decide) (by decide) ak112679.2
                    clear ak112679
                    have ak112712 := tk_oth e112701 ak112680.1 h_x h112694 (by decide) (by decide) ak112680.2
                    clear ak112680
                    have ak112713 := tk_oth e112701 ak112681.1 h_x h112694 (by decide) (by decide) ak112681.2
                    clear ak112681
                    have ak112714 := tk_oth e112701 ak112682.1 h_x h112694 (by decide) (by decide) ak112682.2
                    clear ak112682
                    have ak112715 := tk_oth e112701 ak112683.1 h_x h112694 (by decide) (by decide) ak112683.2
                    clear ak112683
                    have ak112716 := tk_oth e112701 ak112684.1 h_x h112694 (by decide) (by decide) ak112684.2
                    clear ak112684
                    have ak112717 := tk_oth e112701 ak112685.1 h_x h112694 (by decide) (by decide) ak112685.2
                    clear ak112685
                    have ak112718 := tk_oth e112701 ak112686.1 h_x h112694 (by decide) (by decide) ak112686.2
                    clear ak112686
                    have ak112719 := tk_oth e112701 ak112687.1 h_x h112694 (by decide) (by decide) ak112687.2
                    clear ak112687
                    have ak112720 := tk_oth e112701 ak112688.1 h_x h112694 (by decide) (by decide) ak112688.2
                    clear ak112688
                    have ak112721 := tk_oth e112701 ak112689.1 h_x h112694 (by decide) (by decide) ak112689.2
                    clear ak112689
                    have ak112722 := tk_put e112701 ak112690.1 h_x (vq_of hv112695) vi_ir ak112690.2
                    clear ak112690
                    have ak112723 := tk_oth e112701 ak112691.1 h_x h112694 (by decide) (by decide) ak112691.2
                    clear ak112691
                    have ak112724 := tk_oth e112701 ak112692.1 h_x h112694 (by decide) (by decide) ak112692.2
                    clear ak112692
                    have ak112725 := tk_oth e112701 ak112693.1 h_x h112694 (by decide) (by decide) ak112693.2
                    clear ak112693
                    refine GO.aload_n dX12_text_303 rfl rfl ?_
                    refine GO.getA (n := 240) h_x fl_RX12_136 rfl rfl rfl rfl dX12_text_304 (fun hv112727 h112726 => ?_)
                    refine GO.iload dX12_text_307 rfl ?_
                    refine GO.aload_n dX12_text_309 rfl rfl ?_
                    refine GO.getA (n := 12) h_x fl_RX12_106 rfl rfl rfl rfl dX12_text_310 (fun hv112729 h112728 => ?_)
                    refine GO.iload dX12_text_313 rfl ?_
                    have hl45 : vi V112702 (vq V112702 x 45) (i107262).toNat = ar 45 V56636 x (i107262).toNat := (congrFun ak112718.2 (i107262).toNat).trans (congrFun hm45 (i107262).toNat).symm
                    refine GO.iald (t := 38) rfl rfl h112728 r_i107262 (by omega) (by omega) dX12_text_315 (fun l112730 u112731 => ?_)
                    refine GO.iast (t := 48) rfl rfl (by decide +kernel) h112726 ⟨by omega, by omega⟩ (by omega) (by omega) vi_ir (by omega) (by omega) dX12_text_316 (fun V112737 e112736 => ?_)
                    have k112738 := st_oth e112736 k112703.1 h_x h112726 (by decide) (by decide)
                    clear k112703
                    have sS112739 : sd V112737 x = sd Wi107262 x := k112738.2.1.trans sS112704
                    have sQ112740 : wt V112737 x = wt Wi107262 x := k112738.2.2.trans sQ112705
                    have ak112741 := tk_oth e112736 ak112706.1 h_x h112726 (by decide) (by decide) ak112706.2
                    clear ak112706
                    have ak112742 := tk_oth e112736 ak112707.1 h_x h112726 (by decide) (by decide) ak112707.2
                    clear ak112707
                    have ak112743 := tk_oth e112736 ak112708.1 h_x h112726 (by decide) (by decide) ak112708.2
                    clear ak112708
                    have ak112744 := tk_oth e112736 ak112709.1 h_x h112726 (by decide) (by decide) ak112709.2
                    clear ak112709
                    have ak112745 := tk_oth e112736 ak112710.1 h_x h112726 (by decide) (by decide) ak112710.2
                    clear ak112710
                    have ak112746 := tk_oth e112736 ak112711.1 h_x h112726 (by decide) (by decide) ak112711.2
                    clear ak112711
                    have ak112747 := tk_oth e112736 ak112712.1 h_x h112726 (by decide) (by decide) ak112712.2
                    clear ak112712
                    have ak112748 := tk_oth e112736 ak112713.1 h_x h112726 (by decide) (by decide) ak112713.2
                    clear ak112713
                    have ak112749 := tk_oth e112736 ak112714.1 h_x h112726 (by decide) (by decide) ak112714.2
                    clear ak112714
                    have ak112750 := tk_oth e112736 ak112715.1 h_x h112726 (by decide) (by decide) ak112715.2
                    clear ak112715
                    have ak112751 := tk_oth e112736 ak112716.1 h_x h112726 (by decide) (by decide) ak112716.2
                    clear ak112716
                    have ak112752 := tk_oth e112736 ak112717.1 h_x h112726 (by decide) (by decide) ak112717.2
                    clear ak112717
                    have ak112753 := tk_oth e112736 ak112718.1 h_x h112726 (by decide) (by decide) ak112718.2
                    clear ak112718
                    have ak112754 := tk_oth e112736 ak112719.1 h_x h112726 (by decide) (by decide) ak112719.2
                    clear ak112719
                    have ak112755 := tk_oth e112736 ak112720.1 h_x h112726 (by decide) (by decide) ak112720.2
                    clear ak112720
                    have ak112756 := tk_oth e112736 ak112721.1 h_x h112726 (by decide) (by decide) ak112721.2
                    clear ak112721
                    have ak112757 := tk_oth e112736 ak112722.1 h_x h112726 (by decide) (by decide) ak112722.2
                    clear ak112722
                    have ak112758 := tk_put e112736 ak112723.1 h_x (vq_of hv112727) vi_ir ak112723.2
                    clear ak112723
                    have ak112759 := tk_oth e112736 ak112724.1 h_x h112726 (by decide) (by decide) ak112724.2
                    clear ak112724
                    have ak112760 := tk_oth e112736 ak112725.1 h_x h112726 (by decide) (by decide) ak112725.2
                    clear ak112725
                    refine GO.aload_n dX12_text_317 rfl rfl ?_
                    refine GO.getA (n := 240) h_x fl_RX12_139 rfl rfl rfl rfl dX12_text_318 (fun hv112762 h112761 => ?_)
                    refine GO.iload dX12_text_321 rfl ?_
                    refine GO.aload_n dX12_text_323 rfl rfl ?_
                    refine GO.getA (n := 12) h_x fl_RX12_109 rfl rfl rfl rfl dX12_text_324 (fun hv112764 h112763 => ?_)
                    refine GO.iload dX12_text_327 rfl ?_
                    have hl46 : vi V112737 (vq V112737 x 46) (i107262).toNat = ar 46 V56636 x (i107262).toNat := (congrFun ak112754.2 (i107262).toNat).trans (congrFun hm46 (i107262).toNat).symm
                    refine GO.iald (t := 39) rfl rfl h112763 r_i107262 (by omega) (by omega) dX12_text_329 (fun l112765 u112766 => ?_)
                    refine GO.iast (t := 49) rfl rfl (by decide +kernel) h112761 ⟨by omega, by omega⟩ (by omega) (by omega) vi_ir (by omega) (by omega) dX12_text_330 (fun V112773 e112772 => ?_)
                    have k112774 := st_oth e112772 k112738.1 h_x h112761 (by decide) (by decide)
                    clear k112738
                    have sS112775 : sd V112773 x = sd Wi107262 x := k112774.2.1.trans sS112739
                    have sQ112776 : wt V112773 x = wt Wi107262 x := k112774.2.2.trans sQ112740
                    clear k112774
                    have ak112777 := tk_oth e112772 ak112741.1 h_x h112761 (by decide) (by decide) ak112741.2
                    clear ak112741
                    have ak112778 := tk_oth e112772 ak112742.1 h_x h112761 (by decide) (by decide) ak112742.2
                    clear ak112742
                    have ak112779 := tk_oth e112772 ak112743.1 h_x h112761 (by decide) (by decide) ak112743.2
                    clear ak112743
                    have ak112780 := tk_oth e112772 ak112744.1 h_x h112761 (by decide) (by decide) ak112744.2
                    clear ak112744
                    have ak112781 := tk_oth e112772 ak112745.1 h_x h112761 (by decide) (by decide) ak112745.2
                    clear ak112745
                    have ak112782 := tk_oth e112772 ak112746.1 h_x h112761 (by decide) (by decide) ak112746.2
                    clear ak112746
                    have ak112783 := tk_oth e112772 ak112747.1 h_x h112761 (by decide) (by decide) ak112747.2
                    clear ak112747
                    have ak112784 := tk_oth e112772 ak112748.1 h_x h112761 (by decide) (by decide) ak112748.2
                    clear ak112748
                    have ak112785 := tk_oth e112772 ak112749.1 h_x h112761 (by decide) (by decide) ak112749.2
                    clear ak112749
                    have ak112786 := tk_oth e112772 ak112750.1 h_x h112761 (by decide) (by decide) ak112750.2
                    clear ak112750
                    have ak112787 := tk_oth e112772 ak112751.1 h_x h112761 (by decide) (by decide) ak112751.2
                    clear ak112751
                    have ak112788 := tk_oth e112772 ak112752.1 h_x h112761 (by decide) (by decide) ak112752.2
                    clear ak112752
                    have ak112789 := tk_oth e112772 ak112753.1 h_x h112761 (by decide) (by decide) ak112753.2
                    clear ak112753
                    have ak112790 := tk_oth e112772 ak112754.1 h_x h112761 (by decide) (by decide) ak112754.2
                    clear ak112754
                    have ak112791 := tk_oth e112772 ak112755.1 h_x h112761 (by decide) (by decide) ak112755.2
                    clear ak112755
                    have ak112792 := tk_oth e112772 ak112756.1 h_x h112761 (by decide) (by decide) ak112756.2
                    clear ak112756
                    have ak112793 := tk_oth e112772 ak112757.1 h_x h112761 (by decide) (by decide) ak112757.2
                    clear ak112757
                    have ak112794 := tk_oth e112772 ak112758.1 h_x h112761 (by decide) (by decide) ak112758.2
                    clear ak112758
                    have ak112795 := tk_put e112772 ak112759.1 h_x (vq_of hv112762) vi_ir ak112759.2
                    clear ak112759
                    have ak112796 := tk_oth e112772 ak112760.1 h_x h112761 (by decide) (by decide) ak112760.2
                    clear ak112760
                    refine GO.iinc (X := i107262) (n := 1) (Y := i107262 + 1) (ls1 := [some (.ref x), some (ti p0), some (ti p1), some (ti p2), some (ti i189), some (ti (i107262 + 1)), some (ti z112590)]) dX12_text_331 rfl rfl rfl rfl ?_
                    refine GO.goto (tgt := 208) dX12_text_334 (by decide) ?_
                    refine GO.drop [true, true, true, true, true, true, false] rfl ?_
                    have e112800 : vi V112670 x 47 = vi V112634 x 47 := vi_up e112669 (Or.inl (K_ne h_x h112658 (by decide)))
                    have e112799 : vi V112702 x 47 = vi V112670 x 47 := vi_up e112701 (Or.inl (K_ne h_x h112694 (by decide)))
                    have e112798 : vi V112737 x 47 = vi V112702 x 47 := vi_up e112736 (Or.inl (K_ne h_x h112726 (by decide)))
                    have e112797 : vi V112773 x 47 = vi V112737 x 47 := vi_up e112772 (Or.inl (K_ne h_x h112761 (by decide)))
                    have e112806 : vi V112599 x 48 = vi Wi107262 x 48 := vi_up e112598 (Or.inl (K_ne h_x h112592 (by decide)))
                    have e112805 : vi V112634 x 48 = vi V112599 x 48 := vi_up e112633 (Or.inl (K_ne h_x h112623 (by decide)))
                    have e112804 : vi V112670 x 48 = vi V112634 x 48 := vi_up e112669 (Or.inl (K_ne h_x h112658 (by decide)))
                    have e112803 : vi V112702 x 48 = vi V112670 x 48 := vi_up e112701 (Or.inl (K_ne h_x h112694 (by decide)))
                    have e112802 : vi V112737 x 48 = vi V112702 x 48 := vi_up e112736 (Or.inl (K_ne h_x h112726 (by decide)))
                    have e112801 : vi V112773 x 48 = vi V112737 x 48 := vi_up e112772 (Or.inl (K_ne h_x h112761 (by decide)))
                    have q112807 : -2147483648 ≤ vi Wi107262 x 48 ∧ vi Wi107262 x 48 ≤ 2147483647 := vi_ir
                    have e112813 : vi V112599 x 36 = vi Wi107262 x 36 := vi_up e112598 (Or.inl (K_ne h_x h112592 (by decide)))
                    have e112812 : vi V112634 x 36 = vi V112599 x 36 := vi_up e112633 (Or.inl (K_ne h_x h112623 (by decide)))
                    have e112811 : vi V112670 x 36 = vi V112634 x 36 := vi_up e112669 (Or.inl (K_ne h_x h112658 (by decide)))
                    have e112810 : vi V112702 x 36 = vi V112670 x 36 := vi_up e112701 (Or.inl (K_ne h_x h112694 (by decide)))
                    have e112809 : vi V112737 x 36 = vi V112702 x 36 := vi_up e112736 (Or.inl (K_ne h_x h112726 (by decide)))
                    have e112808 : vi V112773 x 36 = vi V112737 x 36 := vi_up e112772 (Or.inl (K_ne h_x h112761 (by decide)))
                    have q112814 : -2147483648 ≤ vi Wi107262 x 36 ∧ vi Wi107262 x 36 ≤ 2147483647 := vi_ir
                    have e112820 : vi V112599 x 38 = vi Wi107262 x 38 := vi_up e112598 (Or.inl (K_ne h_x h112592 (by decide)))
                    have e112819 : vi V112634 x 38 = vi V112599 x 38 := vi_up e112633 (Or.inl (K_ne h_x h112623 (by decide)))
                    have e112818 : vi V112670 x 38 = vi V112634 x 38 := vi_up e112669 (Or.inl (K_ne h_x h112658 (by decide)))
                    have e112817 : vi V112702 x 38 = vi V112670 x 38 := vi_up e112701 (Or.inl (K_ne h_x h112694 (by decide)))
                    have e112816 : vi V112737 x 38 = vi V112702 x 38 := vi_up e112736 (Or.inl (K_ne h_x h112726 (by decide)))
                    have e112815 : vi V112773 x 38 = vi V112737 x 38 := vi_up e112772 (Or.inl (K_ne h_x h112761 (by decide)))
                    have e112826 : vi V112599 x 30 = vi Wi107262 x 30 := vi_up e112598 (Or.inl (K_ne h_x h112592 (by decide)))
                    have e112825 : vi V112634 x 30 = vi V112599 x 30 := vi_up e112633 (Or.inl (K_ne h_x h112623 (by decide)))
                    have e112824 : vi V112670 x 30 = vi V112634 x 30 := vi_up e112669 (Or.inl (K_ne h_x h112658 (by decide)))
                    have e112823 : vi V112702 x 30 = vi V112670 x 30 := vi_up e112701 (Or.inl (K_ne h_x h112694 (by decide)))
                    have e112822 : vi V112737 x 30 = vi V112702 x 30 := vi_up e112736 (Or.inl (K_ne h_x h112726 (by decide)))
                    have e112821 : vi V112773 x 30 = vi V112737 x 30 := vi_up e112772 (Or.inl (K_ne h_x h112761 (by decide)))
                    have q112827 : -2147483648 ≤ vi Wi107262 x 30 ∧ vi Wi107262 x 30 ≤ 2147483647 := vi_ir
                    exact ih112209 (i107262 + 1) V112773 ⟨by omega, by omega, by omega, (by first | exact CPf.rf.at ak112783.2 | exact CPf.put h53 (by omega) (by omega) ak112783.2 (by omega) (by omega) (by omega)), (by first | exact CPf.rf.at ak112784.2 | exact CPf.put h54 (by omega) (by omega) ak112784.2 (by omega) (by omega) (by omega)), (by first | exact CPf.rf.at ak112785.2 | exact CPf.put h55 (by omega) (by omega) ak112785.2 (by omega) (by omega) (by omega)), (by first | exact CPf.rf.at ak112793.2 | exact CPf.put h56 (by omega) (by omega) ak112793.2 (by omega) (by omega) (by omega)), (by first | exact CPf.rf.at ak112794.2 | exact CPf.put h57 (by omega) (by omega) ak112794.2 (by omega) (by omega) (by omega)), (by first | exact CPf.rf.at ak112795.2 | exact CPf.put h58 (by omega) (by omega) ak112795.2 (by omega) (by omega) (by omega)), ak112777.2, ak112778.2, ak112779.2, ak112780.2, ak112781.2, ak112782.2, ak112786.2, ak112787.2, ak112788.2, ak112789.2, ak112790.2, ak112791.2, ak112792.2, ak112796.2, trivial⟩ (by show (2147483647 - (i107262 + 1)).toNat < (2147483647 - i107262).toNat; omega)
                ·
                  refine GO.aload_n dX12_text_176 rfl rfl ?_
                  refine GO.getA (n := 4400) h_x fl_RX12_112 rfl rfl rfl rfl dX12_text_177 (fun hv112829 h112828 => ?_)
                  refine GO.sipush dX12_text_180 rfl ?_
                  refine GO.aload_n dX12_text_183 rfl rfl ?_
                  refine GO.getI h_x fl_RX12_535 rfl rfl dX12_text_184 (fun l112830 u112831 => ?_)
                  refine GO.imul dX12_text_187 ?_
                  refine GO.iload dX12_text_188 rfl ?_
                  refine GO.iadd dX12_text_190 ?_
                  refine GO.aload_n dX12_text_191 rfl rfl ?_
                  refine GO.getA (n := 220) h_x fl_RX12_88 rfl rfl rfl rfl dX12_text_192 (fun hv112833 h112832 => ?_)
                  refine GO.iload dX12_text_195 rfl ?_
                  have hl39 : vi Wi56763 (vq Wi56763 x 39) (i56763).toNat = ar 39 V56636 x (i56763).toNat := (congrFun kp107217 (i56763).toNat).trans (congrFun hm39 (i56763).toNat).symm
                  have q112834 : -2147483648 ≤ vi Wi56763 x 36 ∧ vi Wi56763 x 36 ≤ 2147483647 := vi_ir
                  refine GO.iald (t := 32) rfl rfl h112832 r_i56763 (by omega) (by omega) dX12_text_197 (fun l112835 u112836 => ?_)
                  have q112837 : -2147483648 ≤ vi Wi56763 x 47 ∧ vi Wi56763 x 47 ≤ 2147483647 := vi_ir
                  refine GO.iast (t := 40) rfl rfl (by decide +kernel) h112828 ⟨by omega, by omega⟩ (by omega) (by omega) vi_ir (by omega) (by omega) dX12_text_198 (fun V112839 e112838 => ?_)
                  have k112840 := st_oth e112838 aq107237 h_x h112828 (by decide) (by decide)
                  have sS112841 : sd V112839 x = sd Wi56763 x := k112840.2.1.trans (rfl : sd Wi56763 x = sd Wi56763 x)
                  have sQ112842 : wt V112839 x = wt Wi56763 x := k112840.2.2.trans (rfl : wt Wi56763 x = wt Wi56763 x)
                  clear k112840
                  have ak112843 := tk_oth e112838 ak107239 h_x h112828 (by decide) (by decide) kp107217
                  clear kp107217 ak107239
                  have ak112844 := tk_oth e112838 ak107240 h_x h112828 (by decide) (by decide) kp107218
                  clear kp107218 ak107240
                  have ak112845 := tk_oth e112838 ak107241 h_x h112828 (by decide) (by decide) kp107219
                  clear kp107219 ak107241
                  have ak112846 := tk_oth e112838 ak107242 h_x h112828 (by decide) (by decide) kp107220
                  clear kp107220 ak107242
                  have ak112847 := tk_put e112838 ak107243 h_x (vq_of hv112829) vi_ir (rfl : ar 49 Wi56763 x = ar 49 Wi56763 x)
                  clear ak107243
                  have ak112848 := tk_oth e112838 ak107244 h_x h112828 (by decide) (by decide) kp107221
                  clear kp107221 ak107244
                  have ak112849 := tk_oth e112838 ak107245 h_x h112828 (by decide) (by decide) kp107222
                  clear kp107222 ak107245
                  have ak112850 := tk_oth e112838 ak107246 h_x h112828 (by decide) (by decide) kp107223
                  clear kp107223 ak107246
                  have ak112851 := tk_oth e112838 ak107247 h_x h112828 (by decide) (by decide) kp107224
                  clear kp107224 ak107247
                  have ak112852 := tk_oth e112838 ak107248 h_x h112828 (by decide) (by decide) kp107225
                  clear kp107225 ak107248
                  have ak112853 := tk_oth e112838 ak107249 h_x h112828 (by decide) (by decide) kp107226
                  clear kp107226 ak107249
                  have ak112854 := tk_oth e112838 ak107250 h_x h112828 (by decide) (by decide) kp107227
                  clear kp107227 ak107250
                  have ak112855 := tk_oth e112838 ak107251 h_x h112828 (by decide) (by decide) kp107228
                  clear kp107228 ak107251
                  have ak112856 := tk_oth e112838 ak107252 h_x h112828 (by decide) (by decide) kp107229
                  clear kp107229 ak107252
                  have ak112857 := tk_oth e112838 ak107253 h_x h112828 (by decide) (by decide) kp107230
                  clear kp107230 ak107253
                  have ak112858 := tk_oth e112838 ak107254 h_x h112828 (by decide) (by decide) kp107231
                  clear kp107231 ak107254
                  have ak112859 := tk_oth e112838 ak107255 h_x h112828 (by decide) (by decide) kp107232
                  clear kp107232 ak107255
                  have ak112860 := tk_oth e112838 ak107256 h_x h112828 (by decide) (by decide) kp107233
                  clear kp107233 ak107256
                  have ak112861 := tk_oth e112838 ak107257 h_x h112828 (by decide) (by decide) kp107234
                  clear kp107234 ak107257
                  have ak112862 := tk_oth e112838 ak107258 h_x h112828 (by decide) (by decide) kp107235
                  clear kp107235 ak107258
                  refine GO.iinc (X := i56763) (n := 1) (Y := i56763 + 1) (ls1 := [some (.ref x), some (ti p0), some (ti p1), some (ti p2), some (ti i189), some (ti (i56763 + 1)), none]) dX12_text_199 rfl rfl rfl rfl ?_
                  refine GO.goto (tgt := 167) dX12_text_202 (by decide) ?_
                  have e112863 : vi V112839 x 47 = vi Wi56763 x 47 := vi_up e112838 (Or.inl (K_ne h_x h112828 (by decide)))
                  have e112864 : vi V112839 x 48 = vi Wi56763 x 48 := vi_up e112838 (Or.inl (K_ne h_x h112828 (by decide)))
                  have q112865 : -2147483648 ≤ vi Wi56763 x 48 ∧ vi Wi56763 x 48 ≤ 2147483647 := vi_ir
                  have e112866 : vi V112839 x 36 = vi Wi56763 x 36 := vi_up e112838 (Or.inl (K_ne h_x h112828 (by decide)))
                  have e112867 : vi V112839 x 38 = vi Wi56763 x 38 := vi_up e112838 (Or.inl (K_ne h_x h112828 (by decide)))
                  have q112868 : -2147483648 ≤ vi Wi56763 x 38 ∧ vi Wi56763 x 38 ≤ 2147483647 := vi_ir
                  have e112869 : vi V112839 x 30 = vi Wi56763 x 30 := vi_up e112838 (Or.inl (K_ne h_x h112828 (by decide)))
                  have q112870 : -2147483648 ≤ vi Wi56763 x 30 ∧ vi Wi56763 x 30 ≤ 2147483647 := vi_ir
                  exact ih107215 (i56763 + 1) V112839 ⟨by omega, by omega, by omega, (by first | exact CPf.rf.at ak112847.2 | exact CPf.put h49 (by omega) (by omega) ak112847.2 (by omega) (by omega) (by omega)), ak112843.2, ak112844.2, ak112845.2, ak112846.2, ak112848.2, ak112849.2, ak112850.2, ak112851.2, ak112852.2, ak112853.2, ak112854.2, ak112855.2, ak112856.2, ak112857.2, ak112858.2, ak112859.2, ak112860.2, ak112861.2, ak112862.2, trivial⟩ (by show (2147483647 - (i56763 + 1)).toNat < (2147483647 - i56763).toNat; omega)
              ·
                refine GO.aload_n dX12_text_90 rfl rfl ?_
                refine GO.bipush dX12_text_91 rfl ?_
                refine GO.callV (ci := 11) (N := mX12_takes) dX12_text_93 (RX12, TX12, 151) rfl gV_RX12_532 h_x (t_X12_takes h_x (ir_c rfl) (by omega)) rfl [] rfl rfl (Nat.le_of_ble_eq_true rfl) rfl (k_is fun X112871 V112875 r112872 h112873 hF112874 => ?_)
                have k112876 := st_fr hF112874 aq56572 h_x (by decide +kernel) (by decide +kernel) (by decide +kernel) (by decide +kernel)
                have sS112877 : sd V112875 x = sd Wi189 x := k112876.2.1.trans (rfl : sd Wi189 x = sd Wi189 x)
                have sQ112878 : wt V112875 x = wt Wi189 x := k112876.2.2.trans (rfl : wt Wi189 x = wt Wi189 x)
                clear k112876
                have ak112879 := tk_fr hF112874 ak56574 h_x (by decide +kernel) (by decide +kernel) (rfl : ar 39 Wi189 x = ar 39 Wi189 x)
                clear ak56574
                have ak112880 := tk_fr hF112874 ak56575 h_x (by decide +kernel) (by decide +kernel) (rfl : ar 41 Wi189 x = ar 41 Wi189 x)
                clear ak56575
                have ak112881 := tk_fr hF112874 ak56576 h_x (by decide +kernel) (by decide +kernel) (rfl : ar 42 Wi189 x = ar 42 Wi189 x)
                clear ak56576
                have ak112882 := tk_fr hF112874 ak56577 h_x (by decide +kernel) (by decide +kernel) (rfl : ar 43 Wi189 x = ar 43 Wi189 x)
                clear ak56577
                have ak112883 := tk_fr hF112874 ak56578 h_x (by decide +kernel) (by decide +kernel) kp56558
                clear kp56558 ak56578
                have ak112884 := tk_fr hF112874 ak56579 h_x (by decide +kernel) (by decide +kernel) kp56559
                clear kp56559 ak56579
                have ak112885 := tk_fr hF112874 ak56580 h_x (by decide +kernel) (by decide +kernel) kp56560
                clear kp56560 ak56580
                have ak112886 := tk_fr hF112874 ak56581 h_x (by decide +kernel) (by decide +kernel) kp56561
                clear kp56561 ak56581
                have ak112887 := tk_fr hF112874 ak56582 h_x (by decide +kernel) (by decide +kernel) kp56562
                clear kp56562 ak56582
                have ak112888 := tk_fr hF112874 ak56583 h_x (by decide +kernel) (by decide +kernel) kp56563
                clear kp56563 ak56583
                have ak112889 := tk_fr hF112874 ak56584 h_x (by decide +kernel) (by decide +kernel) kp56564
                clear kp56564 ak56584
                have ak112890 := tk_fr hF112874 ak56585 h_x (by decide +kernel) (by decide +kernel) (rfl : ar 44 Wi189 x = ar 44 Wi189 x)
                clear ak56585
                have ak112891 := tk_fr hF112874 ak56586 h_x (by decide +kernel) (by decide +kernel) (rfl : ar 45 Wi189 x = ar 45 Wi189 x)
                clear ak56586
                have ak112892 := tk_fr hF112874 ak56587 h_x (by decide +kernel) (by decide +kernel) (rfl : ar 46 Wi189 x = ar 46 Wi189 x)
                clear ak56587
                have ak112893 := tk_fr hF112874 ak56588 h_x (by decide +kernel) (by decide +kernel) kp56565
                clear kp56565 ak56588
                have ak112894 := tk_fr hF112874 ak56589 h_x (by decide +kernel) (by decide +kernel) kp56566
                clear kp56566 ak56589
                have ak112895 := tk_fr hF112874 ak56590 h_x (by decide +kernel) (by decide +kernel) kp56567
                clear kp56567 ak56590
                have ak112896 := tk_fr hF112874 ak56591 h_x (by decide +kernel) (by decide +kernel) kp56568
                clear kp56568 ak56591
                have ak112897 := tk_fr hF112874 ak56592 h_x (by decide +kernel) (by decide +kernel) kp56569
                clear kp56569 ak56592
                have ak112898 := tk_fr hF112874 ak56593 h_x (by decide +kernel) (by decide +kernel) kp56570
                clear kp56570 ak56593
                have rq0_93 := h112873.2.2.2
                refine GO.if_eq (tgt := 110) dX12_text_96 (by decide) r112872 (fun c112900 => ?_) (fun c112900 => ?_)
                ·
                  clear ak112879 ak112880 ak112881 ak112882 ak112890 ak112891 ak112892
                  have e112901 : vi V112875 x 32 = vi Wi189 x 32 := vi_fr hF112874 h_x h_x (by decide +kernel)
                  have e112902 : vi V112875 x 36 = vi Wi189 x 36 := vi_fr hF112874 h_x h_x (by decide +kernel)
                  have e112903 : vi V112875 x 37 = vi Wi189 x 37 := vi_fr hF112874 h_x h_x (by decide +kernel)
                  refine GO.useWT (fun hWb => ?_)
                  have hrb := hWb.rd h_x
                  refine GO.iconst dX12_text_110 ?_
                  refine GO.istore (ls1 := [some (.ref x), some (ti p0), some (ti p1), some (ti p2), some (ti 0), none, none]) dX12_text_111 rfl rfl ?_
                  refine GO.goto (tgt := 74) dX12_text_113 (by decide) ?_
                  have e112904 : vi V112875 x 47 = vi Wi189 x 47 := vi_fr hF112874 h_x h_x (by decide +kernel)
                  have q112905 : -2147483648 ≤ vi Wi189 x 47 ∧ vi Wi189 x 47 ≤ 2147483647 := vi_ir
                  have e112906 : vi V112875 x 48 = vi Wi189 x 48 := vi_fr hF112874 h_x h_x (by decide +kernel)
                  have q112907 : -2147483648 ≤ vi Wi189 x 48 ∧ vi Wi189 x 48 ≤ 2147483647 := vi_ir
                  have q112908 : -2147483648 ≤ vi Wi189 x 36 ∧ vi Wi189 x 36 ≤ 2147483647 := vi_ir
                  have q112909 : -2147483648 ≤ vi Wi189 x 31 ∧ vi Wi189 x 31 ≤ 2147483647 := vi_ir
                  have q112910 : -2147483648 ≤ vi Wi189 x 32 ∧ vi Wi189 x 32 ≤ 2147483647 := vi_ir
                  have q112911 : -2147483648 ≤ vi V112875 x 31 ∧ vi V112875 x 31 ≤ 2147483647 := vi_ir
                  exact ih56556 0 V112875 ⟨by omega, by omega, by omega, (by first | exact fun h => raw_readsClause (by omega) | exact fun h => absurd rfl h | exact fun h => absurd h (by omega)), (by first | exact RTI.beg hT0 (by omega) (by omega) rq0_69 | exact RTI.bad hrt (by omega) hTp (by omega) (by omega) (rq0_93.2 (by omega)).1 (rq0_93.2 (by omega)).2 rfl), ak112883.2, ak112884.2, ak112885.2, ak112886.2, ak112887.2, ak112888.2, ak112889.2, ak112893.2, ak112894.2, ak112895.2, ak112896.2, ak112897.2, ak112898.2, trivial⟩ (by show (((1000 * 0) + (vi V112875 x 32 - vi V112875 x 31))).toNat < (((1000 * i189) + (vi Wi189 x 32 - vi Wi189 x 31))).toNat; omega)
                ·
                  have q112912 := h112873.2.1 (by omega)
                  have e112913 : vi V112875 x 38 = vi Wi189 x 38 := vi_fr hF112874 h_x h_x (by decide +kernel)
                  have e112914 : vi V112875 x 36 = vi Wi189 x 36 := vi_fr hF112874 h_x h_x (by decide +kernel)
                  have e112915 : vi V112875 x 32 = vi Wi189 x 32 := vi_fr hF112874 h_x h_x (by decide +kernel)
                  have hs9 := sS112877
                  have h41 := ak112880.2
                  have h44 := ak112890.2
                  clear ak112890
                  have h45 := ak112891.2
                  clear ak112891
                  have h46 := ak112892.2
                  clear ak112892
                  refine GO.useFR (fun hFs => ?_)
                  have hT9 : ∀ src, SRM V x (p2).toNat src → TP V112875 x src (p2).toNat := fun src h => TP.of hFs h_x hW_0 (by decide +kernel) (by decide +kernel) (by omega) h
                  refine GO.aload_n dX12_text_99 rfl rfl ?_
                  have q112916 : -2147483648 ≤ vi V112875 x 31 ∧ vi V112875 x 31 ≤ 2147483647 := vi_ir
                  have q112917 : -2147483648 ≤ vi Wi189 x 31 ∧ vi Wi189 x 31 ≤ 2147483647 := vi_ir
                  have q112918 : -2147483648 ≤ vi Wi189 x 32 ∧ vi Wi189 x 32 ≤ 2147483647 := vi_ir
                  have q112919 : -2147483648 ≤ vi Wi189 x 36 ∧ vi Wi189 x 36 ≤ 2147483647 := vi_ir
                  refine GO.callV (ci := 11) (N := mX12_readsClause) dX12_text_100 (RX12, TX12, 151) rfl gV_RX12_538 h_x (t_X12_readsClause h_x (by omega) ((by first | exact TC.nil (by omega) | exact TC.eq (htc (by omega)) ak112880.2 ak112881.2 ak112882.2 ak112879.2 (by omega) (by omega)))) rfl [] rfl rfl (Nat.le_of_ble_eq_true rfl) rfl (k_is fun X112920 V112924 r112921 h112922 hF112923 => ?_)
                  clear ak112879 ak112880 ak112881 ak112882
                  refine GO.useWT (fun hW112925 => ?_)
                  have aq112926 := hW112925.aq h_x
                  have ak112927 := tk_fr hF112923 ak112883.1 h_x (by decide +kernel) (by decide +kernel) ak112883.2
                  clear ak112883
                  have ak112928 := tk_fr hF112923 ak112884.1 h_x (by decide +kernel) (by decide +kernel) ak112884.2
                  clear ak112884
                  have ak112929 := tk_fr hF112923 ak112885.1 h_x (by decide +kernel) (by decide +kernel) ak112885.2
                  clear ak112885
                  have ak112930 := tk_fr hF112923 ak112886.1 h_x (by decide +kernel) (by decide +kernel) ak112886.2
                  clear ak112886
                  have ak112931 := tk_fr hF112923 ak112887.1 h_x (by decide +kernel) (by decide +kernel) ak112887.2
                  clear ak112887
                  have ak112932 := tk_fr hF112923 ak112888.1 h_x (by decide +kernel) (by decide +kernel) ak112888.2
                  clear ak112888
                  have ak112933 := tk_fr hF112923 ak112889.1 h_x (by decide +kernel) (by decide +kernel) ak112889.2
                  clear ak112889
                  have ak112934 := tk_fr hF112923 ak112893.1 h_x (by decide +kernel) (by decide +kernel) ak112893.2
                  clear ak112893
                  have ak112935 := tk_fr hF112923 ak112894.1 h_x (by decide +kernel) (by decide +kernel) ak112894.2
                  clear ak112894
                  have ak112936 := tk_fr hF112923 ak112895.1 h_x (by decide +kernel) (by decide +kernel) ak112895.2
                  clear ak112895
                  have ak112937 := tk_fr hF112923 ak112896.1 h_x (by decide +kernel) (by decide +kernel) ak112896.2
                  clear ak112896
                  have ak112938 := tk_fr hF112923 ak112897.1 h_x (by decide +kernel) (by decide +kernel) ak112897.2
                  clear ak112897
                  have ak112939 := tk_fr hF112923 ak112898.1 h_x (by decide +kernel) (by decide +kernel) ak112898.2
                  clear ak112898
                  refine GO.useWT (fun hW112940 => ?_)
                  have ak112941 := hW112940.arr h_x 39 32 (by decide) rfl (by decide)
                  clear ak112941
                  have ak112942 := hW112940.arr h_x 41 34 (by decide) rfl (by decide)
                  clear ak112942
                  have ak112943 := hW112940.arr h_x 42 35 (by decide) rfl (by decide)
                  clear ak112943
                  have ak112944 := hW112940.arr h_x 43 36 (by decide) rfl (by decide)
                  clear ak112944
                  have ak112945 := hW112940.arr h_x 44 37 (by decide) rfl (by decide)
                  clear ak112945
                  have ak112946 := hW112940.arr h_x 45 38 (by decide) rfl (by decide)
                  clear ak112946
                  have ak112947 := hW112940.arr h_x 46 39 (by decide) rfl (by decide)
                  clear ak112947
                  have raw_readsClause := h112922.2.2.2.1
                  have rq0_100 := h112922.2.2.2.2
                  have rw100 := h112922.2.2.2.1
                  refine GO.if_eq (tgt := 110) dX12_text_103 (by decide) r112921 (fun c112950 => ?_) (fun c112950 => ?_)
                  ·
                    have e112951 : vi V112924 x 32 = vi V112875 x 32 := vi_fr hF112923 h_x h_x (by decide +kernel)
                    refine GO.useWT (fun hWb => ?_)
                    have hrb := hWb.rd h_x
                    refine GO.iconst dX12_text_110 ?_
                    refine GO.istore (ls1 := [some (.ref x), some (ti p0), some (ti p1), some (ti p2), some (ti 0), none, none]) dX12_text_111 rfl rfl ?_
                    refine GO.goto (tgt := 74) dX12_text_113 (by decide) ?_
                    have e112954 : vi V112875 x 47 = vi Wi189 x 47 := vi_fr hF112874 h_x h_x (by decide +kernel)
                    have e112953 : vi V112924 x 47 = vi V112875 x 47 := vi_fr hF112923 h_x h_x (by decide +kernel)
                    have q112955 : -2147483648 ≤ vi Wi189 x 47 ∧ vi Wi189 x 47 ≤ 2147483647 := vi_ir
                    have e112957 : vi V112875 x 48 = vi Wi189 x 48 := vi_fr hF112874 h_x h_x (by decide +kernel)
                    have e112956 : vi V112924 x 48 = vi V112875 x 48 := vi_fr hF112923 h_x h_x (by decide +kernel)
                    have q112958 : -2147483648 ≤ vi Wi189 x 48 ∧ vi Wi189 x 48 ≤ 2147483647 := vi_ir
                    have q112959 : -2147483648 ≤ vi V112924 x 36 ∧ vi V112924 x 36 ≤ 2147483647 := vi_ir
                    have q112960 : -2147483648 ≤ vi V112924 x 31 ∧ vi V112924 x 31 ≤ 2147483647 := vi_ir
                    exact ih56556 0 V112924 ⟨by omega, by omega, by omega, (by first | exact fun h => raw_readsClause (by omega) | exact fun h => absurd rfl h | exact fun h => absurd h (by omega)), (by first | exact RTI.beg hT0 (by omega) (by omega) rq0_69 | exact RTI.bad hrt (by omega) hTp (by omega) (by omega) (rq0_93.2 (by omega)).1 (rq0_93.2 (by omega)).2 rfl | exact RTI.step hrt (by omega) hTp (by omega) (by omega) (rq0_93.1 (by omega)).1 (rq0_93.1 (by omega)).2 (by omega) hs9 (by omega) h41 h44 h45 h46 hT9 (by omega) rq0_100 (by constructor <;> intro _ <;> omega)), ak112927.2, ak112928.2, ak112929.2, ak112930.2, ak112931.2, ak112932.2, ak112933.2, ak112934.2, ak112935.2, ak112936.2, ak112937.2, ak112938.2, ak112939.2, trivial⟩ (by show (((1000 * 0) + (vi V112924 x 32 - vi V112924 x 31))).toNat < (((1000 * i189) + (vi Wi189 x 32 - vi Wi189 x 31))).toNat; omega)
                  ·
                    have q112961 := h112922.2.1 (by omega)
                    refine GO.iconst dX12_text_106 ?_
                    refine GO.goto (tgt := 111) dX12_text_107 (by decide) ?_
                    refine GO.istore (ls1 := [some (.ref x), some (ti p0), some (ti p1), some (ti p2), some (ti 1), none, none]) dX12_text_111 rfl rfl ?_
                    refine GO.goto (tgt := 74) dX12_text_113 (by decide) ?_
                    have e112963 : vi V112875 x 47 = vi Wi189 x 47 := vi_fr hF112874 h_x h_x (by decide +kernel)
                    have e112962 : vi V112924 x 47 = vi V112875 x 47 := vi_fr hF112923 h_x h_x (by decide +kernel)
                    have q112964 : -2147483648 ≤ vi Wi189 x 47 ∧ vi Wi189 x 47 ≤ 2147483647 := vi_ir
                    have e112966 : vi V112875 x 48 = vi Wi189 x 48 := vi_fr hF112874 h_x h_x (by decide +kernel)
                    have e112965 : vi V112924 x 48 = vi V112875 x 48 := vi_fr hF112923 h_x h_x (by decide +kernel)
                    have q112967 : -2147483648 ≤ vi Wi189 x 48 ∧ vi Wi189 x 48 ≤ 2147483647 := vi_ir
                    have q112968 : -2147483648 ≤ vi V112924 x 36 ∧ vi V112924 x 36 ≤ 2147483647 := vi_ir
                    have q112969 : -2147483648 ≤ vi V112924 x 31 ∧ vi V112924 x 31 ≤ 2147483647 := vi_ir
                    have e112970 : vi V112924 x 32 = vi V112875 x 32 := vi_fr hF112923 h_x h_x (by decide +kernel)
                    exact ih56556 1 V112924 ⟨by omega, by omega, by omega, (by first | exact fun h => raw_readsClause (by omega) | exact fun h => absurd rfl h | exact fun h => absurd h (by omega)), (by first | exact RTI.beg hT0 (by omega) (by omega) rq0_69 | exact RTI.bad hrt (by omega) hTp (by omega) (by omega) (rq0_93.2 (by omega)).1 (rq0_93.2 (by omega)).2 rfl | exact RTI.step hrt (by omega) hTp (by omega) (by omega) (rq0_93.1 (by omega)).1 (rq0_93.1 (by omega)).2 (by omega) hs9 (by omega) h41 h44 h45 h46 hT9 (by omega) rq0_100 (by constructor <;> intro _ <;> omega)), ak112927.2, ak112928.2, ak112929.2, ak112930.2, ak112931.2, ak112932.2, ak112933.2, ak112934.2, ak112935.2, ak112936.2, ak112937.2, ak112938.2, ak112939.2, trivial⟩ (by show (((1000 * 1) + (vi V112924 x 32 - vi V112924 x 31))).toNat < (((1000 * i189) + (vi Wi189 x 32 - vi Wi189 x 31))).toNat; omega)
          ·
            clear ak4 ak5 ak6 ak7 ak8 ak9 ak10 ak11 ak12 ak13 ak14 ak15 ak16 ak17 ak18 ak19 ak20 ak21 ak22 ak23
            refine GO.iconst dX12_text_46 ?_
            exact GO.reti rfl rfl dX12_text_47 ⟨rfl, _, rfl, (ir_c rfl), ⟨(by first | exact trivial | omega), (by first | exact w_0 | exact GX.mk w_0 (by omega) (by omega) (rfl : ar 49 V x = ar 49 V x) (rfl : ar 50 V x = ar 50 V x) (rfl : ar 53 V x = ar 53 V x) (rfl : ar 54 V x = ar 54 V x) (rfl : ar 55 V x = ar 55 V x) (rfl : ar 60 V x = ar 60 V x) (rfl : ar 61 V x = ar 61 V x)), (by first | exact MTX.no (by unfold MTC; omega) rfl), (by first | exact YTX.same (rfl : ar 59 V x = ar 59 V x) (by omega))⟩⟩
