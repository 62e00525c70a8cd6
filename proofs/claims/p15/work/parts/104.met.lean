def mX12_text : MRec := (RX12, cX12_text, 7, (some .int), yX12_text, 8, 168, 0, 0, 8543931847395829653691396677112701183385529677773362518872825501679930289431200552663524355080192)
set_option maxHeartbeats 8000000 in
theorem t_X12_text {K : Kmap} {V : Vmap} {x : Nat} {p0 : Int} {p1 : Int} {p2 : Int} (h_x : K x = some (0, 11)) (r_p0 : ir p0) (r_p1 : ir p1) (r_p2 : ir p2) (w_0 : GX V x) : MC mX12_text K V [.ref x, ti p0, ti p1, ti p2] (IS K (fun X V1 => (X ≥ (-2147483648) ∧ X ≤ 2147483647) ∧ (GX V1 x) ∧ (MTX V V1 x p0 p1 p2 X))) := by
  refine MC.start 3 (by decide +kernel) rfl rfl rfl (ls0 := [some (.ref x), some (ti p0), some (ti p1), some (ti p2), none, none, none]) rfl ?_
  refine GO.useWT (fun hW_0 => ?_)
  refine GO.useWT (fun hW1 => ?_)
  have aq2 := hW1.aq h_x
  refine GO.useWT (fun hW3 => ?_)
  have ak4 := hW3.arr h_x 39 32 (by decide) rfl (by decide)
  have ak5 := hW3.arr h_x 41 34 (by decide) rfl (by decide)
  have ak6 := hW3.arr h_x 42 35 (by decide) rfl (by decide)
  have ak7 := hW3.arr h_x 43 36 (by decide) rfl (by decide)
  have ak8 := hW3.arr h_x 49 40 (by decide) rfl (by decide)
  have ak9 := hW3.arr h_x 50 41 (by decide) rfl (by decide)
  have ak10 := hW3.arr h_x 53 44 (by decide) rfl (by decide)
  have ak11 := hW3.arr h_x 54 45 (by decide) rfl (by decide)
  have ak12 := hW3.arr h_x 55 46 (by decide) rfl (by decide)
  have ak13 := hW3.arr h_x 60 51 (by decide) rfl (by decide)
  have ak14 := hW3.arr h_x 61 52 (by decide) rfl (by decide)
  have ak15 := hW3.arr h_x 44 37 (by decide) rfl (by decide)
  have ak16 := hW3.arr h_x 45 38 (by decide) rfl (by decide)
  have ak17 := hW3.arr h_x 46 39 (by decide) rfl (by decide)
  have ak18 := hW3.arr h_x 51 42 (by decide) rfl (by decide)
  have ak19 := hW3.arr h_x 52 43 (by decide) rfl (by decide)
  have ak20 := hW3.arr h_x 56 47 (by decide) rfl (by decide)
  have ak21 := hW3.arr h_x 57 48 (by decide) rfl (by decide)
  have ak22 := hW3.arr h_x 58 49 (by decide) rfl (by decide)
  refine GO.useWT (fun hW_0 => ?_)
  have hcn := (hW1).cnt h_x
  refine GO.iload_n dX12_text_0 rfl rfl ?_
  refine GO.callS (N := mX12_isDay) dX12_text_1 gS_RX12_409 (t_X12_isDay r_p0) rfl [] rfl rfl (Nat.le_of_ble_eq_true rfl) rfl (k_ip fun X23 r24 h25 => ?_)
  refine GO.if_eq (tgt := 46) dX12_text_4 (by decide) r24 (fun c26 => ?_) (fun c26 => ?_)
  ·
    have q27 := h25.2.2 (by omega)
    refine GO.iconst dX12_text_46 ?_
    exact GO.reti rfl rfl dX12_text_47 ⟨rfl, _, rfl, (ir_c rfl), ⟨by omega, (by first | exact w_0 | exact GX.mk w_0 (by omega) (by omega) (rfl : ar 49 V x = ar 49 V x) (rfl : ar 50 V x = ar 50 V x) (rfl : ar 53 V x = ar 53 V x) (rfl : ar 54 V x = ar 54 V x) (rfl : ar 55 V x = ar 55 V x) (rfl : ar 60 V x = ar 60 V x) (rfl : ar 61 V x = ar 61 V x) | exact GX.text hW_0 hWm h_x w_0 htm (by omega) (by omega) (by omega) (rfl : ar 50 V x = ar 50 V x) (by omega) (by omega) (rfl : ar 53 V x = ar 53 V x) (rfl : ar 54 V x = ar 54 V x) (rfl : ar 55 V x = ar 55 V x) (rfl : ar 49 V x = ar 49 V x) h53 h54 h55 (by omega) h49 (by omega) (rfl : ar 60 V x = ar 60 V x) (rfl : ar 61 V x = ar 61 V x)), (by first | exact MTX.no (by unfold MTC; omega) rfl | exact MTX.er hmc hrt (by omega) (by omega) (by omega) (by omega) (by omega) (by omega) (by omega) (rfl : ar 50 V x = ar 50 V x) (rfl : ar 51 V x = ar 51 V x) (rfl : ar 52 V x = ar 52 V x) (rfl : ar 53 V x = ar 53 V x) (rfl : ar 56 V x = ar 56 V x) (rfl : ar 57 V x = ar 57 V x) (rfl : ar 58 V x = ar 58 V x) | exact MTX.ok hmc hrt (by omega) (by omega) (by omega) (by omega) (by omega) hm41 hm44 hm45 hm46 (by omega) (rfl : ar 51 V x = ar 51 V x) (by omega) (rfl : ar 52 V x = ar 52 V x) (by omega) (rfl : ar 50 V x = ar 50 V x) (by omega) (by omega) (rfl : ar 53 V x = ar 53 V x) (rfl : ar 56 V x = ar 56 V x) (rfl : ar 57 V x = ar 57 V x) (rfl : ar 58 V x = ar 58 V x) h53 h56 h57 h58 (by omega) (by omega) (by omega))⟩⟩
  ·
    have q28 := h25.2.1 (by omega)
    refine GO.iload_n dX12_text_7 rfl rfl ?_
    refine GO.iload_n dX12_text_8 rfl rfl ?_
    refine GO.sipush dX12_text_9 rfl ?_
    refine GO.callS (N := mX12_in) dX12_text_12 gS_RX12_371 (t_X12_in r_p1 r_p0 (ir_c rfl)) rfl [] rfl rfl (Nat.le_of_ble_eq_true rfl) rfl (k_ip fun X29 r30 h31 => ?_)
    refine GO.if_eq (tgt := 46) dX12_text_15 (by decide) r30 (fun c32 => ?_) (fun c32 => ?_)
    ·
      have q33 := h31.2.2 (by omega)
      refine GO.iconst dX12_text_46 ?_
      exact GO.reti rfl rfl dX12_text_47 ⟨rfl, _, rfl, (ir_c rfl), ⟨by omega, (by first | exact w_0 | exact GX.mk w_0 (by omega) (by omega) (rfl : ar 49 V x = ar 49 V x) (rfl : ar 50 V x = ar 50 V x) (rfl : ar 53 V x = ar 53 V x) (rfl : ar 54 V x = ar 54 V x) (rfl : ar 55 V x = ar 55 V x) (rfl : ar 60 V x = ar 60 V x) (rfl : ar 61 V x = ar 61 V x) | exact GX.text hW_0 hWm h_x w_0 htm (by omega) (by omega) (by omega) (rfl : ar 50 V x = ar 50 V x) (by omega) (by omega) (rfl : ar 53 V x = ar 53 V x) (rfl : ar 54 V x = ar 54 V x) (rfl : ar 55 V x = ar 55 V x) (rfl : ar 49 V x = ar 49 V x) h53 h54 h55 (by omega) h49 (by omega) (rfl : ar 60 V x = ar 60 V x) (rfl : ar 61 V x = ar 61 V x)), (by first | exact MTX.no (by unfold MTC; omega) rfl | exact MTX.er hmc hrt (by omega) (by omega) (by omega) (by omega) (by omega) (by omega) (by omega) (rfl : ar 50 V x = ar 50 V x) (rfl : ar 51 V x = ar 51 V x) (rfl : ar 52 V x = ar 52 V x) (rfl : ar 53 V x = ar 53 V x) (rfl : ar 56 V x = ar 56 V x) (rfl : ar 57 V x = ar 57 V x) (rfl : ar 58 V x = ar 58 V x) | exact MTX.ok hmc hrt (by omega) (by omega) (by omega) (by omega) (by omega) hm41 hm44 hm45 hm46 (by omega) (rfl : ar 51 V x = ar 51 V x) (by omega) (rfl : ar 52 V x = ar 52 V x) (by omega) (rfl : ar 50 V x = ar 50 V x) (by omega) (by omega) (rfl : ar 53 V x = ar 53 V x) (rfl : ar 56 V x = ar 56 V x) (rfl : ar 57 V x = ar 57 V x) (rfl : ar 58 V x = ar 58 V x) h53 h56 h57 h58 (by omega) (by omega) (by omega))⟩⟩
    ·
      have q34 := h31.2.1 (by omega)
      refine GO.iload_n dX12_text_18 rfl rfl ?_
      refine GO.iconst dX12_text_19 ?_
      refine GO.sipush dX12_text_20 rfl ?_
      refine GO.callS (N := mX12_in) dX12_text_23 gS_RX12_371 (t_X12_in r_p2 (ir_c rfl) (ir_c rfl)) rfl [] rfl rfl (Nat.le_of_ble_eq_true rfl) rfl (k_ip fun X35 r36 h37 => ?_)
      refine GO.if_eq (tgt := 46) dX12_text_26 (by decide) r36 (fun c38 => ?_) (fun c38 => ?_)
      ·
        have q39 := h37.2.2 (by omega)
        refine GO.iconst dX12_text_46 ?_
        exact GO.reti rfl rfl dX12_text_47 ⟨rfl, _, rfl, (ir_c rfl), ⟨by omega, (by first | exact w_0 | exact GX.mk w_0 (by omega) (by omega) (rfl : ar 49 V x = ar 49 V x) (rfl : ar 50 V x = ar 50 V x) (rfl : ar 53 V x = ar 53 V x) (rfl : ar 54 V x = ar 54 V x) (rfl : ar 55 V x = ar 55 V x) (rfl : ar 60 V x = ar 60 V x) (rfl : ar 61 V x = ar 61 V x) | exact GX.text hW_0 hWm h_x w_0 htm (by omega) (by omega) (by omega) (rfl : ar 50 V x = ar 50 V x) (by omega) (by omega) (rfl : ar 53 V x = ar 53 V x) (rfl : ar 54 V x = ar 54 V x) (rfl : ar 55 V x = ar 55 V x) (rfl : ar 49 V x = ar 49 V x) h53 h54 h55 (by omega) h49 (by omega) (rfl : ar 60 V x = ar 60 V x) (rfl : ar 61 V x = ar 61 V x)), (by first | exact MTX.no (by unfold MTC; omega) rfl | exact MTX.er hmc hrt (by omega) (by omega) (by omega) (by omega) (by omega) (by omega) (by omega) (rfl : ar 50 V x = ar 50 V x) (rfl : ar 51 V x = ar 51 V x) (rfl : ar 52 V x = ar 52 V x) (rfl : ar 53 V x = ar 53 V x) (rfl : ar 56 V x = ar 56 V x) (rfl : ar 57 V x = ar 57 V x) (rfl : ar 58 V x = ar 58 V x) | exact MTX.ok hmc hrt (by omega) (by omega) (by omega) (by omega) (by omega) hm41 hm44 hm45 hm46 (by omega) (rfl : ar 51 V x = ar 51 V x) (by omega) (rfl : ar 52 V x = ar 52 V x) (by omega) (rfl : ar 50 V x = ar 50 V x) (by omega) (by omega) (rfl : ar 53 V x = ar 53 V x) (rfl : ar 56 V x = ar 56 V x) (rfl : ar 57 V x = ar 57 V x) (rfl : ar 58 V x = ar 58 V x) h53 h56 h57 h58 (by omega) (by omega) (by omega))⟩⟩
      ·
        have q40 := h37.2.1 (by omega)
        refine GO.iload_n dX12_text_29 rfl rfl ?_
        refine GO.aload_n dX12_text_30 rfl rfl ?_
        refine GO.getI h_x fl_RX12_436 rfl rfl dX12_text_31 (fun l41 u42 => ?_)
        refine GO.icmp_gt (tgt := 46) dX12_text_34 (by decide) r_p2 vi_ir (fun c43 => ?_) (fun c43 => ?_)
        ·
          refine GO.iconst dX12_text_46 ?_
          exact GO.reti rfl rfl dX12_text_47 ⟨rfl, _, rfl, (ir_c rfl), ⟨by omega, (by first | exact w_0 | exact GX.mk w_0 (by omega) (by omega) (rfl : ar 49 V x = ar 49 V x) (rfl : ar 50 V x = ar 50 V x) (rfl : ar 53 V x = ar 53 V x) (rfl : ar 54 V x = ar 54 V x) (rfl : ar 55 V x = ar 55 V x) (rfl : ar 60 V x = ar 60 V x) (rfl : ar 61 V x = ar 61 V x) | exact GX.text hW_0 hWm h_x w_0 htm (by omega) (by omega) (by omega) (rfl : ar 50 V x = ar 50 V x) (by omega) (by omega) (rfl : ar 53 V x = ar 53 V x) (rfl : ar 54 V x = ar 54 V x) (rfl : ar 55 V x = ar 55 V x) (rfl : ar 49 V x = ar 49 V x) h53 h54 h55 (by omega) h49 (by omega) (rfl : ar 60 V x = ar 60 V x) (rfl : ar 61 V x = ar 61 V x)), (by first | exact MTX.no (by unfold MTC; omega) rfl | exact MTX.er hmc hrt (by omega) (by omega) (by omega) (by omega) (by omega) (by omega) (by omega) (rfl : ar 50 V x = ar 50 V x) (rfl : ar 51 V x = ar 51 V x) (rfl : ar 52 V x = ar 52 V x) (rfl : ar 53 V x = ar 53 V x) (rfl : ar 56 V x = ar 56 V x) (rfl : ar 57 V x = ar 57 V x) (rfl : ar 58 V x = ar 58 V x) | exact MTX.ok hmc hrt (by omega) (by omega) (by omega) (by omega) (by omega) hm41 hm44 hm45 hm46 (by omega) (rfl : ar 51 V x = ar 51 V x) (by omega) (rfl : ar 52 V x = ar 52 V x) (by omega) (rfl : ar 50 V x = ar 50 V x) (by omega) (by omega) (rfl : ar 53 V x = ar 53 V x) (rfl : ar 56 V x = ar 56 V x) (rfl : ar 57 V x = ar 57 V x) (rfl : ar 58 V x = ar 58 V x) h53 h56 h57 h58 (by omega) (by omega) (by omega))⟩⟩
        ·
          refine GO.aload_n dX12_text_37 rfl rfl ?_
          refine GO.getI h_x fl_RX12_535 rfl rfl dX12_text_38 (fun l44 u45 => ?_)
          refine GO.bipush dX12_text_41 rfl ?_
          refine GO.icmp_ne (tgt := 48) dX12_text_43 (by decide) vi_ir (ir_c rfl) (fun c46 => ?_) (fun c46 => ?_)
          ·
            have hmc : MTC V x p0 p1 p2 := by unfold MTC; omega
            refine GO.aload_n dX12_text_48 rfl rfl ?_
            refine GO.iconst dX12_text_49 ?_
            refine GO.putI h_x fp_RX12_443 rfl (by decide +kernel) (ir_c rfl) (by decide) (by decide) dX12_text_50 (fun V48 e47 => ?_)
            have k49 := st_fld e47 aq2 h_x (by decide) (by decide)
            have sS50 : sd V48 x = sd V x := k49.2.1.trans (rfl : sd V x = sd V x)
            have sQ51 : wt V48 x = wt V x := k49.2.2.trans (rfl : wt V x = wt V x)
            have ak52 := tk_fld e47 ak4 h_x (by decide) (rfl : ar 39 V x = ar 39 V x)
            have ak53 := tk_fld e47 ak5 h_x (by decide) (rfl : ar 41 V x = ar 41 V x)
            have ak54 := tk_fld e47 ak6 h_x (by decide) (rfl : ar 42 V x = ar 42 V x)
            have ak55 := tk_fld e47 ak7 h_x (by decide) (rfl : ar 43 V x = ar 43 V x)
            have ak56 := tk_fld e47 ak8 h_x (by decide) (rfl : ar 49 V x = ar 49 V x)
            have ak57 := tk_fld e47 ak9 h_x (by decide) (rfl : ar 50 V x = ar 50 V x)
            have ak58 := tk_fld e47 ak10 h_x (by decide) (rfl : ar 53 V x = ar 53 V x)
            have ak59 := tk_fld e47 ak11 h_x (by decide) (rfl : ar 54 V x = ar 54 V x)
            have ak60 := tk_fld e47 ak12 h_x (by decide) (rfl : ar 55 V x = ar 55 V x)
            have ak61 := tk_fld e47 ak13 h_x (by decide) (rfl : ar 60 V x = ar 60 V x)
            have ak62 := tk_fld e47 ak14 h_x (by decide) (rfl : ar 61 V x = ar 61 V x)
            have ak63 := tk_fld e47 ak15 h_x (by decide) (rfl : ar 44 V x = ar 44 V x)
            have ak64 := tk_fld e47 ak16 h_x (by decide) (rfl : ar 45 V x = ar 45 V x)
            have ak65 := tk_fld e47 ak17 h_x (by decide) (rfl : ar 46 V x = ar 46 V x)
            have ak66 := tk_fld e47 ak18 h_x (by decide) (rfl : ar 51 V x = ar 51 V x)
            have ak67 := tk_fld e47 ak19 h_x (by decide) (rfl : ar 52 V x = ar 52 V x)
            have ak68 := tk_fld e47 ak20 h_x (by decide) (rfl : ar 56 V x = ar 56 V x)
            have ak69 := tk_fld e47 ak21 h_x (by decide) (rfl : ar 57 V x = ar 57 V x)
            have ak70 := tk_fld e47 ak22 h_x (by decide) (rfl : ar 58 V x = ar 58 V x)
            refine GO.aload_n dX12_text_53 rfl rfl ?_
            refine GO.iload_n dX12_text_54 rfl rfl ?_
            have q72 : -2147483648 ≤ p2 ∧ p2 ≤ 2147483647 := r_p2
            refine GO.putI h_x fp_RX12_446 rfl (by decide +kernel) r_p2 (by omega) (by omega) dX12_text_55 (fun V73 e71 => ?_)
            have k74 := st_fld e71 k49.1 h_x (by decide) (by decide)
            have sS75 : sd V73 x = sd V x := k74.2.1.trans sS50
            have sQ76 : wt V73 x = wt V x := k74.2.2.trans sQ51
            have ak77 := tk_fld e71 ak52.1 h_x (by decide) ak52.2
            have ak78 := tk_fld e71 ak53.1 h_x (by decide) ak53.2
            have ak79 := tk_fld e71 ak54.1 h_x (by decide) ak54.2
            have ak80 := tk_fld e71 ak55.1 h_x (by decide) ak55.2
            have ak81 := tk_fld e71 ak56.1 h_x (by decide) ak56.2
            have ak82 := tk_fld e71 ak57.1 h_x (by decide) ak57.2
            have ak83 := tk_fld e71 ak58.1 h_x (by decide) ak58.2
            have ak84 := tk_fld e71 ak59.1 h_x (by decide) ak59.2
            have ak85 := tk_fld e71 ak60.1 h_x (by decide) ak60.2
            have ak86 := tk_fld e71 ak61.1 h_x (by decide) ak61.2
            have ak87 := tk_fld e71 ak62.1 h_x (by decide) ak62.2
            have ak88 := tk_fld e71 ak63.1 h_x (by decide) ak63.2
            have ak89 := tk_fld e71 ak64.1 h_x (by decide) ak64.2
            have ak90 := tk_fld e71 ak65.1 h_x (by decide) ak65.2
            have ak91 := tk_fld e71 ak66.1 h_x (by decide) ak66.2
            have ak92 := tk_fld e71 ak67.1 h_x (by decide) ak67.2
            have ak93 := tk_fld e71 ak68.1 h_x (by decide) ak68.2
            have ak94 := tk_fld e71 ak69.1 h_x (by decide) ak69.2
            have ak95 := tk_fld e71 ak70.1 h_x (by decide) ak70.2
            refine GO.aload_n dX12_text_58 rfl rfl ?_
            refine GO.iconst dX12_text_59 ?_
            refine GO.putI h_x fp_RX12_466 rfl (by decide +kernel) (ir_c rfl) (by decide) (by decide) dX12_text_60 (fun V97 e96 => ?_)
            have k98 := st_fld e96 k74.1 h_x (by decide) (by decide)
            have sS99 : sd V97 x = sd V x := k98.2.1.trans sS75
            have sQ100 : wt V97 x = wt V x := k98.2.2.trans sQ76
            have ak101 := tk_fld e96 ak77.1 h_x (by decide) ak77.2
            have ak102 := tk_fld e96 ak78.1 h_x (by decide) ak78.2
            have ak103 := tk_fld e96 ak79.1 h_x (by decide) ak79.2
            have ak104 := tk_fld e96 ak80.1 h_x (by decide) ak80.2
            have ak105 := tk_fld e96 ak81.1 h_x (by decide) ak81.2
            have ak106 := tk_fld e96 ak82.1 h_x (by decide) ak82.2
            have ak107 := tk_fld e96 ak83.1 h_x (by decide) ak83.2
            have ak108 := tk_fld e96 ak84.1 h_x (by decide) ak84.2
            have ak109 := tk_fld e96 ak85.1 h_x (by decide) ak85.2
            have ak110 := tk_fld e96 ak86.1 h_x (by decide) ak86.2
            have ak111 := tk_fld e96 ak87.1 h_x (by decide) ak87.2
            have ak112 := tk_fld e96 ak88.1 h_x (by decide) ak88.2
            have ak113 := tk_fld e96 ak89.1 h_x (by decide) ak89.2
            have ak114 := tk_fld e96 ak90.1 h_x (by decide) ak90.2
            have ak115 := tk_fld e96 ak91.1 h_x (by decide) ak91.2
            have ak116 := tk_fld e96 ak92.1 h_x (by decide) ak92.2
            have ak117 := tk_fld e96 ak93.1 h_x (by decide) ak93.2
            have ak118 := tk_fld e96 ak94.1 h_x (by decide) ak94.2
            have ak119 := tk_fld e96 ak95.1 h_x (by decide) ak95.2
            refine GO.aload_n dX12_text_63 rfl rfl ?_
            refine GO.iconst dX12_text_64 ?_
            refine GO.putI h_x fp_RX12_526 rfl (by decide +kernel) (ir_c rfl) (by decide) (by decide) dX12_text_65 (fun V121 e120 => ?_)
            have k122 := st_fld e120 k98.1 h_x (by decide) (by decide)
            have sS123 : sd V121 x = sd V x := k122.2.1.trans sS99
            have sQ124 : wt V121 x = wt V x := k122.2.2.trans sQ100
            have ak125 := tk_fld e120 ak101.1 h_x (by decide) ak101.2
            have ak126 := tk_fld e120 ak102.1 h_x (by decide) ak102.2
            have ak127 := tk_fld e120 ak103.1 h_x (by decide) ak103.2
            have ak128 := tk_fld e120 ak104.1 h_x (by decide) ak104.2
            have ak129 := tk_fld e120 ak105.1 h_x (by decide) ak105.2
            have ak130 := tk_fld e120 ak106.1 h_x (by decide) ak106.2
            have ak131 := tk_fld e120 ak107.1 h_x (by decide) ak107.2
            have ak132 := tk_fld e120 ak108.1 h_x (by decide) ak108.2
            have ak133 := tk_fld e120 ak109.1 h_x (by decide) ak109.2
            have ak134 := tk_fld e120 ak110.1 h_x (by decide) ak110.2
            have ak135 := tk_fld e120 ak111.1 h_x (by decide) ak111.2
            have ak136 := tk_fld e120 ak112.1 h_x (by decide) ak112.2
            have ak137 := tk_fld e120 ak113.1 h_x (by decide) ak113.2
            have ak138 := tk_fld e120 ak114.1 h_x (by decide) ak114.2
            have ak139 := tk_fld e120 ak115.1 h_x (by decide) ak115.2
            have ak140 := tk_fld e120 ak116.1 h_x (by decide) ak116.2
            have ak141 := tk_fld e120 ak117.1 h_x (by decide) ak117.2
            have ak142 := tk_fld e120 ak118.1 h_x (by decide) ak118.2
            have ak143 := tk_fld e120 ak119.1 h_x (by decide) ak119.2
            have e144 : vi V121 x 38 = 0 := upd2_int e120 (ir_c rfl)
            have e146 : vi V97 x 36 = 0 := upd2_int e96 (ir_c rfl)
            have e145 : vi V121 x 36 = vi V97 x 36 := vi_up e120 (Or.inr (by decide))
            have e150 : vi V48 x 31 = 0 := upd2_int e47 (ir_c rfl)
            have e149 : vi V73 x 31 = vi V48 x 31 := vi_up e71 (Or.inr (by decide))
            have e148 : vi V97 x 31 = vi V73 x 31 := vi_up e96 (Or.inr (by decide))
            have e147 : vi V121 x 31 = vi V97 x 31 := vi_up e120 (Or.inr (by decide))
            have e153 : vi V73 x 32 = p2 := upd2_int e71 r_p2
            have e152 : vi V97 x 32 = vi V73 x 32 := vi_up e96 (Or.inr (by decide))
            have e151 : vi V121 x 32 = vi V97 x 32 := vi_up e120 (Or.inr (by decide))
            refine GO.useFR (fun hFs => ?_)
            have hT0 : ∀ src, SRM V x (p2).toNat src → TP V121 x src (p2).toNat := fun src h => TP.of hFs h_x hW_0 (by decide +kernel) (by decide +kernel) (by omega) h
            refine GO.aload_n dX12_text_68 rfl rfl ?_
            refine GO.callV (ci := 11) (N := mX12_readsClause) dX12_text_69 (RX12, TX12, 151) rfl gV_RX12_538 h_x (t_X12_readsClause h_x (by omega) ((by first | exact TC.nil (by omega) | exact TC.eq (htc (by omega)) ak126.2 ak127.2 ak128.2 ak125.2 (by omega) (by omega)))) rfl [] rfl rfl (Nat.le_of_ble_eq_true rfl) rfl (k_is fun X154 V158 r155 h156 hF157 => ?_)
            refine GO.useWT (fun hW159 => ?_)
            have aq160 := hW159.aq h_x
            have ak161 := tk_fr hF157 ak129.1 h_x (by decide +kernel) (by decide +kernel) ak129.2
            have ak162 := tk_fr hF157 ak130.1 h_x (by decide +kernel) (by decide +kernel) ak130.2
            have ak163 := tk_fr hF157 ak131.1 h_x (by decide +kernel) (by decide +kernel) ak131.2
            have ak164 := tk_fr hF157 ak132.1 h_x (by decide +kernel) (by decide +kernel) ak132.2
            have ak165 := tk_fr hF157 ak133.1 h_x (by decide +kernel) (by decide +kernel) ak133.2
            have ak166 := tk_fr hF157 ak134.1 h_x (by decide +kernel) (by decide +kernel) ak134.2
            have ak167 := tk_fr hF157 ak135.1 h_x (by decide +kernel) (by decide +kernel) ak135.2
            have ak168 := tk_fr hF157 ak139.1 h_x (by decide +kernel) (by decide +kernel) ak139.2
            have ak169 := tk_fr hF157 ak140.1 h_x (by decide +kernel) (by decide +kernel) ak140.2
            have ak170 := tk_fr hF157 ak141.1 h_x (by decide +kernel) (by decide +kernel) ak141.2
            have ak171 := tk_fr hF157 ak142.1 h_x (by decide +kernel) (by decide +kernel) ak142.2
            have ak172 := tk_fr hF157 ak143.1 h_x (by decide +kernel) (by decide +kernel) ak143.2
            refine GO.useWT (fun hW173 => ?_)
            have ak174 := hW173.arr h_x 39 32 (by decide) rfl (by decide)
            have ak175 := hW173.arr h_x 41 34 (by decide) rfl (by decide)
            have ak176 := hW173.arr h_x 42 35 (by decide) rfl (by decide)
            have ak177 := hW173.arr h_x 43 36 (by decide) rfl (by decide)
            have ak178 := hW173.arr h_x 44 37 (by decide) rfl (by decide)
            have ak179 := hW173.arr h_x 45 38 (by decide) rfl (by decide)
            have ak180 := hW173.arr h_x 46 39 (by decide) rfl (by decide)
            have raw_readsClause := h156.2.2.2.1
            have rq0_69 := h156.2.2.2.2
            have rw69 := h156.2.2.2.1
            refine GO.istore (ls1 := [some (.ref x), some (ti p0), some (ti p1), some (ti p2), some (ti X154), none, none]) dX12_text_72 rfl rfl ?_
            have e188 : vi V48 x 47 = vi V x 47 := vi_up e47 (Or.inr (by decide))
            have e187 : vi V73 x 47 = vi V48 x 47 := vi_up e71 (Or.inr (by decide))
            have e186 : vi V97 x 47 = vi V73 x 47 := vi_up e96 (Or.inr (by decide))
            have e185 : vi V121 x 47 = vi V97 x 47 := vi_up e120 (Or.inr (by decide))
            have e184 : vi V158 x 47 = vi V121 x 47 := vi_fr hF157 h_x h_x (by decide +kernel)
            have q189 : -2147483648 ≤ vi V x 47 ∧ vi V x 47 ≤ 2147483647 := vi_ir
            have e194 : vi V48 x 48 = vi V x 48 := vi_up e47 (Or.inr (by decide))
            have e193 : vi V73 x 48 = vi V48 x 48 := vi_up e71 (Or.inr (by decide))
            have e192 : vi V97 x 48 = vi V73 x 48 := vi_up e96 (Or.inr (by decide))
            have e191 : vi V121 x 48 = vi V97 x 48 := vi_up e120 (Or.inr (by decide))
            have e190 : vi V158 x 48 = vi V121 x 48 := vi_fr hF157 h_x h_x (by decide +kernel)
            have q195 : -2147483648 ≤ vi V x 48 ∧ vi V x 48 ≤ 2147483647 := vi_ir
            have q196 : -2147483648 ≤ vi V158 x 36 ∧ vi V158 x 36 ≤ 2147483647 := vi_ir
            have q197 : -2147483648 ≤ vi V158 x 31 ∧ vi V158 x 31 ≤ 2147483647 := vi_ir
            have e198 : vi V158 x 32 = vi V121 x 32 := vi_fr hF157 h_x h_x (by decide +kernel)
            refine GO.loop1 (fun i183 W => 0 ≤ i183 ∧ i183 ≤ 1 ∧ (vi W x 47 = vi V158 x 47 ∧ vi W x 48 = vi V158 x 48 ∧ (i183 ≠ 0 → vi W x 36 ≤ vi W x 31) ∧ vi W x 32 = p2) ∧ (i183 ≠ 0 → TC W x) ∧ (RTI V V121 W x p2 i183) ∧ ar 49 W x = ar 49 V x ∧ ar 50 W x = ar 50 V x ∧ ar 53 W x = ar 53 V x ∧ ar 54 W x = ar 54 V x ∧ ar 55 W x = ar 55 V x ∧ ar 60 W x = ar 60 V x ∧ ar 61 W x = ar 61 V x ∧ ar 51 W x = ar 51 V x ∧ ar 52 W x = ar 52 V x ∧ ar 56 W x = ar 56 V x ∧ ar 57 W x = ar 57 V x ∧ ar 58 W x = ar 58 V x ∧ True) (fun i183 => [some (.ref x), some (ti p0), some (ti p1), some (ti p2), some (ti i183), none, none]) (fun i183 W => (((1000 * i183) + (vi W x 32 - vi W x 31))).toNat) X154 ⟨by omega, by omega, by omega, (by first | exact fun h => raw_readsClause (by omega) | exact fun h => absurd rfl h | exact fun h => absurd h (by omega)), (by first | exact RTI.beg hT0 (by omega) (by omega) rq0_69 | exact RTI.bad hrt (by omega) hTp (by omega) (by omega) (rq0_93.2 (by omega)).1 (rq0_93.2 (by omega)).2 rfl | exact RTI.step hrt (by omega) hTp (by omega) (by omega) (rq0_93.1 (by omega)).1 (rq0_93.1 (by omega)).2 (by omega) hs9 (by omega) h41 h44 h45 h46 hT9 (by omega) rq0_100 (by constructor <;> intro _ <;> omega)), ak161.2, ak162.2, ak163.2, ak164.2, ak165.2, ak166.2, ak167.2, ak168.2, ak169.2, ak170.2, ak171.2, ak172.2, trivial⟩ rfl (fun i183 Wi183 hp54912 ih54911 => ?_)
            obtain ⟨l_i183, u_i183, n_i183, htc, hrt, kp54913, kp54914, kp54915, kp54916, kp54917, kp54918, kp54919, kp54920, kp54921, kp54922, kp54923, kp54924, -⟩ := hp54912
            have r_i183 : ir i183 := ⟨by omega, by omega⟩
            show GO mX12_text K V (IS K (fun X V1 => (X ≥ (-2147483648) ∧ X ≤ 2147483647) ∧ (GX V1 x) ∧ (MTX V V1 x p0 p1 p2 X))) K Wi183 0 0 74 [some (.ref x), some (ti p0), some (ti p1), some (ti p2), some (ti i183), none, none] []
            refine GO.useWT (fun hW54925 => ?_)
            have aq54926 := hW54925.aq h_x
            refine GO.useWT (fun hW54927 => ?_)
            have ak54928 := hW54927.arr h_x 39 32 (by decide) rfl (by decide)
            have ak54929 := hW54927.arr h_x 41 34 (by decide) rfl (by decide)
            have ak54930 := hW54927.arr h_x 42 35 (by decide) rfl (by decide)
            have ak54931 := hW54927.arr h_x 43 36 (by decide) rfl (by decide)
            have ak54932 := hW54927.arr h_x 49 40 (by decide) rfl (by decide)
            have ak54933 := hW54927.arr h_x 50 41 (by decide) rfl (by decide)
            have ak54934 := hW54927.arr h_x 53 44 (by decide) rfl (by decide)
            have ak54935 := hW54927.arr h_x 54 45 (by decide) rfl (by decide)
            have ak54936 := hW54927.arr h_x 55 46 (by decide) rfl (by decide)
            have ak54937 := hW54927.arr h_x 60 51 (by decide) rfl (by decide)
            have ak54938 := hW54927.arr h_x 61 52 (by decide) rfl (by decide)
            have ak54939 := hW54927.arr h_x 44 37 (by decide) rfl (by decide)
            have ak54940 := hW54927.arr h_x 45 38 (by decide) rfl (by decide)
            have ak54941 := hW54927.arr h_x 46 39 (by decide) rfl (by decide)
            have ak54942 := hW54927.arr h_x 51 42 (by decide) rfl (by decide)
            have ak54943 := hW54927.arr h_x 52 43 (by decide) rfl (by decide)
            have ak54944 := hW54927.arr h_x 56 47 (by decide) rfl (by decide)
            have ak54945 := hW54927.arr h_x 57 48 (by decide) rfl (by decide)
            have ak54946 := hW54927.arr h_x 58 49 (by decide) rfl (by decide)
            have hrd := (hW54925).rd h_x
            refine GO.useFR (fun hFs => ?_)
            have hTp : ∀ src, SRM V x (p2).toNat src → TP Wi183 x src (p2).toNat := fun src h => TP.of hFs h_x hW_0 (by decide +kernel) (by decide +kernel) (by omega) h
            refine GO.iload dX12_text_74 rfl ?_
            refine GO.if_eq (tgt := 116) dX12_text_76 (by decide) r_i183 (fun c54947 => ?_) (fun c54947 => ?_)
            ·
              refine GO.aload_n dX12_text_116 rfl rfl ?_
              refine GO.iconst dX12_text_117 ?_
              refine GO.putI h_x fp_RX12_436 rfl (by decide +kernel) (ir_c rfl) (by decide) (by decide) dX12_text_118 (fun V54949 e54948 => ?_)
              have k54950 := st_fld e54948 aq54926 h_x (by decide) (by decide)
              have sS54951 : sd V54949 x = sd Wi183 x := k54950.2.1.trans (rfl : sd Wi183 x = sd Wi183 x)
              have sQ54952 : wt V54949 x = wt Wi183 x := k54950.2.2.trans (rfl : wt Wi183 x = wt Wi183 x)
              have ak54953 := tk_fld e54948 ak54928 h_x (by decide) (rfl : ar 39 Wi183 x = ar 39 Wi183 x)
              have ak54954 := tk_fld e54948 ak54929 h_x (by decide) (rfl : ar 41 Wi183 x = ar 41 Wi183 x)
              have ak54955 := tk_fld e54948 ak54930 h_x (by decide) (rfl : ar 42 Wi183 x = ar 42 Wi183 x)
              have ak54956 := tk_fld e54948 ak54931 h_x (by decide) (rfl : ar 43 Wi183 x = ar 43 Wi183 x)
              have ak54957 := tk_fld e54948 ak54932 h_x (by decide) kp54913
              have ak54958 := tk_fld e54948 ak54933 h_x (by decide) kp54914
              have ak54959 := tk_fld e54948 ak54934 h_x (by decide) kp54915
              have ak54960 := tk_fld e54948 ak54935 h_x (by decide) kp54916
              have ak54961 := tk_fld e54948 ak54936 h_x (by decide) kp54917
              have ak54962 := tk_fld e54948 ak54937 h_x (by decide) kp54918
              have ak54963 := tk_fld e54948 ak54938 h_x (by decide) kp54919
              have ak54964 := tk_fld e54948 ak54939 h_x (by decide) (rfl : ar 44 Wi183 x = ar 44 Wi183 x)
              have ak54965 := tk_fld e54948 ak54940 h_x (by decide) (rfl : ar 45 Wi183 x = ar 45 Wi183 x)
              have ak54966 := tk_fld e54948 ak54941 h_x (by decide) (rfl : ar 46 Wi183 x = ar 46 Wi183 x)
              have ak54967 := tk_fld e54948 ak54942 h_x (by decide) kp54920
              have ak54968 := tk_fld e54948 ak54943 h_x (by decide) kp54921
              have ak54969 := tk_fld e54948 ak54944 h_x (by decide) kp54922
              have ak54970 := tk_fld e54948 ak54945 h_x (by decide) kp54923
              have ak54971 := tk_fld e54948 ak54946 h_x (by decide) kp54924
              refine GO.iload dX12_text_121 rfl ?_
              refine GO.if_ne (tgt := 131) dX12_text_123 (by decide) r_i183 (fun h => by exfalso; omega) (fun c54972 => ?_)
              refine GO.aload_n dX12_text_126 rfl rfl ?_
              refine GO.getI h_x fl_RX12_453 rfl rfl dX12_text_127 (fun _ _ => ?_)
              have e54973 : vi V54949 x 33 = vi Wi183 x 33 := vi_up e54948 (Or.inr (by decide))
              have q54974 : -2147483648 ≤ vi V54949 x 33 ∧ vi V54949 x 33 ≤ 2147483647 := vi_ir
              have q54975 : -2147483648 ≤ vi Wi183 x 33 ∧ vi Wi183 x 33 ≤ 2147483647 := vi_ir
              have e54976 : vi V54949 x 47 = vi Wi183 x 47 := vi_up e54948 (Or.inr (by decide))
              have e54977 : vi V54949 x 48 = vi Wi183 x 48 := vi_up e54948 (Or.inr (by decide))
              have e54978 : vi V54949 x 30 = 0 := upd2_int e54948 (ir_c rfl)
              have e54979 : vi V54949 x 31 = vi Wi183 x 31 := vi_up e54948 (Or.inr (by decide))
              have e54980 : vi V54949 x 36 = vi Wi183 x 36 := vi_up e54948 (Or.inr (by decide))
              have e54981 : vi V54949 x 38 = vi Wi183 x 38 := vi_up e54948 (Or.inr (by decide))
              exact GO.reti rfl rfl dX12_text_130 ⟨rfl, _, rfl, vi_ir, ⟨by omega, (by first | exact w_0 | exact GX.mk w_0 (by omega) (by omega) ak54957.2 ak54958.2 ak54959.2 ak54960.2 ak54961.2 ak54962.2 ak54963.2 | exact GX.text hW_0 hWm h_x w_0 htm (by omega) (by omega) (by omega) ak54958.2 (by omega) (by omega) ak54959.2 ak54960.2 ak54961.2 ak54957.2 h53 h54 h55 (by omega) h49 (by omega) ak54962.2 ak54963.2), (by first | exact MTX.no (by unfold MTC; omega) rfl | exact MTX.er hmc hrt (by omega) (by omega) (by omega) (by omega) (by omega) (by omega) (by omega) ak54958.2 ak54967.2 ak54968.2 ak54959.2 ak54969.2 ak54970.2 ak54971.2 | exact MTX.ok hmc hrt (by omega) (by omega) (by omega) (by omega) (by omega) hm41 hm44 hm45 hm46 (by omega) ak54967.2 (by omega) ak54968.2 (by omega) ak54958.2 (by omega) (by omega) ak54959.2 ak54969.2 ak54970.2 ak54971.2 h53 h56 h57 h58 (by omega) (by omega) (by omega))⟩⟩
            ·
              refine GO.aload_n dX12_text_79 rfl rfl ?_
              refine GO.getI h_x fl_RX12_443 rfl rfl dX12_text_80 (fun l54982 u54983 => ?_)
              refine GO.aload_n dX12_text_83 rfl rfl ?_
              refine GO.getI h_x fl_RX12_446 rfl rfl dX12_text_84 (fun l54984 u54985 => ?_)
              refine GO.icmp_ge (tgt := 116) dX12_text_87 (by decide) vi_ir vi_ir (fun c54986 => ?_) (fun c54986 => ?_)
              ·
                refine GO.aload_n dX12_text_116 rfl rfl ?_
                refine GO.iconst dX12_text_117 ?_
                refine GO.putI h_x fp_RX12_436 rfl (by decide +kernel) (ir_c rfl) (by decide) (by decide) dX12_text_118 (fun V54988 e54987 => ?_)
                have k54989 := st_fld e54987 aq54926 h_x (by decide) (by decide)
                have sS54990 : sd V54988 x = sd Wi183 x := k54989.2.1.trans (rfl : sd Wi183 x = sd Wi183 x)
                have sQ54991 : wt V54988 x = wt Wi183 x := k54989.2.2.trans (rfl : wt Wi183 x = wt Wi183 x)
                have ak54992 := tk_fld e54987 ak54928 h_x (by decide) (rfl : ar 39 Wi183 x = ar 39 Wi183 x)
                have ak54993 := tk_fld e54987 ak54929 h_x (by decide) (rfl : ar 41 Wi183 x = ar 41 Wi183 x)
                have ak54994 := tk_fld e54987 ak54930 h_x (by decide) (rfl : ar 42 Wi183 x = ar 42 Wi183 x)
                have ak54995 := tk_fld e54987 ak54931 h_x (by decide) (rfl : ar 43 Wi183 x = ar 43 Wi183 x)
                have ak54996 := tk_fld e54987 ak54932 h_x (by decide) kp54913
                have ak54997 := tk_fld e54987 ak54933 h_x (by decide) kp54914
                have ak54998 := tk_fld e54987 ak54934 h_x (by decide) kp54915
                have ak54999 := tk_fld e54987 ak54935 h_x (by decide) kp54916
                have ak55000 := tk_fld e54987 ak54936 h_x (by decide) kp54917
                have ak55001 := tk_fld e54987 ak54937 h_x (by decide) kp54918
                have ak55002 := tk_fld e54987 ak54938 h_x (by decide) kp54919
                have ak55003 := tk_fld e54987 ak54939 h_x (by decide) (rfl : ar 44 Wi183 x = ar 44 Wi183 x)
                have ak55004 := tk_fld e54987 ak54940 h_x (by decide) (rfl : ar 45 Wi183 x = ar 45 Wi183 x)
                have ak55005 := tk_fld e54987 ak54941 h_x (by decide) (rfl : ar 46 Wi183 x = ar 46 Wi183 x)
                have ak55006 := tk_fld e54987 ak54942 h_x (by decide) kp54920
                have ak55007 := tk_fld e54987 ak54943 h_x (by decide) kp54921
                have ak55008 := tk_fld e54987 ak54944 h_x (by decide) kp54922
                have ak55009 := tk_fld e54987 ak54945 h_x (by decide) kp54923
                have ak55010 := tk_fld e54987 ak54946 h_x (by decide) kp54924
                refine GO.iload dX12_text_121 rfl ?_
                refine GO.if_ne (tgt := 131) dX12_text_123 (by decide) r_i183 (fun c55011 => ?_) (fun h => by exfalso; omega)
                have e55012 : vi V54988 x 38 = vi Wi183 x 38 := vi_up e54987 (Or.inr (by decide))
                have e55013 : vi V54988 x 36 = vi Wi183 x 36 := vi_up e54987 (Or.inr (by decide))
                have e55014 : vi V54988 x 47 = vi Wi183 x 47 := vi_up e54987 (Or.inr (by decide))
                have e55015 : vi V54988 x 48 = vi Wi183 x 48 := vi_up e54987 (Or.inr (by decide))
                have e55016 : vi V54988 x 30 = 0 := upd2_int e54987 (ir_c rfl)
                have e55017 : vi V54988 x 31 = vi Wi183 x 31 := vi_up e54987 (Or.inr (by decide))
                have e55018 : vi V54988 x 32 = vi Wi183 x 32 := vi_up e54987 (Or.inr (by decide))
                have hm39 := ak54992.2
                have hm41 := ak54993.2
                have hm42 := ak54994.2
                have hm43 := ak54995.2
                refine GO.useWT (fun hWm => ?_)
                have hcm := hWm.cnt h_x
                have hrm := hWm.rd h_x
                have htm := TC.eq (htc (by omega)) ak54993.2 ak54994.2 ak54995.2 ak54992.2 (by omega) (by omega)
                have hm44 := ak55003.2
                have hm45 := ak55004.2
                have hm46 := ak55005.2
                refine GO.aload_n dX12_text_131 rfl rfl ?_
                refine GO.getA (n := 20) h_x fl_RX12_118 rfl rfl rfl rfl dX12_text_132 (fun hv55020 h55019 => ?_)
                refine GO.aload_n dX12_text_135 rfl rfl ?_
                refine GO.getI h_x fl_RX12_535 rfl rfl dX12_text_136 (fun l55021 u55022 => ?_)
                refine GO.iload_n dX12_text_139 rfl rfl ?_
                have q55023 : -2147483648 ≤ vi Wi183 x 47 ∧ vi Wi183 x 47 ≤ 2147483647 := vi_ir
                refine GO.iast (t := 42) rfl rfl (by decide +kernel) h55019 vi_ir (by omega) (by omega) r_p0 (r_p0).1 (r_p0).2 dX12_text_140 (fun V55025 e55024 => ?_)
                have k55026 := st_oth e55024 k54989.1 h_x h55019 (by decide) (by decide)
                have sS55027 : sd V55025 x = sd Wi183 x := k55026.2.1.trans sS54990
                have sQ55028 : wt V55025 x = wt Wi183 x := k55026.2.2.trans sQ54991
                have ak55029 := tk_oth e55024 ak54992.1 h_x h55019 (by decide) (by decide) ak54992.2
                have ak55030 := tk_oth e55024 ak54993.1 h_x h55019 (by decide) (by decide) ak54993.2
                have ak55031 := tk_oth e55024 ak54994.1 h_x h55019 (by decide) (by decide) ak54994.2
                have ak55032 := tk_oth e55024 ak54995.1 h_x h55019 (by decide) (by decide) ak54995.2
                have ak55033 := tk_oth e55024 ak54996.1 h_x h55019 (by decide) (by decide) ak54996.2
                have ak55034 := tk_oth e55024 ak54997.1 h_x h55019 (by decide) (by decide) ak54997.2
                have ak55035 := tk_oth e55024 ak54998.1 h_x h55019 (by decide) (by decide) ak54998.2
                have ak55036 := tk_oth e55024 ak54999.1 h_x h55019 (by decide) (by decide) ak54999.2
                have ak55037 := tk_oth e55024 ak55000.1 h_x h55019 (by decide) (by decide) ak55000.2
                have ak55038 := tk_oth e55024 ak55001.1 h_x h55019 (by decide) (by decide) ak55001.2
                have ak55039 := tk_oth e55024 ak55002.1 h_x h55019 (by decide) (by decide) ak55002.2
                have ak55040 := tk_oth e55024 ak55003.1 h_x h55019 (by decide) (by decide) ak55003.2
                have ak55041 := tk_oth e55024 ak55004.1 h_x h55019 (by decide) (by decide) ak55004.2
                have ak55042 := tk_oth e55024 ak55005.1 h_x h55019 (by decide) (by decide) ak55005.2
                have ak55043 := tk_put e55024 ak55006.1 h_x (vq_of hv55020) r_p0 ak55006.2
                have ak55044 := tk_oth e55024 ak55007.1 h_x h55019 (by decide) (by decide) ak55007.2
                have ak55045 := tk_oth e55024 ak55008.1 h_x h55019 (by decide) (by decide) ak55008.2
                have ak55046 := tk_oth e55024 ak55009.1 h_x h55019 (by decide) (by decide) ak55009.2
                have ak55047 := tk_oth e55024 ak55010.1 h_x h55019 (by decide) (by decide) ak55010.2
                refine GO.aload_n dX12_text_141 rfl rfl ?_
                refine GO.getA (n := 20) h_x fl_RX12_121 rfl rfl rfl rfl dX12_text_142 (fun hv55049 h55048 => ?_)
                refine GO.aload_n dX12_text_145 rfl rfl ?_
                refine GO.getI h_x fl_RX12_535 rfl rfl dX12_text_146 (fun l55050 u55051 => ?_)
                have e55052 : vi V55025 x 47 = vi V54988 x 47 := vi_up e55024 (Or.inl (K_ne h_x h55019 (by decide)))
                refine GO.iload_n dX12_text_149 rfl rfl ?_
                refine GO.iast (t := 43) rfl rfl (by decide +kernel) h55048 vi_ir (by omega) (by omega) r_p1 (r_p1).1 (r_p1).2 dX12_text_150 (fun V55054 e55053 => ?_)
                have k55055 := st_oth e55053 k55026.1 h_x h55048 (by decide) (by decide)
                have sS55056 : sd V55054 x = sd Wi183 x := k55055.2.1.trans sS55027
                have sQ55057 : wt V55054 x = wt Wi183 x := k55055.2.2.trans sQ55028
                have ak55058 := tk_oth e55053 ak55029.1 h_x h55048 (by decide) (by decide) ak55029.2
                have ak55059 := tk_oth e55053 ak55030.1 h_x h55048 (by decide) (by decide) ak55030.2
                have ak55060 := tk_oth e55053 ak55031.1 h_x h55048 (by decide) (by decide) ak55031.2
                have ak55061 := tk_oth e55053 ak55032.1 h_x h55048 (by decide) (by decide) ak55032.2
                have ak55062 := tk_oth e55053 ak55033.1 h_x h55048 (by decide) (by decide) ak55033.2
                have ak55063 := tk_oth e55053 ak55034.1 h_x h55048 (by decide) (by decide) ak55034.2
                have ak55064 := tk_oth e55053 ak55035.1 h_x h55048 (by decide) (by decide) ak55035.2
                have ak55065 := tk_oth e55053 ak55036.1 h_x h55048 (by decide) (by decide) ak55036.2
                have ak55066 := tk_oth e55053 ak55037.1 h_x h55048 (by decide) (by decide) ak55037.2
                have ak55067 := tk_oth e55053 ak55038.1 h_x h55048 (by decide) (by decide) ak55038.2
                have ak55068 := tk_oth e55053 ak55039.1 h_x h55048 (by decide) (by decide) ak55039.2
                have ak55069 := tk_oth e55053 ak55040.1 h_x h55048 (by decide) (by decide) ak55040.2
                have ak55070 := tk_oth e55053 ak55041.1 h_x h55048 (by decide) (by decide) ak55041.2
                have ak55071 := tk_oth e55053 ak55042.1 h_x h55048 (by decide) (by decide) ak55042.2
                have ak55072 := tk_oth e55053 ak55043.1 h_x h55048 (by decide) (by decide) ak55043.2
                have ak55073 := tk_put e55053 ak55044.1 h_x (vq_of hv55049) r_p1 ak55044.2
                have ak55074 := tk_oth e55053 ak55045.1 h_x h55048 (by decide) (by decide) ak55045.2
                have ak55075 := tk_oth e55053 ak55046.1 h_x h55048 (by decide) (by decide) ak55046.2
                have ak55076 := tk_oth e55053 ak55047.1 h_x h55048 (by decide) (by decide) ak55047.2
                refine GO.aload_n dX12_text_151 rfl rfl ?_
                refine GO.getA (n := 20) h_x fl_RX12_115 rfl rfl rfl rfl dX12_text_152 (fun hv55078 h55077 => ?_)
                refine GO.aload_n dX12_text_155 rfl rfl ?_
                refine GO.getI h_x fl_RX12_535 rfl rfl dX12_text_156 (fun l55079 u55080 => ?_)
                have e55081 : vi V55054 x 47 = vi V55025 x 47 := vi_up e55053 (Or.inl (K_ne h_x h55048 (by decide)))
                refine GO.aload_n dX12_text_159 rfl rfl ?_
                refine GO.getI h_x fl_RX12_526 rfl rfl dX12_text_160 (fun l55082 u55083 => ?_)
                have e55085 : vi V55025 x 38 = vi V54988 x 38 := vi_up e55024 (Or.inl (K_ne h_x h55019 (by decide)))
                have e55084 : vi V55054 x 38 = vi V55025 x 38 := vi_up e55053 (Or.inl (K_ne h_x h55048 (by decide)))
                have q55087 : -2147483648 ≤ vi Wi183 x 38 ∧ vi Wi183 x 38 ≤ 2147483647 := vi_ir
                refine GO.iast (t := 41) rfl rfl (by decide +kernel) h55077 vi_ir (by omega) (by omega) vi_ir (by omega) (by omega) dX12_text_163 (fun V55088 e55086 => ?_)
                have k55089 := st_oth e55086 k55055.1 h_x h55077 (by decide) (by decide)
                have sS55090 : sd V55088 x = sd Wi183 x := k55089.2.1.trans sS55056
                have sQ55091 : wt V55088 x = wt Wi183 x := k55089.2.2.trans sQ55057
                have ak55092 := tk_oth e55086 ak55058.1 h_x h55077 (by decide) (by decide) ak55058.2
                have ak55093 := tk_oth e55086 ak55059.1 h_x h55077 (by decide) (by decide) ak55059.2
                have ak55094 := tk_oth e55086 ak55060.1 h_x h55077 (by decide) (by decide) ak55060.2
                have ak55095 := tk_oth e55086 ak55061.1 h_x h55077 (by decide) (by decide) ak55061.2
                have ak55096 := tk_oth e55086 ak55062.1 h_x h55077 (by decide) (by decide) ak55062.2
                have ak55097 := tk_put e55086 ak55063.1 h_x (vq_of hv55078) vi_ir ak55063.2
                have ak55098 := tk_oth e55086 ak55064.1 h_x h55077 (by decide) (by decide) ak55064.2
                have ak55099 := tk_oth e55086 ak55065.1 h_x h55077 (by decide) (by decide) ak55065.2
                have ak55100 := tk_oth e55086 ak55066.1 h_x h55077 (by decide) (by decide) ak55066.2
                have ak55101 := tk_oth e55086 ak55067.1 h_x h55077 (by decide) (by decide) ak55067.2
                have ak55102 := tk_oth e55086 ak55068.1 h_x h55077 (by decide) (by decide) ak55068.2
                have ak55103 := tk_oth e55086 ak55069.1 h_x h55077 (by decide) (by decide) ak55069.2
                have ak55104 := tk_oth e55086 ak55070.1 h_x h55077 (by decide) (by decide) ak55070.2
                have ak55105 := tk_oth e55086 ak55071.1 h_x h55077 (by decide) (by decide) ak55071.2
                have ak55106 := tk_oth e55086 ak55072.1 h_x h55077 (by decide) (by decide) ak55072.2
                have ak55107 := tk_oth e55086 ak55073.1 h_x h55077 (by decide) (by decide) ak55073.2
                have ak55108 := tk_oth e55086 ak55074.1 h_x h55077 (by decide) (by decide) ak55074.2
                have ak55109 := tk_oth e55086 ak55075.1 h_x h55077 (by decide) (by decide) ak55075.2
                have ak55110 := tk_oth e55086 ak55076.1 h_x h55077 (by decide) (by decide) ak55076.2
                refine GO.iconst dX12_text_164 ?_
                refine GO.istore (ls1 := [some (.ref x), some (ti p0), some (ti p1), some (ti p2), some (ti i183), some (ti 0), none]) dX12_text_165 rfl rfl ?_
                have e55112 : vi V55088 x 47 = vi V55054 x 47 := vi_up e55086 (Or.inl (K_ne h_x h55077 (by decide)))
                have e55115 : vi V55025 x 48 = vi V54988 x 48 := vi_up e55024 (Or.inl (K_ne h_x h55019 (by decide)))
                have e55114 : vi V55054 x 48 = vi V55025 x 48 := vi_up e55053 (Or.inl (K_ne h_x h55048 (by decide)))
                have e55113 : vi V55088 x 48 = vi V55054 x 48 := vi_up e55086 (Or.inl (K_ne h_x h55077 (by decide)))
                have q55116 : -2147483648 ≤ vi Wi183 x 48 ∧ vi Wi183 x 48 ≤ 2147483647 := vi_ir
                have e55119 : vi V55025 x 36 = vi V54988 x 36 := vi_up e55024 (Or.inl (K_ne h_x h55019 (by decide)))
                have e55118 : vi V55054 x 36 = vi V55025 x 36 := vi_up e55053 (Or.inl (K_ne h_x h55048 (by decide)))
                have e55117 : vi V55088 x 36 = vi V55054 x 36 := vi_up e55086 (Or.inl (K_ne h_x h55077 (by decide)))
                have q55120 : -2147483648 ≤ vi Wi183 x 36 ∧ vi Wi183 x 36 ≤ 2147483647 := vi_ir
                have q55121 : -2147483648 ≤ vi Wi183 x 31 ∧ vi Wi183 x 31 ≤ 2147483647 := vi_ir
                have q55122 : -2147483648 ≤ vi Wi183 x 32 ∧ vi Wi183 x 32 ≤ 2147483647 := vi_ir
                have e55123 : vi V55088 x 38 = vi V55054 x 38 := vi_up e55086 (Or.inl (K_ne h_x h55077 (by decide)))
                have e55126 : vi V55025 x 30 = vi V54988 x 30 := vi_up e55024 (Or.inl (K_ne h_x h55019 (by decide)))
                have e55125 : vi V55054 x 30 = vi V55025 x 30 := vi_up e55053 (Or.inl (K_ne h_x h55048 (by decide)))
                have e55124 : vi V55088 x 30 = vi V55054 x 30 := vi_up e55086 (Or.inl (K_ne h_x h55077 (by decide)))
                refine GO.loop1 (fun i55111 W => 0 ≤ i55111 ∧ i55111 ≤ 200 ∧ (vi W x 47 = vi V55088 x 47 ∧ vi W x 48 = vi V55088 x 48 ∧ vi W x 36 = vi V54988 x 36 ∧ vi W x 38 = vi V54988 x 38 ∧ vi W x 30 = 0) ∧ (CPf (ar 49 V x) (ar 39 V54988 x) (ar 49 W x) (220 * vi V x 47) 0 i55111) ∧ ar 39 W x = ar 39 Wi183 x ∧ ar 41 W x = ar 41 Wi183 x ∧ ar 42 W x = ar 42 Wi183 x ∧ ar 43 W x = ar 43 Wi183 x ∧ ar 50 W x = updf (ar 50 V x) (vi V55054 x 47).toNat (vi V55054 x 38) ∧ ar 53 W x = ar 53 V x ∧ ar 54 W x = ar 54 V x ∧ ar 55 W x = ar 55 V x ∧ ar 60 W x = ar 60 V x ∧ ar 61 W x = ar 61 V x ∧ ar 44 W x = ar 44 Wi183 x ∧ ar 45 W x = ar 45 Wi183 x ∧ ar 46 W x = ar 46 Wi183 x ∧ ar 51 W x = updf (ar 51 V x) (vi V54988 x 47).toNat p0 ∧ ar 52 W x = updf (ar 52 V x) (vi V55025 x 47).toNat p1 ∧ ar 56 W x = ar 56 V x ∧ ar 57 W x = ar 57 V x ∧ ar 58 W x = ar 58 V x ∧ True) (fun i55111 => [some (.ref x), some (ti p0), some (ti p1), some (ti p2), some (ti i183), some (ti i55111), none]) (fun i55111 W => (2147483647 - i55111).toNat) 0 ⟨by omega, by omega, by omega, (by first | exact CPf.rf.at ak55096.2 | exact CPf.put h49 (by omega) (by omega) ak55096.2 (by omega) (by omega) (by omega)), ak55092.2, ak55093.2, ak55094.2, ak55095.2, ak55097.2, ak55098.2, ak55099.2, ak55100.2, ak55101.2, ak55102.2, ak55103.2, ak55104.2, ak55105.2, ak55106.2, ak55107.2, ak55108.2, ak55109.2, ak55110.2, trivial⟩ rfl (fun i55111 Wi55111 hp104097 ih104096 => ?_)
                obtain ⟨l_i55111, u_i55111, n_i55111, h49, kp104098, kp104099, kp104100, kp104101, kp104102, kp104103, kp104104, kp104105, kp104106, kp104107, kp104108, kp104109, kp104110, kp104111, kp104112, kp104113, kp104114, kp104115, -⟩ := hp104097
                have r_i55111 : ir i55111 := ⟨by omega, by omega⟩
                show GO mX12_text K V (IS K (fun X V1 => (X ≥ (-2147483648) ∧ X ≤ 2147483647) ∧ (GX V1 x) ∧ (MTX V V1 x p0 p1 p2 X))) K Wi55111 0 0 167 [some (.ref x), some (ti p0), some (ti p1), some (ti p2), some (ti i183), some (ti i55111), none] []
                refine GO.useWT (fun hW104116 => ?_)
                have aq104117 := hW104116.aq h_x
                refine GO.useWT (fun hW104118 => ?_)
                have ak104119 := hW104118.arr h_x 39 32 (by decide) rfl (by decide)
                have ak104120 := hW104118.arr h_x 41 34 (by decide) rfl (by decide)
                have ak104121 := hW104118.arr h_x 42 35 (by decide) rfl (by decide)
                have ak104122 := hW104118.arr h_x 43 36 (by decide) rfl (by decide)
                have ak104123 := hW104118.arr h_x 49 40 (by decide) rfl (by decide)
                have ak104124 := hW104118.arr h_x 50 41 (by decide) rfl (by decide)
                have ak104125 := hW104118.arr h_x 53 44 (by decide) rfl (by decide)
                have ak104126 := hW104118.arr h_x 54 45 (by decide) rfl (by decide)
                have ak104127 := hW104118.arr h_x 55 46 (by decide) rfl (by decide)
                have ak104128 := hW104118.arr h_x 60 51 (by decide) rfl (by decide)
                have ak104129 := hW104118.arr h_x 61 52 (by decide) rfl (by decide)
                have ak104130 := hW104118.arr h_x 44 37 (by decide) rfl (by decide)
                have ak104131 := hW104118.arr h_x 45 38 (by decide) rfl (by decide)
                have ak104132 := hW104118.arr h_x 46 39 (by decide) rfl (by decide)
                have ak104133 := hW104118.arr h_x 51 42 (by decide) rfl (by decide)
                have ak104134 := hW104118.arr h_x 52 43 (by decide) rfl (by decide)
                have ak104135 := hW104118.arr h_x 56 47 (by decide) rfl (by decide)
                have ak104136 := hW104118.arr h_x 57 48 (by decide) rfl (by decide)
                have ak104137 := hW104118.arr h_x 58 49 (by decide) rfl (by decide)
                refine GO.iload dX12_text_167 rfl ?_
                refine GO.aload_n dX12_text_169 rfl rfl ?_
                refine GO.getI h_x fl_RX12_466 rfl rfl dX12_text_170 (fun l104138 u104139 => ?_)
                refine GO.icmp_ge (tgt := 205) dX12_text_173 (by decide) r_i55111 vi_ir (fun c104140 => ?_) (fun c104140 => ?_)
                ·
                  refine GO.iconst dX12_text_205 ?_
                  refine GO.istore (ls1 := [some (.ref x), some (ti p0), some (ti p1), some (ti p2), some (ti i183), some (ti 0), none]) dX12_text_206 rfl rfl ?_
                  have q104142 : -2147483648 ≤ vi Wi55111 x 47 ∧ vi Wi55111 x 47 ≤ 2147483647 := vi_ir
                  have q104143 : -2147483648 ≤ vi Wi55111 x 48 ∧ vi Wi55111 x 48 ≤ 2147483647 := vi_ir
                  have q104144 : -2147483648 ≤ vi Wi55111 x 36 ∧ vi Wi55111 x 36 ≤ 2147483647 := vi_ir
                  have q104145 : -2147483648 ≤ vi Wi55111 x 38 ∧ vi Wi55111 x 38 ≤ 2147483647 := vi_ir
                  have q104146 : -2147483648 ≤ vi Wi55111 x 30 ∧ vi Wi55111 x 30 ≤ 2147483647 := vi_ir
                  refine GO.loop1 (fun i104141 W => 0 ≤ i104141 ∧ i104141 ≤ 12 ∧ (vi W x 47 = vi Wi55111 x 47 ∧ vi W x 48 = vi Wi55111 x 48 ∧ vi W x 36 = vi V54988 x 36 ∧ vi W x 38 = vi V54988 x 38 ∧ vi W x 30 = 0) ∧ (CPf (ar 53 V x) (ar 41 V54988 x) (ar 53 W x) (12 * vi V x 47) 0 i104141) ∧ (CPf (ar 54 V x) (ar 42 V54988 x) (ar 54 W x) (12 * vi V x 47) (220 * vi V x 47) i104141) ∧ (CPf (ar 55 V x) (ar 43 V54988 x) (ar 55 W x) (12 * vi V x 47) (220 * vi V x 47) i104141) ∧ (CPf (ar 56 V x) (ar 44 V54988 x) (ar 56 W x) (12 * vi V x 47) 0 i104141) ∧ (CPf (ar 57 V x) (ar 45 V54988 x) (ar 57 W x) (12 * vi V x 47) 0 i104141) ∧ (CPf (ar 58 V x) (ar 46 V54988 x) (ar 58 W x) (12 * vi V x 47) 0 i104141) ∧ ar 39 W x = ar 39 Wi183 x ∧ ar 41 W x = ar 41 Wi183 x ∧ ar 42 W x = ar 42 Wi183 x ∧ ar 43 W x = ar 43 Wi183 x ∧ ar 49 W x = ar 49 Wi55111 x ∧ ar 50 W x = updf (ar 50 V x) (vi V55054 x 47).toNat (vi V55054 x 38) ∧ ar 60 W x = ar 60 V x ∧ ar 61 W x = ar 61 V x ∧ ar 44 W x = ar 44 Wi183 x ∧ ar 45 W x = ar 45 Wi183 x ∧ ar 46 W x = ar 46 Wi183 x ∧ ar 51 W x = updf (ar 51 V x) (vi V54988 x 47).toNat p0 ∧ ar 52 W x = updf (ar 52 V x) (vi V55025 x 47).toNat p1 ∧ True) (fun i104141 => [some (.ref x), some (ti p0), some (ti p1), some (ti p2), some (ti i183), some (ti i104141), none]) (fun i104141 W => (2147483647 - i104141).toNat) 0 ⟨by omega, by omega, by omega, (by first | exact CPf.rf.at kp104103 | exact CPf.put h53 (by omega) (by omega) kp104103 (by omega) (by omega) (by omega)), (by first | exact CPf.rf.at kp104104 | exact CPf.put h54 (by omega) (by omega) kp104104 (by omega) (by omega) (by omega)), (by first | exact CPf.rf.at kp104105 | exact CPf.put h55 (by omega) (by omega) kp104105 (by omega) (by omega) (by omega)), (by first | exact CPf.rf.at kp104113 | exact CPf.put h56 (by omega) (by omega) kp104113 (by omega) (by omega) (by omega)), (by first | exact CPf.rf.at kp104114 | exact CPf.put h57 (by omega) (by omega) kp104114 (by omega) (by omega) (by omega)), (by first | exact CPf.rf.at kp104115 | exact CPf.put h58 (by omega) (by omega) kp104115 (by omega) (by omega) (by omega)), kp104098, kp104099, kp104100, kp104101, (rfl : ar 49 Wi55111 x = ar 49 Wi55111 x), kp104102, kp104106, kp104107, kp104108, kp104109, kp104110, kp104111, kp104112, trivial⟩ rfl (fun i104141 Wi104141 hp108945 ih108944 => ?_)
                  obtain ⟨l_i104141, u_i104141, n_i104141, h53, h54, h55, h56, h57, h58, kp108946, kp108947, kp108948, kp108949, kp108950, kp108951, kp108952, kp108953, kp108954, kp108955, kp108956, kp108957, kp108958, -⟩ := hp108945
                  have r_i104141 : ir i104141 := ⟨by omega, by omega⟩
                  show GO mX12_text K V (IS K (fun X V1 => (X ≥ (-2147483648) ∧ X ≤ 2147483647) ∧ (GX V1 x) ∧ (MTX V V1 x p0 p1 p2 X))) K Wi104141 0 0 208 [some (.ref x), some (ti p0), some (ti p1), some (ti p2), some (ti i183), some (ti i104141), none] []
                  refine GO.useWT (fun hW108959 => ?_)
                  have aq108960 := hW108959.aq h_x
                  refine GO.useWT (fun hW108961 => ?_)
                  have ak108962 := hW108961.arr h_x 39 32 (by decide) rfl (by decide)
                  have ak108963 := hW108961.arr h_x 41 34 (by decide) rfl (by decide)
                  have ak108964 := hW108961.arr h_x 42 35 (by decide) rfl (by decide)
                  have ak108965 := hW108961.arr h_x 43 36 (by decide) rfl (by decide)
                  have ak108966 := hW108961.arr h_x 49 40 (by decide) rfl (by decide)
                  have ak108967 := hW108961.arr h_x 50 41 (by decide) rfl (by decide)
                  have ak108968 := hW108961.arr h_x 53 44 (by decide) rfl (by decide)
                  have ak108969 := hW108961.arr h_x 54 45 (by decide) rfl (by decide)
                  have ak108970 := hW108961.arr h_x 55 46 (by decide) rfl (by decide)
                  have ak108971 := hW108961.arr h_x 60 51 (by decide) rfl (by decide)
                  have ak108972 := hW108961.arr h_x 61 52 (by decide) rfl (by decide)
                  have ak108973 := hW108961.arr h_x 44 37 (by decide) rfl (by decide)
                  have ak108974 := hW108961.arr h_x 45 38 (by decide) rfl (by decide)
                  have ak108975 := hW108961.arr h_x 46 39 (by decide) rfl (by decide)
                  have ak108976 := hW108961.arr h_x 51 42 (by decide) rfl (by decide)
                  have ak108977 := hW108961.arr h_x 52 43 (by decide) rfl (by decide)
                  have ak108978 := hW108961.arr h_x 56 47 (by decide) rfl (by decide)
                  have ak108979 := hW108961.arr h_x 57 48 (by decide) rfl (by decide)
                  have ak108980 := hW108961.arr h_x 58 49 (by decide) rfl (by decide)
                  refine GO.iload dX12_text_208 rfl ?_
                  refine GO.aload_n dX12_text_210 rfl rfl ?_
                  refine GO.getI h_x fl_RX12_526 rfl rfl dX12_text_211 (fun l108981 u108982 => ?_)
                  refine GO.icmp_ge (tgt := 337) dX12_text_214 (by decide) r_i104141 vi_ir (fun c108983 => ?_) (fun c108983 => ?_)
                  ·
                    refine GO.iconst dX12_text_337 ?_
                    refine GO.istore (ls1 := [some (.ref x), some (ti p0), some (ti p1), some (ti p2), some (ti i183), some (ti 0), none]) dX12_text_338 rfl rfl ?_
                    have q108985 : -2147483648 ≤ vi Wi104141 x 47 ∧ vi Wi104141 x 47 ≤ 2147483647 := vi_ir
                    have q108986 : -2147483648 ≤ vi Wi104141 x 48 ∧ vi Wi104141 x 48 ≤ 2147483647 := vi_ir
                    have q108987 : -2147483648 ≤ vi Wi104141 x 30 ∧ vi Wi104141 x 30 ≤ 2147483647 := vi_ir
                    refine GO.loop1 (fun i108984 W => 0 ≤ i108984 ∧ i108984 ≤ 9 ∧ (vi W x 47 = vi Wi104141 x 47 ∧ vi W x 48 = vi Wi104141 x 48 ∧ vi W x 30 = 0) ∧ ar 49 W x = ar 49 Wi55111 x ∧ ar 50 W x = updf (ar 50 V x) (vi V55054 x 47).toNat (vi V55054 x 38) ∧ ar 53 W x = ar 53 Wi104141 x ∧ ar 54 W x = ar 54 Wi104141 x ∧ ar 55 W x = ar 55 Wi104141 x ∧ ar 60 W x = ar 60 V x ∧ ar 61 W x = ar 61 V x ∧ ar 51 W x = updf (ar 51 V x) (vi V54988 x 47).toNat p0 ∧ ar 52 W x = updf (ar 52 V x) (vi V55025 x 47).toNat p1 ∧ ar 56 W x = ar 56 Wi104141 x ∧ ar 57 W x = ar 57 Wi104141 x ∧ ar 58 W x = ar 58 Wi104141 x ∧ True) (fun i108984 => [some (.ref x), some (ti p0), some (ti p1), some (ti p2), some (ti i183), some (ti i108984), none]) (fun i108984 W => (2147483647 - i108984).toNat) 0 ⟨by omega, by omega, by omega, kp108950, kp108951, (rfl : ar 53 Wi104141 x = ar 53 Wi104141 x), (rfl : ar 54 Wi104141 x = ar 54 Wi104141 x), (rfl : ar 55 Wi104141 x = ar 55 Wi104141 x), kp108952, kp108953, kp108957, kp108958, (rfl : ar 56 Wi104141 x = ar 56 Wi104141 x), (rfl : ar 57 Wi104141 x = ar 57 Wi104141 x), (rfl : ar 58 Wi104141 x = ar 58 Wi104141 x), trivial⟩ rfl (fun i108984 Wi108984 hp109205 ih109204 => ?_)
                    obtain ⟨l_i108984, u_i108984, n_i108984, kp109206, kp109207, kp109208, kp109209, kp109210, kp109211, kp109212, kp109213, kp109214, kp109215, kp109216, kp109217, -⟩ := hp109205
                    have r_i108984 : ir i108984 := ⟨by omega, by omega⟩
                    show GO mX12_text K V (IS K (fun X V1 => (X ≥ (-2147483648) ∧ X ≤ 2147483647) ∧ (GX V1 x) ∧ (MTX V V1 x p0 p1 p2 X))) K Wi108984 0 0 340 [some (.ref x), some (ti p0), some (ti p1), some (ti p2), some (ti i183), some (ti i108984), none] []
                    refine GO.useWT (fun hW109218 => ?_)
                    have aq109219 := hW109218.aq h_x
                    refine GO.useWT (fun hW109220 => ?_)
                    have ak109221 := hW109220.arr h_x 39 32 (by decide) rfl (by decide)
                    have ak109222 := hW109220.arr h_x 41 34 (by decide) rfl (by decide)
                    have ak109223 := hW109220.arr h_x 42 35 (by decide) rfl (by decide)
                    have ak109224 := hW109220.arr h_x 43 36 (by decide) rfl (by decide)
                    have ak109225 := hW109220.arr h_x 49 40 (by decide) rfl (by decide)
                    have ak109226 := hW109220.arr h_x 50 41 (by decide) rfl (by decide)
                    have ak109227 := hW109220.arr h_x 53 44 (by decide) rfl (by decide)
                    have ak109228 := hW109220.arr h_x 54 45 (by decide) rfl (by decide)
                    have ak109229 := hW109220.arr h_x 55 46 (by decide) rfl (by decide)
                    have ak109230 := hW109220.arr h_x 60 51 (by decide) rfl (by decide)
                    have ak109231 := hW109220.arr h_x 61 52 (by decide) rfl (by decide)
                    have ak109232 := hW109220.arr h_x 44 37 (by decide) rfl (by decide)
                    have ak109233 := hW109220.arr h_x 45 38 (by decide) rfl (by decide)
                    have ak109234 := hW109220.arr h_x 46 39 (by decide) rfl (by decide)
                    have ak109235 := hW109220.arr h_x 51 42 (by decide) rfl (by decide)
                    have ak109236 := hW109220.arr h_x 52 43 (by decide) rfl (by decide)
                    have ak109237 := hW109220.arr h_x 56 47 (by decide) rfl (by decide)
                    have ak109238 := hW109220.arr h_x 57 48 (by decide) rfl (by decide)
                    have ak109239 := hW109220.arr h_x 58 49 (by decide) rfl (by decide)
                    refine GO.iload dX12_text_340 rfl ?_
                    refine GO.bipush dX12_text_342 rfl ?_
                    refine GO.icmp_ge (tgt := 369) dX12_text_344 (by decide) r_i108984 (ir_c rfl) (fun c109240 => ?_) (fun c109240 => ?_)
                    ·
                      refine GO.aload_n dX12_text_369 rfl rfl ?_
                      refine GO.aload_n dX12_text_370 rfl rfl ?_
                      refine GO.getI h_x fl_RX12_535 rfl rfl dX12_text_371 (fun l109241 u109242 => ?_)
                      refine GO.iconst dX12_text_374 ?_
                      refine GO.iadd dX12_text_375 ?_
                      have q109244 : -2147483648 ≤ vi Wi108984 x 47 ∧ vi Wi108984 x 47 ≤ 2147483647 := vi_ir
                      refine GO.putI h_x fp_RX12_535 rfl (by decide +kernel) ⟨by omega, by omega⟩ (by omega) (by omega) dX12_text_376 (fun V109245 e109243 => ?_)
                      have k109246 := st_fld e109243 aq109219 h_x (by decide) (by decide)
                      have sS109247 : sd V109245 x = sd Wi108984 x := k109246.2.1.trans (rfl : sd Wi108984 x = sd Wi108984 x)
                      have sQ109248 : wt V109245 x = wt Wi108984 x := k109246.2.2.trans (rfl : wt Wi108984 x = wt Wi108984 x)
                      have ak109249 := tk_fld e109243 ak109221 h_x (by decide) (rfl : ar 39 Wi108984 x = ar 39 Wi108984 x)
                      have ak109250 := tk_fld e109243 ak109222 h_x (by decide) (rfl : ar 41 Wi108984 x = ar 41 Wi108984 x)
                      have ak109251 := tk_fld e109243 ak109223 h_x (by decide) (rfl : ar 42 Wi108984 x = ar 42 Wi108984 x)
                      have ak109252 := tk_fld e109243 ak109224 h_x (by decide) (rfl : ar 43 Wi108984 x = ar 43 Wi108984 x)
                      have ak109253 := tk_fld e109243 ak109225 h_x (by decide) kp109206
                      have ak109254 := tk_fld e109243 ak109226 h_x (by decide) kp109207
                      have ak109255 := tk_fld e109243 ak109227 h_x (by decide) kp109208
                      have ak109256 := tk_fld e109243 ak109228 h_x (by decide) kp109209
                      have ak109257 := tk_fld e109243 ak109229 h_x (by decide) kp109210
                      have ak109258 := tk_fld e109243 ak109230 h_x (by decide) kp109211
                      have ak109259 := tk_fld e109243 ak109231 h_x (by decide) kp109212
                      have ak109260 := tk_fld e109243 ak109232 h_x (by decide) (rfl : ar 44 Wi108984 x = ar 44 Wi108984 x)
                      have ak109261 := tk_fld e109243 ak109233 h_x (by decide) (rfl : ar 45 Wi108984 x = ar 45 Wi108984 x)
                      have ak109262 := tk_fld e109243 ak109234 h_x (by decide) (rfl : ar 46 Wi108984 x = ar 46 Wi108984 x)
                      have ak109263 := tk_fld e109243 ak109235 h_x (by decide) kp109213
                      have ak109264 := tk_fld e109243 ak109236 h_x (by decide) kp109214
                      have ak109265 := tk_fld e109243 ak109237 h_x (by decide) kp109215
                      have ak109266 := tk_fld e109243 ak109238 h_x (by decide) kp109216
                      have ak109267 := tk_fld e109243 ak109239 h_x (by decide) kp109217
                      refine GO.aload_n dX12_text_379 rfl rfl ?_
                      refine GO.getI h_x fl_RX12_535 rfl rfl dX12_text_380 (fun l109268 u109269 => ?_)
                      have e109270 : vi V109245 x 47 = (vi Wi108984 x 47) + 1 := upd2_int e109243 ⟨by omega, by omega⟩
                      refine GO.iconst dX12_text_383 ?_
                      refine GO.isub dX12_text_384 ?_
                      have e109271 : vi V109245 x 48 = vi Wi108984 x 48 := vi_up e109243 (Or.inr (by decide))
                      have e109272 : vi V109245 x 30 = vi Wi108984 x 30 := vi_up e109243 (Or.inr (by decide))
                      exact GO.reti rfl rfl dX12_text_385 ⟨rfl, _, rfl, ⟨by omega, by omega⟩, ⟨by omega, (by first | exact w_0 | exact GX.mk w_0 (by omega) (by omega) ak109253.2 ak109254.2 ak109255.2 ak109256.2 ak109257.2 ak109258.2 ak109259.2 | exact GX.text hW_0 hWm h_x w_0 htm (by omega) (by omega) (by omega) ak109254.2 (by omega) (by omega) ak109255.2 ak109256.2 ak109257.2 ak109253.2 h53 h54 h55 (by omega) h49 (by omega) ak109258.2 ak109259.2), (by first | exact MTX.no (by unfold MTC; omega) rfl | exact MTX.er hmc hrt (by omega) (by omega) (by omega) (by omega) (by omega) (by omega) (by omega) ak109254.2 ak109263.2 ak109264.2 ak109255.2 ak109265.2 ak109266.2 ak109267.2 | exact MTX.ok hmc hrt (by omega) (by omega) (by omega) (by omega) (by omega) hm41 hm44 hm45 hm46 (by omega) ak109263.2 (by omega) ak109264.2 (by omega) ak109254.2 (by omega) (by omega) ak109255.2 ak109265.2 ak109266.2 ak109267.2 h53 h56 h57 h58 (by omega) (by omega) (by omega))⟩⟩
                    ·
                      refine GO.aload_n dX12_text_347 rfl rfl ?_
                      refine GO.getA (n := 180) h_x fl_RX12_142 rfl rfl rfl rfl dX12_text_348 (fun hv109278 h109277 => ?_)
                      refine GO.bipush dX12_text_351 rfl ?_
                      refine GO.iload dX12_text_353 rfl ?_
                      refine GO.imul dX12_text_355 ?_
                      refine GO.aload_n dX12_text_356 rfl rfl ?_
                      refine GO.getI h_x fl_RX12_535 rfl rfl dX12_text_357 (fun l109279 u109280 => ?_)
                      refine GO.iadd dX12_text_360 ?_
                      refine GO.iconst dX12_text_361 ?_
                      have q109281 : -2147483648 ≤ vi Wi108984 x 47 ∧ vi Wi108984 x 47 ≤ 2147483647 := vi_ir
                      refine GO.iast (t := 50) rfl rfl (by decide +kernel) h109277 ⟨by omega, by omega⟩ (by omega) (by omega) (ir_c rfl) (by decide) (by decide) dX12_text_362 (fun V109283 e109282 => ?_)
                      have k109284 := st_oth e109282 aq109219 h_x h109277 (by decide) (by decide)
                      have sS109285 : sd V109283 x = sd Wi108984 x := k109284.2.1.trans (rfl : sd Wi108984 x = sd Wi108984 x)
                      have sQ109286 : wt V109283 x = wt Wi108984 x := k109284.2.2.trans (rfl : wt Wi108984 x = wt Wi108984 x)
                      have ak109287 := tk_oth e109282 ak109221 h_x h109277 (by decide) (by decide) (rfl : ar 39 Wi108984 x = ar 39 Wi108984 x)
                      have ak109288 := tk_oth e109282 ak109222 h_x h109277 (by decide) (by decide) (rfl : ar 41 Wi108984 x = ar 41 Wi108984 x)
                      have ak109289 := tk_oth e109282 ak109223 h_x h109277 (by decide) (by decide) (rfl : ar 42 Wi108984 x = ar 42 Wi108984 x)
                      have ak109290 := tk_oth e109282 ak109224 h_x h109277 (by decide) (by decide) (rfl : ar 43 Wi108984 x = ar 43 Wi108984 x)
                      have ak109291 := tk_oth e109282 ak109225 h_x h109277 (by decide) (by decide) kp109206
                      have ak109292 := tk_oth e109282 ak109226 h_x h109277 (by decide) (by decide) kp109207
                      have ak109293 := tk_oth e109282 ak109227 h_x h109277 (by decide) (by decide) kp109208
                      have ak109294 := tk_oth e109282 ak109228 h_x h109277 (by decide) (by decide) kp109209
                      have ak109295 := tk_oth e109282 ak109229 h_x h109277 (by decide) (by decide) kp109210
                      have ak109296 := tk_oth e109282 ak109230 h_x h109277 (by decide) (by decide) kp109211
                      have ak109297 := tk_oth e109282 ak109231 h_x h109277 (by decide) (by decide) kp109212
                      have ak109298 := tk_oth e109282 ak109232 h_x h109277 (by decide) (by decide) (rfl : ar 44 Wi108984 x = ar 44 Wi108984 x)
                      have ak109299 := tk_oth e109282 ak109233 h_x h109277 (by decide) (by decide) (rfl : ar 45 Wi108984 x = ar 45 Wi108984 x)
                      have ak109300 := tk_oth e109282 ak109234 h_x h109277 (by decide) (by decide) (rfl : ar 46 Wi108984 x = ar 46 Wi108984 x)
                      have ak109301 := tk_oth e109282 ak109235 h_x h109277 (by decide) (by decide) kp109213
                      have ak109302 := tk_oth e109282 ak109236 h_x h109277 (by decide) (by decide) kp109214
                      have ak109303 := tk_oth e109282 ak109237 h_x h109277 (by decide) (by decide) kp109215
                      have ak109304 := tk_oth e109282 ak109238 h_x h109277 (by decide) (by decide) kp109216
                      have ak109305 := tk_oth e109282 ak109239 h_x h109277 (by decide) (by decide) kp109217
                      refine GO.iinc (X := i108984) (n := 1) (Y := i108984 + 1) (ls1 := [some (.ref x), some (ti p0), some (ti p1), some (ti p2), some (ti i183), some (ti (i108984 + 1)), none]) dX12_text_363 rfl rfl rfl rfl ?_
                      refine GO.goto (tgt := 340) dX12_text_366 (by decide) ?_
                      have e109306 : vi V109283 x 47 = vi Wi108984 x 47 := vi_up e109282 (Or.inl (K_ne h_x h109277 (by decide)))
                      have e109307 : vi V109283 x 48 = vi Wi108984 x 48 := vi_up e109282 (Or.inl (K_ne h_x h109277 (by decide)))
                      have q109308 : -2147483648 ≤ vi Wi108984 x 48 ∧ vi Wi108984 x 48 ≤ 2147483647 := vi_ir
                      have e109309 : vi V109283 x 30 = vi Wi108984 x 30 := vi_up e109282 (Or.inl (K_ne h_x h109277 (by decide)))
                      have q109310 : -2147483648 ≤ vi Wi108984 x 30 ∧ vi Wi108984 x 30 ≤ 2147483647 := vi_ir
                      exact ih109204 (i108984 + 1) V109283 ⟨by omega, by omega, by omega, ak109291.2, ak109292.2, ak109293.2, ak109294.2, ak109295.2, ak109296.2, ak109297.2, ak109301.2, ak109302.2, ak109303.2, ak109304.2, ak109305.2, trivial⟩ (by show (2147483647 - (i108984 + 1)).toNat < (2147483647 - i108984).toNat; omega)
                  ·
                    refine GO.bipush dX12_text_217 rfl ?_
                    refine GO.aload_n dX12_text_219 rfl rfl ?_
                    refine GO.getI h_x fl_RX12_535 rfl rfl dX12_text_220 (fun l109311 u109312 => ?_)
                    refine GO.imul dX12_text_223 ?_
                    refine GO.iload dX12_text_224 rfl ?_
                    refine GO.iadd dX12_text_226 ?_
                    refine GO.name (fun z109313 hz109314 => ?_)
                    refine GO.istore (ls1 := [some (.ref x), some (ti p0), some (ti p1), some (ti p2), some (ti i183), some (ti i104141), some (ti z109313)]) dX12_text_227 rfl rfl ?_
                    refine GO.aload_n dX12_text_229 rfl rfl ?_
                    refine GO.getA (n := 240) h_x fl_RX12_124 rfl rfl rfl rfl dX12_text_230 (fun hv109316 h109315 => ?_)
                    refine GO.iload dX12_text_233 rfl ?_
                    refine GO.aload_n dX12_text_235 rfl rfl ?_
                    refine GO.getA (n := 12) h_x fl_RX12_94 rfl rfl rfl rfl dX12_text_236 (fun hv109318 h109317 => ?_)
                    refine GO.iload dX12_text_239 rfl ?_
                    have hl41 : vi Wi104141 (vq Wi104141 x 41) (i104141).toNat = ar 41 V54988 x (i104141).toNat := (congrFun kp108947 (i104141).toNat).trans (congrFun hm41 (i104141).toNat).symm
                    have q109319 : -2147483648 ≤ vi Wi104141 x 47 ∧ vi Wi104141 x 47 ≤ 2147483647 := vi_ir
                    have q109320 : -2147483648 ≤ vi Wi104141 x 38 ∧ vi Wi104141 x 38 ≤ 2147483647 := vi_ir
                    refine GO.iald (t := 34) rfl rfl h109317 r_i104141 (by omega) (by omega) dX12_text_241 (fun _ _ => ?_)
                    refine GO.iast (t := 44) rfl rfl (by decide +kernel) h109315 ⟨by omega, by omega⟩ (by omega) (by omega) vi_ir (vi_ir).1 (vi_ir).2 dX12_text_242 (fun V109322 e109321 => ?_)
                    have k109323 := st_oth e109321 aq108960 h_x h109315 (by decide) (by decide)
                    have sS109324 : sd V109322 x = sd Wi104141 x := k109323.2.1.trans (rfl : sd Wi104141 x = sd Wi104141 x)
                    have sQ109325 : wt V109322 x = wt Wi104141 x := k109323.2.2.trans (rfl : wt Wi104141 x = wt Wi104141 x)
                    have ak109326 := tk_oth e109321 ak108962 h_x h109315 (by decide) (by decide) kp108946
                    have ak109327 := tk_oth e109321 ak108963 h_x h109315 (by decide) (by decide) kp108947
                    have ak109328 := tk_oth e109321 ak108964 h_x h109315 (by decide) (by decide) kp108948
                    have ak109329 := tk_oth e109321 ak108965 h_x h109315 (by decide) (by decide) kp108949
                    have ak109330 := tk_oth e109321 ak108966 h_x h109315 (by decide) (by decide) kp108950
                    have ak109331 := tk_oth e109321 ak108967 h_x h109315 (by decide) (by decide) kp108951
                    have ak109332 := tk_put e109321 ak108968 h_x (vq_of hv109316) vi_ir (rfl : ar 53 Wi104141 x = ar 53 Wi104141 x)
                    have ak109333 := tk_oth e109321 ak108969 h_x h109315 (by decide) (by decide) (rfl : ar 54 Wi104141 x = ar 54 Wi104141 x)
                    have ak109334 := tk_oth e109321 ak108970 h_x h109315 (by decide) (by decide) (rfl : ar 55 Wi104141 x = ar 55 Wi104141 x)
                    have ak109335 := tk_oth e109321 ak108971 h_x h109315 (by decide) (by decide) kp108952
                    have ak109336 := tk_oth e109321 ak108972 h_x h109315 (by decide) (by decide) kp108953
                    have ak109337 := tk_oth e109321 ak108973 h_x h109315 (by decide) (by decide) kp108954
                    have ak109338 := tk_oth e109321 ak108974 h_x h109315 (by decide) (by decide) kp108955
                    have ak109339 := tk_oth e109321 ak108975 h_x h109315 (by decide) (by decide) kp108956
                    have ak109340 := tk_oth e109321 ak108976 h_x h109315 (by decide) (by decide) kp108957
                    have ak109341 := tk_oth e109321 ak108977 h_x h109315 (by decide) (by decide) kp108958
                    have ak109342 := tk_oth e109321 ak108978 h_x h109315 (by decide) (by decide) (rfl : ar 56 Wi104141 x = ar 56 Wi104141 x)
                    have ak109343 := tk_oth e109321 ak108979 h_x h109315 (by decide) (by decide) (rfl : ar 57 Wi104141 x = ar 57 Wi104141 x)
                    have ak109344 := tk_oth e109321 ak108980 h_x h109315 (by decide) (by decide) (rfl : ar 58 Wi104141 x = ar 58 Wi104141 x)
                    refine GO.aload_n dX12_text_243 rfl rfl ?_
                    refine GO.getA (n := 240) h_x fl_RX12_127 rfl rfl rfl rfl dX12_text_244 (fun hv109346 h109345 => ?_)
                    refine GO.iload dX12_text_247 rfl ?_
                    refine GO.sipush dX12_text_249 rfl ?_
                    refine GO.aload_n dX12_text_252 rfl rfl ?_
                    refine GO.getI h_x fl_RX12_535 rfl rfl dX12_text_253 (fun l109347 u109348 => ?_)
                    have e109349 : vi V109322 x 47 = vi Wi104141 x 47 := vi_up e109321 (Or.inl (K_ne h_x h109315 (by decide)))
                    refine GO.imul dX12_text_256 ?_
                    refine GO.aload_n dX12_text_257 rfl rfl ?_
                    refine GO.getA (n := 12) h_x fl_RX12_97 rfl rfl rfl rfl dX12_text_258 (fun hv109351 h109350 => ?_)
                    refine GO.iload dX12_text_261 rfl ?_
                    have hl42 : vi V109322 (vq V109322 x 42) (i104141).toNat = ar 42 V54988 x (i104141).toNat := (congrFun ak109328.2 (i104141).toNat).trans (congrFun hm42 (i104141).toNat).symm
                    refine GO.iald (t := 35) rfl rfl h109350 r_i104141 (by omega) (by omega) dX12_text_263 (fun l109352 u109353 => ?_)
                    refine GO.iadd dX12_text_264 ?_
                    refine GO.iast (t := 45) rfl rfl (by decide +kernel) h109345 ⟨by omega, by omega⟩ (by omega) (by omega) ⟨by omega, by omega⟩ (by omega) (by omega) dX12_text_265 (fun V109356 e109355 => ?_)
                    have k109357 := st_oth e109355 k109323.1 h_x h109345 (by decide) (by decide)
                    have sS109358 : sd V109356 x = sd Wi104141 x := k109357.2.1.trans sS109324
                    have sQ109359 : wt V109356 x = wt Wi104141 x := k109357.2.2.trans sQ109325
                    have ak109360 := tk_oth e109355 ak109326.1 h_x h109345 (by decide) (by decide) ak109326.2
                    have ak109361 := tk_oth e109355 ak109327.1 h_x h109345 (by decide) (by decide) ak109327.2
                    have ak109362 := tk_oth e109355 ak109328.1 h_x h109345 (by decide) (by decide) ak109328.2
                    have ak109363 := tk_oth e109355 ak109329.1 h_x h109345 (by decide) (by decide) ak109329.2
                    have ak109364 := tk_oth e109355 ak109330.1 h_x h109345 (by decide) (by decide) ak109330.2
                    have ak109365 := tk_oth e109355 ak109331.1 h_x h109345 (by decide) (by decide) ak109331.2
                    have ak109366 := tk_oth e109355 ak109332.1 h_x h109345 (by decide) (by decide) ak109332.2
                    have ak109367 := tk_put e109355 ak109333.1 h_x (vq_of hv109346) ⟨by omega, by omega⟩ ak109333.2
                    have ak109368 := tk_oth e109355 ak109334.1 h_x h109345 (by decide) (by decide) ak109334.2
                    have ak109369 := tk_oth e109355 ak109335.1 h_x h109345 (by decide) (by decide) ak109335.2
                    have ak109370 := tk_oth e109355 ak109336.1 h_x h109345 (by decide) (by decide) ak109336.2
                    have ak109371 := tk_oth e109355 ak109337.1 h_x h109345 (by decide) (by decide) ak109337.2
                    have ak109372 := tk_oth e109355 ak109338.1 h_x h109345 (by decide) (by decide) ak109338.2
                    have ak109373 := tk_oth e109355 ak109339.1 h_x h109345 (by decide) (by decide) ak109339.2
                    have ak109374 := tk_oth e109355 ak109340.1 h_x h109345 (by decide) (by decide) ak109340.2
                    have ak109375 := tk_oth e109355 ak109341.1 h_x h109345 (by decide) (by decide) ak109341.2
                    have ak109376 := tk_oth e109355 ak109342.1 h_x h109345 (by decide) (by decide) ak109342.2
                    have ak109377 := tk_oth e109355 ak109343.1 h_x h109345 (by decide) (by decide) ak109343.2
                    have ak109378 := tk_oth e109355 ak109344.1 h_x h109345 (by decide) (by decide) ak109344.2
                    refine GO.aload_n dX12_text_266 rfl rfl ?_
                    refine GO.getA (n := 240) h_x fl_RX12_130 rfl rfl rfl rfl dX12_text_267 (fun hv109380 h109379 => ?_)
                    refine GO.iload dX12_text_270 rfl ?_
                    refine GO.sipush dX12_text_272 rfl ?_
                    refine GO.aload_n dX12_text_275 rfl rfl ?_
                    refine GO.getI h_x fl_RX12_535 rfl rfl dX12_text_276 (fun l109381 u109382 => ?_)
                    have e109383 : vi V109356 x 47 = vi V109322 x 47 := vi_up e109355 (Or.inl (K_ne h_x h109345 (by decide)))
                    refine GO.imul dX12_text_279 ?_
                    refine GO.aload_n dX12_text_280 rfl rfl ?_
                    refine GO.getA (n := 12) h_x fl_RX12_100 rfl rfl rfl rfl dX12_text_281 (fun hv109385 h109384 => ?_)
                    refine GO.iload dX12_text_284 rfl ?_
                    have hl43 : vi V109356 (vq V109356 x 43) (i104141).toNat = ar 43 V54988 x (i104141).toNat := (congrFun ak109363.2 (i104141).toNat).trans (congrFun hm43 (i104141).toNat).symm
                    refine GO.iald (t := 36) rfl rfl h109384 r_i104141 (by omega) (by omega) dX12_text_286 (fun l109386 u109387 => ?_)
                    refine GO.iadd dX12_text_287 ?_
                    refine GO.iast (t := 46) rfl rfl (by decide +kernel) h109379 ⟨by omega, by omega⟩ (by omega) (by omega) ⟨by omega, by omega⟩ (by omega) (by omega) dX12_text_288 (fun V109391 e109390 => ?_)
                    have k109392 := st_oth e109390 k109357.1 h_x h109379 (by decide) (by decide)
                    have sS109393 : sd V109391 x = sd Wi104141 x := k109392.2.1.trans sS109358
                    have sQ109394 : wt V109391 x = wt Wi104141 x := k109392.2.2.trans sQ109359
                    have ak109395 := tk_oth e109390 ak109360.1 h_x h109379 (by decide) (by decide) ak109360.2
                    have ak109396 := tk_oth e109390 ak109361.1 h_x h109379 (by decide) (by decide) ak109361.2
                    have ak109397 := tk_oth e109390 ak109362.1 h_x h109379 (by decide) (by decide) ak109362.2
                    have ak109398 := tk_oth e109390 ak109363.1 h_x h109379 (by decide) (by decide) ak109363.2
                    have ak109399 := tk_oth e109390 ak109364.1 h_x h109379 (by decide) (by decide) ak109364.2
                    have ak109400 := tk_oth e109390 ak109365.1 h_x h109379 (by decide) (by decide) ak109365.2
                    have ak109401 := tk_oth e109390 ak109366.1 h_x h109379 (by decide) (by decide) ak109366.2
                    have ak109402 := tk_oth e109390 ak109367.1 h_x h109379 (by decide) (by decide) ak109367.2
                    have ak109403 := tk_put e109390 ak109368.1 h_x (vq_of hv109380) ⟨by omega, by omega⟩ ak109368.2
                    have ak109404 := tk_oth e109390 ak109369.1 h_x h109379 (by decide) (by decide) ak109369.2
                    have ak109405 := tk_oth e109390 ak109370.1 h_x h109379 (by decide) (by decide) ak109370.2
                    have ak109406 := tk_oth e109390 ak109371.1 h_x h109379 (by decide) (by decide) ak109371.2
                    have ak109407 := tk_oth e109390 ak109372.1 h_x h109379 (by decide) (by decide) ak109372.2
                    have ak109408 := tk_oth e109390 ak109373.1 h_x h109379 (by decide) (by decide) ak109373.2
                    have ak109409 := tk_oth e109390 ak109374.1 h_x h109379 (by decide) (by decide) ak109374.2
                    have ak109410 := tk_oth e109390 ak109375.1 h_x h109379 (by decide) (by decide) ak109375.2
                    have ak109411 := tk_oth e109390 ak109376.1 h_x h109379 (by decide) (by decide) ak109376.2
                    have ak109412 := tk_oth e109390 ak109377.1 h_x h109379 (by decide) (by decide) ak109377.2
                    have ak109413 := tk_oth e109390 ak109378.1 h_x h109379 (by decide) (by decide) ak109378.2
                    refine GO.aload_n dX12_text_289 rfl rfl ?_
                    refine GO.getA (n := 240) h_x fl_RX12_133 rfl rfl rfl rfl dX12_text_290 (fun hv109415 h109414 => ?_)
                    refine GO.iload dX12_text_293 rfl ?_
                    refine GO.aload_n dX12_text_295 rfl rfl ?_
                    refine GO.getA (n := 12) h_x fl_RX12_103 rfl rfl rfl rfl dX12_text_296 (fun hv109417 h109416 => ?_)
                    refine GO.iload dX12_text_299 rfl ?_
                    have hl44 : vi V109391 (vq V109391 x 44) (i104141).toNat = ar 44 V54988 x (i104141).toNat := (congrFun ak109406.2 (i104141).toNat).trans (congrFun hm44 (i104141).toNat).symm
                    refine GO.iald (t := 37) rfl rfl h109416 r_i104141 (by omega) (by omega) dX12_text_301 (fun _ _ => ?_)
                    refine GO.iast (t := 47) rfl rfl (by decide +kernel) h109414 ⟨by omega, by omega⟩ (by omega) (by omega) vi_ir (vi_ir).1 (vi_ir).2 dX12_text_302 (fun V109422 e109421 => ?_)
                    have k109423 := st_oth e109421 k109392.1 h_x h109414 (by decide) (by decide)
                    have sS109424 : sd V109422 x = sd Wi104141 x := k109423.2.1.trans sS109393
                    have sQ109425 : wt V109422 x = wt Wi104141 x := k109423.2.2.trans sQ109394
                    have ak109426 := tk_oth e109421 ak109395.1 h_x h109414 (by decide) (by decide) ak109395.2
                    have ak109427 := tk_oth e109421 ak109396.1 h_x h109414 (by decide) (by decide) ak109396.2
                    have ak109428 := tk_oth e109421 ak109397.1 h_x h109414 (by decide) (by decide) ak109397.2
                    have ak109429 := tk_oth e109421 ak109398.1 h_x h109414 (by decide) (by decide) ak109398.2
                    have ak109430 := tk_oth e109421 ak109399.1 h_x h109414 (by decide) (by decide) ak109399.2
                    have ak109431 := tk_oth e109421 ak109400.1 h_x h109414 (by decide) (by decide) ak109400.2
                    have ak109432 := tk_oth e109421 ak109401.1 h_x h109414 (by decide) (by decide) ak109401.2
                    have ak109433 := tk_oth e109421 ak109402.1 h_x h109414 (by decide) (by decide) ak109402.2
                    have ak109434 := tk_oth e109421 ak109403.1 h_x h109414 (by decide) (by decide) ak109403.2
                    have ak109435 := tk_oth e109421 ak109404.1 h_x h109414 (by decide) (by decide) ak109404.2
                    have ak109436 := tk_oth e109421 ak109405.1 h_x h109414 (by decide) (by decide) ak109405.2
                    have ak109437 := tk_oth e109421 ak109406.1 h_x h109414 (by decide) (by decide) ak109406.2
                    have ak109438 := tk_oth e109421 ak109407.1 h_x h109414 (by decide) (by decide) ak109407.2
                    have ak109439 := tk_oth e109421 ak109408.1 h_x h109414 (by decide) (by decide) ak109408.2
                    have ak109440 := tk_oth e109421 ak109409.1 h_x h109414 (by decide) (by decide) ak109409.2
                    have ak109441 := tk_oth e109421 ak109410.1 h_x h109414 (by decide) (by decide) ak109410.2
                    have ak109442 := tk_put e109421 ak109411.1 h_x (vq_of hv109415) vi_ir ak109411.2
                    have ak109443 := tk_oth e109421 ak109412.1 h_x h109414 (by decide) (by decide) ak109412.2
                    have ak109444 := tk_oth e109421 ak109413.1 h_x h109414 (by decide) (by decide) ak109413.2
                    refine GO.aload_n dX12_text_303 rfl rfl ?_
                    refine GO.getA (n := 240) h_x fl_RX12_136 rfl rfl rfl rfl dX12_text_304 (fun hv109446 h109445 => ?_)
                    refine GO.iload dX12_text_307 rfl ?_
                    refine GO.aload_n dX12_text_309 rfl rfl ?_
                    refine GO.getA (n := 12) h_x fl_RX12_106 rfl rfl rfl rfl dX12_text_310 (fun hv109448 h109447 => ?_)
                    refine GO.iload dX12_text_313 rfl ?_
                    have hl45 : vi V109422 (vq V109422 x 45) (i104141).toNat = ar 45 V54988 x (i104141).toNat := (congrFun ak109438.2 (i104141).toNat).trans (congrFun hm45 (i104141).toNat).symm
                    refine GO.iald (t := 38) rfl rfl h109447 r_i104141 (by omega) (by omega) dX12_text_315 (fun l109449 u109450 => ?_)
                    refine GO.iast (t := 48) rfl rfl (by decide +kernel) h109445 ⟨by omega, by omega⟩ (by omega) (by omega) vi_ir (by omega) (by omega) dX12_text_316 (fun V109456 e109455 => ?_)
                    have k109457 := st_oth e109455 k109423.1 h_x h109445 (by decide) (by decide)
                    have sS109458 : sd V109456 x = sd Wi104141 x := k109457.2.1.trans sS109424
                    have sQ109459 : wt V109456 x = wt Wi104141 x := k109457.2.2.trans sQ109425
                    have ak109460 := tk_oth e109455 ak109426.1 h_x h109445 (by decide) (by decide) ak109426.2
                    have ak109461 := tk_oth e109455 ak109427.1 h_x h109445 (by decide) (by decide) ak109427.2
                    have ak109462 := tk_oth e109455 ak109428.1 h_x h109445 (by decide) (by decide) ak109428.2
                    have ak109463 := tk_oth e109455 ak109429.1 h_x h109445 (by decide) (by decide) ak109429.2
                    have ak109464 := tk_oth e109455 ak109430.1 h_x h109445 (by decide) (by decide) ak109430.2
                    have ak109465 := tk_oth e109455 ak109431.1 h_x h109445 (by decide) (by decide) ak109431.2
                    have ak109466 := tk_oth e109455 ak109432.1 h_x h109445 (by decide) (by decide) ak109432.2
                    have ak109467 := tk_oth e109455 ak109433.1 h_x h109445 (by decide) (by decide) ak109433.2
                    have ak109468 := tk_oth e109455 ak109434.1 h_x h109445 (by decide) (by decide) ak109434.2
                    have ak109469 := tk_oth e109455 ak109435.1 h_x h109445 (by decide) (by decide) ak109435.2
                    have ak109470 := tk_oth e109455 ak109436.1 h_x h109445 (by decide) (by decide) ak109436.2
                    have ak109471 := tk_oth e109455 ak109437.1 h_x h109445 (by decide) (by decide) ak109437.2
                    have ak109472 := tk_oth e109455 ak109438.1 h_x h109445 (by decide) (by decide) ak109438.2
                    have ak109473 := tk_oth e109455 ak109439.1 h_x h109445 (by decide) (by decide) ak109439.2
                    have ak109474 := tk_oth e109455 ak109440.1 h_x h109445 (by decide) (by decide) ak109440.2
                    have ak109475 := tk_oth e109455 ak109441.1 h_x h109445 (by decide) (by decide) ak109441.2
                    have ak109476 := tk_oth e109455 ak109442.1 h_x h109445 (by decide) (by decide) ak109442.2
                    have ak109477 := tk_put e109455 ak109443.1 h_x (vq_of hv109446) vi_ir ak109443.2
                    have ak109478 := tk_oth e109455 ak109444.1 h_x h109445 (by decide) (by decide) ak109444.2
                    refine GO.aload_n dX12_text_317 rfl rfl ?_
                    refine GO.getA (n := 240) h_x fl_RX12_139 rfl rfl rfl rfl dX12_text_318 (fun hv109480 h109479 => ?_)
                    refine GO.iload dX12_text_321 rfl ?_
                    refine GO.aload_n dX12_text_323 rfl rfl ?_
                    refine GO.getA (n := 12) h_x fl_RX12_109 rfl rfl rfl rfl dX12_text_324 (fun hv109482 h109481 => ?_)
                    refine GO.iload dX12_text_327 rfl ?_
                    have hl46 : vi V109456 (vq V109456 x 46) (i104141).toNat = ar 46 V54988 x (i104141).toNat := (congrFun ak109473.2 (i104141).toNat).trans (congrFun hm46 (i104141).toNat).symm
                    refine GO.iald (t := 39) rfl rfl h109481 r_i104141 (by omega) (by omega) dX12_text_329 (fun l109483 u109484 => ?_)
                    refine GO.iast (t := 49) rfl rfl (by decide +kernel) h109479 ⟨by omega, by omega⟩ (by omega) (by omega) vi_ir (by omega) (by omega) dX12_text_330 (fun V109491 e109490 => ?_)
                    have k109492 := st_oth e109490 k109457.1 h_x h109479 (by decide) (by decide)
                    have sS109493 : sd V109491 x = sd Wi104141 x := k109492.2.1.trans sS109458
                    have sQ109494 : wt V109491 x = wt Wi104141 x := k109492.2.2.trans sQ109459
                    have ak109495 := tk_oth e109490 ak109460.1 h_x h109479 (by decide) (by decide) ak109460.2
                    have ak109496 := tk_oth e109490 ak109461.1 h_x h109479 (by decide) (by decide) ak109461.2
                    have ak109497 := tk_oth e109490 ak109462.1 h_x h109479 (by decide) (by decide) ak109462.2
                    have ak109498 := tk_oth e109490 ak109463.1 h_x h109479 (by decide) (by decide) ak109463.2
                    have ak109499 := tk_oth e109490 ak109464.1 h_x h109479 (by decide) (by decide) ak109464.2
                    have ak109500 := tk_oth e109490 ak109465.1 h_x h109479 (by decide) (by decide) ak109465.2
                    have ak109501 := tk_oth e109490 ak109466.1 h_x h109479 (by decide) (by decide) ak109466.2
                    have ak109502 := tk_oth e109490 ak109467.1 h_x h109479 (by decide) (by decide) ak109467.2
                    have ak109503 := tk_oth e109490 ak109468.1 h_x h109479 (by decide) (by decide) ak109468.2
                    have ak109504 := tk_oth e109490 ak109469.1 h_x h109479 (by decide) (by decide) ak109469.2
                    have ak109505 := tk_oth e109490 ak109470.1 h_x h109479 (by decide) (by decide) ak109470.2
                    have ak109506 := tk_oth e109490 ak109471.1 h_x h109479 (by decide) (by decide) ak109471.2
                    have ak109507 := tk_oth e109490 ak109472.1 h_x h109479 (by decide) (by decide) ak109472.2
                    have ak109508 := tk_oth e109490 ak109473.1 h_x h109479 (by decide) (by decide) ak109473.2
                    have ak109509 := tk_oth e109490 ak109474.1 h_x h109479 (by decide) (by decide) ak109474.2
                    have ak109510 := tk_oth e109490 ak109475.1 h_x h109479 (by decide) (by decide) ak109475.2
                    have ak109511 := tk_oth e109490 ak109476.1 h_x h109479 (by decide) (by decide) ak109476.2
                    have ak109512 := tk_oth e109490 ak109477.1 h_x h109479 (by decide) (by decide) ak109477.2
                    have ak109513 := tk_put e109490 ak109478.1 h_x (vq_of hv109480) vi_ir ak109478.2
                    refine GO.iinc (X := i104141) (n := 1) (Y := i104141 + 1) (ls1 := [some (.ref x), some (ti p0), some (ti p1), some (ti p2), some (ti i183), some (ti (i104141 + 1)), some (ti z109313)]) dX12_text_331 rfl rfl rfl rfl ?_
                    refine GO.goto (tgt := 208) dX12_text_334 (by decide) ?_
                    refine GO.drop [true, true, true, true, true, true, false] rfl ?_
                    have e109517 : vi V109391 x 47 = vi V109356 x 47 := vi_up e109390 (Or.inl (K_ne h_x h109379 (by decide)))
                    have e109516 : vi V109422 x 47 = vi V109391 x 47 := vi_up e109421 (Or.inl (K_ne h_x h109414 (by decide)))
                    have e109515 : vi V109456 x 47 = vi V109422 x 47 := vi_up e109455 (Or.inl (K_ne h_x h109445 (by decide)))
                    have e109514 : vi V109491 x 47 = vi V109456 x 47 := vi_up e109490 (Or.inl (K_ne h_x h109479 (by decide)))
                    have e109523 : vi V109322 x 48 = vi Wi104141 x 48 := vi_up e109321 (Or.inl (K_ne h_x h109315 (by decide)))
                    have e109522 : vi V109356 x 48 = vi V109322 x 48 := vi_up e109355 (Or.inl (K_ne h_x h109345 (by decide)))
                    have e109521 : vi V109391 x 48 = vi V109356 x 48 := vi_up e109390 (Or.inl (K_ne h_x h109379 (by decide)))
                    have e109520 : vi V109422 x 48 = vi V109391 x 48 := vi_up e109421 (Or.inl (K_ne h_x h109414 (by decide)))
                    have e109519 : vi V109456 x 48 = vi V109422 x 48 := vi_up e109455 (Or.inl (K_ne h_x h109445 (by decide)))
                    have e109518 : vi V109491 x 48 = vi V109456 x 48 := vi_up e109490 (Or.inl (K_ne h_x h109479 (by decide)))
                    have q109524 : -2147483648 ≤ vi Wi104141 x 48 ∧ vi Wi104141 x 48 ≤ 2147483647 := vi_ir
                    have e109530 : vi V109322 x 36 = vi Wi104141 x 36 := vi_up e109321 (Or.inl (K_ne h_x h109315 (by decide)))
                    have e109529 : vi V109356 x 36 = vi V109322 x 36 := vi_up e109355 (Or.inl (K_ne h_x h109345 (by decide)))
                    have e109528 : vi V109391 x 36 = vi V109356 x 36 := vi_up e109390 (Or.inl (K_ne h_x h109379 (by decide)))
                    have e109527 : vi V109422 x 36 = vi V109391 x 36 := vi_up e109421 (Or.inl (K_ne h_x h109414 (by decide)))
                    have e109526 : vi V109456 x 36 = vi V109422 x 36 := vi_up e109455 (Or.inl (K_ne h_x h109445 (by decide)))
                    have e109525 : vi V109491 x 36 = vi V109456 x 36 := vi_up e109490 (Or.inl (K_ne h_x h109479 (by decide)))
                    have q109531 : -2147483648 ≤ vi Wi104141 x 36 ∧ vi Wi104141 x 36 ≤ 2147483647 := vi_ir
                    have e109537 : vi V109322 x 38 = vi Wi104141 x 38 := vi_up e109321 (Or.inl (K_ne h_x h109315 (by decide)))
                    have e109536 : vi V109356 x 38 = vi V109322 x 38 := vi_up e109355 (Or.inl (K_ne h_x h109345 (by decide)))
                    have e109535 : vi V109391 x 38 = vi V109356 x 38 := vi_up e109390 (Or.inl (K_ne h_x h109379 (by decide)))
                    have e109534 : vi V109422 x 38 = vi V109391 x 38 := vi_up e109421 (Or.inl (K_ne h_x h109414 (by decide)))
                    have e109533 : vi V109456 x 38 = vi V109422 x 38 := vi_up e109455 (Or.inl (K_ne h_x h109445 (by decide)))
                    have e109532 : vi V109491 x 38 = vi V109456 x 38 := vi_up e109490 (Or.inl (K_ne h_x h109479 (by decide)))
                    have e109543 : vi V109322 x 30 = vi Wi104141 x 30 := vi_up e109321 (Or.inl (K_ne h_x h109315 (by decide)))
                    have e109542 : vi V109356 x 30 = vi V109322 x 30 := vi_up e109355 (Or.inl (K_ne h_x h109345 (by decide)))
                    have e109541 : vi V109391 x 30 = vi V109356 x 30 := vi_up e109390 (Or.inl (K_ne h_x h109379 (by decide)))
                    have e109540 : vi V109422 x 30 = vi V109391 x 30 := vi_up e109421 (Or.inl (K_ne h_x h109414 (by decide)))
                    have e109539 : vi V109456 x 30 = vi V109422 x 30 := vi_up e109455 (Or.inl (K_ne h_x h109445 (by decide)))
                    have e109538 : vi V109491 x 30 = vi V109456 x 30 := vi_up e109490 (Or.inl (K_ne h_x h109479 (by decide)))
                    have q109544 : -2147483648 ≤ vi Wi104141 x 30 ∧ vi Wi104141 x 30 ≤ 2147483647 := vi_ir
                    exact ih108944 (i104141 + 1) V109491 ⟨by omega, by omega, by omega, (by first | exact CPf.rf.at ak109501.2 | exact CPf.put h53 (by omega) (by omega) ak109501.2 (by omega) (by omega) (by omega)), (by first | exact CPf.rf.at ak109502.2 | exact CPf.put h54 (by omega) (by omega) ak109502.2 (by omega) (by omega) (by omega)), (by first | exact CPf.rf.at ak109503.2 | exact CPf.put h55 (by omega) (by omega) ak109503.2 (by omega) (by omega) (by omega)), (by first | exact CPf.rf.at ak109511.2 | exact CPf.put h56 (by omega) (by omega) ak109511.2 (by omega) (by omega) (by omega)), (by first | exact CPf.rf.at ak109512.2 | exact CPf.put h57 (by omega) (by omega) ak109512.2 (by omega) (by omega) (by omega)), (by first | exact CPf.rf.at ak109513.2 | exact CPf.put h58 (by omega) (by omega) ak109513.2 (by omega) (by omega) (by omega)), ak109495.2, ak109496.2, ak109497.2, ak109498.2, ak109499.2, ak109500.2, ak109504.2, ak109505.2, ak109506.2, ak109507.2, ak109508.2, ak109509.2, ak109510.2, trivial⟩ (by show (2147483647 - (i104141 + 1)).toNat < (2147483647 - i104141).toNat; omega)
                ·
                  refine GO.aload_n dX12_text_176 rfl rfl ?_
                  refine GO.getA (n := 4400) h_x fl_RX12_112 rfl rfl rfl rfl dX12_text_177 (fun hv109546 h109545 => ?_)
                  refine GO.sipush dX12_text_180 rfl ?_
                  refine GO.aload_n dX12_text_183 rfl rfl ?_
                  refine GO.getI h_x fl_RX12_535 rfl rfl dX12_text_184 (fun l109547 u109548 => ?_)
                  refine GO.imul dX12_text_187 ?_
                  refine GO.iload dX12_text_188 rfl ?_
                  refine GO.iadd dX12_text_190 ?_
                  refine GO.aload_n dX12_text_191 rfl rfl ?_
                  refine GO.getA (n := 220) h_x fl_RX12_88 rfl rfl rfl rfl dX12_text_192 (fun hv109550 h109549 => ?_)
                  refine GO.iload dX12_text_195 rfl ?_
                  have hl39 : vi Wi55111 (vq Wi55111 x 39) (i55111).toNat = ar 39 V54988 x (i55111).toNat := (congrFun kp104098 (i55111).toNat).trans (congrFun hm39 (i55111).toNat).symm
                  have q109551 : -2147483648 ≤ vi Wi55111 x 36 ∧ vi Wi55111 x 36 ≤ 2147483647 := vi_ir
                  refine GO.iald (t := 32) rfl rfl h109549 r_i55111 (by omega) (by omega) dX12_text_197 (fun l109552 u109553 => ?_)
                  have q109554 : -2147483648 ≤ vi Wi55111 x 47 ∧ vi Wi55111 x 47 ≤ 2147483647 := vi_ir
                  refine GO.iast (t := 40) rfl rfl (by decide +kernel) h109545 ⟨by omega, by omega⟩ (by omega) (by omega) vi_ir (by omega) (by omega) dX12_text_198 (fun V109556 e109555 => ?_)
                  have k109557 := st_oth e109555 aq104117 h_x h109545 (by decide) (by decide)
                  have sS109558 : sd V109556 x = sd Wi55111 x := k109557.2.1.trans (rfl : sd Wi55111 x = sd Wi55111 x)
                  have sQ109559 : wt V109556 x = wt Wi55111 x := k109557.2.2.trans (rfl : wt Wi55111 x = wt Wi55111 x)
                  have ak109560 := tk_oth e109555 ak104119 h_x h109545 (by decide) (by decide) kp104098
                  have ak109561 := tk_oth e109555 ak104120 h_x h109545 (by decide) (by decide) kp104099
                  have ak109562 := tk_oth e109555 ak104121 h_x h109545 (by decide) (by decide) kp104100
                  have ak109563 := tk_oth e109555 ak104122 h_x h109545 (by decide) (by decide) kp104101
                  have ak109564 := tk_put e109555 ak104123 h_x (vq_of hv109546) vi_ir (rfl : ar 49 Wi55111 x = ar 49 Wi55111 x)
                  have ak109565 := tk_oth e109555 ak104124 h_x h109545 (by decide) (by decide) kp104102
                  have ak109566 := tk_oth e109555 ak104125 h_x h109545 (by decide) (by decide) kp104103
                  have ak109567 := tk_oth e109555 ak104126 h_x h109545 (by decide) (by decide) kp104104
                  have ak109568 := tk_oth e109555 ak104127 h_x h109545 (by decide) (by decide) kp104105
                  have ak109569 := tk_oth e109555 ak104128 h_x h109545 (by decide) (by decide) kp104106
                  have ak109570 := tk_oth e109555 ak104129 h_x h109545 (by decide) (by decide) kp104107
                  have ak109571 := tk_oth e109555 ak104130 h_x h109545 (by decide) (by decide) kp104108
                  have ak109572 := tk_oth e109555 ak104131 h_x h109545 (by decide) (by decide) kp104109
                  have ak109573 := tk_oth e109555 ak104132 h_x h109545 (by decide) (by decide) kp104110
                  have ak109574 := tk_oth e109555 ak104133 h_x h109545 (by decide) (by decide) kp104111
                  have ak109575 := tk_oth e109555 ak104134 h_x h109545 (by decide) (by decide) kp104112
                  have ak109576 := tk_oth e109555 ak104135 h_x h109545 (by decide) (by decide) kp104113
                  have ak109577 := tk_oth e109555 ak104136 h_x h109545 (by decide) (by decide) kp104114
                  have ak109578 := tk_oth e109555 ak104137 h_x h109545 (by decide) (by decide) kp104115
                  refine GO.iinc (X := i55111) (n := 1) (Y := i55111 + 1) (ls1 := [some (.ref x), some (ti p0), some (ti p1), some (ti p2), some (ti i183), some (ti (i55111 + 1)), none]) dX12_text_199 rfl rfl rfl rfl ?_
                  refine GO.goto (tgt := 167) dX12_text_202 (by decide) ?_
                  have e109579 : vi V109556 x 47 = vi Wi55111 x 47 := vi_up e109555 (Or.inl (K_ne h_x h109545 (by decide)))
                  have e109580 : vi V109556 x 48 = vi Wi55111 x 48 := vi_up e109555 (Or.inl (K_ne h_x h109545 (by decide)))
                  have q109581 : -2147483648 ≤ vi Wi55111 x 48 ∧ vi Wi55111 x 48 ≤ 2147483647 := vi_ir
                  have e109582 : vi V109556 x 36 = vi Wi55111 x 36 := vi_up e109555 (Or.inl (K_ne h_x h109545 (by decide)))
                  have e109583 : vi V109556 x 38 = vi Wi55111 x 38 := vi_up e109555 (Or.inl (K_ne h_x h109545 (by decide)))
                  have q109584 : -2147483648 ≤ vi Wi55111 x 38 ∧ vi Wi55111 x 38 ≤ 2147483647 := vi_ir
                  have e109585 : vi V109556 x 30 = vi Wi55111 x 30 := vi_up e109555 (Or.inl (K_ne h_x h109545 (by decide)))
                  have q109586 : -2147483648 ≤ vi Wi55111 x 30 ∧ vi Wi55111 x 30 ≤ 2147483647 := vi_ir
                  exact ih104096 (i55111 + 1) V109556 ⟨by omega, by omega, by omega, (by first | exact CPf.rf.at ak109564.2 | exact CPf.put h49 (by omega) (by omega) ak109564.2 (by omega) (by omega) (by omega)), ak109560.2, ak109561.2, ak109562.2, ak109563.2, ak109565.2, ak109566.2, ak109567.2, ak109568.2, ak109569.2, ak109570.2, ak109571.2, ak109572.2, ak109573.2, ak109574.2, ak109575.2, ak109576.2, ak109577.2, ak109578.2, trivial⟩ (by show (2147483647 - (i55111 + 1)).toNat < (2147483647 - i55111).toNat; omega)
              ·
                refine GO.aload_n dX12_text_90 rfl rfl ?_
                refine GO.bipush dX12_text_91 rfl ?_
                refine GO.callV (ci := 11) (N := mX12_takes) dX12_text_93 (RX12, TX12, 151) rfl gV_RX12_532 h_x (t_X12_takes h_x (ir_c rfl) (by omega)) rfl [] rfl rfl (Nat.le_of_ble_eq_true rfl) rfl (k_is fun X109587 V109591 r109588 h109589 hF109590 => ?_)
                have k109592 := st_fr hF109590 aq54926 h_x (by decide +kernel) (by decide +kernel) (by decide +kernel) (by decide +kernel)
                have sS109593 : sd V109591 x = sd Wi183 x := k109592.2.1.trans (rfl : sd Wi183 x = sd Wi183 x)
                have sQ109594 : wt V109591 x = wt Wi183 x := k109592.2.2.trans (rfl : wt Wi183 x = wt Wi183 x)
                have ak109595 := tk_fr hF109590 ak54928 h_x (by decide +kernel) (by decide +kernel) (rfl : ar 39 Wi183 x = ar 39 Wi183 x)
                have ak109596 := tk_fr hF109590 ak54929 h_x (by decide +kernel) (by decide +kernel) (rfl : ar 41 Wi183 x = ar 41 Wi183 x)
                have ak109597 := tk_fr hF109590 ak54930 h_x (by decide +kernel) (by decide +kernel) (rfl : ar 42 Wi183 x = ar 42 Wi183 x)
                have ak109598 := tk_fr hF109590 ak54931 h_x (by decide +kernel) (by decide +kernel) (rfl : ar 43 Wi183 x = ar 43 Wi183 x)
                have ak109599 := tk_fr hF109590 ak54932 h_x (by decide +kernel) (by decide +kernel) kp54913
                have ak109600 := tk_fr hF109590 ak54933 h_x (by decide +kernel) (by decide +kernel) kp54914
                have ak109601 := tk_fr hF109590 ak54934 h_x (by decide +kernel) (by decide +kernel) kp54915
                have ak109602 := tk_fr hF109590 ak54935 h_x (by decide +kernel) (by decide +kernel) kp54916
                have ak109603 := tk_fr hF109590 ak54936 h_x (by decide +kernel) (by decide +kernel) kp54917
                have ak109604 := tk_fr hF109590 ak54937 h_x (by decide +kernel) (by decide +kernel) kp54918
                have ak109605 := tk_fr hF109590 ak54938 h_x (by decide +kernel) (by decide +kernel) kp54919
                have ak109606 := tk_fr hF109590 ak54939 h_x (by decide +kernel) (by decide +kernel) (rfl : ar 44 Wi183 x = ar 44 Wi183 x)
                have ak109607 := tk_fr hF109590 ak54940 h_x (by decide +kernel) (by decide +kernel) (rfl : ar 45 Wi183 x = ar 45 Wi183 x)
                have ak109608 := tk_fr hF109590 ak54941 h_x (by decide +kernel) (by decide +kernel) (rfl : ar 46 Wi183 x = ar 46 Wi183 x)
                have ak109609 := tk_fr hF109590 ak54942 h_x (by decide +kernel) (by decide +kernel) kp54920
                have ak109610 := tk_fr hF109590 ak54943 h_x (by decide +kernel) (by decide +kernel) kp54921
                have ak109611 := tk_fr hF109590 ak54944 h_x (by decide +kernel) (by decide +kernel) kp54922
                have ak109612 := tk_fr hF109590 ak54945 h_x (by decide +kernel) (by decide +kernel) kp54923
                have ak109613 := tk_fr hF109590 ak54946 h_x (by decide +kernel) (by decide +kernel) kp54924
                have rq0_93 := h109589.2.2.2
                refine GO.if_eq (tgt := 110) dX12_text_96 (by decide) r109588 (fun c109615 => ?_) (fun c109615 => ?_)
                ·
                  have e109616 : vi V109591 x 32 = vi Wi183 x 32 := vi_fr hF109590 h_x h_x (by decide +kernel)
                  have e109617 : vi V109591 x 36 = vi Wi183 x 36 := vi_fr hF109590 h_x h_x (by decide +kernel)
                  have e109618 : vi V109591 x 37 = vi Wi183 x 37 := vi_fr hF109590 h_x h_x (by decide +kernel)
                  refine GO.useWT (fun hWb => ?_)
                  have hrb := hWb.rd h_x
                  refine GO.iconst dX12_text_110 ?_
                  refine GO.istore (ls1 := [some (.ref x), some (ti p0), some (ti p1), some (ti p2), some (ti 0), none, none]) dX12_text_111 rfl rfl ?_
                  refine GO.goto (tgt := 74) dX12_text_113 (by decide) ?_
                  have e109619 : vi V109591 x 47 = vi Wi183 x 47 := vi_fr hF109590 h_x h_x (by decide +kernel)
                  have q109620 : -2147483648 ≤ vi Wi183 x 47 ∧ vi Wi183 x 47 ≤ 2147483647 := vi_ir
                  have e109621 : vi V109591 x 48 = vi Wi183 x 48 := vi_fr hF109590 h_x h_x (by decide +kernel)
                  have q109622 : -2147483648 ≤ vi Wi183 x 48 ∧ vi Wi183 x 48 ≤ 2147483647 := vi_ir
                  have q109623 : -2147483648 ≤ vi Wi183 x 36 ∧ vi Wi183 x 36 ≤ 2147483647 := vi_ir
                  have q109624 : -2147483648 ≤ vi Wi183 x 31 ∧ vi Wi183 x 31 ≤ 2147483647 := vi_ir
                  have q109625 : -2147483648 ≤ vi Wi183 x 32 ∧ vi Wi183 x 32 ≤ 2147483647 := vi_ir
                  have q109626 : -2147483648 ≤ vi V109591 x 31 ∧ vi V109591 x 31 ≤ 2147483647 := vi_ir
                  exact ih54911 0 V109591 ⟨by omega, by omega, by omega, (by first | exact fun h => raw_readsClause (by omega) | exact fun h => absurd rfl h | exact fun h => absurd h (by omega)), (by first | exact RTI.beg hT0 (by omega) (by omega) rq0_69 | exact RTI.bad hrt (by omega) hTp (by omega) (by omega) (rq0_93.2 (by omega)).1 (rq0_93.2 (by omega)).2 rfl | exact RTI.step hrt (by omega) hTp (by omega) (by omega) (rq0_93.1 (by omega)).1 (rq0_93.1 (by omega)).2 (by omega) hs9 (by omega) h41 h44 h45 h46 hT9 (by omega) rq0_100 (by constructor <;> intro _ <;> omega)), ak109599.2, ak109600.2, ak109601.2, ak109602.2, ak109603.2, ak109604.2, ak109605.2, ak109609.2, ak109610.2, ak109611.2, ak109612.2, ak109613.2, trivial⟩ (by show (((1000 * 0) + (vi V109591 x 32 - vi V109591 x 31))).toNat < (((1000 * i183) + (vi Wi183 x 32 - vi Wi183 x 31))).toNat; omega)
                ·
                  have q109627 := h109589.2.1 (by omega)
                  have e109628 : vi V109591 x 38 = vi Wi183 x 38 := vi_fr hF109590 h_x h_x (by decide +kernel)
                  have e109629 : vi V109591 x 36 = vi Wi183 x 36 := vi_fr hF109590 h_x h_x (by decide +kernel)
                  have e109630 : vi V109591 x 32 = vi Wi183 x 32 := vi_fr hF109590 h_x h_x (by decide +kernel)
                  have hs9 := sS109593
                  have h41 := ak109596.2
                  have h44 := ak109606.2
                  have h45 := ak109607.2
                  have h46 := ak109608.2
                  refine GO.useFR (fun hFs => ?_)
                  have hT9 : ∀ src, SRM V x (p2).toNat src → TP V109591 x src (p2).toNat := fun src h => TP.of hFs h_x hW_0 (by decide +kernel) (by decide +kernel) (by omega) h
                  refine GO.aload_n dX12_text_99 rfl rfl ?_
                  have q109631 : -2147483648 ≤ vi V109591 x 31 ∧ vi V109591 x 31 ≤ 2147483647 := vi_ir
                  have q109632 : -2147483648 ≤ vi Wi183 x 31 ∧ vi Wi183 x 31 ≤ 2147483647 := vi_ir
                  have q109633 : -2147483648 ≤ vi Wi183 x 32 ∧ vi Wi183 x 32 ≤ 2147483647 := vi_ir
                  have q109634 : -2147483648 ≤ vi Wi183 x 36 ∧ vi Wi183 x 36 ≤ 2147483647 := vi_ir
                  refine GO.callV (ci := 11) (N := mX12_readsClause) dX12_text_100 (RX12, TX12, 151) rfl gV_RX12_538 h_x (t_X12_readsClause h_x (by omega) ((by first | exact TC.nil (by omega) | exact TC.eq (htc (by omega)) ak109596.2 ak109597.2 ak109598.2 ak109595.2 (by omega) (by omega)))) rfl [] rfl rfl (Nat.le_of_ble_eq_true rfl) rfl (k_is fun X109635 V109639 r109636 h109637 hF109638 => ?_)
                  refine GO.useWT (fun hW109640 => ?_)
                  have aq109641 := hW109640.aq h_x
                  have ak109642 := tk_fr hF109638 ak109599.1 h_x (by decide +kernel) (by decide +kernel) ak109599.2
                  have ak109643 := tk_fr hF109638 ak109600.1 h_x (by decide +kernel) (by decide +kernel) ak109600.2
                  have ak109644 := tk_fr hF109638 ak109601.1 h_x (by decide +kernel) (by decide +kernel) ak109601.2
                  have ak109645 := tk_fr hF109638 ak109602.1 h_x (by decide +kernel) (by decide +kernel) ak109602.2
                  have ak109646 := tk_fr hF109638 ak109603.1 h_x (by decide +kernel) (by decide +kernel) ak109603.2
                  have ak109647 := tk_fr hF109638 ak109604.1 h_x (by decide +kernel) (by decide +kernel) ak109604.2
                  have ak109648 := tk_fr hF109638 ak109605.1 h_x (by decide +kernel) (by decide +kernel) ak109605.2
                  have ak109649 := tk_fr hF109638 ak109609.1 h_x (by decide +kernel) (by decide +kernel) ak109609.2
                  have ak109650 := tk_fr hF109638 ak109610.1 h_x (by decide +kernel) (by decide +kernel) ak109610.2
                  have ak109651 := tk_fr hF109638 ak109611.1 h_x (by decide +kernel) (by decide +kernel) ak109611.2
                  have ak109652 := tk_fr hF109638 ak109612.1 h_x (by decide +kernel) (by decide +kernel) ak109612.2
                  have ak109653 := tk_fr hF109638 ak109613.1 h_x (by decide +kernel) (by decide +kernel) ak109613.2
                  refine GO.useWT (fun hW109654 => ?_)
                  have ak109655 := hW109654.arr h_x 39 32 (by decide) rfl (by decide)
                  have ak109656 := hW109654.arr h_x 41 34 (by decide) rfl (by decide)
                  have ak109657 := hW109654.arr h_x 42 35 (by decide) rfl (by decide)
                  have ak109658 := hW109654.arr h_x 43 36 (by decide) rfl (by decide)
                  have ak109659 := hW109654.arr h_x 44 37 (by decide) rfl (by decide)
                  have ak109660 := hW109654.arr h_x 45 38 (by decide) rfl (by decide)
                  have ak109661 := hW109654.arr h_x 46 39 (by decide) rfl (by decide)
                  have raw_readsClause := h109637.2.2.2.1
                  have rq0_100 := h109637.2.2.2.2
                  have rw100 := h109637.2.2.2.1
                  refine GO.if_eq (tgt := 110) dX12_text_103 (by decide) r109636 (fun c109664 => ?_) (fun c109664 => ?_)
                  ·
                    have e109665 : vi V109639 x 32 = vi V109591 x 32 := vi_fr hF109638 h_x h_x (by decide +kernel)
                    refine GO.useWT (fun hWb => ?_)
                    have hrb := hWb.rd h_x
                    refine GO.iconst dX12_text_110 ?_
                    refine GO.istore (ls1 := [some (.ref x), some (ti p0), some (ti p1), some (ti p2), some (ti 0), none, none]) dX12_text_111 rfl rfl ?_
                    refine GO.goto (tgt := 74) dX12_text_113 (by decide) ?_
                    have e109668 : vi V109591 x 47 = vi Wi183 x 47 := vi_fr hF109590 h_x h_x (by decide +kernel)
                    have e109667 : vi V109639 x 47 = vi V109591 x 47 := vi_fr hF109638 h_x h_x (by decide +kernel)
                    have q109669 : -2147483648 ≤ vi Wi183 x 47 ∧ vi Wi183 x 47 ≤ 2147483647 := vi_ir
                    have e109671 : vi V109591 x 48 = vi Wi183 x 48 := vi_fr hF109590 h_x h_x (by decide +kernel)
                    have e109670 : vi V109639 x 48 = vi V109591 x 48 := vi_fr hF109638 h_x h_x (by decide +kernel)
                    have q109672 : -2147483648 ≤ vi Wi183 x 48 ∧ vi Wi183 x 48 ≤ 2147483647 := vi_ir
                    have q109673 : -2147483648 ≤ vi V109639 x 36 ∧ vi V109639 x 36 ≤ 2147483647 := vi_ir
                    have q109674 : -2147483648 ≤ vi V109639 x 31 ∧ vi V109639 x 31 ≤ 2147483647 := vi_ir
                    exact ih54911 0 V109639 ⟨by omega, by omega, by omega, (by first | exact fun h => raw_readsClause (by omega) | exact fun h => absurd rfl h | exact fun h => absurd h (by omega)), (by first | exact RTI.beg hT0 (by omega) (by omega) rq0_69 | exact RTI.bad hrt (by omega) hTp (by omega) (by omega) (rq0_93.2 (by omega)).1 (rq0_93.2 (by omega)).2 rfl | exact RTI.step hrt (by omega) hTp (by omega) (by omega) (rq0_93.1 (by omega)).1 (rq0_93.1 (by omega)).2 (by omega) hs9 (by omega) h41 h44 h45 h46 hT9 (by omega) rq0_100 (by constructor <;> intro _ <;> omega)), ak109642.2, ak109643.2, ak109644.2, ak109645.2, ak109646.2, ak109647.2, ak109648.2, ak109649.2, ak109650.2, ak109651.2, ak109652.2, ak109653.2, trivial⟩ (by show (((1000 * 0) + (vi V109639 x 32 - vi V109639 x 31))).toNat < (((1000 * i183) + (vi Wi183 x 32 - vi Wi183 x 31))).toNat; omega)
                  ·
                    have q109675 := h109637.2.1 (by omega)
                    refine GO.iconst dX12_text_106 ?_
                    refine GO.goto (tgt := 111) dX12_text_107 (by decide) ?_
                    refine GO.istore (ls1 := [some (.ref x), some (ti p0), some (ti p1), some (ti p2), some (ti 1), none, none]) dX12_text_111 rfl rfl ?_
                    refine GO.goto (tgt := 74) dX12_text_113 (by decide) ?_
                    have e109677 : vi V109591 x 47 = vi Wi183 x 47 := vi_fr hF109590 h_x h_x (by decide +kernel)
                    have e109676 : vi V109639 x 47 = vi V109591 x 47 := vi_fr hF109638 h_x h_x (by decide +kernel)
                    have q109678 : -2147483648 ≤ vi Wi183 x 47 ∧ vi Wi183 x 47 ≤ 2147483647 := vi_ir
                    have e109680 : vi V109591 x 48 = vi Wi183 x 48 := vi_fr hF109590 h_x h_x (by decide +kernel)
                    have e109679 : vi V109639 x 48 = vi V109591 x 48 := vi_fr hF109638 h_x h_x (by decide +kernel)
                    have q109681 : -2147483648 ≤ vi Wi183 x 48 ∧ vi Wi183 x 48 ≤ 2147483647 := vi_ir
                    have q109682 : -2147483648 ≤ vi V109639 x 36 ∧ vi V109639 x 36 ≤ 2147483647 := vi_ir
                    have q109683 : -2147483648 ≤ vi V109639 x 31 ∧ vi V109639 x 31 ≤ 2147483647 := vi_ir
                    have e109684 : vi V109639 x 32 = vi V109591 x 32 := vi_fr hF109638 h_x h_x (by decide +kernel)
                    exact ih54911 1 V109639 ⟨by omega, by omega, by omega, (by first | exact fun h => raw_readsClause (by omega) | exact fun h => absurd rfl h | exact fun h => absurd h (by omega)), (by first | exact RTI.beg hT0 (by omega) (by omega) rq0_69 | exact RTI.bad hrt (by omega) hTp (by omega) (by omega) (rq0_93.2 (by omega)).1 (rq0_93.2 (by omega)).2 rfl | exact RTI.step hrt (by omega) hTp (by omega) (by omega) (rq0_93.1 (by omega)).1 (rq0_93.1 (by omega)).2 (by omega) hs9 (by omega) h41 h44 h45 h46 hT9 (by omega) rq0_100 (by constructor <;> intro _ <;> omega)), ak109642.2, ak109643.2, ak109644.2, ak109645.2, ak109646.2, ak109647.2, ak109648.2, ak109649.2, ak109650.2, ak109651.2, ak109652.2, ak109653.2, trivial⟩ (by show (((1000 * 1) + (vi V109639 x 32 - vi V109639 x 31))).toNat < (((1000 * i183) + (vi Wi183 x 32 - vi Wi183 x 31))).toNat; omega)
          ·
            refine GO.iconst dX12_text_46 ?_
            exact GO.reti rfl rfl dX12_text_47 ⟨rfl, _, rfl, (ir_c rfl), ⟨by omega, (by first | exact w_0 | exact GX.mk w_0 (by omega) (by omega) (rfl : ar 49 V x = ar 49 V x) (rfl : ar 50 V x = ar 50 V x) (rfl : ar 53 V x = ar 53 V x) (rfl : ar 54 V x = ar 54 V x) (rfl : ar 55 V x = ar 55 V x) (rfl : ar 60 V x = ar 60 V x) (rfl : ar 61 V x = ar 61 V x) | exact GX.text hW_0 hWm h_x w_0 htm (by omega) (by omega) (by omega) (rfl : ar 50 V x = ar 50 V x) (by omega) (by omega) (rfl : ar 53 V x = ar 53 V x) (rfl : ar 54 V x = ar 54 V x) (rfl : ar 55 V x = ar 55 V x) (rfl : ar 49 V x = ar 49 V x) h53 h54 h55 (by omega) h49 (by omega) (rfl : ar 60 V x = ar 60 V x) (rfl : ar 61 V x = ar 61 V x)), (by first | exact MTX.no (by unfold MTC; omega) rfl | exact MTX.er hmc hrt (by omega) (by omega) (by omega) (by omega) (by omega) (by omega) (by omega) (rfl : ar 50 V x = ar 50 V x) (rfl : ar 51 V x = ar 51 V x) (rfl : ar 52 V x = ar 52 V x) (rfl : ar 53 V x = ar 53 V x) (rfl : ar 56 V x = ar 56 V x) (rfl : ar 57 V x = ar 57 V x) (rfl : ar 58 V x = ar 58 V x) | exact MTX.ok hmc hrt (by omega) (by omega) (by omega) (by omega) (by omega) hm41 hm44 hm45 hm46 (by omega) (rfl : ar 51 V x = ar 51 V x) (by omega) (rfl : ar 52 V x = ar 52 V x) (by omega) (rfl : ar 50 V x = ar 50 V x) (by omega) (by omega) (rfl : ar 53 V x = ar 53 V x) (rfl : ar 56 V x = ar 56 V x) (rfl : ar 57 V x = ar 57 V x) (rfl : ar 58 V x = ar 58 V x) h53 h56 h57 h58 (by omega) (by omega) (by omega))⟩⟩
