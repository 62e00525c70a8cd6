def mX12_text : MRec := (RX12, cX12_text, 7, (some .int), yX12_text, 8, 168, 0, 0, 8543931847395829653691396677112701183385529677773362518872825501679930289431200552663524355080192)
set_option maxHeartbeats 8000000 in
theorem t_X12_text {K : Kmap} {V : Vmap} {x : Nat} {p0 : Int} {p1 : Int} {p2 : Int} (h_x : K x = some (0, 11)) (r_p0 : ir p0) (r_p1 : ir p1) (r_p2 : ir p2) (w_0 : GX V x) : MC mX12_text K V [.ref x, ti p0, ti p1, ti p2] (IS K (fun X V1 => (X ≥ (-2147483648) ∧ X ≤ 2147483647) ∧ (GX V1 x) ∧ (MTX V V1 x p0 p1 p2 X))) := by
  refine MC.start 3 (by decide +kernel) rfl rfl rfl (ls0 := [some (.ref x), some (ti p0), some (ti p1), some (ti p2), none, none, none]) rfl ?_
  refine GO.useWT (fun hW_0 => ?_)
  refine GO.useWT (fun hW1 => ?_)
  have aq2 := hW1.aq h_x
  refine GO.useWT (fun hW3 => ?_)
  have ak4 := hW3.arr h_x 39 32 (by decide) rfl (by decide)
  have ak5 := hW3.arr h_x 41 34 (by decide) rfl (by decide)
  have ak6 := hW3.arr h_x 42 35 (by decide) rfl (by decide)
  have ak7 := hW3.arr h_x 43 36 (by decide) rfl (by decide)
  have ak8 := hW3.arr h_x 49 40 (by decide) rfl (by decide)
  have ak9 := hW3.arr h_x 50 41 (by decide) rfl (by decide)
  have ak10 := hW3.arr h_x 53 44 (by decide) rfl (by decide)
  have ak11 := hW3.arr h_x 54 45 (by decide) rfl (by decide)
  have ak12 := hW3.arr h_x 55 46 (by decide) rfl (by decide)
  have ak13 := hW3.arr h_x 60 51 (by decide) rfl (by decide)
  have ak14 := hW3.arr h_x 61 52 (by decide) rfl (by decide)
  have ak15 := hW3.arr h_x 44 37 (by decide) rfl (by decide)
  have ak16 := hW3.arr h_x 45 38 (by decide) rfl (by decide)
  have ak17 := hW3.arr h_x 46 39 (by decide) rfl (by decide)
  have ak18 := hW3.arr h_x 51 42 (by decide) rfl (by decide)
  have ak19 := hW3.arr h_x 52 43 (by decide) rfl (by decide)
  have ak20 := hW3.arr h_x 56 47 (by decide) rfl (by decide)
  have ak21 := hW3.arr h_x 57 48 (by decide) rfl (by decide)
  have ak22 := hW3.arr h_x 58 49 (by decide) rfl (by decide)
  refine GO.useWT (fun hW_0 => ?_)
  have hcn := (hW1).cnt h_x
  refine GO.iload_n dX12_text_0 rfl rfl ?_
  refine GO.callS (N := mX12_isDay) dX12_text_1 gS_RX12_409 (t_X12_isDay r_p0) rfl [] rfl rfl (Nat.le_of_ble_eq_true rfl) rfl (k_ip fun X23 r24 h25 => ?_)
  refine GO.if_eq (tgt := 46) dX12_text_4 (by decide) r24 (fun c26 => ?_) (fun c26 => ?_)
  ·
    refine GO.iconst dX12_text_46 ?_
    exact GO.reti rfl rfl dX12_text_47 ⟨rfl, _, rfl, (ir_c rfl), ⟨by omega, (by first | exact w_0 | exact GX.mk w_0 (by omega) (by omega) (rfl : ar 49 V x = ar 49 V x) (rfl : ar 50 V x = ar 50 V x) (rfl : ar 53 V x = ar 53 V x) (rfl : ar 54 V x = ar 54 V x) (rfl : ar 55 V x = ar 55 V x) (rfl : ar 60 V x = ar 60 V x) (rfl : ar 61 V x = ar 61 V x) | exact GX.text hW_0 hWm h_x w_0 htm (by omega) (by omega) (by omega) (rfl : ar 50 V x = ar 50 V x) (by omega) (by omega) (rfl : ar 53 V x = ar 53 V x) (rfl : ar 54 V x = ar 54 V x) (rfl : ar 55 V x = ar 55 V x) (rfl : ar 49 V x = ar 49 V x) h53 h54 h55 (by omega) h49 (by omega) (rfl : ar 60 V x = ar 60 V x) (rfl : ar 61 V x = ar 61 V x)), (by first | exact MTX.no (by unfold MTC; omega) rfl | exact MTX.er hmc hrt (by omega) (by omega) (by omega) (by omega) (by omega) (by omega) (by omega) (rfl : ar 50 V x = ar 50 V x) (rfl : ar 51 V x = ar 51 V x) (rfl : ar 52 V x = ar 52 V x) (rfl : ar 53 V x = ar 53 V x) (rfl : ar 56 V x = ar 56 V x) (rfl : ar 57 V x = ar 57 V x) (rfl : ar 58 V x = ar 58 V x) | exact MTX.ok hmc hrt (by omega) (by omega) (by omega) (by omega) (by omega) hm41 hm44 hm45 hm46 (by omega) (rfl : ar 51 V x = ar 51 V x) (by omega) (rfl : ar 52 V x = ar 52 V x) (by omega) (rfl : ar 50 V x = ar 50 V x) (by omega) (by omega) (rfl : ar 53 V x = ar 53 V x) (rfl : ar 56 V x = ar 56 V x) (rfl : ar 57 V x = ar 57 V x) (rfl : ar 58 V x = ar 58 V x) h53 h56 h57 h58 (by omega) (by omega) (by omega))⟩⟩
  ·
    have q27 := h25.2.1 (by omega)
    refine GO.iload_n dX12_text_7 rfl rfl ?_
    refine GO.iload_n dX12_text_8 rfl rfl ?_
    refine GO.sipush dX12_text_9 rfl ?_
    refine GO.callS (N := mX12_in) dX12_text_12 gS_RX12_371 (t_X12_in r_p1 r_p0 (ir_c rfl)) rfl [] rfl rfl (Nat.le_of_ble_eq_true rfl) rfl (k_ip fun X28 r29 h30 => ?_)
    refine GO.if_eq (tgt := 46) dX12_text_15 (by decide) r29 (fun c31 => ?_) (fun c31 => ?_)
    ·
      have q32 := h30.2.2 (by omega)
      refine GO.iconst dX12_text_46 ?_
      exact GO.reti rfl rfl dX12_text_47 ⟨rfl, _, rfl, (ir_c rfl), ⟨by omega, (by first | exact w_0 | exact GX.mk w_0 (by omega) (by omega) (rfl : ar 49 V x = ar 49 V x) (rfl : ar 50 V x = ar 50 V x) (rfl : ar 53 V x = ar 53 V x) (rfl : ar 54 V x = ar 54 V x) (rfl : ar 55 V x = ar 55 V x) (rfl : ar 60 V x = ar 60 V x) (rfl : ar 61 V x = ar 61 V x) | exact GX.text hW_0 hWm h_x w_0 htm (by omega) (by omega) (by omega) (rfl : ar 50 V x = ar 50 V x) (by omega) (by omega) (rfl : ar 53 V x = ar 53 V x) (rfl : ar 54 V x = ar 54 V x) (rfl : ar 55 V x = ar 55 V x) (rfl : ar 49 V x = ar 49 V x) h53 h54 h55 (by omega) h49 (by omega) (rfl : ar 60 V x = ar 60 V x) (rfl : ar 61 V x = ar 61 V x)), (by first | exact MTX.no (by unfold MTC; omega) rfl | exact MTX.er hmc hrt (by omega) (by omega) (by omega) (by omega) (by omega) (by omega) (by omega) (rfl : ar 50 V x = ar 50 V x) (rfl : ar 51 V x = ar 51 V x) (rfl : ar 52 V x = ar 52 V x) (rfl : ar 53 V x = ar 53 V x) (rfl : ar 56 V x = ar 56 V x) (rfl : ar 57 V x = ar 57 V x) (rfl : ar 58 V x = ar 58 V x) | exact MTX.ok hmc hrt (by omega) (by omega) (by omega) (by omega) (by omega) hm41 hm44 hm45 hm46 (by omega) (rfl : ar 51 V x = ar 51 V x) (by omega) (rfl : ar 52 V x = ar 52 V x) (by omega) (rfl : ar 50 V x = ar 50 V x) (by omega) (by omega) (rfl : ar 53 V x = ar 53 V x) (rfl : ar 56 V x = ar 56 V x) (rfl : ar 57 V x = ar 57 V x) (rfl : ar 58 V x = ar 58 V x) h53 h56 h57 h58 (by omega) (by omega) (by omega))⟩⟩
    ·
      have q33 := h30.2.1 (by omega)
      refine GO.iload_n dX12_text_18 rfl rfl ?_
      refine GO.iconst dX12_text_19 ?_
      refine GO.sipush dX12_text_20 rfl ?_
      refine GO.callS (N := mX12_in) dX12_text_23 gS_RX12_371 (t_X12_in r_p2 (ir_c rfl) (ir_c rfl)) rfl [] rfl rfl (Nat.le_of_ble_eq_true rfl) rfl (k_ip fun X34 r35 h36 => ?_)
      refine GO.if_eq (tgt := 46) dX12_text_26 (by decide) r35 (fun c37 => ?_) (fun c37 => ?_)
      ·
        have q38 := h36.2.2 (by omega)
        refine GO.iconst dX12_text_46 ?_
        exact GO.reti rfl rfl dX12_text_47 ⟨rfl, _, rfl, (ir_c rfl), ⟨by omega, (by first | exact w_0 | exact GX.mk w_0 (by omega) (by omega) (rfl : ar 49 V x = ar 49 V x) (rfl : ar 50 V x = ar 50 V x) (rfl : ar 53 V x = ar 53 V x) (rfl : ar 54 V x = ar 54 V x) (rfl : ar 55 V x = ar 55 V x) (rfl : ar 60 V x = ar 60 V x) (rfl : ar 61 V x = ar 61 V x) | exact GX.text hW_0 hWm h_x w_0 htm (by omega) (by omega) (by omega) (rfl : ar 50 V x = ar 50 V x) (by omega) (by omega) (rfl : ar 53 V x = ar 53 V x) (rfl : ar 54 V x = ar 54 V x) (rfl : ar 55 V x = ar 55 V x) (rfl : ar 49 V x = ar 49 V x) h53 h54 h55 (by omega) h49 (by omega) (rfl : ar 60 V x = ar 60 V x) (rfl : ar 61 V x = ar 61 V x)), (by first | exact MTX.no (by unfold MTC; omega) rfl | exact MTX.er hmc hrt (by omega) (by omega) (by omega) (by omega) (by omega) (by omega) (by omega) (rfl : ar 50 V x = ar 50 V x) (rfl : ar 51 V x = ar 51 V x) (rfl : ar 52 V x = ar 52 V x) (rfl : ar 53 V x = ar 53 V x) (rfl : ar 56 V x = ar 56 V x) (rfl : ar 57 V x = ar 57 V x) (rfl : ar 58 V x = ar 58 V x) | exact MTX.ok hmc hrt (by omega) (by omega) (by omega) (by omega) (by omega) hm41 hm44 hm45 hm46 (by omega) (rfl : ar 51 V x = ar 51 V x) (by omega) (rfl : ar 52 V x = ar 52 V x) (by omega) (rfl : ar 50 V x = ar 50 V x) (by omega) (by omega) (rfl : ar 53 V x = ar 53 V x) (rfl : ar 56 V x = ar 56 V x) (rfl : ar 57 V x = ar 57 V x) (rfl : ar 58 V x = ar 58 V x) h53 h56 h57 h58 (by omega) (by omega) (by omega))⟩⟩
      ·
        have q39 := h36.2.1 (by omega)
        refine GO.iload_n dX12_text_29 rfl rfl ?_
        refine GO.aload_n dX12_text_30 rfl rfl ?_
        refine GO.getI h_x fl_RX12_436 rfl rfl dX12_text_31 (fun l40 u41 => ?_)
        refine GO.icmp_gt (tgt := 46) dX12_text_34 (by decide) r_p2 vi_ir (fun c42 => ?_) (fun c42 => ?_)
        ·
          refine GO.iconst dX12_text_46 ?_
          exact GO.reti rfl rfl dX12_text_47 ⟨rfl, _, rfl, (ir_c rfl), ⟨by omega, (by first | exact w_0 | exact GX.mk w_0 (by omega) (by omega) (rfl : ar 49 V x = ar 49 V x) (rfl : ar 50 V x = ar 50 V x) (rfl : ar 53 V x = ar 53 V x) (rfl : ar 54 V x = ar 54 V x) (rfl : ar 55 V x = ar 55 V x) (rfl : ar 60 V x = ar 60 V x) (rfl : ar 61 V x = ar 61 V x) | exact GX.text hW_0 hWm h_x w_0 htm (by omega) (by omega) (by omega) (rfl : ar 50 V x = ar 50 V x) (by omega) (by omega) (rfl : ar 53 V x = ar 53 V x) (rfl : ar 54 V x = ar 54 V x) (rfl : ar 55 V x = ar 55 V x) (rfl : ar 49 V x = ar 49 V x) h53 h54 h55 (by omega) h49 (by omega) (rfl : ar 60 V x = ar 60 V x) (rfl : ar 61 V x = ar 61 V x)), (by first | exact MTX.no (by unfold MTC; omega) rfl | exact MTX.er hmc hrt (by omega) (by omega) (by omega) (by omega) (by omega) (by omega) (by omega) (rfl : ar 50 V x = ar 50 V x) (rfl : ar 51 V x = ar 51 V x) (rfl : ar 52 V x = ar 52 V x) (rfl : ar 53 V x = ar 53 V x) (rfl : ar 56 V x = ar 56 V x) (rfl : ar 57 V x = ar 57 V x) (rfl : ar 58 V x = ar 58 V x) | exact MTX.ok hmc hrt (by omega) (by omega) (by omega) (by omega) (by omega) hm41 hm44 hm45 hm46 (by omega) (rfl : ar 51 V x = ar 51 V x) (by omega) (rfl : ar 52 V x = ar 52 V x) (by omega) (rfl : ar 50 V x = ar 50 V x) (by omega) (by omega) (rfl : ar 53 V x = ar 53 V x) (rfl : ar 56 V x = ar 56 V x) (rfl : ar 57 V x = ar 57 V x) (rfl : ar 58 V x = ar 58 V x) h53 h56 h57 h58 (by omega) (by omega) (by omega))⟩⟩
        ·
          refine GO.aload_n dX12_text_37 rfl rfl ?_
          refine GO.getI h_x fl_RX12_535 rfl rfl dX12_text_38 (fun l43 u44 => ?_)
          refine GO.bipush dX12_text_41 rfl ?_
          refine GO.icmp_ne (tgt := 48) dX12_text_43 (by decide) vi_ir (ir_c rfl) (fun c45 => ?_) (fun c45 => ?_)
          ·
            have hmc : MTC V x p0 p1 p2 := by unfold MTC; omega
            refine GO.aload_n dX12_text_48 rfl rfl ?_
            refine GO.iconst dX12_text_49 ?_
            refine GO.putI h_x fp_RX12_443 rfl (by decide +kernel) (ir_c rfl) (by decide) (by decide) dX12_text_50 (fun V47 e46 => ?_)
            have k48 := st_fld e46 aq2 h_x (by decide) (by decide)
            have sS49 : sd V47 x = sd V x := k48.2.1.trans (rfl : sd V x = sd V x)
            have sQ50 : wt V47 x = wt V x := k48.2.2.trans (rfl : wt V x = wt V x)
            have ak51 := tk_fld e46 ak4 h_x (by decide) (rfl : ar 39 V x = ar 39 V x)
            have ak52 := tk_fld e46 ak5 h_x (by decide) (rfl : ar 41 V x = ar 41 V x)
            have ak53 := tk_fld e46 ak6 h_x (by decide) (rfl : ar 42 V x = ar 42 V x)
            have ak54 := tk_fld e46 ak7 h_x (by decide) (rfl : ar 43 V x = ar 43 V x)
            have ak55 := tk_fld e46 ak8 h_x (by decide) (rfl : ar 49 V x = ar 49 V x)
            have ak56 := tk_fld e46 ak9 h_x (by decide) (rfl : ar 50 V x = ar 50 V x)
            have ak57 := tk_fld e46 ak10 h_x (by decide) (rfl : ar 53 V x = ar 53 V x)
            have ak58 := tk_fld e46 ak11 h_x (by decide) (rfl : ar 54 V x = ar 54 V x)
            have ak59 := tk_fld e46 ak12 h_x (by decide) (rfl : ar 55 V x = ar 55 V x)
            have ak60 := tk_fld e46 ak13 h_x (by decide) (rfl : ar 60 V x = ar 60 V x)
            have ak61 := tk_fld e46 ak14 h_x (by decide) (rfl : ar 61 V x = ar 61 V x)
            have ak62 := tk_fld e46 ak15 h_x (by decide) (rfl : ar 44 V x = ar 44 V x)
            have ak63 := tk_fld e46 ak16 h_x (by decide) (rfl : ar 45 V x = ar 45 V x)
            have ak64 := tk_fld e46 ak17 h_x (by decide) (rfl : ar 46 V x = ar 46 V x)
            have ak65 := tk_fld e46 ak18 h_x (by decide) (rfl : ar 51 V x = ar 51 V x)
            have ak66 := tk_fld e46 ak19 h_x (by decide) (rfl : ar 52 V x = ar 52 V x)
            have ak67 := tk_fld e46 ak20 h_x (by decide) (rfl : ar 56 V x = ar 56 V x)
            have ak68 := tk_fld e46 ak21 h_x (by decide) (rfl : ar 57 V x = ar 57 V x)
            have ak69 := tk_fld e46 ak22 h_x (by decide) (rfl : ar 58 V x = ar 58 V x)
            refine GO.aload_n dX12_text_53 rfl rfl ?_
            refine GO.iload_n dX12_text_54 rfl rfl ?_
            have q71 : -2147483648 ≤ p2 ∧ p2 ≤ 2147483647 := r_p2
            refine GO.putI h_x fp_RX12_446 rfl (by decide +kernel) r_p2 (by omega) (by omega) dX12_text_55 (fun V72 e70 => ?_)
            have k73 := st_fld e70 k48.1 h_x (by decide) (by decide)
            have sS74 : sd V72 x = sd V x := k73.2.1.trans sS49
            have sQ75 : wt V72 x = wt V x := k73.2.2.trans sQ50
            have ak76 := tk_fld e70 ak51.1 h_x (by decide) ak51.2
            have ak77 := tk_fld e70 ak52.1 h_x (by decide) ak52.2
            have ak78 := tk_fld e70 ak53.1 h_x (by decide) ak53.2
            have ak79 := tk_fld e70 ak54.1 h_x (by decide) ak54.2
            have ak80 := tk_fld e70 ak55.1 h_x (by decide) ak55.2
            have ak81 := tk_fld e70 ak56.1 h_x (by decide) ak56.2
            have ak82 := tk_fld e70 ak57.1 h_x (by decide) ak57.2
            have ak83 := tk_fld e70 ak58.1 h_x (by decide) ak58.2
            have ak84 := tk_fld e70 ak59.1 h_x (by decide) ak59.2
            have ak85 := tk_fld e70 ak60.1 h_x (by decide) ak60.2
            have ak86 := tk_fld e70 ak61.1 h_x (by decide) ak61.2
            have ak87 := tk_fld e70 ak62.1 h_x (by decide) ak62.2
            have ak88 := tk_fld e70 ak63.1 h_x (by decide) ak63.2
            have ak89 := tk_fld e70 ak64.1 h_x (by decide) ak64.2
            have ak90 := tk_fld e70 ak65.1 h_x (by decide) ak65.2
            have ak91 := tk_fld e70 ak66.1 h_x (by decide) ak66.2
            have ak92 := tk_fld e70 ak67.1 h_x (by decide) ak67.2
            have ak93 := tk_fld e70 ak68.1 h_x (by decide) ak68.2
            have ak94 := tk_fld e70 ak69.1 h_x (by decide) ak69.2
            refine GO.aload_n dX12_text_58 rfl rfl ?_
            refine GO.iconst dX12_text_59 ?_
            refine GO.putI h_x fp_RX12_466 rfl (by decide +kernel) (ir_c rfl) (by decide) (by decide) dX12_text_60 (fun V96 e95 => ?_)
            have k97 := st_fld e95 k73.1 h_x (by decide) (by decide)
            have sS98 : sd V96 x = sd V x := k97.2.1.trans sS74
            have sQ99 : wt V96 x = wt V x := k97.2.2.trans sQ75
            have ak100 := tk_fld e95 ak76.1 h_x (by decide) ak76.2
            have ak101 := tk_fld e95 ak77.1 h_x (by decide) ak77.2
            have ak102 := tk_fld e95 ak78.1 h_x (by decide) ak78.2
            have ak103 := tk_fld e95 ak79.1 h_x (by decide) ak79.2
            have ak104 := tk_fld e95 ak80.1 h_x (by decide) ak80.2
            have ak105 := tk_fld e95 ak81.1 h_x (by decide) ak81.2
            have ak106 := tk_fld e95 ak82.1 h_x (by decide) ak82.2
            have ak107 := tk_fld e95 ak83.1 h_x (by decide) ak83.2
            have ak108 := tk_fld e95 ak84.1 h_x (by decide) ak84.2
            have ak109 := tk_fld e95 ak85.1 h_x (by decide) ak85.2
            have ak110 := tk_fld e95 ak86.1 h_x (by decide) ak86.2
            have ak111 := tk_fld e95 ak87.1 h_x (by decide) ak87.2
            have ak112 := tk_fld e95 ak88.1 h_x (by decide) ak88.2
            have ak113 := tk_fld e95 ak89.1 h_x (by decide) ak89.2
            have ak114 := tk_fld e95 ak90.1 h_x (by decide) ak90.2
            have ak115 := tk_fld e95 ak91.1 h_x (by decide) ak91.2
            have ak116 := tk_fld e95 ak92.1 h_x (by decide) ak92.2
            have ak117 := tk_fld e95 ak93.1 h_x (by decide) ak93.2
            have ak118 := tk_fld e95 ak94.1 h_x (by decide) ak94.2
            refine GO.aload_n dX12_text_63 rfl rfl ?_
            refine GO.iconst dX12_text_64 ?_
            refine GO.putI h_x fp_RX12_526 rfl (by decide +kernel) (ir_c rfl) (by decide) (by decide) dX12_text_65 (fun V120 e119 => ?_)
            have k121 := st_fld e119 k97.1 h_x (by decide) (by decide)
            have sS122 : sd V120 x = sd V x := k121.2.1.trans sS98
            have sQ123 : wt V120 x = wt V x := k121.2.2.trans sQ99
            have ak124 := tk_fld e119 ak100.1 h_x (by decide) ak100.2
            have ak125 := tk_fld e119 ak101.1 h_x (by decide) ak101.2
            have ak126 := tk_fld e119 ak102.1 h_x (by decide) ak102.2
            have ak127 := tk_fld e119 ak103.1 h_x (by decide) ak103.2
            have ak128 := tk_fld e119 ak104.1 h_x (by decide) ak104.2
            have ak129 := tk_fld e119 ak105.1 h_x (by decide) ak105.2
            have ak130 := tk_fld e119 ak106.1 h_x (by decide) ak106.2
            have ak131 := tk_fld e119 ak107.1 h_x (by decide) ak107.2
            have ak132 := tk_fld e119 ak108.1 h_x (by decide) ak108.2
            have ak133 := tk_fld e119 ak109.1 h_x (by decide) ak109.2
            have ak134 := tk_fld e119 ak110.1 h_x (by decide) ak110.2
            have ak135 := tk_fld e119 ak111.1 h_x (by decide) ak111.2
            have ak136 := tk_fld e119 ak112.1 h_x (by decide) ak112.2
            have ak137 := tk_fld e119 ak113.1 h_x (by decide) ak113.2
            have ak138 := tk_fld e119 ak114.1 h_x (by decide) ak114.2
            have ak139 := tk_fld e119 ak115.1 h_x (by decide) ak115.2
            have ak140 := tk_fld e119 ak116.1 h_x (by decide) ak116.2
            have ak141 := tk_fld e119 ak117.1 h_x (by decide) ak117.2
            have ak142 := tk_fld e119 ak118.1 h_x (by decide) ak118.2
            have e143 : vi V120 x 38 = 0 := upd2_int e119 (ir_c rfl)
            have e145 : vi V96 x 36 = 0 := upd2_int e95 (ir_c rfl)
            have e144 : vi V120 x 36 = vi V96 x 36 := vi_up e119 (Or.inr (by decide))
            have e149 : vi V47 x 31 = 0 := upd2_int e46 (ir_c rfl)
            have e148 : vi V72 x 31 = vi V47 x 31 := vi_up e70 (Or.inr (by decide))
            have e147 : vi V96 x 31 = vi V72 x 31 := vi_up e95 (Or.inr (by decide))
            have e146 : vi V120 x 31 = vi V96 x 31 := vi_up e119 (Or.inr (by decide))
            have e152 : vi V72 x 32 = p2 := upd2_int e70 r_p2
            have e151 : vi V96 x 32 = vi V72 x 32 := vi_up e95 (Or.inr (by decide))
            have e150 : vi V120 x 32 = vi V96 x 32 := vi_up e119 (Or.inr (by decide))
            refine GO.useFR (fun hFs => ?_)
            have hT0 : ∀ src, SRM V x (p2).toNat src → TP V120 x src (p2).toNat := fun src h => TP.of hFs h_x hW_0 (by decide +kernel) (by decide +kernel) (by omega) h
            refine GO.aload_n dX12_text_68 rfl rfl ?_
            refine GO.callV (ci := 11) (N := mX12_readsClause) dX12_text_69 (RX12, TX12, 151) rfl gV_RX12_538 h_x (t_X12_readsClause h_x (by omega) ((by first | exact TC.nil (by omega) | exact TC.eq (htc (by omega)) ak125.2 ak126.2 ak127.2 ak124.2 (by omega) (by omega)))) rfl [] rfl rfl (Nat.le_of_ble_eq_true rfl) rfl (k_is fun X153 V157 r154 h155 hF156 => ?_)
            refine GO.useWT (fun hW158 => ?_)
            have aq159 := hW158.aq h_x
            have ak160 := tk_fr hF156 ak128.1 h_x (by decide +kernel) (by decide +kernel) ak128.2
            have ak161 := tk_fr hF156 ak129.1 h_x (by decide +kernel) (by decide +kernel) ak129.2
            have ak162 := tk_fr hF156 ak130.1 h_x (by decide +kernel) (by decide +kernel) ak130.2
            have ak163 := tk_fr hF156 ak131.1 h_x (by decide +kernel) (by decide +kernel) ak131.2
            have ak164 := tk_fr hF156 ak132.1 h_x (by decide +kernel) (by decide +kernel) ak132.2
            have ak165 := tk_fr hF156 ak133.1 h_x (by decide +kernel) (by decide +kernel) ak133.2
            have ak166 := tk_fr hF156 ak134.1 h_x (by decide +kernel) (by decide +kernel) ak134.2
            have ak167 := tk_fr hF156 ak138.1 h_x (by decide +kernel) (by decide +kernel) ak138.2
            have ak168 := tk_fr hF156 ak139.1 h_x (by decide +kernel) (by decide +kernel) ak139.2
            have ak169 := tk_fr hF156 ak140.1 h_x (by decide +kernel) (by decide +kernel) ak140.2
            have ak170 := tk_fr hF156 ak141.1 h_x (by decide +kernel) (by decide +kernel) ak141.2
            have ak171 := tk_fr hF156 ak142.1 h_x (by decide +kernel) (by decide +kernel) ak142.2
            refine GO.useWT (fun hW172 => ?_)
            have ak173 := hW172.arr h_x 39 32 (by decide) rfl (by decide)
            have ak174 := hW172.arr h_x 41 34 (by decide) rfl (by decide)
            have ak175 := hW172.arr h_x 42 35 (by decide) rfl (by decide)
            have ak176 := hW172.arr h_x 43 36 (by decide) rfl (by decide)
            have ak177 := hW172.arr h_x 44 37 (by decide) rfl (by decide)
            have ak178 := hW172.arr h_x 45 38 (by decide) rfl (by decide)
            have ak179 := hW172.arr h_x 46 39 (by decide) rfl (by decide)
            have raw_readsClause := h155.2.2.2.1
            have rq0_69 := h155.2.2.2.2
            have rw69 := h155.2.2.2.1
            refine GO.istore (ls1 := [some (.ref x), some (ti p0), some (ti p1), some (ti p2), some (ti X153), none, none]) dX12_text_72 rfl rfl ?_
            have e187 : vi V47 x 47 = vi V x 47 := vi_up e46 (Or.inr (by decide))
            have e186 : vi V72 x 47 = vi V47 x 47 := vi_up e70 (Or.inr (by decide))
            have e185 : vi V96 x 47 = vi V72 x 47 := vi_up e95 (Or.inr (by decide))
            have e184 : vi V120 x 47 = vi V96 x 47 := vi_up e119 (Or.inr (by decide))
            have e183 : vi V157 x 47 = vi V120 x 47 := vi_fr hF156 h_x h_x (by decide +kernel)
            have q188 : -2147483648 ≤ vi V x 47 ∧ vi V x 47 ≤ 2147483647 := vi_ir
            have e193 : vi V47 x 48 = vi V x 48 := vi_up e46 (Or.inr (by decide))
            have e192 : vi V72 x 48 = vi V47 x 48 := vi_up e70 (Or.inr (by decide))
            have e191 : vi V96 x 48 = vi V72 x 48 := vi_up e95 (Or.inr (by decide))
            have e190 : vi V120 x 48 = vi V96 x 48 := vi_up e119 (Or.inr (by decide))
            have e189 : vi V157 x 48 = vi V120 x 48 := vi_fr hF156 h_x h_x (by decide +kernel)
            have q194 : -2147483648 ≤ vi V x 48 ∧ vi V x 48 ≤ 2147483647 := vi_ir
            have q195 : -2147483648 ≤ vi V157 x 36 ∧ vi V157 x 36 ≤ 2147483647 := vi_ir
            have q196 : -2147483648 ≤ vi V157 x 31 ∧ vi V157 x 31 ≤ 2147483647 := vi_ir
            have e197 : vi V157 x 32 = vi V120 x 32 := vi_fr hF156 h_x h_x (by decide +kernel)
            refine GO.loop1 (fun i182 W => 0 ≤ i182 ∧ i182 ≤ 1 ∧ (vi W x 47 = vi V157 x 47 ∧ vi W x 48 = vi V157 x 48 ∧ (i182 ≠ 0 → vi W x 36 ≤ vi W x 31) ∧ vi W x 32 = p2) ∧ (i182 ≠ 0 → TC W x) ∧ (RTI V V120 W x p2 i182) ∧ ar 49 W x = ar 49 V x ∧ ar 50 W x = ar 50 V x ∧ ar 53 W x = ar 53 V x ∧ ar 54 W x = ar 54 V x ∧ ar 55 W x = ar 55 V x ∧ ar 60 W x = ar 60 V x ∧ ar 61 W x = ar 61 V x ∧ ar 51 W x = ar 51 V x ∧ ar 52 W x = ar 52 V x ∧ ar 56 W x = ar 56 V x ∧ ar 57 W x = ar 57 V x ∧ ar 58 W x = ar 58 V x ∧ True) (fun i182 => [some (.ref x), some (ti p0), some (ti p1), some (ti p2), some (ti i182), none, none]) (fun i182 W => (((1000 * i182) + (vi W x 32 - vi W x 31))).toNat) X153 ⟨by omega, by omega, by omega, (by first | exact fun h => raw_readsClause (by omega) | exact fun h => absurd rfl h | exact fun h => absurd h (by omega)), (by first | exact RTI.beg hT0 (by omega) (by omega) rq0_69 | exact RTI.bad hrt (by omega) hTp (by omega) (by omega) (rq0_93.2 (by omega)).1 (rq0_93.2 (by omega)).2 rfl | exact RTI.step hrt (by omega) hTp (by omega) (by omega) (rq0_93.1 (by omega)).1 (rq0_93.1 (by omega)).2 (by omega) hs9 (by omega) h41 h44 h45 h46 hT9 (by omega) rq0_100 (by constructor <;> intro _ <;> omega)), ak160.2, ak161.2, ak162.2, ak163.2, ak164.2, ak165.2, ak166.2, ak167.2, ak168.2, ak169.2, ak170.2, ak171.2, trivial⟩ rfl (fun i182 Wi182 hp54911 ih54910 => ?_)
            obtain ⟨l_i182, u_i182, n_i182, htc, hrt, kp54912, kp54913, kp54914, kp54915, kp54916, kp54917, kp54918, kp54919, kp54920, kp54921, kp54922, kp54923, -⟩ := hp54911
            have r_i182 : ir i182 := ⟨by omega, by omega⟩
            show GO mX12_text K V (IS K (fun X V1 => (X ≥ (-2147483648) ∧ X ≤ 2147483647) ∧ (GX V1 x) ∧ (MTX V V1 x p0 p1 p2 X))) K Wi182 0 0 74 [some (.ref x), some (ti p0), some (ti p1), some (ti p2), some (ti i182), none, none] []
            refine GO.useWT (fun hW54924 => ?_)
            have aq54925 := hW54924.aq h_x
            refine GO.useWT (fun hW54926 => ?_)
            have ak54927 := hW54926.arr h_x 39 32 (by decide) rfl (by decide)
            have ak54928 := hW54926.arr h_x 41 34 (by decide) rfl (by decide)
            have ak54929 := hW54926.arr h_x 42 35 (by decide) rfl (by decide)
            have ak54930 := hW54926.arr h_x 43 36 (by decide) rfl (by decide)
            have ak54931 := hW54926.arr h_x 49 40 (by decide) rfl (by decide)
            have ak54932 := hW54926.arr h_x 50 41 (by decide) rfl (by decide)
            have ak54933 := hW54926.arr h_x 53 44 (by decide) rfl (by decide)
            have ak54934 := hW54926.arr h_x 54 45 (by decide) rfl (by decide)
            have ak54935 := hW54926.arr h_x 55 46 (by decide) rfl (by decide)
            have ak54936 := hW54926.arr h_x 60 51 (by decide) rfl (by decide)
            have ak54937 := hW54926.arr h_x 61 52 (by decide) rfl (by decide)
            have ak54938 := hW54926.arr h_x 44 37 (by decide) rfl (by decide)
            have ak54939 := hW54926.arr h_x 45 38 (by decide) rfl (by decide)
            have ak54940 := hW54926.arr h_x 46 39 (by decide) rfl (by decide)
            have ak54941 := hW54926.arr h_x 51 42 (by decide) rfl (by decide)
            have ak54942 := hW54926.arr h_x 52 43 (by decide) rfl (by decide)
            have ak54943 := hW54926.arr h_x 56 47 (by decide) rfl (by decide)
            have ak54944 := hW54926.arr h_x 57 48 (by decide) rfl (by decide)
            have ak54945 := hW54926.arr h_x 58 49 (by decide) rfl (by decide)
            have hrd := (hW54924).rd h_x
            refine GO.useFR (fun hFs => ?_)
            have hTp : ∀ src, SRM V x (p2).toNat src → TP Wi182 x src (p2).toNat := fun src h => TP.of hFs h_x hW_0 (by decide +kernel) (by decide +kernel) (by omega) h
            refine GO.iload dX12_text_74 rfl ?_
            refine GO.if_eq (tgt := 116) dX12_text_76 (by decide) r_i182 (fun c54946 => ?_) (fun c54946 => ?_)
            ·
              refine GO.aload_n dX12_text_116 rfl rfl ?_
              refine GO.iconst dX12_text_117 ?_
              refine GO.putI h_x fp_RX12_436 rfl (by decide +kernel) (ir_c rfl) (by decide) (by decide) dX12_text_118 (fun V54948 e54947 => ?_)
              have k54949 := st_fld e54947 aq54925 h_x (by decide) (by decide)
              have sS54950 : sd V54948 x = sd Wi182 x := k54949.2.1.trans (rfl : sd Wi182 x = sd Wi182 x)
              have sQ54951 : wt V54948 x = wt Wi182 x := k54949.2.2.trans (rfl : wt Wi182 x = wt Wi182 x)
              have ak54952 := tk_fld e54947 ak54927 h_x (by decide) (rfl : ar 39 Wi182 x = ar 39 Wi182 x)
              have ak54953 := tk_fld e54947 ak54928 h_x (by decide) (rfl : ar 41 Wi182 x = ar 41 Wi182 x)
              have ak54954 := tk_fld e54947 ak54929 h_x (by decide) (rfl : ar 42 Wi182 x = ar 42 Wi182 x)
              have ak54955 := tk_fld e54947 ak54930 h_x (by decide) (rfl : ar 43 Wi182 x = ar 43 Wi182 x)
              have ak54956 := tk_fld e54947 ak54931 h_x (by decide) kp54912
              have ak54957 := tk_fld e54947 ak54932 h_x (by decide) kp54913
              have ak54958 := tk_fld e54947 ak54933 h_x (by decide) kp54914
              have ak54959 := tk_fld e54947 ak54934 h_x (by decide) kp54915
              have ak54960 := tk_fld e54947 ak54935 h_x (by decide) kp54916
              have ak54961 := tk_fld e54947 ak54936 h_x (by decide) kp54917
              have ak54962 := tk_fld e54947 ak54937 h_x (by decide) kp54918
              have ak54963 := tk_fld e54947 ak54938 h_x (by decide) (rfl : ar 44 Wi182 x = ar 44 Wi182 x)
              have ak54964 := tk_fld e54947 ak54939 h_x (by decide) (rfl : ar 45 Wi182 x = ar 45 Wi182 x)
              have ak54965 := tk_fld e54947 ak54940 h_x (by decide) (rfl : ar 46 Wi182 x = ar 46 Wi182 x)
              have ak54966 := tk_fld e54947 ak54941 h_x (by decide) kp54919
              have ak54967 := tk_fld e54947 ak54942 h_x (by decide) kp54920
              have ak54968 := tk_fld e54947 ak54943 h_x (by decide) kp54921
              have ak54969 := tk_fld e54947 ak54944 h_x (by decide) kp54922
              have ak54970 := tk_fld e54947 ak54945 h_x (by decide) kp54923
              refine GO.iload dX12_text_121 rfl ?_
              refine GO.if_ne (tgt := 131) dX12_text_123 (by decide) r_i182 (fun h => by exfalso; omega) (fun c54971 => ?_)
              refine GO.aload_n dX12_text_126 rfl rfl ?_
              refine GO.getI h_x fl_RX12_453 rfl rfl dX12_text_127 (fun _ _ => ?_)
              have q54973 : -2147483648 ≤ vi V54948 x 33 ∧ vi V54948 x 33 ≤ 2147483647 := vi_ir
              have e54974 : vi V54948 x 47 = vi Wi182 x 47 := vi_up e54947 (Or.inr (by decide))
              have e54975 : vi V54948 x 48 = vi Wi182 x 48 := vi_up e54947 (Or.inr (by decide))
              have e54976 : vi V54948 x 30 = 0 := upd2_int e54947 (ir_c rfl)
              have e54977 : vi V54948 x 31 = vi Wi182 x 31 := vi_up e54947 (Or.inr (by decide))
              have e54978 : vi V54948 x 36 = vi Wi182 x 36 := vi_up e54947 (Or.inr (by decide))
              have e54979 : vi V54948 x 38 = vi Wi182 x 38 := vi_up e54947 (Or.inr (by decide))
              exact GO.reti rfl rfl dX12_text_130 ⟨rfl, _, rfl, vi_ir, ⟨by omega, (by first | exact w_0 | exact GX.mk w_0 (by omega) (by omega) ak54956.2 ak54957.2 ak54958.2 ak54959.2 ak54960.2 ak54961.2 ak54962.2 | exact GX.text hW_0 hWm h_x w_0 htm (by omega) (by omega) (by omega) ak54957.2 (by omega) (by omega) ak54958.2 ak54959.2 ak54960.2 ak54956.2 h53 h54 h55 (by omega) h49 (by omega) ak54961.2 ak54962.2), (by first | exact MTX.no (by unfold MTC; omega) rfl | exact MTX.er hmc hrt (by omega) (by omega) (by omega) (by omega) (by omega) (by omega) (by omega) ak54957.2 ak54966.2 ak54967.2 ak54958.2 ak54968.2 ak54969.2 ak54970.2 | exact MTX.ok hmc hrt (by omega) (by omega) (by omega) (by omega) (by omega) hm41 hm44 hm45 hm46 (by omega) ak54966.2 (by omega) ak54967.2 (by omega) ak54957.2 (by omega) (by omega) ak54958.2 ak54968.2 ak54969.2 ak54970.2 h53 h56 h57 h58 (by omega) (by omega) (by omega))⟩⟩
            ·
              refine GO.aload_n dX12_text_79 rfl rfl ?_
              refine GO.getI h_x fl_RX12_443 rfl rfl dX12_text_80 (fun l54980 u54981 => ?_)
              refine GO.aload_n dX12_text_83 rfl rfl ?_
              refine GO.getI h_x fl_RX12_446 rfl rfl dX12_text_84 (fun l54982 u54983 => ?_)
              refine GO.icmp_ge (tgt := 116) dX12_text_87 (by decide) vi_ir vi_ir (fun c54984 => ?_) (fun c54984 => ?_)
              ·
                refine GO.aload_n dX12_text_116 rfl rfl ?_
                refine GO.iconst dX12_text_117 ?_
                refine GO.putI h_x fp_RX12_436 rfl (by decide +kernel) (ir_c rfl) (by decide) (by decide) dX12_text_118 (fun V54986 e54985 => ?_)
                have k54987 := st_fld e54985 aq54925 h_x (by decide) (by decide)
                have sS54988 : sd V54986 x = sd Wi182 x := k54987.2.1.trans (rfl : sd Wi182 x = sd Wi182 x)
                have sQ54989 : wt V54986 x = wt Wi182 x := k54987.2.2.trans (rfl : wt Wi182 x = wt Wi182 x)
                have ak54990 := tk_fld e54985 ak54927 h_x (by decide) (rfl : ar 39 Wi182 x = ar 39 Wi182 x)
                have ak54991 := tk_fld e54985 ak54928 h_x (by decide) (rfl : ar 41 Wi182 x = ar 41 Wi182 x)
                have ak54992 := tk_fld e54985 ak54929 h_x (by decide) (rfl : ar 42 Wi182 x = ar 42 Wi182 x)
                have ak54993 := tk_fld e54985 ak54930 h_x (by decide) (rfl : ar 43 Wi182 x = ar 43 Wi182 x)
                have ak54994 := tk_fld e54985 ak54931 h_x (by decide) kp54912
                have ak54995 := tk_fld e54985 ak54932 h_x (by decide) kp54913
                have ak54996 := tk_fld e54985 ak54933 h_x (by decide) kp54914
                have ak54997 := tk_fld e54985 ak54934 h_x (by decide) kp54915
                have ak54998 := tk_fld e54985 ak54935 h_x (by decide) kp54916
                have ak54999 := tk_fld e54985 ak54936 h_x (by decide) kp54917
                have ak55000 := tk_fld e54985 ak54937 h_x (by decide) kp54918
                have ak55001 := tk_fld e54985 ak54938 h_x (by decide) (rfl : ar 44 Wi182 x = ar 44 Wi182 x)
                have ak55002 := tk_fld e54985 ak54939 h_x (by decide) (rfl : ar 45 Wi182 x = ar 45 Wi182 x)
                have ak55003 := tk_fld e54985 ak54940 h_x (by decide) (rfl : ar 46 Wi182 x = ar 46 Wi182 x)
                have ak55004 := tk_fld e54985 ak54941 h_x (by decide) kp54919
                have ak55005 := tk_fld e54985 ak54942 h_x (by decide) kp54920
                have ak55006 := tk_fld e54985 ak54943 h_x (by decide) kp54921
                have ak55007 := tk_fld e54985 ak54944 h_x (by decide) kp54922
                have ak55008 := tk_fld e54985 ak54945 h_x (by decide) kp54923
                refine GO.iload dX12_text_121 rfl ?_
                refine GO.if_ne (tgt := 131) dX12_text_123 (by decide) r_i182 (fun c55009 => ?_) (fun h => by exfalso; omega)
                have e55010 : vi V54986 x 38 = vi Wi182 x 38 := vi_up e54985 (Or.inr (by decide))
                have e55011 : vi V54986 x 36 = vi Wi182 x 36 := vi_up e54985 (Or.inr (by decide))
                have e55012 : vi V54986 x 47 = vi Wi182 x 47 := vi_up e54985 (Or.inr (by decide))
                have e55013 : vi V54986 x 48 = vi Wi182 x 48 := vi_up e54985 (Or.inr (by decide))
                have e55014 : vi V54986 x 30 = 0 := upd2_int e54985 (ir_c rfl)
                have e55015 : vi V54986 x 31 = vi Wi182 x 31 := vi_up e54985 (Or.inr (by decide))
                have e55016 : vi V54986 x 32 = vi Wi182 x 32 := vi_up e54985 (Or.inr (by decide))
                have hm39 := ak54990.2
                have hm41 := ak54991.2
                have hm42 := ak54992.2
                have hm43 := ak54993.2
                refine GO.useWT (fun hWm => ?_)
                have hcm := hWm.cnt h_x
                have hrm := hWm.rd h_x
                have htm := TC.eq (htc (by omega)) ak54991.2 ak54992.2 ak54993.2 ak54990.2 (by omega) (by omega)
                have hm44 := ak55001.2
                have hm45 := ak55002.2
                have hm46 := ak55003.2
                refine GO.aload_n dX12_text_131 rfl rfl ?_
                refine GO.getA (n := 20) h_x fl_RX12_118 rfl rfl rfl rfl dX12_text_132 (fun hv55018 h55017 => ?_)
                refine GO.aload_n dX12_text_135 rfl rfl ?_
                refine GO.getI h_x fl_RX12_535 rfl rfl dX12_text_136 (fun l55019 u55020 => ?_)
                refine GO.iload_n dX12_text_139 rfl rfl ?_
                have q55021 : -2147483648 ≤ vi Wi182 x 47 ∧ vi Wi182 x 47 ≤ 2147483647 := vi_ir
                refine GO.iast (t := 42) rfl rfl (by decide +kernel) h55017 vi_ir (by omega) (by omega) r_p0 (r_p0).1 (r_p0).2 dX12_text_140 (fun V55023 e55022 => ?_)
                have k55024 := st_oth e55022 k54987.1 h_x h55017 (by decide) (by decide)
                have sS55025 : sd V55023 x = sd Wi182 x := k55024.2.1.trans sS54988
                have sQ55026 : wt V55023 x = wt Wi182 x := k55024.2.2.trans sQ54989
                have ak55027 := tk_oth e55022 ak54990.1 h_x h55017 (by decide) (by decide) ak54990.2
                have ak55028 := tk_oth e55022 ak54991.1 h_x h55017 (by decide) (by decide) ak54991.2
                have ak55029 := tk_oth e55022 ak54992.1 h_x h55017 (by decide) (by decide) ak54992.2
                have ak55030 := tk_oth e55022 ak54993.1 h_x h55017 (by decide) (by decide) ak54993.2
                have ak55031 := tk_oth e55022 ak54994.1 h_x h55017 (by decide) (by decide) ak54994.2
                have ak55032 := tk_oth e55022 ak54995.1 h_x h55017 (by decide) (by decide) ak54995.2
                have ak55033 := tk_oth e55022 ak54996.1 h_x h55017 (by decide) (by decide) ak54996.2
                have ak55034 := tk_oth e55022 ak54997.1 h_x h55017 (by decide) (by decide) ak54997.2
                have ak55035 := tk_oth e55022 ak54998.1 h_x h55017 (by decide) (by decide) ak54998.2
                have ak55036 := tk_oth e55022 ak54999.1 h_x h55017 (by decide) (by decide) ak54999.2
                have ak55037 := tk_oth e55022 ak55000.1 h_x h55017 (by decide) (by decide) ak55000.2
                have ak55038 := tk_oth e55022 ak55001.1 h_x h55017 (by decide) (by decide) ak55001.2
                have ak55039 := tk_oth e55022 ak55002.1 h_x h55017 (by decide) (by decide) ak55002.2
                have ak55040 := tk_oth e55022 ak55003.1 h_x h55017 (by decide) (by decide) ak55003.2
                have ak55041 := tk_put e55022 ak55004.1 h_x (vq_of hv55018) r_p0 ak55004.2
                have ak55042 := tk_oth e55022 ak55005.1 h_x h55017 (by decide) (by decide) ak55005.2
                have ak55043 := tk_oth e55022 ak55006.1 h_x h55017 (by decide) (by decide) ak55006.2
                have ak55044 := tk_oth e55022 ak55007.1 h_x h55017 (by decide) (by decide) ak55007.2
                have ak55045 := tk_oth e55022 ak55008.1 h_x h55017 (by decide) (by decide) ak55008.2
                refine GO.aload_n dX12_text_141 rfl rfl ?_
                refine GO.getA (n := 20) h_x fl_RX12_121 rfl rfl rfl rfl dX12_text_142 (fun hv55047 h55046 => ?_)
                refine GO.aload_n dX12_text_145 rfl rfl ?_
                refine GO.getI h_x fl_RX12_535 rfl rfl dX12_text_146 (fun l55048 u55049 => ?_)
                have e55050 : vi V55023 x 47 = vi V54986 x 47 := vi_up e55022 (Or.inl (K_ne h_x h55017 (by decide)))
                refine GO.iload_n dX12_text_149 rfl rfl ?_
                refine GO.iast (t := 43) rfl rfl (by decide +kernel) h55046 vi_ir (by omega) (by omega) r_p1 (r_p1).1 (r_p1).2 dX12_text_150 (fun V55052 e55051 => ?_)
                have k55053 := st_oth e55051 k55024.1 h_x h55046 (by decide) (by decide)
                have sS55054 : sd V55052 x = sd Wi182 x := k55053.2.1.trans sS55025
                have sQ55055 : wt V55052 x = wt Wi182 x := k55053.2.2.trans sQ55026
                have ak55056 := tk_oth e55051 ak55027.1 h_x h55046 (by decide) (by decide) ak55027.2
                have ak55057 := tk_oth e55051 ak55028.1 h_x h55046 (by decide) (by decide) ak55028.2
                have ak55058 := tk_oth e55051 ak55029.1 h_x h55046 (by decide) (by decide) ak55029.2
                have ak55059 := tk_oth e55051 ak55030.1 h_x h55046 (by decide) (by decide) ak55030.2
                have ak55060 := tk_oth e55051 ak55031.1 h_x h55046 (by decide) (by decide) ak55031.2
                have ak55061 := tk_oth e55051 ak55032.1 h_x h55046 (by decide) (by decide) ak55032.2
                have ak55062 := tk_oth e55051 ak55033.1 h_x h55046 (by decide) (by decide) ak55033.2
                have ak55063 := tk_oth e55051 ak55034.1 h_x h55046 (by decide) (by decide) ak55034.2
                have ak55064 := tk_oth e55051 ak55035.1 h_x h55046 (by decide) (by decide) ak55035.2
                have ak55065 := tk_oth e55051 ak55036.1 h_x h55046 (by decide) (by decide) ak55036.2
                have ak55066 := tk_oth e55051 ak55037.1 h_x h55046 (by decide) (by decide) ak55037.2
                have ak55067 := tk_oth e55051 ak55038.1 h_x h55046 (by decide) (by decide) ak55038.2
                have ak55068 := tk_oth e55051 ak55039.1 h_x h55046 (by decide) (by decide) ak55039.2
                have ak55069 := tk_oth e55051 ak55040.1 h_x h55046 (by decide) (by decide) ak55040.2
                have ak55070 := tk_oth e55051 ak55041.1 h_x h55046 (by decide) (by decide) ak55041.2
                have ak55071 := tk_put e55051 ak55042.1 h_x (vq_of hv55047) r_p1 ak55042.2
                have ak55072 := tk_oth e55051 ak55043.1 h_x h55046 (by decide) (by decide) ak55043.2
                have ak55073 := tk_oth e55051 ak55044.1 h_x h55046 (by decide) (by decide) ak55044.2
                have ak55074 := tk_oth e55051 ak55045.1 h_x h55046 (by decide) (by decide) ak55045.2
                refine GO.aload_n dX12_text_151 rfl rfl ?_
                refine GO.getA (n := 20) h_x fl_RX12_115 rfl rfl rfl rfl dX12_text_152 (fun hv55076 h55075 => ?_)
                refine GO.aload_n dX12_text_155 rfl rfl ?_
                refine GO.getI h_x fl_RX12_535 rfl rfl dX12_text_156 (fun l55077 u55078 => ?_)
                have e55079 : vi V55052 x 47 = vi V55023 x 47 := vi_up e55051 (Or.inl (K_ne h_x h55046 (by decide)))
                refine GO.aload_n dX12_text_159 rfl rfl ?_
                refine GO.getI h_x fl_RX12_526 rfl rfl dX12_text_160 (fun l55080 u55081 => ?_)
                have e55083 : vi V55023 x 38 = vi V54986 x 38 := vi_up e55022 (Or.inl (K_ne h_x h55017 (by decide)))
                have e55082 : vi V55052 x 38 = vi V55023 x 38 := vi_up e55051 (Or.inl (K_ne h_x h55046 (by decide)))
                have q55085 : -2147483648 ≤ vi Wi182 x 38 ∧ vi Wi182 x 38 ≤ 2147483647 := vi_ir
                refine GO.iast (t := 41) rfl rfl (by decide +kernel) h55075 vi_ir (by omega) (by omega) vi_ir (by omega) (by omega) dX12_text_163 (fun V55086 e55084 => ?_)
                have k55087 := st_oth e55084 k55053.1 h_x h55075 (by decide) (by decide)
                have sS55088 : sd V55086 x = sd Wi182 x := k55087.2.1.trans sS55054
                have sQ55089 : wt V55086 x = wt Wi182 x := k55087.2.2.trans sQ55055
                have ak55090 := tk_oth e55084 ak55056.1 h_x h55075 (by decide) (by decide) ak55056.2
                have ak55091 := tk_oth e55084 ak55057.1 h_x h55075 (by decide) (by decide) ak55057.2
                have ak55092 := tk_oth e55084 ak55058.1 h_x h55075 (by decide) (by decide) ak55058.2
                have ak55093 := tk_oth e55084 ak55059.1 h_x h55075 (by decide) (by decide) ak55059.2
                have ak55094 := tk_oth e55084 ak55060.1 h_x h55075 (by decide) (by decide) ak55060.2
                have ak55095 := tk_put e55084 ak55061.1 h_x (vq_of hv55076) vi_ir ak55061.2
                have ak55096 := tk_oth e55084 ak55062.1 h_x h55075 (by decide) (by decide) ak55062.2
                have ak55097 := tk_oth e55084 ak55063.1 h_x h55075 (by decide) (by decide) ak55063.2
                have ak55098 := tk_oth e55084 ak55064.1 h_x h55075 (by decide) (by decide) ak55064.2
                have ak55099 := tk_oth e55084 ak55065.1 h_x h55075 (by decide) (by decide) ak55065.2
                have ak55100 := tk_oth e55084 ak55066.1 h_x h55075 (by decide) (by decide) ak55066.2
                have ak55101 := tk_oth e55084 ak55067.1 h_x h55075 (by decide) (by decide) ak55067.2
                have ak55102 := tk_oth e55084 ak55068.1 h_x h55075 (by decide) (by decide) ak55068.2
                have ak55103 := tk_oth e55084 ak55069.1 h_x h55075 (by decide) (by decide) ak55069.2
                have ak55104 := tk_oth e55084 ak55070.1 h_x h55075 (by decide) (by decide) ak55070.2
                have ak55105 := tk_oth e55084 ak55071.1 h_x h55075 (by decide) (by decide) ak55071.2
                have ak55106 := tk_oth e55084 ak55072.1 h_x h55075 (by decide) (by decide) ak55072.2
                have ak55107 := tk_oth e55084 ak55073.1 h_x h55075 (by decide) (by decide) ak55073.2
                have ak55108 := tk_oth e55084 ak55074.1 h_x h55075 (by decide) (by decide) ak55074.2
                refine GO.iconst dX12_text_164 ?_
                refine GO.istore (ls1 := [some (.ref x), some (ti p0), some (ti p1), some (ti p2), some (ti i182), some (ti 0), none]) dX12_text_165 rfl rfl ?_
                have e55110 : vi V55086 x 47 = vi V55052 x 47 := vi_up e55084 (Or.inl (K_ne h_x h55075 (by decide)))
                have e55113 : vi V55023 x 48 = vi V54986 x 48 := vi_up e55022 (Or.inl (K_ne h_x h55017 (by decide)))
                have e55112 : vi V55052 x 48 = vi V55023 x 48 := vi_up e55051 (Or.inl (K_ne h_x h55046 (by decide)))
                have e55111 : vi V55086 x 48 = vi V55052 x 48 := vi_up e55084 (Or.inl (K_ne h_x h55075 (by decide)))
                have q55114 : -2147483648 ≤ vi Wi182 x 48 ∧ vi Wi182 x 48 ≤ 2147483647 := vi_ir
                have e55117 : vi V55023 x 36 = vi V54986 x 36 := vi_up e55022 (Or.inl (K_ne h_x h55017 (by decide)))
                have e55116 : vi V55052 x 36 = vi V55023 x 36 := vi_up e55051 (Or.inl (K_ne h_x h55046 (by decide)))
                have e55115 : vi V55086 x 36 = vi V55052 x 36 := vi_up e55084 (Or.inl (K_ne h_x h55075 (by decide)))
                have q55118 : -2147483648 ≤ vi Wi182 x 36 ∧ vi Wi182 x 36 ≤ 2147483647 := vi_ir
                have q55119 : -2147483648 ≤ vi Wi182 x 31 ∧ vi Wi182 x 31 ≤ 2147483647 := vi_ir
                have q55120 : -2147483648 ≤ vi Wi182 x 32 ∧ vi Wi182 x 32 ≤ 2147483647 := vi_ir
                have e55121 : vi V55086 x 38 = vi V55052 x 38 := vi_up e55084 (Or.inl (K_ne h_x h55075 (by decide)))
                have e55124 : vi V55023 x 30 = vi V54986 x 30 := vi_up e55022 (Or.inl (K_ne h_x h55017 (by decide)))
                have e55123 : vi V55052 x 30 = vi V55023 x 30 := vi_up e55051 (Or.inl (K_ne h_x h55046 (by decide)))
                have e55122 : vi V55086 x 30 = vi V55052 x 30 := vi_up e55084 (Or.inl (K_ne h_x h55075 (by decide)))
                refine GO.loop1 (fun i55109 W => 0 ≤ i55109 ∧ i55109 ≤ 200 ∧ (vi W x 47 = vi V55086 x 47 ∧ vi W x 48 = vi V55086 x 48 ∧ vi W x 36 = vi V54986 x 36 ∧ vi W x 38 = vi V54986 x 38 ∧ vi W x 30 = 0) ∧ (CPf (ar 49 V x) (ar 39 V54986 x) (ar 49 W x) (220 * vi V x 47) 0 i55109) ∧ ar 39 W x = ar 39 Wi182 x ∧ ar 41 W x = ar 41 Wi182 x ∧ ar 42 W x = ar 42 Wi182 x ∧ ar 43 W x = ar 43 Wi182 x ∧ ar 50 W x = updf (ar 50 V x) (vi V55052 x 47).toNat (vi V55052 x 38) ∧ ar 53 W x = ar 53 V x ∧ ar 54 W x = ar 54 V x ∧ ar 55 W x = ar 55 V x ∧ ar 60 W x = ar 60 V x ∧ ar 61 W x = ar 61 V x ∧ ar 44 W x = ar 44 Wi182 x ∧ ar 45 W x = ar 45 Wi182 x ∧ ar 46 W x = ar 46 Wi182 x ∧ ar 51 W x = updf (ar 51 V x) (vi V54986 x 47).toNat p0 ∧ ar 52 W x = updf (ar 52 V x) (vi V55023 x 47).toNat p1 ∧ ar 56 W x = ar 56 V x ∧ ar 57 W x = ar 57 V x ∧ ar 58 W x = ar 58 V x ∧ True) (fun i55109 => [some (.ref x), some (ti p0), some (ti p1), some (ti p2), some (ti i182), some (ti i55109), none]) (fun i55109 W => (2147483647 - i55109).toNat) 0 ⟨by omega, by omega, by omega, (by first | exact CPf.rf.at ak55094.2 | exact CPf.put h49 (by omega) (by omega) ak55094.2 (by omega) (by omega) (by omega)), ak55090.2, ak55091.2, ak55092.2, ak55093.2, ak55095.2, ak55096.2, ak55097.2, ak55098.2, ak55099.2, ak55100.2, ak55101.2, ak55102.2, ak55103.2, ak55104.2, ak55105.2, ak55106.2, ak55107.2, ak55108.2, trivial⟩ rfl (fun i55109 Wi55109 hp104095 ih104094 => ?_)
                obtain ⟨l_i55109, u_i55109, n_i55109, h49, kp104096, kp104097, kp104098, kp104099, kp104100, kp104101, kp104102, kp104103, kp104104, kp104105, kp104106, kp104107, kp104108, kp104109, kp104110, kp104111, kp104112, kp104113, -⟩ := hp104095
                have r_i55109 : ir i55109 := ⟨by omega, by omega⟩
                show GO mX12_text K V (IS K (fun X V1 => (X ≥ (-2147483648) ∧ X ≤ 2147483647) ∧ (GX V1 x) ∧ (MTX V V1 x p0 p1 p2 X))) K Wi55109 0 0 167 [some (.ref x), some (ti p0), some (ti p1), some (ti p2), some (ti i182), some (ti i55109), none] []
                refine GO.useWT (fun hW104114 => ?_)
                have aq104115 := hW104114.aq h_x
                refine GO.useWT (fun hW104116 => ?_)
                have ak104117 := hW104116.arr h_x 39 32 (by decide) rfl (by decide)
                have ak104118 := hW104116.arr h_x 41 34 (by decide) rfl (by decide)
                have ak104119 := hW104116.arr h_x 42 35 (by decide) rfl (by decide)
                have ak104120 := hW104116.arr h_x 43 36 (by decide) rfl (by decide)
                have ak104121 := hW104116.arr h_x 49 40 (by decide) rfl (by decide)
                have ak104122 := hW104116.arr h_x 50 41 (by decide) rfl (by decide)
                have ak104123 := hW104116.arr h_x 53 44 (by decide) rfl (by decide)
                have ak104124 := hW104116.arr h_x 54 45 (by decide) rfl (by decide)
                have ak104125 := hW104116.arr h_x 55 46 (by decide) rfl (by decide)
                have ak104126 := hW104116.arr h_x 60 51 (by decide) rfl (by decide)
                have ak104127 := hW104116.arr h_x 61 52 (by decide) rfl (by decide)
                have ak104128 := hW104116.arr h_x 44 37 (by decide) rfl (by decide)
                have ak104129 := hW104116.arr h_x 45 38 (by decide) rfl (by decide)
                have ak104130 := hW104116.arr h_x 46 39 (by decide) rfl (by decide)
                have ak104131 := hW104116.arr h_x 51 42 (by decide) rfl (by decide)
                have ak104132 := hW104116.arr h_x 52 43 (by decide) rfl (by decide)
                have ak104133 := hW104116.arr h_x 56 47 (by decide) rfl (by decide)
                have ak104134 := hW104116.arr h_x 57 48 (by decide) rfl (by decide)
                have ak104135 := hW104116.arr h_x 58 49 (by decide) rfl (by decide)
                refine GO.iload dX12_text_167 rfl ?_
                refine GO.aload_n dX12_text_169 rfl rfl ?_
                refine GO.getI h_x fl_RX12_466 rfl rfl dX12_text_170 (fun l104136 u104137 => ?_)
                refine GO.icmp_ge (tgt := 205) dX12_text_173 (by decide) r_i55109 vi_ir (fun c104138 => ?_) (fun c104138 => ?_)
                ·
                  refine GO.iconst dX12_text_205 ?_
                  refine GO.istore (ls1 := [some (.ref x), some (ti p0), some (ti p1), some (ti p2), some (ti i182), some (ti 0), none]) dX12_text_206 rfl rfl ?_
                  have q104140 : -2147483648 ≤ vi Wi55109 x 47 ∧ vi Wi55109 x 47 ≤ 2147483647 := vi_ir
                  have q104141 : -2147483648 ≤ vi Wi55109 x 48 ∧ vi Wi55109 x 48 ≤ 2147483647 := vi_ir
                  have q104142 : -2147483648 ≤ vi Wi55109 x 36 ∧ vi Wi55109 x 36 ≤ 2147483647 := vi_ir
                  have q104143 : -2147483648 ≤ vi Wi55109 x 38 ∧ vi Wi55109 x 38 ≤ 2147483647 := vi_ir
                  have q104144 : -2147483648 ≤ vi Wi55109 x 30 ∧ vi Wi55109 x 30 ≤ 2147483647 := vi_ir
                  refine GO.loop1 (fun i104139 W => 0 ≤ i104139 ∧ i104139 ≤ 12 ∧ (vi W x 47 = vi Wi55109 x 47 ∧ vi W x 48 = vi Wi55109 x 48 ∧ vi W x 36 = vi V54986 x 36 ∧ vi W x 38 = vi V54986 x 38 ∧ vi W x 30 = 0) ∧ (CPf (ar 53 V x) (ar 41 V54986 x) (ar 53 W x) (12 * vi V x 47) 0 i104139) ∧ (CPf (ar 54 V x) (ar 42 V54986 x) (ar 54 W x) (12 * vi V x 47) (220 * vi V x 47) i104139) ∧ (CPf (ar 55 V x) (ar 43 V54986 x) (ar 55 W x) (12 * vi V x 47) (220 * vi V x 47) i104139) ∧ (CPf (ar 56 V x) (ar 44 V54986 x) (ar 56 W x) (12 * vi V x 47) 0 i104139) ∧ (CPf (ar 57 V x) (ar 45 V54986 x) (ar 57 W x) (12 * vi V x 47) 0 i104139) ∧ (CPf (ar 58 V x) (ar 46 V54986 x) (ar 58 W x) (12 * vi V x 47) 0 i104139) ∧ ar 39 W x = ar 39 Wi182 x ∧ ar 41 W x = ar 41 Wi182 x ∧ ar 42 W x = ar 42 Wi182 x ∧ ar 43 W x = ar 43 Wi182 x ∧ ar 49 W x = ar 49 Wi55109 x ∧ ar 50 W x = updf (ar 50 V x) (vi V55052 x 47).toNat (vi V55052 x 38) ∧ ar 60 W x = ar 60 V x ∧ ar 61 W x = ar 61 V x ∧ ar 44 W x = ar 44 Wi182 x ∧ ar 45 W x = ar 45 Wi182 x ∧ ar 46 W x = ar 46 Wi182 x ∧ ar 51 W x = updf (ar 51 V x) (vi V54986 x 47).toNat p0 ∧ ar 52 W x = updf (ar 52 V x) (vi V55023 x 47).toNat p1 ∧ True) (fun i104139 => [some (.ref x), some (ti p0), some (ti p1), some (ti p2), some (ti i182), some (ti i104139), none]) (fun i104139 W => (2147483647 - i104139).toNat) 0 ⟨by omega, by omega, by omega, (by first | exact CPf.rf.at kp104101 | exact CPf.put h53 (by omega) (by omega) kp104101 (by omega) (by omega) (by omega)), (by first | exact CPf.rf.at kp104102 | exact CPf.put h54 (by omega) (by omega) kp104102 (by omega) (by omega) (by omega)), (by first | exact CPf.rf.at kp104103 | exact CPf.put h55 (by omega) (by omega) kp104103 (by omega) (by omega) (by omega)), (by first | exact CPf.rf.at kp104111 | exact CPf.put h56 (by omega) (by omega) kp104111 (by omega) (by omega) (by omega)), (by first | exact CPf.rf.at kp104112 | exact CPf.put h57 (by omega) (by omega) kp104112 (by omega) (by omega) (by omega)), (by first | exact CPf.rf.at kp104113 | exact CPf.put h58 (by omega) (by omega) kp104113 (by omega) (by omega) (by omega)), kp104096, kp104097, kp104098, kp104099, (rfl : ar 49 Wi55109 x = ar 49 Wi55109 x), kp104100, kp104104, kp104105, kp104106, kp104107, kp104108, kp104109, kp104110, trivial⟩ rfl (fun i104139 Wi104139 hp108943 ih108942 => ?_)
                  obtain ⟨l_i104139, u_i104139, n_i104139, h53, h54, h55, h56, h57, h58, kp108944, kp108945, kp108946, kp108947, kp108948, kp108949, kp108950, kp108951, kp108952, kp108953, kp108954, kp108955, kp108956, -⟩ := hp108943
                  have r_i104139 : ir i104139 := ⟨by omega, by omega⟩
                  show GO mX12_text K V (IS K (fun X V1 => (X ≥ (-2147483648) ∧ X ≤ 2147483647) ∧ (GX V1 x) ∧ (MTX V V1 x p0 p1 p2 X))) K Wi104139 0 0 208 [some (.ref x), some (ti p0), some (ti p1), some (ti p2), some (ti i182), some (ti i104139), none] []
                  refine GO.useWT (fun hW108957 => ?_)
                  have aq108958 := hW108957.aq h_x
                  refine GO.useWT (fun hW108959 => ?_)
                  have ak108960 := hW108959.arr h_x 39 32 (by decide) rfl (by decide)
                  have ak108961 := hW108959.arr h_x 41 34 (by decide) rfl (by decide)
                  have ak108962 := hW108959.arr h_x 42 35 (by decide) rfl (by decide)
                  have ak108963 := hW108959.arr h_x 43 36 (by decide) rfl (by decide)
                  have ak108964 := hW108959.arr h_x 49 40 (by decide) rfl (by decide)
                  have ak108965 := hW108959.arr h_x 50 41 (by decide) rfl (by decide)
                  have ak108966 := hW108959.arr h_x 53 44 (by decide) rfl (by decide)
                  have ak108967 := hW108959.arr h_x 54 45 (by decide) rfl (by decide)
                  have ak108968 := hW108959.arr h_x 55 46 (by decide) rfl (by decide)
                  have ak108969 := hW108959.arr h_x 60 51 (by decide) rfl (by decide)
                  have ak108970 := hW108959.arr h_x 61 52 (by decide) rfl (by decide)
                  have ak108971 := hW108959.arr h_x 44 37 (by decide) rfl (by decide)
                  have ak108972 := hW108959.arr h_x 45 38 (by decide) rfl (by decide)
                  have ak108973 := hW108959.arr h_x 46 39 (by decide) rfl (by decide)
                  have ak108974 := hW108959.arr h_x 51 42 (by decide) rfl (by decide)
                  have ak108975 := hW108959.arr h_x 52 43 (by decide) rfl (by decide)
                  have ak108976 := hW108959.arr h_x 56 47 (by decide) rfl (by decide)
                  have ak108977 := hW108959.arr h_x 57 48 (by decide) rfl (by decide)
                  have ak108978 := hW108959.arr h_x 58 49 (by decide) rfl (by decide)
                  refine GO.iload dX12_text_208 rfl ?_
                  refine GO.aload_n dX12_text_210 rfl rfl ?_
                  refine GO.getI h_x fl_RX12_526 rfl rfl dX12_text_211 (fun l108979 u108980 => ?_)
                  refine GO.icmp_ge (tgt := 337) dX12_text_214 (by decide) r_i104139 vi_ir (fun c108981 => ?_) (fun c108981 => ?_)
                  ·
                    refine GO.iconst dX12_text_337 ?_
                    refine GO.istore (ls1 := [some (.ref x), some (ti p0), some (ti p1), some (ti p2), some (ti i182), some (ti 0), none]) dX12_text_338 rfl rfl ?_
                    have q108983 : -2147483648 ≤ vi Wi104139 x 47 ∧ vi Wi104139 x 47 ≤ 2147483647 := vi_ir
                    have q108984 : -2147483648 ≤ vi Wi104139 x 48 ∧ vi Wi104139 x 48 ≤ 2147483647 := vi_ir
                    have q108985 : -2147483648 ≤ vi Wi104139 x 30 ∧ vi Wi104139 x 30 ≤ 2147483647 := vi_ir
                    refine GO.loop1 (fun i108982 W => 0 ≤ i108982 ∧ i108982 ≤ 9 ∧ (vi W x 47 = vi Wi104139 x 47 ∧ vi W x 48 = vi Wi104139 x 48 ∧ vi W x 30 = 0) ∧ ar 49 W x = ar 49 Wi55109 x ∧ ar 50 W x = updf (ar 50 V x) (vi V55052 x 47).toNat (vi V55052 x 38) ∧ ar 53 W x = ar 53 Wi104139 x ∧ ar 54 W x = ar 54 Wi104139 x ∧ ar 55 W x = ar 55 Wi104139 x ∧ ar 60 W x = ar 60 V x ∧ ar 61 W x = ar 61 V x ∧ ar 51 W x = updf (ar 51 V x) (vi V54986 x 47).toNat p0 ∧ ar 52 W x = updf (ar 52 V x) (vi V55023 x 47).toNat p1 ∧ ar 56 W x = ar 56 Wi104139 x ∧ ar 57 W x = ar 57 Wi104139 x ∧ ar 58 W x = ar 58 Wi104139 x ∧ True) (fun i108982 => [some (.ref x), some (ti p0), some (ti p1), some (ti p2), some (ti i182), some (ti i108982), none]) (fun i108982 W => (2147483647 - i108982).toNat) 0 ⟨by omega, by omega, by omega, kp108948, kp108949, (rfl : ar 53 Wi104139 x = ar 53 Wi104139 x), (rfl : ar 54 Wi104139 x = ar 54 Wi104139 x), (rfl : ar 55 Wi104139 x = ar 55 Wi104139 x), kp108950, kp108951, kp108955, kp108956, (rfl : ar 56 Wi104139 x = ar 56 Wi104139 x), (rfl : ar 57 Wi104139 x = ar 57 Wi104139 x), (rfl : ar 58 Wi104139 x = ar 58 Wi104139 x), trivial⟩ rfl (fun i108982 Wi108982 hp109203 ih109202 => ?_)
                    obtain ⟨l_i108982, u_i108982, n_i108982, kp109204, kp109205, kp109206, kp109207, kp109208, kp109209, kp109210, kp109211, kp109212, kp109213, kp109214, kp109215, -⟩ := hp109203
                    have r_i108982 : ir i108982 := ⟨by omega, by omega⟩
                    show GO mX12_text K V (IS K (fun X V1 => (X ≥ (-2147483648) ∧ X ≤ 2147483647) ∧ (GX V1 x) ∧ (MTX V V1 x p0 p1 p2 X))) K Wi108982 0 0 340 [some (.ref x), some (ti p0), some (ti p1), some (ti p2), some (ti i182), some (ti i108982), none] []
                    refine GO.useWT (fun hW109216 => ?_)
                    have aq109217 := hW109216.aq h_x
                    refine GO.useWT (fun hW109218 => ?_)
                    have ak109219 := hW109218.arr h_x 39 32 (by decide) rfl (by decide)
                    have ak109220 := hW109218.arr h_x 41 34 (by decide) rfl (by decide)
                    have ak109221 := hW109218.arr h_x 42 35 (by decide) rfl (by decide)
                    have ak109222 := hW109218.arr h_x 43 36 (by decide) rfl (by decide)
                    have ak109223 := hW109218.arr h_x 49 40 (by decide) rfl (by decide)
                    have ak109224 := hW109218.arr h_x 50 41 (by decide) rfl (by decide)
                    have ak109225 := hW109218.arr h_x 53 44 (by decide) rfl (by decide)
                    have ak109226 := hW109218.arr h_x 54 45 (by decide) rfl (by decide)
                    have ak109227 := hW109218.arr h_x 55 46 (by decide) rfl (by decide)
                    have ak109228 := hW109218.arr h_x 60 51 (by decide) rfl (by decide)
                    have ak109229 := hW109218.arr h_x 61 52 (by decide) rfl (by decide)
                    have ak109230 := hW109218.arr h_x 44 37 (by decide) rfl (by decide)
                    have ak109231 := hW109218.arr h_x 45 38 (by decide) rfl (by decide)
                    have ak109232 := hW109218.arr h_x 46 39 (by decide) rfl (by decide)
                    have ak109233 := hW109218.arr h_x 51 42 (by decide) rfl (by decide)
                    have ak109234 := hW109218.arr h_x 52 43 (by decide) rfl (by decide)
                    have ak109235 := hW109218.arr h_x 56 47 (by decide) rfl (by decide)
                    have ak109236 := hW109218.arr h_x 57 48 (by decide) rfl (by decide)
                    have ak109237 := hW109218.arr h_x 58 49 (by decide) rfl (by decide)
                    refine GO.iload dX12_text_340 rfl ?_
                    refine GO.bipush dX12_text_342 rfl ?_
                    refine GO.icmp_ge (tgt := 369) dX12_text_344 (by decide) r_i108982 (ir_c rfl) (fun c109238 => ?_) (fun c109238 => ?_)
                    ·
                      refine GO.aload_n dX12_text_369 rfl rfl ?_
                      refine GO.aload_n dX12_text_370 rfl rfl ?_
                      refine GO.getI h_x fl_RX12_535 rfl rfl dX12_text_371 (fun l109239 u109240 => ?_)
                      refine GO.iconst dX12_text_374 ?_
                      refine GO.iadd dX12_text_375 ?_
                      have q109242 : -2147483648 ≤ vi Wi108982 x 47 ∧ vi Wi108982 x 47 ≤ 2147483647 := vi_ir
                      refine GO.putI h_x fp_RX12_535 rfl (by decide +kernel) ⟨by omega, by omega⟩ (by omega) (by omega) dX12_text_376 (fun V109243 e109241 => ?_)
                      have k109244 := st_fld e109241 aq109217 h_x (by decide) (by decide)
                      have sS109245 : sd V109243 x = sd Wi108982 x := k109244.2.1.trans (rfl : sd Wi108982 x = sd Wi108982 x)
                      have sQ109246 : wt V109243 x = wt Wi108982 x := k109244.2.2.trans (rfl : wt Wi108982 x = wt Wi108982 x)
                      have ak109247 := tk_fld e109241 ak109219 h_x (by decide) (rfl : ar 39 Wi108982 x = ar 39 Wi108982 x)
                      have ak109248 := tk_fld e109241 ak109220 h_x (by decide) (rfl : ar 41 Wi108982 x = ar 41 Wi108982 x)
                      have ak109249 := tk_fld e109241 ak109221 h_x (by decide) (rfl : ar 42 Wi108982 x = ar 42 Wi108982 x)
                      have ak109250 := tk_fld e109241 ak109222 h_x (by decide) (rfl : ar 43 Wi108982 x = ar 43 Wi108982 x)
                      have ak109251 := tk_fld e109241 ak109223 h_x (by decide) kp109204
                      have ak109252 := tk_fld e109241 ak109224 h_x (by decide) kp109205
                      have ak109253 := tk_fld e109241 ak109225 h_x (by decide) kp109206
                      have ak109254 := tk_fld e109241 ak109226 h_x (by decide) kp109207
                      have ak109255 := tk_fld e109241 ak109227 h_x (by decide) kp109208
                      have ak109256 := tk_fld e109241 ak109228 h_x (by decide) kp109209
                      have ak109257 := tk_fld e109241 ak109229 h_x (by decide) kp109210
                      have ak109258 := tk_fld e109241 ak109230 h_x (by decide) (rfl : ar 44 Wi108982 x = ar 44 Wi108982 x)
                      have ak109259 := tk_fld e109241 ak109231 h_x (by decide) (rfl : ar 45 Wi108982 x = ar 45 Wi108982 x)
                      have ak109260 := tk_fld e109241 ak109232 h_x (by decide) (rfl : ar 46 Wi108982 x = ar 46 Wi108982 x)
                      have ak109261 := tk_fld e109241 ak109233 h_x (by decide) kp109211
                      have ak109262 := tk_fld e109241 ak109234 h_x (by decide) kp109212
                      have ak109263 := tk_fld e109241 ak109235 h_x (by decide) kp109213
                      have ak109264 := tk_fld e109241 ak109236 h_x (by decide) kp109214
                      have ak109265 := tk_fld e109241 ak109237 h_x (by decide) kp109215
                      refine GO.aload_n dX12_text_379 rfl rfl ?_
                      refine GO.getI h_x fl_RX12_535 rfl rfl dX12_text_380 (fun l109266 u109267 => ?_)
                      have e109268 : vi V109243 x 47 = (vi Wi108982 x 47) + 1 := upd2_int e109241 ⟨by omega, by omega⟩
                      refine GO.iconst dX12_text_383 ?_
                      refine GO.isub dX12_text_384 ?_
                      have e109269 : vi V109243 x 48 = vi Wi108982 x 48 := vi_up e109241 (Or.inr (by decide))
                      have e109270 : vi V109243 x 30 = vi Wi108982 x 30 := vi_up e109241 (Or.inr (by decide))
                      exact GO.reti rfl rfl dX12_text_385 ⟨rfl, _, rfl, ⟨by omega, by omega⟩, ⟨by omega, (by first | exact w_0 | exact GX.mk w_0 (by omega) (by omega) ak109251.2 ak109252.2 ak109253.2 ak109254.2 ak109255.2 ak109256.2 ak109257.2 | exact GX.text hW_0 hWm h_x w_0 htm (by omega) (by omega) (by omega) ak109252.2 (by omega) (by omega) ak109253.2 ak109254.2 ak109255.2 ak109251.2 h53 h54 h55 (by omega) h49 (by omega) ak109256.2 ak109257.2), (by first | exact MTX.no (by unfold MTC; omega) rfl | exact MTX.er hmc hrt (by omega) (by omega) (by omega) (by omega) (by omega) (by omega) (by omega) ak109252.2 ak109261.2 ak109262.2 ak109253.2 ak109263.2 ak109264.2 ak109265.2 | exact MTX.ok hmc hrt (by omega) (by omega) (by omega) (by omega) (by omega) hm41 hm44 hm45 hm46 (by omega) ak109261.2 (by omega) ak109262.2 (by omega) ak109252.2 (by omega) (by omega) ak109253.2 ak109263.2 ak109264.2 ak109265.2 h53 h56 h57 h58 (by omega) (by omega) (by omega))⟩⟩
                    ·
                      refine GO.aload_n dX12_text_347 rfl rfl ?_
                      refine GO.getA (n := 180) h_x fl_RX12_142 rfl rfl rfl rfl dX12_text_348 (fun hv109276 h109275 => ?_)
                      refine GO.bipush dX12_text_351 rfl ?_
                      refine GO.iload dX12_text_353 rfl ?_
                      refine GO.imul dX12_text_355 ?_
                      refine GO.aload_n dX12_text_356 rfl rfl ?_
                      refine GO.getI h_x fl_RX12_535 rfl rfl dX12_text_357 (fun l109277 u109278 => ?_)
                      refine GO.iadd dX12_text_360 ?_
                      refine GO.iconst dX12_text_361 ?_
                      have q109279 : -2147483648 ≤ vi Wi108982 x 47 ∧ vi Wi108982 x 47 ≤ 2147483647 := vi_ir
                      refine GO.iast (t := 50) rfl rfl (by decide +kernel) h109275 ⟨by omega, by omega⟩ (by omega) (by omega) (ir_c rfl) (by decide) (by decide) dX12_text_362 (fun V109281 e109280 => ?_)
                      have k109282 := st_oth e109280 aq109217 h_x h109275 (by decide) (by decide)
                      have sS109283 : sd V109281 x = sd Wi108982 x := k109282.2.1.trans (rfl : sd Wi108982 x = sd Wi108982 x)
                      have sQ109284 : wt V109281 x = wt Wi108982 x := k109282.2.2.trans (rfl : wt Wi108982 x = wt Wi108982 x)
                      have ak109285 := tk_oth e109280 ak109219 h_x h109275 (by decide) (by decide) (rfl : ar 39 Wi108982 x = ar 39 Wi108982 x)
                      have ak109286 := tk_oth e109280 ak109220 h_x h109275 (by decide) (by decide) (rfl : ar 41 Wi108982 x = ar 41 Wi108982 x)
                      have ak109287 := tk_oth e109280 ak109221 h_x h109275 (by decide) (by decide) (rfl : ar 42 Wi108982 x = ar 42 Wi108982 x)
                      have ak109288 := tk_oth e109280 ak109222 h_x h109275 (by decide) (by decide) (rfl : ar 43 Wi108982 x = ar 43 Wi108982 x)
                      have ak109289 := tk_oth e109280 ak109223 h_x h109275 (by decide) (by decide) kp109204
                      have ak109290 := tk_oth e109280 ak109224 h_x h109275 (by decide) (by decide) kp109205
                      have ak109291 := tk_oth e109280 ak109225 h_x h109275 (by decide) (by decide) kp109206
                      have ak109292 := tk_oth e109280 ak109226 h_x h109275 (by decide) (by decide) kp109207
                      have ak109293 := tk_oth e109280 ak109227 h_x h109275 (by decide) (by decide) kp109208
                      have ak109294 := tk_oth e109280 ak109228 h_x h109275 (by decide) (by decide) kp109209
                      have ak109295 := tk_oth e109280 ak109229 h_x h109275 (by decide) (by decide) kp109210
                      have ak109296 := tk_oth e109280 ak109230 h_x h109275 (by decide) (by decide) (rfl : ar 44 Wi108982 x = ar 44 Wi108982 x)
                      have ak109297 := tk_oth e109280 ak109231 h_x h109275 (by decide) (by decide) (rfl : ar 45 Wi108982 x = ar 45 Wi108982 x)
                      have ak109298 := tk_oth e109280 ak109232 h_x h109275 (by decide) (by decide) (rfl : ar 46 Wi108982 x = ar 46 Wi108982 x)
                      have ak109299 := tk_oth e109280 ak109233 h_x h109275 (by decide) (by decide) kp109211
                      have ak109300 := tk_oth e109280 ak109234 h_x h109275 (by decide) (by decide) kp109212
                      have ak109301 := tk_oth e109280 ak109235 h_x h109275 (by decide) (by decide) kp109213
                      have ak109302 := tk_oth e109280 ak109236 h_x h109275 (by decide) (by decide) kp109214
                      have ak109303 := tk_oth e109280 ak109237 h_x h109275 (by decide) (by decide) kp109215
                      refine GO.iinc (X := i108982) (n := 1) (Y := i108982 + 1) (ls1 := [some (.ref x), some (ti p0), some (ti p1), some (ti p2), some (ti i182), some (ti (i108982 + 1)), none]) dX12_text_363 rfl rfl rfl rfl ?_
                      refine GO.goto (tgt := 340) dX12_text_366 (by decide) ?_
                      have e109304 : vi V109281 x 47 = vi Wi108982 x 47 := vi_up e109280 (Or.inl (K_ne h_x h109275 (by decide)))
                      have e109305 : vi V109281 x 48 = vi Wi108982 x 48 := vi_up e109280 (Or.inl (K_ne h_x h109275 (by decide)))
                      have q109306 : -2147483648 ≤ vi Wi108982 x 48 ∧ vi Wi108982 x 48 ≤ 2147483647 := vi_ir
                      have e109307 : vi V109281 x 30 = vi Wi108982 x 30 := vi_up e109280 (Or.inl (K_ne h_x h109275 (by decide)))
                      have q109308 : -2147483648 ≤ vi Wi108982 x 30 ∧ vi Wi108982 x 30 ≤ 2147483647 := vi_ir
                      exact ih109202 (i108982 + 1) V109281 ⟨by omega, by omega, by omega, ak109289.2, ak109290.2, ak109291.2, ak109292.2, ak109293.2, ak109294.2, ak109295.2, ak109299.2, ak109300.2, ak109301.2, ak109302.2, ak109303.2, trivial⟩ (by show (2147483647 - (i108982 + 1)).toNat < (2147483647 - i108982).toNat; omega)
                  ·
                    refine GO.bipush dX12_text_217 rfl ?_
                    refine GO.aload_n dX12_text_219 rfl rfl ?_
                    refine GO.getI h_x fl_RX12_535 rfl rfl dX12_text_220 (fun l109309 u109310 => ?_)
                    refine GO.imul dX12_text_223 ?_
                    refine GO.iload dX12_text_224 rfl ?_
                    refine GO.iadd dX12_text_226 ?_
                    refine GO.name (fun z109311 hz109312 => ?_)
                    refine GO.istore (ls1 := [some (.ref x), some (ti p0), some (ti p1), some (ti p2), some (ti i182), some (ti i104139), some (ti z109311)]) dX12_text_227 rfl rfl ?_
                    refine GO.aload_n dX12_text_229 rfl rfl ?_
                    refine GO.getA (n := 240) h_x fl_RX12_124 rfl rfl rfl rfl dX12_text_230 (fun hv109314 h109313 => ?_)
                    refine GO.iload dX12_text_233 rfl ?_
                    refine GO.aload_n dX12_text_235 rfl rfl ?_
                    refine GO.getA (n := 12) h_x fl_RX12_94 rfl rfl rfl rfl dX12_text_236 (fun hv109316 h109315 => ?_)
                    refine GO.iload dX12_text_239 rfl ?_
                    have hl41 : vi Wi104139 (vq Wi104139 x 41) (i104139).toNat = ar 41 V54986 x (i104139).toNat := (congrFun kp108945 (i104139).toNat).trans (congrFun hm41 (i104139).toNat).symm
                    have q109317 : -2147483648 ≤ vi Wi104139 x 47 ∧ vi Wi104139 x 47 ≤ 2147483647 := vi_ir
                    have q109318 : -2147483648 ≤ vi Wi104139 x 38 ∧ vi Wi104139 x 38 ≤ 2147483647 := vi_ir
                    refine GO.iald (t := 34) rfl rfl h109315 r_i104139 (by omega) (by omega) dX12_text_241 (fun _ _ => ?_)
                    refine GO.iast (t := 44) rfl rfl (by decide +kernel) h109313 ⟨by omega, by omega⟩ (by omega) (by omega) vi_ir (vi_ir).1 (vi_ir).2 dX12_text_242 (fun V109320 e109319 => ?_)
                    have k109321 := st_oth e109319 aq108958 h_x h109313 (by decide) (by decide)
                    have sS109322 : sd V109320 x = sd Wi104139 x := k109321.2.1.trans (rfl : sd Wi104139 x = sd Wi104139 x)
                    have sQ109323 : wt V109320 x = wt Wi104139 x := k109321.2.2.trans (rfl : wt Wi104139 x = wt Wi104139 x)
                    have ak109324 := tk_oth e109319 ak108960 h_x h109313 (by decide) (by decide) kp108944
                    have ak109325 := tk_oth e109319 ak108961 h_x h109313 (by decide) (by decide) kp108945
                    have ak109326 := tk_oth e109319 ak108962 h_x h109313 (by decide) (by decide) kp108946
                    have ak109327 := tk_oth e109319 ak108963 h_x h109313 (by decide) (by decide) kp108947
                    have ak109328 := tk_oth e109319 ak108964 h_x h109313 (by decide) (by decide) kp108948
                    have ak109329 := tk_oth e109319 ak108965 h_x h109313 (by decide) (by decide) kp108949
                    have ak109330 := tk_put e109319 ak108966 h_x (vq_of hv109314) vi_ir (rfl : ar 53 Wi104139 x = ar 53 Wi104139 x)
                    have ak109331 := tk_oth e109319 ak108967 h_x h109313 (by decide) (by decide) (rfl : ar 54 Wi104139 x = ar 54 Wi104139 x)
                    have ak109332 := tk_oth e109319 ak108968 h_x h109313 (by decide) (by decide) (rfl : ar 55 Wi104139 x = ar 55 Wi104139 x)
                    have ak109333 := tk_oth e109319 ak108969 h_x h109313 (by decide) (by decide) kp108950
                    have ak109334 := tk_oth e109319 ak108970 h_x h109313 (by decide) (by decide) kp108951
                    have ak109335 := tk_oth e109319 ak108971 h_x h109313 (by decide) (by decide) kp108952
                    have ak109336 := tk_oth e109319 ak108972 h_x h109313 (by decide) (by decide) kp108953
                    have ak109337 := tk_oth e109319 ak108973 h_x h109313 (by decide) (by decide) kp108954
                    have ak109338 := tk_oth e109319 ak108974 h_x h109313 (by decide) (by decide) kp108955
                    have ak109339 := tk_oth e109319 ak108975 h_x h109313 (by decide) (by decide) kp108956
                    have ak109340 := tk_oth e109319 ak108976 h_x h109313 (by decide) (by decide) (rfl : ar 56 Wi104139 x = ar 56 Wi104139 x)
                    have ak109341 := tk_oth e109319 ak108977 h_x h109313 (by decide) (by decide) (rfl : ar 57 Wi104139 x = ar 57 Wi104139 x)
                    have ak109342 := tk_oth e109319 ak108978 h_x h109313 (by decide) (by decide) (rfl : ar 58 Wi104139 x = ar 58 Wi104139 x)
                    refine GO.aload_n dX12_text_243 rfl rfl ?_
                    refine GO.getA (n := 240) h_x fl_RX12_127 rfl rfl rfl rfl dX12_text_244 (fun hv109344 h109343 => ?_)
                    refine GO.iload dX12_text_247 rfl ?_
                    refine GO.sipush dX12_text_249 rfl ?_
                    refine GO.aload_n dX12_text_252 rfl rfl ?_
                    refine GO.getI h_x fl_RX12_535 rfl rfl dX12_text_253 (fun l109345 u109346 => ?_)
                    have e109347 : vi V109320 x 47 = vi Wi104139 x 47 := vi_up e109319 (Or.inl (K_ne h_x h109313 (by decide)))
                    refine GO.imul dX12_text_256 ?_
                    refine GO.aload_n dX12_text_257 rfl rfl ?_
                    refine GO.getA (n := 12) h_x fl_RX12_97 rfl rfl rfl rfl dX12_text_258 (fun hv109349 h109348 => ?_)
                    refine GO.iload dX12_text_261 rfl ?_
                    have hl42 : vi V109320 (vq V109320 x 42) (i104139).toNat = ar 42 V54986 x (i104139).toNat := (congrFun ak109326.2 (i104139).toNat).trans (congrFun hm42 (i104139).toNat).symm
                    refine GO.iald (t := 35) rfl rfl h109348 r_i104139 (by omega) (by omega) dX12_text_263 (fun l109350 u109351 => ?_)
                    refine GO.iadd dX12_text_264 ?_
                    refine GO.iast (t := 45) rfl rfl (by decide +kernel) h109343 ⟨by omega, by omega⟩ (by omega) (by omega) ⟨by omega, by omega⟩ (by omega) (by omega) dX12_text_265 (fun V109354 e109353 => ?_)
                    have k109355 := st_oth e109353 k109321.1 h_x h109343 (by decide) (by decide)
                    have sS109356 : sd V109354 x = sd Wi104139 x := k109355.2.1.trans sS109322
                    have sQ109357 : wt V109354 x = wt Wi104139 x := k109355.2.2.trans sQ109323
                    have ak109358 := tk_oth e109353 ak109324.1 h_x h109343 (by decide) (by decide) ak109324.2
                    have ak109359 := tk_oth e109353 ak109325.1 h_x h109343 (by decide) (by decide) ak109325.2
                    have ak109360 := tk_oth e109353 ak109326.1 h_x h109343 (by decide) (by decide) ak109326.2
                    have ak109361 := tk_oth e109353 ak109327.1 h_x h109343 (by decide) (by decide) ak109327.2
                    have ak109362 := tk_oth e109353 ak109328.1 h_x h109343 (by decide) (by decide) ak109328.2
                    have ak109363 := tk_oth e109353 ak109329.1 h_x h109343 (by decide) (by decide) ak109329.2
                    have ak109364 := tk_oth e109353 ak109330.1 h_x h109343 (by decide) (by decide) ak109330.2
                    have ak109365 := tk_put e109353 ak109331.1 h_x (vq_of hv109344) ⟨by omega, by omega⟩ ak109331.2
                    have ak109366 := tk_oth e109353 ak109332.1 h_x h109343 (by decide) (by decide) ak109332.2
                    have ak109367 := tk_oth e109353 ak109333.1 h_x h109343 (by decide) (by decide) ak109333.2
                    have ak109368 := tk_oth e109353 ak109334.1 h_x h109343 (by decide) (by decide) ak109334.2
                    have ak109369 := tk_oth e109353 ak109335.1 h_x h109343 (by decide) (by decide) ak109335.2
                    have ak109370 := tk_oth e109353 ak109336.1 h_x h109343 (by decide) (by decide) ak109336.2
                    have ak109371 := tk_oth e109353 ak109337.1 h_x h109343 (by decide) (by decide) ak109337.2
                    have ak109372 := tk_oth e109353 ak109338.1 h_x h109343 (by decide) (by decide) ak109338.2
                    have ak109373 := tk_oth e109353 ak109339.1 h_x h109343 (by decide) (by decide) ak109339.2
                    have ak109374 := tk_oth e109353 ak109340.1 h_x h109343 (by decide) (by decide) ak109340.2
                    have ak109375 := tk_oth e109353 ak109341.1 h_x h109343 (by decide) (by decide) ak109341.2
                    have ak109376 := tk_oth e109353 ak109342.1 h_x h109343 (by decide) (by decide) ak109342.2
                    refine GO.aload_n dX12_text_266 rfl rfl ?_
                    refine GO.getA (n := 240) h_x fl_RX12_130 rfl rfl rfl rfl dX12_text_267 (fun hv109378 h109377 => ?_)
                    refine GO.iload dX12_text_270 rfl ?_
                    refine GO.sipush dX12_text_272 rfl ?_
                    refine GO.aload_n dX12_text_275 rfl rfl ?_
                    refine GO.getI h_x fl_RX12_535 rfl rfl dX12_text_276 (fun l109379 u109380 => ?_)
                    have e109381 : vi V109354 x 47 = vi V109320 x 47 := vi_up e109353 (Or.inl (K_ne h_x h109343 (by decide)))
                    refine GO.imul dX12_text_279 ?_
                    refine GO.aload_n dX12_text_280 rfl rfl ?_
                    refine GO.getA (n := 12) h_x fl_RX12_100 rfl rfl rfl rfl dX12_text_281 (fun hv109383 h109382 => ?_)
                    refine GO.iload dX12_text_284 rfl ?_
                    have hl43 : vi V109354 (vq V109354 x 43) (i104139).toNat = ar 43 V54986 x (i104139).toNat := (congrFun ak109361.2 (i104139).toNat).trans (congrFun hm43 (i104139).toNat).symm
                    refine GO.iald (t := 36) rfl rfl h109382 r_i104139 (by omega) (by omega) dX12_text_286 (fun l109384 u109385 => ?_)
                    refine GO.iadd dX12_text_287 ?_
                    refine GO.iast (t := 46) rfl rfl (by decide +kernel) h109377 ⟨by omega, by omega⟩ (by omega) (by omega) ⟨by omega, by omega⟩ (by omega) (by omega) dX12_text_288 (fun V109389 e109388 => ?_)
                    have k109390 := st_oth e109388 k109355.1 h_x h109377 (by decide) (by decide)
                    have sS109391 : sd V109389 x = sd Wi104139 x := k109390.2.1.trans sS109356
                    have sQ109392 : wt V109389 x = wt Wi104139 x := k109390.2.2.trans sQ109357
                    have ak109393 := tk_oth e109388 ak109358.1 h_x h109377 (by decide) (by decide) ak109358.2
                    have ak109394 := tk_oth e109388 ak109359.1 h_x h109377 (by decide) (by decide) ak109359.2
                    have ak109395 := tk_oth e109388 ak109360.1 h_x h109377 (by decide) (by decide) ak109360.2
                    have ak109396 := tk_oth e109388 ak109361.1 h_x h109377 (by decide) (by decide) ak109361.2
                    have ak109397 := tk_oth e109388 ak109362.1 h_x h109377 (by decide) (by decide) ak109362.2
                    have ak109398 := tk_oth e109388 ak109363.1 h_x h109377 (by decide) (by decide) ak109363.2
                    have ak109399 := tk_oth e109388 ak109364.1 h_x h109377 (by decide) (by decide) ak109364.2
                    have ak109400 := tk_oth e109388 ak109365.1 h_x h109377 (by decide) (by decide) ak109365.2
                    have ak109401 := tk_put e109388 ak109366.1 h_x (vq_of hv109378) ⟨by omega, by omega⟩ ak109366.2
                    have ak109402 := tk_oth e109388 ak109367.1 h_x h109377 (by decide) (by decide) ak109367.2
                    have ak109403 := tk_oth e109388 ak109368.1 h_x h109377 (by decide) (by decide) ak109368.2
                    have ak109404 := tk_oth e109388 ak109369.1 h_x h109377 (by decide) (by decide) ak109369.2
                    have ak109405 := tk_oth e109388 ak109370.1 h_x h109377 (by decide) (by decide) ak109370.2
                    have ak109406 := tk_oth e109388 ak109371.1 h_x h109377 (by decide) (by decide) ak109371.2
                    have ak109407 := tk_oth e109388 ak109372.1 h_x h109377 (by decide) (by decide) ak109372.2
                    have ak109408 := tk_oth e109388 ak109373.1 h_x h109377 (by decide) (by decide) ak109373.2
                    have ak109409 := tk_oth e109388 ak109374.1 h_x h109377 (by decide) (by decide) ak109374.2
                    have ak109410 := tk_oth e109388 ak109375.1 h_x h109377 (by decide) (by decide) ak109375.2
                    have ak109411 := tk_oth e109388 ak109376.1 h_x h109377 (by decide) (by decide) ak109376.2
                    refine GO.aload_n dX12_text_289 rfl rfl ?_
                    refine GO.getA (n := 240) h_x fl_RX12_133 rfl rfl rfl rfl dX12_text_290 (fun hv109413 h109412 => ?_)
                    refine GO.iload dX12_text_293 rfl ?_
                    refine GO.aload_n dX12_text_295 rfl rfl ?_
                    refine GO.getA (n := 12) h_x fl_RX12_103 rfl rfl rfl rfl dX12_text_296 (fun hv109415 h109414 => ?_)
                    refine GO.iload dX12_text_299 rfl ?_
                    have hl44 : vi V109389 (vq V109389 x 44) (i104139).toNat = ar 44 V54986 x (i104139).toNat := (congrFun ak109404.2 (i104139).toNat).trans (congrFun hm44 (i104139).toNat).symm
                    refine GO.iald (t := 37) rfl rfl h109414 r_i104139 (by omega) (by omega) dX12_text_301 (fun _ _ => ?_)
                    refine GO.iast (t := 47) rfl rfl (by decide +kernel) h109412 ⟨by omega, by omega⟩ (by omega) (by omega) vi_ir (vi_ir).1 (vi_ir).2 dX12_text_302 (fun V109420 e109419 => ?_)
                    have k109421 := st_oth e109419 k109390.1 h_x h109412 (by decide) (by decide)
                    have sS109422 : sd V109420 x = sd Wi104139 x := k109421.2.1.trans sS109391
                    have sQ109423 : wt V109420 x = wt Wi104139 x := k109421.2.2.trans sQ109392
                    have ak109424 := tk_oth e109419 ak109393.1 h_x h109412 (by decide) (by decide) ak109393.2
                    have ak109425 := tk_oth e109419 ak109394.1 h_x h109412 (by decide) (by decide) ak109394.2
                    have ak109426 := tk_oth e109419 ak109395.1 h_x h109412 (by decide) (by decide) ak109395.2
                    have ak109427 := tk_oth e109419 ak109396.1 h_x h109412 (by decide) (by decide) ak109396.2
                    have ak109428 := tk_oth e109419 ak109397.1 h_x h109412 (by decide) (by decide) ak109397.2
                    have ak109429 := tk_oth e109419 ak109398.1 h_x h109412 (by decide) (by decide) ak109398.2
                    have ak109430 := tk_oth e109419 ak109399.1 h_x h109412 (by decide) (by decide) ak109399.2
                    have ak109431 := tk_oth e109419 ak109400.1 h_x h109412 (by decide) (by decide) ak109400.2
                    have ak109432 := tk_oth e109419 ak109401.1 h_x h109412 (by decide) (by decide) ak109401.2
                    have ak109433 := tk_oth e109419 ak109402.1 h_x h109412 (by decide) (by decide) ak109402.2
                    have ak109434 := tk_oth e109419 ak109403.1 h_x h109412 (by decide) (by decide) ak109403.2
                    have ak109435 := tk_oth e109419 ak109404.1 h_x h109412 (by decide) (by decide) ak109404.2
                    have ak109436 := tk_oth e109419 ak109405.1 h_x h109412 (by decide) (by decide) ak109405.2
                    have ak109437 := tk_oth e109419 ak109406.1 h_x h109412 (by decide) (by decide) ak109406.2
                    have ak109438 := tk_oth e109419 ak109407.1 h_x h109412 (by decide) (by decide) ak109407.2
                    have ak109439 := tk_oth e109419 ak109408.1 h_x h109412 (by decide) (by decide) ak109408.2
                    have ak109440 := tk_put e109419 ak109409.1 h_x (vq_of hv109413) vi_ir ak109409.2
                    have ak109441 := tk_oth e109419 ak109410.1 h_x h109412 (by decide) (by decide) ak109410.2
                    have ak109442 := tk_oth e109419 ak109411.1 h_x h109412 (by decide) (by decide) ak109411.2
                    refine GO.aload_n dX12_text_303 rfl rfl ?_
                    refine GO.getA (n := 240) h_x fl_RX12_136 rfl rfl rfl rfl dX12_text_304 (fun hv109444 h109443 => ?_)
                    refine GO.iload dX12_text_307 rfl ?_
                    refine GO.aload_n dX12_text_309 rfl rfl ?_
                    refine GO.getA (n := 12) h_x fl_RX12_106 rfl rfl rfl rfl dX12_text_310 (fun hv109446 h109445 => ?_)
                    refine GO.iload dX12_text_313 rfl ?_
                    have hl45 : vi V109420 (vq V109420 x 45) (i104139).toNat = ar 45 V54986 x (i104139).toNat := (congrFun ak109436.2 (i104139).toNat).trans (congrFun hm45 (i104139).toNat).symm
                    refine GO.iald (t := 38) rfl rfl h109445 r_i104139 (by omega) (by omega) dX12_text_315 (fun l109447 u109448 => ?_)
                    refine GO.iast (t := 48) rfl rfl (by decide +kernel) h109443 ⟨by omega, by omega⟩ (by omega) (by omega) vi_ir (by omega) (by omega) dX12_text_316 (fun V109454 e109453 => ?_)
                    have k109455 := st_oth e109453 k109421.1 h_x h109443 (by decide) (by decide)
                    have sS109456 : sd V109454 x = sd Wi104139 x := k109455.2.1.trans sS109422
                    have sQ109457 : wt V109454 x = wt Wi104139 x := k109455.2.2.trans sQ109423
                    have ak109458 := tk_oth e109453 ak109424.1 h_x h109443 (by decide) (by decide) ak109424.2
                    have ak109459 := tk_oth e109453 ak109425.1 h_x h109443 (by decide) (by decide) ak109425.2
                    have ak109460 := tk_oth e109453 ak109426.1 h_x h109443 (by decide) (by decide) ak109426.2
                    have ak109461 := tk_oth e109453 ak109427.1 h_x h109443 (by decide) (by decide) ak109427.2
                    have ak109462 := tk_oth e109453 ak109428.1 h_x h109443 (by decide) (by decide) ak109428.2
                    have ak109463 := tk_oth e109453 ak109429.1 h_x h109443 (by decide) (by decide) ak109429.2
                    have ak109464 := tk_oth e109453 ak109430.1 h_x h109443 (by decide) (by decide) ak109430.2
                    have ak109465 := tk_oth e109453 ak109431.1 h_x h109443 (by decide) (by decide) ak109431.2
                    have ak109466 := tk_oth e109453 ak109432.1 h_x h109443 (by decide) (by decide) ak109432.2
                    have ak109467 := tk_oth e109453 ak109433.1 h_x h109443 (by decide) (by decide) ak109433.2
                    have ak109468 := tk_oth e109453 ak109434.1 h_x h109443 (by decide) (by decide) ak109434.2
                    have ak109469 := tk_oth e109453 ak109435.1 h_x h109443 (by decide) (by decide) ak109435.2
                    have ak109470 := tk_oth e109453 ak109436.1 h_x h109443 (by decide) (by decide) ak109436.2
                    have ak109471 := tk_oth e109453 ak109437.1 h_x h109443 (by decide) (by decide) ak109437.2
                    have ak109472 := tk_oth e109453 ak109438.1 h_x h109443 (by decide) (by decide) ak109438.2
                    have ak109473 := tk_oth e109453 ak109439.1 h_x h109443 (by decide) (by decide) ak109439.2
                    have ak109474 := tk_oth e109453 ak109440.1 h_x h109443 (by decide) (by decide) ak109440.2
                    have ak109475 := tk_put e109453 ak109441.1 h_x (vq_of hv109444) vi_ir ak109441.2
                    have ak109476 := tk_oth e109453 ak109442.1 h_x h109443 (by decide) (by decide) ak109442.2
                    refine GO.aload_n dX12_text_317 rfl rfl ?_
                    refine GO.getA (n := 240) h_x fl_RX12_139 rfl rfl rfl rfl dX12_text_318 (fun hv109478 h109477 => ?_)
                    refine GO.iload dX12_text_321 rfl ?_
                    refine GO.aload_n dX12_text_323 rfl rfl ?_
                    refine GO.getA (n := 12) h_x fl_RX12_109 rfl rfl rfl rfl dX12_text_324 (fun hv109480 h109479 => ?_)
                    refine GO.iload dX12_text_327 rfl ?_
                    have hl46 : vi V109454 (vq V109454 x 46) (i104139).toNat = ar 46 V54986 x (i104139).toNat := (congrFun ak109471.2 (i104139).toNat).trans (congrFun hm46 (i104139).toNat).symm
                    refine GO.iald (t := 39) rfl rfl h109479 r_i104139 (by omega) (by omega) dX12_text_329 (fun l109481 u109482 => ?_)
                    refine GO.iast (t := 49) rfl rfl (by decide +kernel) h109477 ⟨by omega, by omega⟩ (by omega) (by omega) vi_ir (by omega) (by omega) dX12_text_330 (fun V109489 e109488 => ?_)
                    have k109490 := st_oth e109488 k109455.1 h_x h109477 (by decide) (by decide)
                    have sS109491 : sd V109489 x = sd Wi104139 x := k109490.2.1.trans sS109456
                    have sQ109492 : wt V109489 x = wt Wi104139 x := k109490.2.2.trans sQ109457
                    have ak109493 := tk_oth e109488 ak109458.1 h_x h109477 (by decide) (by decide) ak109458.2
                    have ak109494 := tk_oth e109488 ak109459.1 h_x h109477 (by decide) (by decide) ak109459.2
                    have ak109495 := tk_oth e109488 ak109460.1 h_x h109477 (by decide) (by decide) ak109460.2
                    have ak109496 := tk_oth e109488 ak109461.1 h_x h109477 (by decide) (by decide) ak109461.2
                    have ak109497 := tk_oth e109488 ak109462.1 h_x h109477 (by decide) (by decide) ak109462.2
                    have ak109498 := tk_oth e109488 ak109463.1 h_x h109477 (by decide) (by decide) ak109463.2
                    have ak109499 := tk_oth e109488 ak109464.1 h_x h109477 (by decide) (by decide) ak109464.2
                    have ak109500 := tk_oth e109488 ak109465.1 h_x h109477 (by decide) (by decide) ak109465.2
                    have ak109501 := tk_oth e109488 ak109466.1 h_x h109477 (by decide) (by decide) ak109466.2
                    have ak109502 := tk_oth e109488 ak109467.1 h_x h109477 (by decide) (by decide) ak109467.2
                    have ak109503 := tk_oth e109488 ak109468.1 h_x h109477 (by decide) (by decide) ak109468.2
                    have ak109504 := tk_oth e109488 ak109469.1 h_x h109477 (by decide) (by decide) ak109469.2
                    have ak109505 := tk_oth e109488 ak109470.1 h_x h109477 (by decide) (by decide) ak109470.2
                    have ak109506 := tk_oth e109488 ak109471.1 h_x h109477 (by decide) (by decide) ak109471.2
                    have ak109507 := tk_oth e109488 ak109472.1 h_x h109477 (by decide) (by decide) ak109472.2
                    have ak109508 := tk_oth e109488 ak109473.1 h_x h109477 (by decide) (by decide) ak109473.2
                    have ak109509 := tk_oth e109488 ak109474.1 h_x h109477 (by decide) (by decide) ak109474.2
                    have ak109510 := tk_oth e109488 ak109475.1 h_x h109477 (by decide) (by decide) ak109475.2
                    have ak109511 := tk_put e109488 ak109476.1 h_x (vq_of hv109478) vi_ir ak109476.2
                    refine GO.iinc (X := i104139) (n := 1) (Y := i104139 + 1) (ls1 := [some (.ref x), some (ti p0), some (ti p1), some (ti p2), some (ti i182), some (ti (i104139 + 1)), some (ti z109311)]) dX12_text_331 rfl rfl rfl rfl ?_
                    refine GO.goto (tgt := 208) dX12_text_334 (by decide) ?_
                    refine GO.drop [true, true, true, true, true, true, false] rfl ?_
                    have e109515 : vi V109389 x 47 = vi V109354 x 47 := vi_up e109388 (Or.inl (K_ne h_x h109377 (by decide)))
                    have e109514 : vi V109420 x 47 = vi V109389 x 47 := vi_up e109419 (Or.inl (K_ne h_x h109412 (by decide)))
                    have e109513 : vi V109454 x 47 = vi V109420 x 47 := vi_up e109453 (Or.inl (K_ne h_x h109443 (by decide)))
                    have e109512 : vi V109489 x 47 = vi V109454 x 47 := vi_up e109488 (Or.inl (K_ne h_x h109477 (by decide)))
                    have e109521 : vi V109320 x 48 = vi Wi104139 x 48 := vi_up e109319 (Or.inl (K_ne h_x h109313 (by decide)))
                    have e109520 : vi V109354 x 48 = vi V109320 x 48 := vi_up e109353 (Or.inl (K_ne h_x h109343 (by decide)))
                    have e109519 : vi V109389 x 48 = vi V109354 x 48 := vi_up e109388 (Or.inl (K_ne h_x h109377 (by decide)))
                    have e109518 : vi V109420 x 48 = vi V109389 x 48 := vi_up e109419 (Or.inl (K_ne h_x h109412 (by decide)))
                    have e109517 : vi V109454 x 48 = vi V109420 x 48 := vi_up e109453 (Or.inl (K_ne h_x h109443 (by decide)))
                    have e109516 : vi V109489 x 48 = vi V109454 x 48 := vi_up e109488 (Or.inl (K_ne h_x h109477 (by decide)))
                    have q109522 : -2147483648 ≤ vi Wi104139 x 48 ∧ vi Wi104139 x 48 ≤ 2147483647 := vi_ir
                    have e109528 : vi V109320 x 36 = vi Wi104139 x 36 := vi_up e109319 (Or.inl (K_ne h_x h109313 (by decide)))
                    have e109527 : vi V109354 x 36 = vi V109320 x 36 := vi_up e109353 (Or.inl (K_ne h_x h109343 (by decide)))
                    have e109526 : vi V109389 x 36 = vi V109354 x 36 := vi_up e109388 (Or.inl (K_ne h_x h109377 (by decide)))
                    have e109525 : vi V109420 x 36 = vi V109389 x 36 := vi_up e109419 (Or.inl (K_ne h_x h109412 (by decide)))
                    have e109524 : vi V109454 x 36 = vi V109420 x 36 := vi_up e109453 (Or.inl (K_ne h_x h109443 (by decide)))
                    have e109523 : vi V109489 x 36 = vi V109454 x 36 := vi_up e109488 (Or.inl (K_ne h_x h109477 (by decide)))
                    have q109529 : -2147483648 ≤ vi Wi104139 x 36 ∧ vi Wi104139 x 36 ≤ 2147483647 := vi_ir
                    have e109535 : vi V109320 x 38 = vi Wi104139 x 38 := vi_up e109319 (Or.inl (K_ne h_x h109313 (by decide)))
                    have e109534 : vi V109354 x 38 = vi V109320 x 38 := vi_up e109353 (Or.inl (K_ne h_x h109343 (by decide)))
                    have e109533 : vi V109389 x 38 = vi V109354 x 38 := vi_up e109388 (Or.inl (K_ne h_x h109377 (by decide)))
                    have e109532 : vi V109420 x 38 = vi V109389 x 38 := vi_up e109419 (Or.inl (K_ne h_x h109412 (by decide)))
                    have e109531 : vi V109454 x 38 = vi V109420 x 38 := vi_up e109453 (Or.inl (K_ne h_x h109443 (by decide)))
                    have e109530 : vi V109489 x 38 = vi V109454 x 38 := vi_up e109488 (Or.inl (K_ne h_x h109477 (by decide)))
                    have e109541 : vi V109320 x 30 = vi Wi104139 x 30 := vi_up e109319 (Or.inl (K_ne h_x h109313 (by decide)))
                    have e109540 : vi V109354 x 30 = vi V109320 x 30 := vi_up e109353 (Or.inl (K_ne h_x h109343 (by decide)))
                    have e109539 : vi V109389 x 30 = vi V109354 x 30 := vi_up e109388 (Or.inl (K_ne h_x h109377 (by decide)))
                    have e109538 : vi V109420 x 30 = vi V109389 x 30 := vi_up e109419 (Or.inl (K_ne h_x h109412 (by decide)))
                    have e109537 : vi V109454 x 30 = vi V109420 x 30 := vi_up e109453 (Or.inl (K_ne h_x h109443 (by decide)))
                    have e109536 : vi V109489 x 30 = vi V109454 x 30 := vi_up e109488 (Or.inl (K_ne h_x h109477 (by decide)))
                    have q109542 : -2147483648 ≤ vi Wi104139 x 30 ∧ vi Wi104139 x 30 ≤ 2147483647 := vi_ir
                    exact ih108942 (i104139 + 1) V109489 ⟨by omega, by omega, by omega, (by first | exact CPf.rf.at ak109499.2 | exact CPf.put h53 (by omega) (by omega) ak109499.2 (by omega) (by omega) (by omega)), (by first | exact CPf.rf.at ak109500.2 | exact CPf.put h54 (by omega) (by omega) ak109500.2 (by omega) (by omega) (by omega)), (by first | exact CPf.rf.at ak109501.2 | exact CPf.put h55 (by omega) (by omega) ak109501.2 (by omega) (by omega) (by omega)), (by first | exact CPf.rf.at ak109509.2 | exact CPf.put h56 (by omega) (by omega) ak109509.2 (by omega) (by omega) (by omega)), (by first | exact CPf.rf.at ak109510.2 | exact CPf.put h57 (by omega) (by omega) ak109510.2 (by omega) (by omega) (by omega)), (by first | exact CPf.rf.at ak109511.2 | exact CPf.put h58 (by omega) (by omega) ak109511.2 (by omega) (by omega) (by omega)), ak109493.2, ak109494.2, ak109495.2, ak109496.2, ak109497.2, ak109498.2, ak109502.2, ak109503.2, ak109504.2, ak109505.2, ak109506.2, ak109507.2, ak109508.2, trivial⟩ (by show (2147483647 - (i104139 + 1)).toNat < (2147483647 - i104139).toNat; omega)
                ·
                  refine GO.aload_n dX12_text_176 rfl rfl ?_
                  refine GO.getA (n := 4400) h_x fl_RX12_112 rfl rfl rfl rfl dX12_text_177 (fun hv109544 h109543 => ?_)
                  refine GO.sipush dX12_text_180 rfl ?_
                  refine GO.aload_n dX12_text_183 rfl rfl ?_
                  refine GO.getI h_x fl_RX12_535 rfl rfl dX12_text_184 (fun l109545 u109546 => ?_)
                  refine GO.imul dX12_text_187 ?_
                  refine GO.iload dX12_text_188 rfl ?_
                  refine GO.iadd dX12_text_190 ?_
                  refine GO.aload_n dX12_text_191 rfl rfl ?_
                  refine GO.getA (n := 220) h_x fl_RX12_88 rfl rfl rfl rfl dX12_text_192 (fun hv109548 h109547 => ?_)
                  refine GO.iload dX12_text_195 rfl ?_
                  have hl39 : vi Wi55109 (vq Wi55109 x 39) (i55109).toNat = ar 39 V54986 x (i55109).toNat := (congrFun kp104096 (i55109).toNat).trans (congrFun hm39 (i55109).toNat).symm
                  have q109549 : -2147483648 ≤ vi Wi55109 x 36 ∧ vi Wi55109 x 36 ≤ 2147483647 := vi_ir
                  refine GO.iald (t := 32) rfl rfl h109547 r_i55109 (by omega) (by omega) dX12_text_197 (fun l109550 u109551 => ?_)
                  have q109552 : -2147483648 ≤ vi Wi55109 x 47 ∧ vi Wi55109 x 47 ≤ 2147483647 := vi_ir
                  refine GO.iast (t := 40) rfl rfl (by decide +kernel) h109543 ⟨by omega, by omega⟩ (by omega) (by omega) vi_ir (by omega) (by omega) dX12_text_198 (fun V109554 e109553 => ?_)
                  have k109555 := st_oth e109553 aq104115 h_x h109543 (by decide) (by decide)
                  have sS109556 : sd V109554 x = sd Wi55109 x := k109555.2.1.trans (rfl : sd Wi55109 x = sd Wi55109 x)
                  have sQ109557 : wt V109554 x = wt Wi55109 x := k109555.2.2.trans (rfl : wt Wi55109 x = wt Wi55109 x)
                  have ak109558 := tk_oth e109553 ak104117 h_x h109543 (by decide) (by decide) kp104096
                  have ak109559 := tk_oth e109553 ak104118 h_x h109543 (by decide) (by decide) kp104097
                  have ak109560 := tk_oth e109553 ak104119 h_x h109543 (by decide) (by decide) kp104098
                  have ak109561 := tk_oth e109553 ak104120 h_x h109543 (by decide) (by decide) kp104099
                  have ak109562 := tk_put e109553 ak104121 h_x (vq_of hv109544) vi_ir (rfl : ar 49 Wi55109 x = ar 49 Wi55109 x)
                  have ak109563 := tk_oth e109553 ak104122 h_x h109543 (by decide) (by decide) kp104100
                  have ak109564 := tk_oth e109553 ak104123 h_x h109543 (by decide) (by decide) kp104101
                  have ak109565 := tk_oth e109553 ak104124 h_x h109543 (by decide) (by decide) kp104102
                  have ak109566 := tk_oth e109553 ak104125 h_x h109543 (by decide) (by decide) kp104103
                  have ak109567 := tk_oth e109553 ak104126 h_x h109543 (by decide) (by decide) kp104104
                  have ak109568 := tk_oth e109553 ak104127 h_x h109543 (by decide) (by decide) kp104105
                  have ak109569 := tk_oth e109553 ak104128 h_x h109543 (by decide) (by decide) kp104106
                  have ak109570 := tk_oth e109553 ak104129 h_x h109543 (by decide) (by decide) kp104107
                  have ak109571 := tk_oth e109553 ak104130 h_x h109543 (by decide) (by decide) kp104108
                  have ak109572 := tk_oth e109553 ak104131 h_x h109543 (by decide) (by decide) kp104109
                  have ak109573 := tk_oth e109553 ak104132 h_x h109543 (by decide) (by decide) kp104110
                  have ak109574 := tk_oth e109553 ak104133 h_x h109543 (by decide) (by decide) kp104111
                  have ak109575 := tk_oth e109553 ak104134 h_x h109543 (by decide) (by decide) kp104112
                  have ak109576 := tk_oth e109553 ak104135 h_x h109543 (by decide) (by decide) kp104113
                  refine GO.iinc (X := i55109) (n := 1) (Y := i55109 + 1) (ls1 := [some (.ref x), some (ti p0), some (ti p1), some (ti p2), some (ti i182), some (ti (i55109 + 1)), none]) dX12_text_199 rfl rfl rfl rfl ?_
                  refine GO.goto (tgt := 167) dX12_text_202 (by decide) ?_
                  have e109577 : vi V109554 x 47 = vi Wi55109 x 47 := vi_up e109553 (Or.inl (K_ne h_x h109543 (by decide)))
                  have e109578 : vi V109554 x 48 = vi Wi55109 x 48 := vi_up e109553 (Or.inl (K_ne h_x h109543 (by decide)))
                  have q109579 : -2147483648 ≤ vi Wi55109 x 48 ∧ vi Wi55109 x 48 ≤ 2147483647 := vi_ir
                  have e109580 : vi V109554 x 36 = vi Wi55109 x 36 := vi_up e109553 (Or.inl (K_ne h_x h109543 (by decide)))
                  have e109581 : vi V109554 x 38 = vi Wi55109 x 38 := vi_up e109553 (Or.inl (K_ne h_x h109543 (by decide)))
                  have q109582 : -2147483648 ≤ vi Wi55109 x 38 ∧ vi Wi55109 x 38 ≤ 2147483647 := vi_ir
                  have e109583 : vi V109554 x 30 = vi Wi55109 x 30 := vi_up e109553 (Or.inl (K_ne h_x h109543 (by decide)))
                  have q109584 : -2147483648 ≤ vi Wi55109 x 30 ∧ vi Wi55109 x 30 ≤ 2147483647 := vi_ir
                  exact ih104094 (i55109 + 1) V109554 ⟨by omega, by omega, by omega, (by first | exact CPf.rf.at ak109562.2 | exact CPf.put h49 (by omega) (by omega) ak109562.2 (by omega) (by omega) (by omega)), ak109558.2, ak109559.2, ak109560.2, ak109561.2, ak109563.2, ak109564.2, ak109565.2, ak109566.2, ak109567.2, ak109568.2, ak109569.2, ak109570.2, ak109571.2, ak109572.2, ak109573.2, ak109574.2, ak109575.2, ak109576.2, trivial⟩ (by show (2147483647 - (i55109 + 1)).toNat < (2147483647 - i55109).toNat; omega)
              ·
                refine GO.aload_n dX12_text_90 rfl rfl ?_
                refine GO.bipush dX12_text_91 rfl ?_
                refine GO.callV (ci := 11) (N := mX12_takes) dX12_text_93 (RX12, TX12, 151) rfl gV_RX12_532 h_x (t_X12_takes h_x (ir_c rfl) (by omega)) rfl [] rfl rfl (Nat.le_of_ble_eq_true rfl) rfl (k_is fun X109585 V109589 r109586 h109587 hF109588 => ?_)
                have k109590 := st_fr hF109588 aq54925 h_x (by decide +kernel) (by decide +kernel) (by decide +kernel) (by decide +kernel)
                have sS109591 : sd V109589 x = sd Wi182 x := k109590.2.1.trans (rfl : sd Wi182 x = sd Wi182 x)
                have sQ109592 : wt V109589 x = wt Wi182 x := k109590.2.2.trans (rfl : wt Wi182 x = wt Wi182 x)
                have ak109593 := tk_fr hF109588 ak54927 h_x (by decide +kernel) (by decide +kernel) (rfl : ar 39 Wi182 x = ar 39 Wi182 x)
                have ak109594 := tk_fr hF109588 ak54928 h_x (by decide +kernel) (by decide +kernel) (rfl : ar 41 Wi182 x = ar 41 Wi182 x)
                have ak109595 := tk_fr hF109588 ak54929 h_x (by decide +kernel) (by decide +kernel) (rfl : ar 42 Wi182 x = ar 42 Wi182 x)
                have ak109596 := tk_fr hF109588 ak54930 h_x (by decide +kernel) (by decide +kernel) (rfl : ar 43 Wi182 x = ar 43 Wi182 x)
                have ak109597 := tk_fr hF109588 ak54931 h_x (by decide +kernel) (by decide +kernel) kp54912
                have ak109598 := tk_fr hF109588 ak54932 h_x (by decide +kernel) (by decide +kernel) kp54913
                have ak109599 := tk_fr hF109588 ak54933 h_x (by decide +kernel) (by decide +kernel) kp54914
                have ak109600 := tk_fr hF109588 ak54934 h_x (by decide +kernel) (by decide +kernel) kp54915
                have ak109601 := tk_fr hF109588 ak54935 h_x (by decide +kernel) (by decide +kernel) kp54916
                have ak109602 := tk_fr hF109588 ak54936 h_x (by decide +kernel) (by decide +kernel) kp54917
                have ak109603 := tk_fr hF109588 ak54937 h_x (by decide +kernel) (by decide +kernel) kp54918
                have ak109604 := tk_fr hF109588 ak54938 h_x (by decide +kernel) (by decide +kernel) (rfl : ar 44 Wi182 x = ar 44 Wi182 x)
                have ak109605 := tk_fr hF109588 ak54939 h_x (by decide +kernel) (by decide +kernel) (rfl : ar 45 Wi182 x = ar 45 Wi182 x)
                have ak109606 := tk_fr hF109588 ak54940 h_x (by decide +kernel) (by decide +kernel) (rfl : ar 46 Wi182 x = ar 46 Wi182 x)
                have ak109607 := tk_fr hF109588 ak54941 h_x (by decide +kernel) (by decide +kernel) kp54919
                have ak109608 := tk_fr hF109588 ak54942 h_x (by decide +kernel) (by decide +kernel) kp54920
                have ak109609 := tk_fr hF109588 ak54943 h_x (by decide +kernel) (by decide +kernel) kp54921
                have ak109610 := tk_fr hF109588 ak54944 h_x (by decide +kernel) (by decide +kernel) kp54922
                have ak109611 := tk_fr hF109588 ak54945 h_x (by decide +kernel) (by decide +kernel) kp54923
                have rq0_93 := h109587.2.2.2
                refine GO.if_eq (tgt := 110) dX12_text_96 (by decide) r109586 (fun c109613 => ?_) (fun c109613 => ?_)
                ·
                  have e109614 : vi V109589 x 32 = vi Wi182 x 32 := vi_fr hF109588 h_x h_x (by decide +kernel)
                  have e109615 : vi V109589 x 36 = vi Wi182 x 36 := vi_fr hF109588 h_x h_x (by decide +kernel)
                  have e109616 : vi V109589 x 37 = vi Wi182 x 37 := vi_fr hF109588 h_x h_x (by decide +kernel)
                  refine GO.useWT (fun hWb => ?_)
                  have hrb := hWb.rd h_x
                  refine GO.iconst dX12_text_110 ?_
                  refine GO.istore (ls1 := [some (.ref x), some (ti p0), some (ti p1), some (ti p2), some (ti 0), none, none]) dX12_text_111 rfl rfl ?_
                  refine GO.goto (tgt := 74) dX12_text_113 (by decide) ?_
                  have e109617 : vi V109589 x 47 = vi Wi182 x 47 := vi_fr hF109588 h_x h_x (by decide +kernel)
                  have q109618 : -2147483648 ≤ vi Wi182 x 47 ∧ vi Wi182 x 47 ≤ 2147483647 := vi_ir
                  have e109619 : vi V109589 x 48 = vi Wi182 x 48 := vi_fr hF109588 h_x h_x (by decide +kernel)
                  have q109620 : -2147483648 ≤ vi Wi182 x 48 ∧ vi Wi182 x 48 ≤ 2147483647 := vi_ir
                  have q109621 : -2147483648 ≤ vi Wi182 x 36 ∧ vi Wi182 x 36 ≤ 2147483647 := vi_ir
                  have q109622 : -2147483648 ≤ vi Wi182 x 31 ∧ vi Wi182 x 31 ≤ 2147483647 := vi_ir
                  have q109623 : -2147483648 ≤ vi Wi182 x 32 ∧ vi Wi182 x 32 ≤ 2147483647 := vi_ir
                  have q109624 : -2147483648 ≤ vi V109589 x 31 ∧ vi V109589 x 31 ≤ 2147483647 := vi_ir
                  exact ih54910 0 V109589 ⟨by omega, by omega, by omega, (by first | exact fun h => raw_readsClause (by omega) | exact fun h => absurd rfl h | exact fun h => absurd h (by omega)), (by first | exact RTI.beg hT0 (by omega) (by omega) rq0_69 | exact RTI.bad hrt (by omega) hTp (by omega) (by omega) (rq0_93.2 (by omega)).1 (rq0_93.2 (by omega)).2 rfl | exact RTI.step hrt (by omega) hTp (by omega) (by omega) (rq0_93.1 (by omega)).1 (rq0_93.1 (by omega)).2 (by omega) hs9 (by omega) h41 h44 h45 h46 hT9 (by omega) rq0_100 (by constructor <;> intro _ <;> omega)), ak109597.2, ak109598.2, ak109599.2, ak109600.2, ak109601.2, ak109602.2, ak109603.2, ak109607.2, ak109608.2, ak109609.2, ak109610.2, ak109611.2, trivial⟩ (by show (((1000 * 0) + (vi V109589 x 32 - vi V109589 x 31))).toNat < (((1000 * i182) + (vi Wi182 x 32 - vi Wi182 x 31))).toNat; omega)
                ·
                  have q109625 := h109587.2.1 (by omega)
                  have e109626 : vi V109589 x 38 = vi Wi182 x 38 := vi_fr hF109588 h_x h_x (by decide +kernel)
                  have e109627 : vi V109589 x 36 = vi Wi182 x 36 := vi_fr hF109588 h_x h_x (by decide +kernel)
                  have e109628 : vi V109589 x 32 = vi Wi182 x 32 := vi_fr hF109588 h_x h_x (by decide +kernel)
                  have hs9 := sS109591
                  have h41 := ak109594.2
                  have h44 := ak109604.2
                  have h45 := ak109605.2
                  have h46 := ak109606.2
                  refine GO.useFR (fun hFs => ?_)
                  have hT9 : ∀ src, SRM V x (p2).toNat src → TP V109589 x src (p2).toNat := fun src h => TP.of hFs h_x hW_0 (by decide +kernel) (by decide +kernel) (by omega) h
                  refine GO.aload_n dX12_text_99 rfl rfl ?_
                  have q109629 : -2147483648 ≤ vi V109589 x 31 ∧ vi V109589 x 31 ≤ 2147483647 := vi_ir
                  have q109630 : -2147483648 ≤ vi Wi182 x 31 ∧ vi Wi182 x 31 ≤ 2147483647 := vi_ir
                  have q109631 : -2147483648 ≤ vi Wi182 x 32 ∧ vi Wi182 x 32 ≤ 2147483647 := vi_ir
                  have q109632 : -2147483648 ≤ vi Wi182 x 36 ∧ vi Wi182 x 36 ≤ 2147483647 := vi_ir
                  refine GO.callV (ci := 11) (N := mX12_readsClause) dX12_text_100 (RX12, TX12, 151) rfl gV_RX12_538 h_x (t_X12_readsClause h_x (by omega) ((by first | exact TC.nil (by omega) | exact TC.eq (htc (by omega)) ak109594.2 ak109595.2 ak109596.2 ak109593.2 (by omega) (by omega)))) rfl [] rfl rfl (Nat.le_of_ble_eq_true rfl) rfl (k_is fun X109633 V109637 r109634 h109635 hF109636 => ?_)
                  refine GO.useWT (fun hW109638 => ?_)
                  have aq109639 := hW109638.aq h_x
                  have ak109640 := tk_fr hF109636 ak109597.1 h_x (by decide +kernel) (by decide +kernel) ak109597.2
                  have ak109641 := tk_fr hF109636 ak109598.1 h_x (by decide +kernel) (by decide +kernel) ak109598.2
                  have ak109642 := tk_fr hF109636 ak109599.1 h_x (by decide +kernel) (by decide +kernel) ak109599.2
                  have ak109643 := tk_fr hF109636 ak109600.1 h_x (by decide +kernel) (by decide +kernel) ak109600.2
                  have ak109644 := tk_fr hF109636 ak109601.1 h_x (by decide +kernel) (by decide +kernel) ak109601.2
                  have ak109645 := tk_fr hF109636 ak109602.1 h_x (by decide +kernel) (by decide +kernel) ak109602.2
                  have ak109646 := tk_fr hF109636 ak109603.1 h_x (by decide +kernel) (by decide +kernel) ak109603.2
                  have ak109647 := tk_fr hF109636 ak109607.1 h_x (by decide +kernel) (by decide +kernel) ak109607.2
                  have ak109648 := tk_fr hF109636 ak109608.1 h_x (by decide +kernel) (by decide +kernel) ak109608.2
                  have ak109649 := tk_fr hF109636 ak109609.1 h_x (by decide +kernel) (by decide +kernel) ak109609.2
                  have ak109650 := tk_fr hF109636 ak109610.1 h_x (by decide +kernel) (by decide +kernel) ak109610.2
                  have ak109651 := tk_fr hF109636 ak109611.1 h_x (by decide +kernel) (by decide +kernel) ak109611.2
                  refine GO.useWT (fun hW109652 => ?_)
                  have ak109653 := hW109652.arr h_x 39 32 (by decide) rfl (by decide)
                  have ak109654 := hW109652.arr h_x 41 34 (by decide) rfl (by decide)
                  have ak109655 := hW109652.arr h_x 42 35 (by decide) rfl (by decide)
                  have ak109656 := hW109652.arr h_x 43 36 (by decide) rfl (by decide)
                  have ak109657 := hW109652.arr h_x 44 37 (by decide) rfl (by decide)
                  have ak109658 := hW109652.arr h_x 45 38 (by decide) rfl (by decide)
                  have ak109659 := hW109652.arr h_x 46 39 (by decide) rfl (by decide)
                  have raw_readsClause := h109635.2.2.2.1
                  have rq0_100 := h109635.2.2.2.2
                  have rw100 := h109635.2.2.2.1
                  refine GO.if_eq (tgt := 110) dX12_text_103 (by decide) r109634 (fun c109662 => ?_) (fun c109662 => ?_)
                  ·
                    have e109663 : vi V109637 x 32 = vi V109589 x 32 := vi_fr hF109636 h_x h_x (by decide +kernel)
                    refine GO.useWT (fun hWb => ?_)
                    have hrb := hWb.rd h_x
                    refine GO.iconst dX12_text_110 ?_
                    refine GO.istore (ls1 := [some (.ref x), some (ti p0), some (ti p1), some (ti p2), some (ti 0), none, none]) dX12_text_111 rfl rfl ?_
                    refine GO.goto (tgt := 74) dX12_text_113 (by decide) ?_
                    have e109666 : vi V109589 x 47 = vi Wi182 x 47 := vi_fr hF109588 h_x h_x (by decide +kernel)
                    have e109665 : vi V109637 x 47 = vi V109589 x 47 := vi_fr hF109636 h_x h_x (by decide +kernel)
                    have q109667 : -2147483648 ≤ vi Wi182 x 47 ∧ vi Wi182 x 47 ≤ 2147483647 := vi_ir
                    have e109669 : vi V109589 x 48 = vi Wi182 x 48 := vi_fr hF109588 h_x h_x (by decide +kernel)
                    have e109668 : vi V109637 x 48 = vi V109589 x 48 := vi_fr hF109636 h_x h_x (by decide +kernel)
                    have q109670 : -2147483648 ≤ vi Wi182 x 48 ∧ vi Wi182 x 48 ≤ 2147483647 := vi_ir
                    have q109671 : -2147483648 ≤ vi V109637 x 36 ∧ vi V109637 x 36 ≤ 2147483647 := vi_ir
                    have q109672 : -2147483648 ≤ vi V109637 x 31 ∧ vi V109637 x 31 ≤ 2147483647 := vi_ir
                    exact ih54910 0 V109637 ⟨by omega, by omega, by omega, (by first | exact fun h => raw_readsClause (by omega) | exact fun h => absurd rfl h | exact fun h => absurd h (by omega)), (by first | exact RTI.beg hT0 (by omega) (by omega) rq0_69 | exact RTI.bad hrt (by omega) hTp (by omega) (by omega) (rq0_93.2 (by omega)).1 (rq0_93.2 (by omega)).2 rfl | exact RTI.step hrt (by omega) hTp (by omega) (by omega) (rq0_93.1 (by omega)).1 (rq0_93.1 (by omega)).2 (by omega) hs9 (by omega) h41 h44 h45 h46 hT9 (by omega) rq0_100 (by constructor <;> intro _ <;> omega)), ak109640.2, ak109641.2, ak109642.2, ak109643.2, ak109644.2, ak109645.2, ak109646.2, ak109647.2, ak109648.2, ak109649.2, ak109650.2, ak109651.2, trivial⟩ (by show (((1000 * 0) + (vi V109637 x 32 - vi V109637 x 31))).toNat < (((1000 * i182) + (vi Wi182 x 32 - vi Wi182 x 31))).toNat; omega)
                  ·
                    have q109673 := h109635.2.1 (by omega)
                    refine GO.iconst dX12_text_106 ?_
                    refine GO.goto (tgt := 111) dX12_text_107 (by decide) ?_
                    refine GO.istore (ls1 := [some (.ref x), some (ti p0), some (ti p1), some (ti p2), some (ti 1), none, none]) dX12_text_111 rfl rfl ?_
                    refine GO.goto (tgt := 74) dX12_text_113 (by decide) ?_
                    have e109675 : vi V109589 x 47 = vi Wi182 x 47 := vi_fr hF109588 h_x h_x (by decide +kernel)
                    have e109674 : vi V109637 x 47 = vi V109589 x 47 := vi_fr hF109636 h_x h_x (by decide +kernel)
                    have q109676 : -2147483648 ≤ vi Wi182 x 47 ∧ vi Wi182 x 47 ≤ 2147483647 := vi_ir
                    have e109678 : vi V109589 x 48 = vi Wi182 x 48 := vi_fr hF109588 h_x h_x (by decide +kernel)
                    have e109677 : vi V109637 x 48 = vi V109589 x 48 := vi_fr hF109636 h_x h_x (by decide +kernel)
                    have q109679 : -2147483648 ≤ vi Wi182 x 48 ∧ vi Wi182 x 48 ≤ 2147483647 := vi_ir
                    have q109680 : -2147483648 ≤ vi V109637 x 36 ∧ vi V109637 x 36 ≤ 2147483647 := vi_ir
                    have q109681 : -2147483648 ≤ vi V109637 x 31 ∧ vi V109637 x 31 ≤ 2147483647 := vi_ir
                    have e109682 : vi V109637 x 32 = vi V109589 x 32 := vi_fr hF109636 h_x h_x (by decide +kernel)
                    exact ih54910 1 V109637 ⟨by omega, by omega, by omega, (by first | exact fun h => raw_readsClause (by omega) | exact fun h => absurd rfl h | exact fun h => absurd h (by omega)), (by first | exact RTI.beg hT0 (by omega) (by omega) rq0_69 | exact RTI.bad hrt (by omega) hTp (by omega) (by omega) (rq0_93.2 (by omega)).1 (rq0_93.2 (by omega)).2 rfl | exact RTI.step hrt (by omega) hTp (by omega) (by omega) (rq0_93.1 (by omega)).1 (rq0_93.1 (by omega)).2 (by omega) hs9 (by omega) h41 h44 h45 h46 hT9 (by omega) rq0_100 (by constructor <;> intro _ <;> omega)), ak109640.2, ak109641.2, ak109642.2, ak109643.2, ak109644.2, ak109645.2, ak109646.2, ak109647.2, ak109648.2, ak109649.2, ak109650.2, ak109651.2, trivial⟩ (by show (((1000 * 1) + (vi V109637 x 32 - vi V109637 x 31))).toNat < (((1000 * i182) + (vi Wi182 x 32 - vi Wi182 x 31))).toNat; omega)
          ·
            refine GO.iconst dX12_text_46 ?_
            exact GO.reti rfl rfl dX12_text_47 ⟨rfl, _, rfl, (ir_c rfl), ⟨by omega, (by first | exact w_0 | exact GX.mk w_0 (by omega) (by omega) (rfl : ar 49 V x = ar 49 V x) (rfl : ar 50 V x = ar 50 V x) (rfl : ar 53 V x = ar 53 V x) (rfl : ar 54 V x = ar 54 V x) (rfl : ar 55 V x = ar 55 V x) (rfl : ar 60 V x = ar 60 V x) (rfl : ar 61 V x = ar 61 V x) | exact GX.text hW_0 hWm h_x w_0 htm (by omega) (by omega) (by omega) (rfl : ar 50 V x = ar 50 V x) (by omega) (by omega) (rfl : ar 53 V x = ar 53 V x) (rfl : ar 54 V x = ar 54 V x) (rfl : ar 55 V x = ar 55 V x) (rfl : ar 49 V x = ar 49 V x) h53 h54 h55 (by omega) h49 (by omega) (rfl : ar 60 V x = ar 60 V x) (rfl : ar 61 V x = ar 61 V x)), (by first | exact MTX.no (by unfold MTC; omega) rfl | exact MTX.er hmc hrt (by omega) (by omega) (by omega) (by omega) (by omega) (by omega) (by omega) (rfl : ar 50 V x = ar 50 V x) (rfl : ar 51 V x = ar 51 V x) (rfl : ar 52 V x = ar 52 V x) (rfl : ar 53 V x = ar 53 V x) (rfl : ar 56 V x = ar 56 V x) (rfl : ar 57 V x = ar 57 V x) (rfl : ar 58 V x = ar 58 V x) | exact MTX.ok hmc hrt (by omega) (by omega) (by omega) (by omega) (by omega) hm41 hm44 hm45 hm46 (by omega) (rfl : ar 51 V x = ar 51 V x) (by omega) (rfl : ar 52 V x = ar 52 V x) (by omega) (rfl : ar 50 V x = ar 50 V x) (by omega) (by omega) (rfl : ar 53 V x = ar 53 V x) (rfl : ar 56 V x = ar 56 V x) (rfl : ar 57 V x = ar 57 V x) (rfl : ar 58 V x = ar 58 V x) h53 h56 h57 h58 (by omega) (by omega) (by omega))⟩⟩
