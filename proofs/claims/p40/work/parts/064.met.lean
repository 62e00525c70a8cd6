def mX12_text : MRec := (RX12, cX12_text, 7, (some .int), yX12_text, 8, 168, 0, 0, 8543931847395829653691396677112701183385529677773362518872825501679930289431200552663524355080192)
set_option maxHeartbeats 8000000 in
theorem t_X12_text {K : Kmap} {V : Vmap} {x : Nat} {p0 : Int} {p1 : Int} {p2 : Int} (h_x : K x = some (0, 11)) (r_p0 : ir p0) (r_p1 : ir p1) (r_p2 : ir p2) (w_0 : GX V x) : MC mX12_text K V [.ref x, ti p0, ti p1, ti p2] (IS K (fun X V1 => (X ≥ (-2147483648) ∧ X ≤ 2147483647) ∧ (GX V1 x))) := by
  refine MC.start 3 (by decide +kernel) rfl rfl rfl (ls0 := [some (.ref x), some (ti p0), some (ti p1), some (ti p2), none, none, none]) rfl ?_
  refine GO.useWT (fun hW_0 => ?_)
  refine GO.useWT (fun hW1 => ?_)
  have aq2 := hW1.aq h_x
  refine GO.useWT (fun hW3 => ?_)
  have ak4 := hW3.arr h_x 39 32 (by decide) rfl (by decide)
  have ak5 := hW3.arr h_x 41 34 (by decide) rfl (by decide)
  have ak6 := hW3.arr h_x 42 35 (by decide) rfl (by decide)
  have ak7 := hW3.arr h_x 43 36 (by decide) rfl (by decide)
  have ak8 := hW3.arr h_x 49 40 (by decide) rfl (by decide)
  have ak9 := hW3.arr h_x 50 41 (by decide) rfl (by decide)
  have ak10 := hW3.arr h_x 53 44 (by decide) rfl (by decide)
  have ak11 := hW3.arr h_x 54 45 (by decide) rfl (by decide)
  have ak12 := hW3.arr h_x 55 46 (by decide) rfl (by decide)
  have ak13 := hW3.arr h_x 60 51 (by decide) rfl (by decide)
  have ak14 := hW3.arr h_x 61 52 (by decide) rfl (by decide)
  have hcn := (hW1).cnt h_x
  refine GO.iload_n dX12_text_0 rfl rfl ?_
  refine GO.callS (N := mX12_isDay) dX12_text_1 gS_RX12_409 (t_X12_isDay r_p0) rfl [] rfl rfl (Nat.le_of_ble_eq_true rfl) rfl (k_ip fun X15 r16 h17 => ?_)
  refine GO.if_eq (tgt := 46) dX12_text_4 (by decide) r16 (fun c18 => ?_) (fun c18 => ?_)
  ·
    clear ak4 ak5 ak6 ak7 ak8 ak9 ak10 ak11 ak12 ak13 ak14
    refine GO.iconst dX12_text_46 ?_
    exact GO.reti rfl rfl dX12_text_47 ⟨rfl, _, rfl, (ir_c rfl), ⟨(by first | exact trivial | omega), (by first | exact w_0 | exact GX.mk w_0 (by omega) (by omega) (rfl : ar 49 V x = ar 49 V x) (rfl : ar 50 V x = ar 50 V x) (rfl : ar 53 V x = ar 53 V x) (rfl : ar 54 V x = ar 54 V x) (rfl : ar 55 V x = ar 55 V x) (rfl : ar 60 V x = ar 60 V x) (rfl : ar 61 V x = ar 61 V x))⟩⟩
  ·
    have q19 := h17.2.1 (by omega)
    refine GO.iload_n dX12_text_7 rfl rfl ?_
    refine GO.iload_n dX12_text_8 rfl rfl ?_
    refine GO.sipush dX12_text_9 rfl ?_
    refine GO.callS (N := mX12_in) dX12_text_12 gS_RX12_371 (t_X12_in r_p1 r_p0 (ir_c rfl)) rfl [] rfl rfl (Nat.le_of_ble_eq_true rfl) rfl (k_ip fun X20 r21 h22 => ?_)
    refine GO.if_eq (tgt := 46) dX12_text_15 (by decide) r21 (fun c23 => ?_) (fun c23 => ?_)
    ·
      clear ak4 ak5 ak6 ak7 ak8 ak9 ak10 ak11 ak12 ak13 ak14
      have q24 := h22.2.2 (by omega)
      refine GO.iconst dX12_text_46 ?_
      exact GO.reti rfl rfl dX12_text_47 ⟨rfl, _, rfl, (ir_c rfl), ⟨(by first | exact trivial | omega), (by first | exact w_0 | exact GX.mk w_0 (by omega) (by omega) (rfl : ar 49 V x = ar 49 V x) (rfl : ar 50 V x = ar 50 V x) (rfl : ar 53 V x = ar 53 V x) (rfl : ar 54 V x = ar 54 V x) (rfl : ar 55 V x = ar 55 V x) (rfl : ar 60 V x = ar 60 V x) (rfl : ar 61 V x = ar 61 V x))⟩⟩
    ·
      have q25 := h22.2.1 (by omega)
      refine GO.iload_n dX12_text_18 rfl rfl ?_
      refine GO.iconst dX12_text_19 ?_
      refine GO.sipush dX12_text_20 rfl ?_
      refine GO.callS (N := mX12_in) dX12_text_23 gS_RX12_371 (t_X12_in r_p2 (ir_c rfl) (ir_c rfl)) rfl [] rfl rfl (Nat.le_of_ble_eq_true rfl) rfl (k_ip fun X26 r27 h28 => ?_)
      refine GO.if_eq (tgt := 46) dX12_text_26 (by decide) r27 (fun c29 => ?_) (fun c29 => ?_)
      ·
        clear ak4 ak5 ak6 ak7 ak8 ak9 ak10 ak11 ak12 ak13 ak14
        have q30 := h28.2.2 (by omega)
        refine GO.iconst dX12_text_46 ?_
        exact GO.reti rfl rfl dX12_text_47 ⟨rfl, _, rfl, (ir_c rfl), ⟨(by first | exact trivial | omega), (by first | exact w_0 | exact GX.mk w_0 (by omega) (by omega) (rfl : ar 49 V x = ar 49 V x) (rfl : ar 50 V x = ar 50 V x) (rfl : ar 53 V x = ar 53 V x) (rfl : ar 54 V x = ar 54 V x) (rfl : ar 55 V x = ar 55 V x) (rfl : ar 60 V x = ar 60 V x) (rfl : ar 61 V x = ar 61 V x))⟩⟩
      ·
        have q31 := h28.2.1 (by omega)
        refine GO.iload_n dX12_text_29 rfl rfl ?_
        refine GO.aload_n dX12_text_30 rfl rfl ?_
        refine GO.getI h_x fl_RX12_436 rfl rfl dX12_text_31 (fun l32 u33 => ?_)
        refine GO.icmp_gt (tgt := 46) dX12_text_34 (by decide) r_p2 vi_ir (fun c34 => ?_) (fun c34 => ?_)
        ·
          clear ak4 ak5 ak6 ak7 ak8 ak9 ak10 ak11 ak12 ak13 ak14
          refine GO.iconst dX12_text_46 ?_
          exact GO.reti rfl rfl dX12_text_47 ⟨rfl, _, rfl, (ir_c rfl), ⟨(by first | exact trivial | omega), (by first | exact w_0 | exact GX.mk w_0 (by omega) (by omega) (rfl : ar 49 V x = ar 49 V x) (rfl : ar 50 V x = ar 50 V x) (rfl : ar 53 V x = ar 53 V x) (rfl : ar 54 V x = ar 54 V x) (rfl : ar 55 V x = ar 55 V x) (rfl : ar 60 V x = ar 60 V x) (rfl : ar 61 V x = ar 61 V x))⟩⟩
        ·
          refine GO.aload_n dX12_text_37 rfl rfl ?_
          refine GO.getI h_x fl_RX12_535 rfl rfl dX12_text_38 (fun l35 u36 => ?_)
          refine GO.bipush dX12_text_41 rfl ?_
          refine GO.icmp_ne (tgt := 48) dX12_text_43 (by decide) vi_ir (ir_c rfl) (fun c37 => ?_) (fun c37 => ?_)
          ·
            refine GO.aload_n dX12_text_48 rfl rfl ?_
            refine GO.iconst dX12_text_49 ?_
            refine GO.putI h_x fp_RX12_443 rfl (by decide +kernel) (ir_c rfl) (by decide) (by decide) dX12_text_50 (fun V39 e38 => ?_)
            have k40 := st_fld e38 aq2 h_x (by decide) (by decide)
            have sS41 : sd V39 x = sd V x := k40.2.1.trans (rfl : sd V x = sd V x)
            have sQ42 : wt V39 x = wt V x := k40.2.2.trans (rfl : wt V x = wt V x)
            have ak43 := tk_fld e38 ak4 h_x (by decide) (rfl : ar 39 V x = ar 39 V x)
            clear ak4
            have ak44 := tk_fld e38 ak5 h_x (by decide) (rfl : ar 41 V x = ar 41 V x)
            clear ak5
            have ak45 := tk_fld e38 ak6 h_x (by decide) (rfl : ar 42 V x = ar 42 V x)
            clear ak6
            have ak46 := tk_fld e38 ak7 h_x (by decide) (rfl : ar 43 V x = ar 43 V x)
            clear ak7
            have ak47 := tk_fld e38 ak8 h_x (by decide) (rfl : ar 49 V x = ar 49 V x)
            clear ak8
            have ak48 := tk_fld e38 ak9 h_x (by decide) (rfl : ar 50 V x = ar 50 V x)
            clear ak9
            have ak49 := tk_fld e38 ak10 h_x (by decide) (rfl : ar 53 V x = ar 53 V x)
            clear ak10
            have ak50 := tk_fld e38 ak11 h_x (by decide) (rfl : ar 54 V x = ar 54 V x)
            clear ak11
            have ak51 := tk_fld e38 ak12 h_x (by decide) (rfl : ar 55 V x = ar 55 V x)
            clear ak12
            have ak52 := tk_fld e38 ak13 h_x (by decide) (rfl : ar 60 V x = ar 60 V x)
            clear ak13
            have ak53 := tk_fld e38 ak14 h_x (by decide) (rfl : ar 61 V x = ar 61 V x)
            clear ak14
            refine GO.aload_n dX12_text_53 rfl rfl ?_
            refine GO.iload_n dX12_text_54 rfl rfl ?_
            have q55 : -2147483648 ≤ p2 ∧ p2 ≤ 2147483647 := r_p2
            refine GO.putI h_x fp_RX12_446 rfl (by decide +kernel) r_p2 (by omega) (by omega) dX12_text_55 (fun V56 e54 => ?_)
            have k57 := st_fld e54 k40.1 h_x (by decide) (by decide)
            clear k40
            have sS58 : sd V56 x = sd V x := k57.2.1.trans sS41
            have sQ59 : wt V56 x = wt V x := k57.2.2.trans sQ42
            have ak60 := tk_fld e54 ak43.1 h_x (by decide) ak43.2
            clear ak43
            have ak61 := tk_fld e54 ak44.1 h_x (by decide) ak44.2
            clear ak44
            have ak62 := tk_fld e54 ak45.1 h_x (by decide) ak45.2
            clear ak45
            have ak63 := tk_fld e54 ak46.1 h_x (by decide) ak46.2
            clear ak46
            have ak64 := tk_fld e54 ak47.1 h_x (by decide) ak47.2
            clear ak47
            have ak65 := tk_fld e54 ak48.1 h_x (by decide) ak48.2
            clear ak48
            have ak66 := tk_fld e54 ak49.1 h_x (by decide) ak49.2
            clear ak49
            have ak67 := tk_fld e54 ak50.1 h_x (by decide) ak50.2
            clear ak50
            have ak68 := tk_fld e54 ak51.1 h_x (by decide) ak51.2
            clear ak51
            have ak69 := tk_fld e54 ak52.1 h_x (by decide) ak52.2
            clear ak52
            have ak70 := tk_fld e54 ak53.1 h_x (by decide) ak53.2
            clear ak53
            refine GO.aload_n dX12_text_58 rfl rfl ?_
            refine GO.iconst dX12_text_59 ?_
            refine GO.putI h_x fp_RX12_466 rfl (by decide +kernel) (ir_c rfl) (by decide) (by decide) dX12_text_60 (fun V72 e71 => ?_)
            have k73 := st_fld e71 k57.1 h_x (by decide) (by decide)
            clear k57
            have sS74 : sd V72 x = sd V x := k73.2.1.trans sS58
            have sQ75 : wt V72 x = wt V x := k73.2.2.trans sQ59
            have ak76 := tk_fld e71 ak60.1 h_x (by decide) ak60.2
            clear ak60
            have ak77 := tk_fld e71 ak61.1 h_x (by decide) ak61.2
            clear ak61
            have ak78 := tk_fld e71 ak62.1 h_x (by decide) ak62.2
            clear ak62
            have ak79 := tk_fld e71 ak63.1 h_x (by decide) ak63.2
            clear ak63
            have ak80 := tk_fld e71 ak64.1 h_x (by decide) ak64.2
            clear ak64
            have ak81 := tk_fld e71 ak65.1 h_x (by decide) ak65.2
            clear ak65
            have ak82 := tk_fld e71 ak66.1 h_x (by decide) ak66.2
            clear ak66
            have ak83 := tk_fld e71 ak67.1 h_x (by decide) ak67.2
            clear ak67
            have ak84 := tk_fld e71 ak68.1 h_x (by decide) ak68.2
            clear ak68
            have ak85 := tk_fld e71 ak69.1 h_x (by decide) ak69.2
            clear ak69
            have ak86 := tk_fld e71 ak70.1 h_x (by decide) ak70.2
            clear ak70
            refine GO.aload_n dX12_text_63 rfl rfl ?_
            refine GO.iconst dX12_text_64 ?_
            refine GO.putI h_x fp_RX12_526 rfl (by decide +kernel) (ir_c rfl) (by decide) (by decide) dX12_text_65 (fun V88 e87 => ?_)
            have k89 := st_fld e87 k73.1 h_x (by decide) (by decide)
            clear k73
            have sS90 : sd V88 x = sd V x := k89.2.1.trans sS74
            have sQ91 : wt V88 x = wt V x := k89.2.2.trans sQ75
            clear k89
            have ak92 := tk_fld e87 ak76.1 h_x (by decide) ak76.2
            clear ak76 ak92
            have ak93 := tk_fld e87 ak77.1 h_x (by decide) ak77.2
            clear ak77 ak93
            have ak94 := tk_fld e87 ak78.1 h_x (by decide) ak78.2
            clear ak78 ak94
            have ak95 := tk_fld e87 ak79.1 h_x (by decide) ak79.2
            clear ak79 ak95
            have ak96 := tk_fld e87 ak80.1 h_x (by decide) ak80.2
            clear ak80
            have ak97 := tk_fld e87 ak81.1 h_x (by decide) ak81.2
            clear ak81
            have ak98 := tk_fld e87 ak82.1 h_x (by decide) ak82.2
            clear ak82
            have ak99 := tk_fld e87 ak83.1 h_x (by decide) ak83.2
            clear ak83
            have ak100 := tk_fld e87 ak84.1 h_x (by decide) ak84.2
            clear ak84
            have ak101 := tk_fld e87 ak85.1 h_x (by decide) ak85.2
            clear ak85
            have ak102 := tk_fld e87 ak86.1 h_x (by decide) ak86.2
            clear ak86
            have e103 : vi V88 x 38 = 0 := upd2_int e87 (ir_c rfl)
            have e105 : vi V72 x 36 = 0 := upd2_int e71 (ir_c rfl)
            have e104 : vi V88 x 36 = vi V72 x 36 := vi_up e87 (Or.inr (by decide))
            refine GO.aload_n dX12_text_68 rfl rfl ?_
            have e109 : vi V39 x 31 = 0 := upd2_int e38 (ir_c rfl)
            have e108 : vi V56 x 31 = vi V39 x 31 := vi_up e54 (Or.inr (by decide))
            have e107 : vi V72 x 31 = vi V56 x 31 := vi_up e71 (Or.inr (by decide))
            have e106 : vi V88 x 31 = vi V72 x 31 := vi_up e87 (Or.inr (by decide))
            refine GO.callV (ci := 11) (N := mX12_readsClause) dX12_text_69 (RX12, TX12, 151) rfl gV_RX12_538 h_x (t_X12_readsClause h_x (by omega) ((by first | exact TC.nil (by omega)))) rfl [] rfl rfl (Nat.le_of_ble_eq_true rfl) rfl (k_is fun X110 V114 r111 h112 hF113 => ?_)
            refine GO.useWT (fun hW115 => ?_)
            have aq116 := hW115.aq h_x
            have ak117 := tk_fr hF113 ak96.1 h_x (by decide +kernel) (by decide +kernel) ak96.2
            clear ak96
            have ak118 := tk_fr hF113 ak97.1 h_x (by decide +kernel) (by decide +kernel) ak97.2
            clear ak97
            have ak119 := tk_fr hF113 ak98.1 h_x (by decide +kernel) (by decide +kernel) ak98.2
            clear ak98
            have ak120 := tk_fr hF113 ak99.1 h_x (by decide +kernel) (by decide +kernel) ak99.2
            clear ak99
            have ak121 := tk_fr hF113 ak100.1 h_x (by decide +kernel) (by decide +kernel) ak100.2
            clear ak100
            have ak122 := tk_fr hF113 ak101.1 h_x (by decide +kernel) (by decide +kernel) ak101.2
            clear ak101
            have ak123 := tk_fr hF113 ak102.1 h_x (by decide +kernel) (by decide +kernel) ak102.2
            clear ak102
            refine GO.useWT (fun hW124 => ?_)
            have ak125 := hW124.arr h_x 39 32 (by decide) rfl (by decide)
            clear ak125
            have ak126 := hW124.arr h_x 41 34 (by decide) rfl (by decide)
            clear ak126
            have ak127 := hW124.arr h_x 42 35 (by decide) rfl (by decide)
            clear ak127
            have ak128 := hW124.arr h_x 43 36 (by decide) rfl (by decide)
            clear ak128
            have raw_readsClause := h112.2.2.2
            refine GO.istore (ls1 := [some (.ref x), some (ti p0), some (ti p1), some (ti p2), some (ti X110), none, none]) dX12_text_72 rfl rfl ?_
            have e136 : vi V39 x 47 = vi V x 47 := vi_up e38 (Or.inr (by decide))
            have e135 : vi V56 x 47 = vi V39 x 47 := vi_up e54 (Or.inr (by decide))
            have e134 : vi V72 x 47 = vi V56 x 47 := vi_up e71 (Or.inr (by decide))
            have e133 : vi V88 x 47 = vi V72 x 47 := vi_up e87 (Or.inr (by decide))
            have e132 : vi V114 x 47 = vi V88 x 47 := vi_fr hF113 h_x h_x (by decide +kernel)
            have q137 : -2147483648 ≤ vi V x 47 ∧ vi V x 47 ≤ 2147483647 := vi_ir
            have e142 : vi V39 x 48 = vi V x 48 := vi_up e38 (Or.inr (by decide))
            have e141 : vi V56 x 48 = vi V39 x 48 := vi_up e54 (Or.inr (by decide))
            have e140 : vi V72 x 48 = vi V56 x 48 := vi_up e71 (Or.inr (by decide))
            have e139 : vi V88 x 48 = vi V72 x 48 := vi_up e87 (Or.inr (by decide))
            have e138 : vi V114 x 48 = vi V88 x 48 := vi_fr hF113 h_x h_x (by decide +kernel)
            have q143 : -2147483648 ≤ vi V x 48 ∧ vi V x 48 ≤ 2147483647 := vi_ir
            have q144 : -2147483648 ≤ vi V114 x 36 ∧ vi V114 x 36 ≤ 2147483647 := vi_ir
            have q145 : -2147483648 ≤ vi V114 x 31 ∧ vi V114 x 31 ≤ 2147483647 := vi_ir
            refine GO.loop1 (fun i131 W => 0 ≤ i131 ∧ i131 ≤ 1 ∧ (vi W x 47 = vi V114 x 47 ∧ vi W x 48 = vi V114 x 48 ∧ (i131 ≠ 0 → vi W x 36 ≤ vi W x 31)) ∧ (i131 ≠ 0 → TC W x) ∧ ar 49 W x = ar 49 V x ∧ ar 50 W x = ar 50 V x ∧ ar 53 W x = ar 53 V x ∧ ar 54 W x = ar 54 V x ∧ ar 55 W x = ar 55 V x ∧ ar 60 W x = ar 60 V x ∧ ar 61 W x = ar 61 V x ∧ True) (fun i131 => [some (.ref x), some (ti p0), some (ti p1), some (ti p2), some (ti i131), none, none]) (fun i131 W => (((1000 * i131) + (vi W x 32 - vi W x 31))).toNat) X110 ⟨by omega, by omega, by omega, (by first | exact fun h => raw_readsClause (by omega) | exact fun h => absurd rfl h | exact fun h => absurd h (by omega)), ak117.2, ak118.2, ak119.2, ak120.2, ak121.2, ak122.2, ak123.2, trivial⟩ rfl (fun i131 Wi131 hp39883 ih39882 => ?_)
            clear ak117 ak118 ak119 ak120 ak121 ak122 ak123
            obtain ⟨l_i131, u_i131, n_i131, htc, kp39884, kp39885, kp39886, kp39887, kp39888, kp39889, kp39890, -⟩ := hp39883
            have r_i131 : ir i131 := ⟨by omega, by omega⟩
            show GO mX12_text K V (IS K (fun X V1 => (X ≥ (-2147483648) ∧ X ≤ 2147483647) ∧ (GX V1 x))) K Wi131 0 0 74 [some (.ref x), some (ti p0), some (ti p1), some (ti p2), some (ti i131), none, none] []
            refine GO.useWT (fun hW39891 => ?_)
            have aq39892 := hW39891.aq h_x
            refine GO.useWT (fun hW39893 => ?_)
            have ak39894 := hW39893.arr h_x 39 32 (by decide) rfl (by decide)
            have ak39895 := hW39893.arr h_x 41 34 (by decide) rfl (by decide)
            have ak39896 := hW39893.arr h_x 42 35 (by decide) rfl (by decide)
            have ak39897 := hW39893.arr h_x 43 36 (by decide) rfl (by decide)
            have ak39898 := hW39893.arr h_x 49 40 (by decide) rfl (by decide)
            have ak39899 := hW39893.arr h_x 50 41 (by decide) rfl (by decide)
            have ak39900 := hW39893.arr h_x 53 44 (by decide) rfl (by decide)
            have ak39901 := hW39893.arr h_x 54 45 (by decide) rfl (by decide)
            have ak39902 := hW39893.arr h_x 55 46 (by decide) rfl (by decide)
            have ak39903 := hW39893.arr h_x 60 51 (by decide) rfl (by decide)
            have ak39904 := hW39893.arr h_x 61 52 (by decide) rfl (by decide)
            have hrd := (hW39891).rd h_x
            refine GO.iload dX12_text_74 rfl ?_
            refine GO.if_eq (tgt := 116) dX12_text_76 (by decide) r_i131 (fun c39905 => ?_) (fun c39905 => ?_)
            ·
              refine GO.aload_n dX12_text_116 rfl rfl ?_
              refine GO.iconst dX12_text_117 ?_
              refine GO.putI h_x fp_RX12_436 rfl (by decide +kernel) (ir_c rfl) (by decide) (by decide) dX12_text_118 (fun V39907 e39906 => ?_)
              have k39908 := st_fld e39906 aq39892 h_x (by decide) (by decide)
              have sS39909 : sd V39907 x = sd Wi131 x := k39908.2.1.trans (rfl : sd Wi131 x = sd Wi131 x)
              have sQ39910 : wt V39907 x = wt Wi131 x := k39908.2.2.trans (rfl : wt Wi131 x = wt Wi131 x)
              clear k39908
              have ak39911 := tk_fld e39906 ak39894 h_x (by decide) (rfl : ar 39 Wi131 x = ar 39 Wi131 x)
              clear ak39894 ak39911
              have ak39912 := tk_fld e39906 ak39895 h_x (by decide) (rfl : ar 41 Wi131 x = ar 41 Wi131 x)
              clear ak39895 ak39912
              have ak39913 := tk_fld e39906 ak39896 h_x (by decide) (rfl : ar 42 Wi131 x = ar 42 Wi131 x)
              clear ak39896 ak39913
              have ak39914 := tk_fld e39906 ak39897 h_x (by decide) (rfl : ar 43 Wi131 x = ar 43 Wi131 x)
              clear ak39897 ak39914
              have ak39915 := tk_fld e39906 ak39898 h_x (by decide) kp39884
              clear kp39884 ak39898
              have ak39916 := tk_fld e39906 ak39899 h_x (by decide) kp39885
              clear kp39885 ak39899
              have ak39917 := tk_fld e39906 ak39900 h_x (by decide) kp39886
              clear kp39886 ak39900
              have ak39918 := tk_fld e39906 ak39901 h_x (by decide) kp39887
              clear kp39887 ak39901
              have ak39919 := tk_fld e39906 ak39902 h_x (by decide) kp39888
              clear kp39888 ak39902
              have ak39920 := tk_fld e39906 ak39903 h_x (by decide) kp39889
              clear kp39889 ak39903
              have ak39921 := tk_fld e39906 ak39904 h_x (by decide) kp39890
              clear kp39890 ak39904
              refine GO.iload dX12_text_121 rfl ?_
              refine GO.if_ne (tgt := 131) dX12_text_123 (by decide) r_i131 (fun h => by exfalso; omega) (fun c39922 => ?_)
              refine GO.aload_n dX12_text_126 rfl rfl ?_
              refine GO.getI h_x fl_RX12_453 rfl rfl dX12_text_127 (fun _ _ => ?_)
              have q39924 : -2147483648 ≤ vi V39907 x 33 ∧ vi V39907 x 33 ≤ 2147483647 := vi_ir
              have e39925 : vi V39907 x 47 = vi Wi131 x 47 := vi_up e39906 (Or.inr (by decide))
              have e39926 : vi V39907 x 48 = vi Wi131 x 48 := vi_up e39906 (Or.inr (by decide))
              exact GO.reti rfl rfl dX12_text_130 ⟨rfl, _, rfl, vi_ir, ⟨(by first | exact trivial | omega), (by first | exact w_0 | exact GX.mk w_0 (by omega) (by omega) ak39915.2 ak39916.2 ak39917.2 ak39918.2 ak39919.2 ak39920.2 ak39921.2)⟩⟩
            ·
              refine GO.aload_n dX12_text_79 rfl rfl ?_
              refine GO.getI h_x fl_RX12_443 rfl rfl dX12_text_80 (fun l39927 u39928 => ?_)
              refine GO.aload_n dX12_text_83 rfl rfl ?_
              refine GO.getI h_x fl_RX12_446 rfl rfl dX12_text_84 (fun l39929 u39930 => ?_)
              refine GO.icmp_ge (tgt := 116) dX12_text_87 (by decide) vi_ir vi_ir (fun c39931 => ?_) (fun c39931 => ?_)
              ·
                refine GO.aload_n dX12_text_116 rfl rfl ?_
                refine GO.iconst dX12_text_117 ?_
                refine GO.putI h_x fp_RX12_436 rfl (by decide +kernel) (ir_c rfl) (by decide) (by decide) dX12_text_118 (fun V39933 e39932 => ?_)
                have k39934 := st_fld e39932 aq39892 h_x (by decide) (by decide)
                have sS39935 : sd V39933 x = sd Wi131 x := k39934.2.1.trans (rfl : sd Wi131 x = sd Wi131 x)
                have sQ39936 : wt V39933 x = wt Wi131 x := k39934.2.2.trans (rfl : wt Wi131 x = wt Wi131 x)
                have ak39937 := tk_fld e39932 ak39894 h_x (by decide) (rfl : ar 39 Wi131 x = ar 39 Wi131 x)
                clear ak39894
                have ak39938 := tk_fld e39932 ak39895 h_x (by decide) (rfl : ar 41 Wi131 x = ar 41 Wi131 x)
                clear ak39895
                have ak39939 := tk_fld e39932 ak39896 h_x (by decide) (rfl : ar 42 Wi131 x = ar 42 Wi131 x)
                clear ak39896
                have ak39940 := tk_fld e39932 ak39897 h_x (by decide) (rfl : ar 43 Wi131 x = ar 43 Wi131 x)
                clear ak39897
                have ak39941 := tk_fld e39932 ak39898 h_x (by decide) kp39884
                clear kp39884 ak39898
                have ak39942 := tk_fld e39932 ak39899 h_x (by decide) kp39885
                clear kp39885 ak39899
                have ak39943 := tk_fld e39932 ak39900 h_x (by decide) kp39886
                clear kp39886 ak39900
                have ak39944 := tk_fld e39932 ak39901 h_x (by decide) kp39887
                clear kp39887 ak39901
                have ak39945 := tk_fld e39932 ak39902 h_x (by decide) kp39888
                clear kp39888 ak39902
                have ak39946 := tk_fld e39932 ak39903 h_x (by decide) kp39889
                clear kp39889 ak39903
                have ak39947 := tk_fld e39932 ak39904 h_x (by decide) kp39890
                clear kp39890 ak39904
                refine GO.iload dX12_text_121 rfl ?_
                refine GO.if_ne (tgt := 131) dX12_text_123 (by decide) r_i131 (fun c39948 => ?_) (fun h => by exfalso; omega)
                have e39949 : vi V39933 x 38 = vi Wi131 x 38 := vi_up e39932 (Or.inr (by decide))
                have e39950 : vi V39933 x 36 = vi Wi131 x 36 := vi_up e39932 (Or.inr (by decide))
                have e39951 : vi V39933 x 47 = vi Wi131 x 47 := vi_up e39932 (Or.inr (by decide))
                have e39952 : vi V39933 x 48 = vi Wi131 x 48 := vi_up e39932 (Or.inr (by decide))
                have hm39 := ak39937.2
                have hm41 := ak39938.2
                have hm42 := ak39939.2
                have hm43 := ak39940.2
                refine GO.useWT (fun hWm => ?_)
                have hcm := hWm.cnt h_x
                have hrm := hWm.rd h_x
                have htm := TC.eq (htc (by omega)) ak39938.2 ak39939.2 ak39940.2 ak39937.2 (by omega) (by omega)
                refine GO.aload_n dX12_text_131 rfl rfl ?_
                refine GO.getA (n := 20) h_x fl_RX12_118 rfl rfl rfl rfl dX12_text_132 (fun hv39954 h39953 => ?_)
                refine GO.aload_n dX12_text_135 rfl rfl ?_
                refine GO.getI h_x fl_RX12_535 rfl rfl dX12_text_136 (fun l39955 u39956 => ?_)
                refine GO.iload_n dX12_text_139 rfl rfl ?_
                have q39957 : -2147483648 ≤ vi Wi131 x 47 ∧ vi Wi131 x 47 ≤ 2147483647 := vi_ir
                refine GO.iast (t := 42) rfl rfl (by decide +kernel) h39953 vi_ir (by omega) (by omega) r_p0 (r_p0).1 (r_p0).2 dX12_text_140 (fun V39959 e39958 => ?_)
                have k39960 := st_oth e39958 k39934.1 h_x h39953 (by decide) (by decide)
                clear k39934
                have sS39961 : sd V39959 x = sd Wi131 x := k39960.2.1.trans sS39935
                have sQ39962 : wt V39959 x = wt Wi131 x := k39960.2.2.trans sQ39936
                have ak39963 := tk_oth e39958 ak39937.1 h_x h39953 (by decide) (by decide) ak39937.2
                clear ak39937
                have ak39964 := tk_oth e39958 ak39938.1 h_x h39953 (by decide) (by decide) ak39938.2
                clear ak39938
                have ak39965 := tk_oth e39958 ak39939.1 h_x h39953 (by decide) (by decide) ak39939.2
                clear ak39939
                have ak39966 := tk_oth e39958 ak39940.1 h_x h39953 (by decide) (by decide) ak39940.2
                clear ak39940
                have ak39967 := tk_oth e39958 ak39941.1 h_x h39953 (by decide) (by decide) ak39941.2
                clear ak39941
                have ak39968 := tk_oth e39958 ak39942.1 h_x h39953 (by decide) (by decide) ak39942.2
                clear ak39942
                have ak39969 := tk_oth e39958 ak39943.1 h_x h39953 (by decide) (by decide) ak39943.2
                clear ak39943
                have ak39970 := tk_oth e39958 ak39944.1 h_x h39953 (by decide) (by decide) ak39944.2
                clear ak39944
                have ak39971 := tk_oth e39958 ak39945.1 h_x h39953 (by decide) (by decide) ak39945.2
                clear ak39945
                have ak39972 := tk_oth e39958 ak39946.1 h_x h39953 (by decide) (by decide) ak39946.2
                clear ak39946
                have ak39973 := tk_oth e39958 ak39947.1 h_x h39953 (by decide) (by decide) ak39947.2
                clear ak39947
                refine GO.aload_n dX12_text_141 rfl rfl ?_
                refine GO.getA (n := 20) h_x fl_RX12_121 rfl rfl rfl rfl dX12_text_142 (fun hv39975 h39974 => ?_)
                refine GO.aload_n dX12_text_145 rfl rfl ?_
                refine GO.getI h_x fl_RX12_535 rfl rfl dX12_text_146 (fun l39976 u39977 => ?_)
                have e39978 : vi V39959 x 47 = vi V39933 x 47 := vi_up e39958 (Or.inl (K_ne h_x h39953 (by decide)))
                refine GO.iload_n dX12_text_149 rfl rfl ?_
                refine GO.iast (t := 43) rfl rfl (by decide +kernel) h39974 vi_ir (by omega) (by omega) r_p1 (r_p1).1 (r_p1).2 dX12_text_150 (fun V39980 e39979 => ?_)
                have k39981 := st_oth e39979 k39960.1 h_x h39974 (by decide) (by decide)
                clear k39960
                have sS39982 : sd V39980 x = sd Wi131 x := k39981.2.1.trans sS39961
                have sQ39983 : wt V39980 x = wt Wi131 x := k39981.2.2.trans sQ39962
                have ak39984 := tk_oth e39979 ak39963.1 h_x h39974 (by decide) (by decide) ak39963.2
                clear ak39963
                have ak39985 := tk_oth e39979 ak39964.1 h_x h39974 (by decide) (by decide) ak39964.2
                clear ak39964
                have ak39986 := tk_oth e39979 ak39965.1 h_x h39974 (by decide) (by decide) ak39965.2
                clear ak39965
                have ak39987 := tk_oth e39979 ak39966.1 h_x h39974 (by decide) (by decide) ak39966.2
                clear ak39966
                have ak39988 := tk_oth e39979 ak39967.1 h_x h39974 (by decide) (by decide) ak39967.2
                clear ak39967
                have ak39989 := tk_oth e39979 ak39968.1 h_x h39974 (by decide) (by decide) ak39968.2
                clear ak39968
                have ak39990 := tk_oth e39979 ak39969.1 h_x h39974 (by decide) (by decide) ak39969.2
                clear ak39969
                have ak39991 := tk_oth e39979 ak39970.1 h_x h39974 (by decide) (by decide) ak39970.2
                clear ak39970
                have ak39992 := tk_oth e39979 ak39971.1 h_x h39974 (by decide) (by decide) ak39971.2
                clear ak39971
                have ak39993 := tk_oth e39979 ak39972.1 h_x h39974 (by decide) (by decide) ak39972.2
                clear ak39972
                have ak39994 := tk_oth e39979 ak39973.1 h_x h39974 (by decide) (by decide) ak39973.2
                clear ak39973
                refine GO.aload_n dX12_text_151 rfl rfl ?_
                refine GO.getA (n := 20) h_x fl_RX12_115 rfl rfl rfl rfl dX12_text_152 (fun hv39996 h39995 => ?_)
                refine GO.aload_n dX12_text_155 rfl rfl ?_
                refine GO.getI h_x fl_RX12_535 rfl rfl dX12_text_156 (fun l39997 u39998 => ?_)
                have e39999 : vi V39980 x 47 = vi V39959 x 47 := vi_up e39979 (Or.inl (K_ne h_x h39974 (by decide)))
                refine GO.aload_n dX12_text_159 rfl rfl ?_
                refine GO.getI h_x fl_RX12_526 rfl rfl dX12_text_160 (fun l40000 u40001 => ?_)
                have e40003 : vi V39959 x 38 = vi V39933 x 38 := vi_up e39958 (Or.inl (K_ne h_x h39953 (by decide)))
                have e40002 : vi V39980 x 38 = vi V39959 x 38 := vi_up e39979 (Or.inl (K_ne h_x h39974 (by decide)))
                have q40005 : -2147483648 ≤ vi Wi131 x 38 ∧ vi Wi131 x 38 ≤ 2147483647 := vi_ir
                refine GO.iast (t := 41) rfl rfl (by decide +kernel) h39995 vi_ir (by omega) (by omega) vi_ir (by omega) (by omega) dX12_text_163 (fun V40006 e40004 => ?_)
                have k40007 := st_oth e40004 k39981.1 h_x h39995 (by decide) (by decide)
                clear k39981
                have sS40008 : sd V40006 x = sd Wi131 x := k40007.2.1.trans sS39982
                have sQ40009 : wt V40006 x = wt Wi131 x := k40007.2.2.trans sQ39983
                clear k40007
                have ak40010 := tk_oth e40004 ak39984.1 h_x h39995 (by decide) (by decide) ak39984.2
                clear ak39984
                have ak40011 := tk_oth e40004 ak39985.1 h_x h39995 (by decide) (by decide) ak39985.2
                clear ak39985
                have ak40012 := tk_oth e40004 ak39986.1 h_x h39995 (by decide) (by decide) ak39986.2
                clear ak39986
                have ak40013 := tk_oth e40004 ak39987.1 h_x h39995 (by decide) (by decide) ak39987.2
                clear ak39987
                have ak40014 := tk_oth e40004 ak39988.1 h_x h39995 (by decide) (by decide) ak39988.2
                clear ak39988
                have ak40015 := tk_put e40004 ak39989.1 h_x (vq_of hv39996) vi_ir ak39989.2
                clear ak39989
                have ak40016 := tk_oth e40004 ak39990.1 h_x h39995 (by decide) (by decide) ak39990.2
                clear ak39990
                have ak40017 := tk_oth e40004 ak39991.1 h_x h39995 (by decide) (by decide) ak39991.2
                clear ak39991
                have ak40018 := tk_oth e40004 ak39992.1 h_x h39995 (by decide) (by decide) ak39992.2
                clear ak39992
                have ak40019 := tk_oth e40004 ak39993.1 h_x h39995 (by decide) (by decide) ak39993.2
                clear ak39993
                have ak40020 := tk_oth e40004 ak39994.1 h_x h39995 (by decide) (by decide) ak39994.2
                clear ak39994
                refine GO.iconst dX12_text_164 ?_
                refine GO.istore (ls1 := [some (.ref x), some (ti p0), some (ti p1), some (ti p2), some (ti i131), some (ti 0), none]) dX12_text_165 rfl rfl ?_
                have e40022 : vi V40006 x 47 = vi V39980 x 47 := vi_up e40004 (Or.inl (K_ne h_x h39995 (by decide)))
                have e40025 : vi V39959 x 48 = vi V39933 x 48 := vi_up e39958 (Or.inl (K_ne h_x h39953 (by decide)))
                have e40024 : vi V39980 x 48 = vi V39959 x 48 := vi_up e39979 (Or.inl (K_ne h_x h39974 (by decide)))
                have e40023 : vi V40006 x 48 = vi V39980 x 48 := vi_up e40004 (Or.inl (K_ne h_x h39995 (by decide)))
                have q40026 : -2147483648 ≤ vi Wi131 x 48 ∧ vi Wi131 x 48 ≤ 2147483647 := vi_ir
                have e40029 : vi V39959 x 36 = vi V39933 x 36 := vi_up e39958 (Or.inl (K_ne h_x h39953 (by decide)))
                have e40028 : vi V39980 x 36 = vi V39959 x 36 := vi_up e39979 (Or.inl (K_ne h_x h39974 (by decide)))
                have e40027 : vi V40006 x 36 = vi V39980 x 36 := vi_up e40004 (Or.inl (K_ne h_x h39995 (by decide)))
                have q40030 : -2147483648 ≤ vi Wi131 x 36 ∧ vi Wi131 x 36 ≤ 2147483647 := vi_ir
                have q40031 : -2147483648 ≤ vi Wi131 x 31 ∧ vi Wi131 x 31 ≤ 2147483647 := vi_ir
                have q40032 : -2147483648 ≤ vi Wi131 x 32 ∧ vi Wi131 x 32 ≤ 2147483647 := vi_ir
                have e40033 : vi V40006 x 38 = vi V39980 x 38 := vi_up e40004 (Or.inl (K_ne h_x h39995 (by decide)))
                refine GO.loop1 (fun i40021 W => 0 ≤ i40021 ∧ i40021 ≤ 200 ∧ (vi W x 47 = vi V40006 x 47 ∧ vi W x 48 = vi V40006 x 48 ∧ vi W x 36 = vi V39933 x 36 ∧ vi W x 38 = vi V39933 x 38) ∧ (CPf (ar 49 V x) (ar 39 V39933 x) (ar 49 W x) (220 * vi V x 47) 0 i40021) ∧ ar 39 W x = ar 39 Wi131 x ∧ ar 41 W x = ar 41 Wi131 x ∧ ar 42 W x = ar 42 Wi131 x ∧ ar 43 W x = ar 43 Wi131 x ∧ ar 50 W x = updf (ar 50 V x) (vi V39980 x 47).toNat (vi V39980 x 38) ∧ ar 53 W x = ar 53 V x ∧ ar 54 W x = ar 54 V x ∧ ar 55 W x = ar 55 V x ∧ ar 60 W x = ar 60 V x ∧ ar 61 W x = ar 61 V x ∧ True) (fun i40021 => [some (.ref x), some (ti p0), some (ti p1), some (ti p2), some (ti i131), some (ti i40021), none]) (fun i40021 W => (2147483647 - i40021).toNat) 0 ⟨by omega, by omega, by omega, (by first | exact CPf.rf.at ak40014.2), ak40010.2, ak40011.2, ak40012.2, ak40013.2, ak40015.2, ak40016.2, ak40017.2, ak40018.2, ak40019.2, ak40020.2, trivial⟩ rfl (fun i40021 Wi40021 hp75603 ih75602 => ?_)
                clear ak40010 ak40011 ak40012 ak40013 ak40014 ak40015 ak40016 ak40017 ak40018 ak40019 ak40020
                obtain ⟨l_i40021, u_i40021, n_i40021, h49, kp75604, kp75605, kp75606, kp75607, kp75608, kp75609, kp75610, kp75611, kp75612, kp75613, -⟩ := hp75603
                have r_i40021 : ir i40021 := ⟨by omega, by omega⟩
                show GO mX12_text K V (IS K (fun X V1 => (X ≥ (-2147483648) ∧ X ≤ 2147483647) ∧ (GX V1 x))) K Wi40021 0 0 167 [some (.ref x), some (ti p0), some (ti p1), some (ti p2), some (ti i131), some (ti i40021), none] []
                refine GO.useWT (fun hW75614 => ?_)
                have aq75615 := hW75614.aq h_x
                refine GO.useWT (fun hW75616 => ?_)
                have ak75617 := hW75616.arr h_x 39 32 (by decide) rfl (by decide)
                have ak75618 := hW75616.arr h_x 41 34 (by decide) rfl (by decide)
                have ak75619 := hW75616.arr h_x 42 35 (by decide) rfl (by decide)
                have ak75620 := hW75616.arr h_x 43 36 (by decide) rfl (by decide)
                have ak75621 := hW75616.arr h_x 49 40 (by decide) rfl (by decide)
                have ak75622 := hW75616.arr h_x 50 41 (by decide) rfl (by decide)
                have ak75623 := hW75616.arr h_x 53 44 (by decide) rfl (by decide)
                have ak75624 := hW75616.arr h_x 54 45 (by decide) rfl (by decide)
                have ak75625 := hW75616.arr h_x 55 46 (by decide) rfl (by decide)
                have ak75626 := hW75616.arr h_x 60 51 (by decide) rfl (by decide)
                have ak75627 := hW75616.arr h_x 61 52 (by decide) rfl (by decide)
                refine GO.iload dX12_text_167 rfl ?_
                refine GO.aload_n dX12_text_169 rfl rfl ?_
                refine GO.getI h_x fl_RX12_466 rfl rfl dX12_text_170 (fun l75628 u75629 => ?_)
                refine GO.icmp_ge (tgt := 205) dX12_text_173 (by decide) r_i40021 vi_ir (fun c75630 => ?_) (fun c75630 => ?_)
                ·
                  clear ak75617 ak75618 ak75619 ak75620 ak75621 ak75622 ak75623 ak75624 ak75625 ak75626 ak75627
                  refine GO.iconst dX12_text_205 ?_
                  refine GO.istore (ls1 := [some (.ref x), some (ti p0), some (ti p1), some (ti p2), some (ti i131), some (ti 0), none]) dX12_text_206 rfl rfl ?_
                  have q75632 : -2147483648 ≤ vi Wi40021 x 47 ∧ vi Wi40021 x 47 ≤ 2147483647 := vi_ir
                  have q75633 : -2147483648 ≤ vi Wi40021 x 48 ∧ vi Wi40021 x 48 ≤ 2147483647 := vi_ir
                  have q75634 : -2147483648 ≤ vi Wi40021 x 36 ∧ vi Wi40021 x 36 ≤ 2147483647 := vi_ir
                  have q75635 : -2147483648 ≤ vi Wi40021 x 38 ∧ vi Wi40021 x 38 ≤ 2147483647 := vi_ir
                  refine GO.loop1 (fun i75631 W => 0 ≤ i75631 ∧ i75631 ≤ 12 ∧ (vi W x 47 = vi Wi40021 x 47 ∧ vi W x 48 = vi Wi40021 x 48 ∧ vi W x 36 = vi V39933 x 36 ∧ vi W x 38 = vi V39933 x 38) ∧ (CPf (ar 53 V x) (ar 41 V39933 x) (ar 53 W x) (12 * vi V x 47) 0 i75631) ∧ (CPf (ar 54 V x) (ar 42 V39933 x) (ar 54 W x) (12 * vi V x 47) (220 * vi V x 47) i75631) ∧ (CPf (ar 55 V x) (ar 43 V39933 x) (ar 55 W x) (12 * vi V x 47) (220 * vi V x 47) i75631) ∧ ar 39 W x = ar 39 Wi131 x ∧ ar 41 W x = ar 41 Wi131 x ∧ ar 42 W x = ar 42 Wi131 x ∧ ar 43 W x = ar 43 Wi131 x ∧ ar 49 W x = ar 49 Wi40021 x ∧ ar 50 W x = updf (ar 50 V x) (vi V39980 x 47).toNat (vi V39980 x 38) ∧ ar 60 W x = ar 60 V x ∧ ar 61 W x = ar 61 V x ∧ True) (fun i75631 => [some (.ref x), some (ti p0), some (ti p1), some (ti p2), some (ti i131), some (ti i75631), none]) (fun i75631 W => (2147483647 - i75631).toNat) 0 ⟨by omega, by omega, by omega, (by first | exact CPf.rf.at kp75609), (by first | exact CPf.rf.at kp75610), (by first | exact CPf.rf.at kp75611), kp75604, kp75605, kp75606, kp75607, (rfl : ar 49 Wi40021 x = ar 49 Wi40021 x), kp75608, kp75612, kp75613, trivial⟩ rfl (fun i75631 Wi75631 hp79120 ih79119 => ?_)
                  clear kp75604 kp75605 kp75606 kp75607 kp75608 kp75609 kp75610 kp75611 kp75612 kp75613
                  obtain ⟨l_i75631, u_i75631, n_i75631, h53, h54, h55, kp79121, kp79122, kp79123, kp79124, kp79125, kp79126, kp79127, kp79128, -⟩ := hp79120
                  have r_i75631 : ir i75631 := ⟨by omega, by omega⟩
                  show GO mX12_text K V (IS K (fun X V1 => (X ≥ (-2147483648) ∧ X ≤ 2147483647) ∧ (GX V1 x))) K Wi75631 0 0 208 [some (.ref x), some (ti p0), some (ti p1), some (ti p2), some (ti i131), some (ti i75631), none] []
                  refine GO.useWT (fun hW79129 => ?_)
                  have aq79130 := hW79129.aq h_x
                  refine GO.useWT (fun hW79131 => ?_)
                  have ak79132 := hW79131.arr h_x 39 32 (by decide) rfl (by decide)
                  have ak79133 := hW79131.arr h_x 41 34 (by decide) rfl (by decide)
                  have ak79134 := hW79131.arr h_x 42 35 (by decide) rfl (by decide)
                  have ak79135 := hW79131.arr h_x 43 36 (by decide) rfl (by decide)
                  have ak79136 := hW79131.arr h_x 49 40 (by decide) rfl (by decide)
                  have ak79137 := hW79131.arr h_x 50 41 (by decide) rfl (by decide)
                  have ak79138 := hW79131.arr h_x 53 44 (by decide) rfl (by decide)
                  have ak79139 := hW79131.arr h_x 54 45 (by decide) rfl (by decide)
                  have ak79140 := hW79131.arr h_x 55 46 (by decide) rfl (by decide)
                  have ak79141 := hW79131.arr h_x 60 51 (by decide) rfl (by decide)
                  have ak79142 := hW79131.arr h_x 61 52 (by decide) rfl (by decide)
                  refine GO.iload dX12_text_208 rfl ?_
                  refine GO.aload_n dX12_text_210 rfl rfl ?_
                  refine GO.getI h_x fl_RX12_526 rfl rfl dX12_text_211 (fun l79143 u79144 => ?_)
                  refine GO.icmp_ge (tgt := 337) dX12_text_214 (by decide) r_i75631 vi_ir (fun c79145 => ?_) (fun c79145 => ?_)
                  ·
                    clear kp79121 kp79122 kp79123 kp79124 ak79132 ak79133 ak79134 ak79135 ak79136 ak79137 ak79138 ak79139 ak79140 ak79141 ak79142
                    refine GO.iconst dX12_text_337 ?_
                    refine GO.istore (ls1 := [some (.ref x), some (ti p0), some (ti p1), some (ti p2), some (ti i131), some (ti 0), none]) dX12_text_338 rfl rfl ?_
                    have q79147 : -2147483648 ≤ vi Wi75631 x 47 ∧ vi Wi75631 x 47 ≤ 2147483647 := vi_ir
                    have q79148 : -2147483648 ≤ vi Wi75631 x 48 ∧ vi Wi75631 x 48 ≤ 2147483647 := vi_ir
                    refine GO.loop1 (fun i79146 W => 0 ≤ i79146 ∧ i79146 ≤ 9 ∧ (vi W x 47 = vi Wi75631 x 47 ∧ vi W x 48 = vi Wi75631 x 48) ∧ ar 49 W x = ar 49 Wi40021 x ∧ ar 50 W x = updf (ar 50 V x) (vi V39980 x 47).toNat (vi V39980 x 38) ∧ ar 53 W x = ar 53 Wi75631 x ∧ ar 54 W x = ar 54 Wi75631 x ∧ ar 55 W x = ar 55 Wi75631 x ∧ ar 60 W x = ar 60 V x ∧ ar 61 W x = ar 61 V x ∧ True) (fun i79146 => [some (.ref x), some (ti p0), some (ti p1), some (ti p2), some (ti i131), some (ti i79146), none]) (fun i79146 W => (2147483647 - i79146).toNat) 0 ⟨by omega, by omega, by omega, kp79125, kp79126, (rfl : ar 53 Wi75631 x = ar 53 Wi75631 x), (rfl : ar 54 Wi75631 x = ar 54 Wi75631 x), (rfl : ar 55 Wi75631 x = ar 55 Wi75631 x), kp79127, kp79128, trivial⟩ rfl (fun i79146 Wi79146 hp79305 ih79304 => ?_)
                    clear kp79125 kp79126 kp79127 kp79128
                    obtain ⟨l_i79146, u_i79146, n_i79146, kp79306, kp79307, kp79308, kp79309, kp79310, kp79311, kp79312, -⟩ := hp79305
                    have r_i79146 : ir i79146 := ⟨by omega, by omega⟩
                    show GO mX12_text K V (IS K (fun X V1 => (X ≥ (-2147483648) ∧ X ≤ 2147483647) ∧ (GX V1 x))) K Wi79146 0 0 340 [some (.ref x), some (ti p0), some (ti p1), some (ti p2), some (ti i131), some (ti i79146), none] []
                    refine GO.useWT (fun hW79313 => ?_)
                    have aq79314 := hW79313.aq h_x
                    refine GO.useWT (fun hW79315 => ?_)
                    have ak79316 := hW79315.arr h_x 39 32 (by decide) rfl (by decide)
                    have ak79317 := hW79315.arr h_x 41 34 (by decide) rfl (by decide)
                    have ak79318 := hW79315.arr h_x 42 35 (by decide) rfl (by decide)
                    have ak79319 := hW79315.arr h_x 43 36 (by decide) rfl (by decide)
                    have ak79320 := hW79315.arr h_x 49 40 (by decide) rfl (by decide)
                    have ak79321 := hW79315.arr h_x 50 41 (by decide) rfl (by decide)
                    have ak79322 := hW79315.arr h_x 53 44 (by decide) rfl (by decide)
                    have ak79323 := hW79315.arr h_x 54 45 (by decide) rfl (by decide)
                    have ak79324 := hW79315.arr h_x 55 46 (by decide) rfl (by decide)
                    have ak79325 := hW79315.arr h_x 60 51 (by decide) rfl (by decide)
                    have ak79326 := hW79315.arr h_x 61 52 (by decide) rfl (by decide)
                    refine GO.iload dX12_text_340 rfl ?_
                    refine GO.bipush dX12_text_342 rfl ?_
                    refine GO.icmp_ge (tgt := 369) dX12_text_344 (by decide) r_i79146 (ir_c rfl) (fun c79327 => ?_) (fun c79327 => ?_)
                    ·
                      refine GO.aload_n dX12_text_369 rfl rfl ?_
                      refine GO.aload_n dX12_text_370 rfl rfl ?_
                      refine GO.getI h_x fl_RX12_535 rfl rfl dX12_text_371 (fun l79328 u79329 => ?_)
                      refine GO.iconst dX12_text_374 ?_
                      refine GO.iadd dX12_text_375 ?_
                      have q79331 : -2147483648 ≤ vi Wi79146 x 47 ∧ vi Wi79146 x 47 ≤ 2147483647 := vi_ir
                      refine GO.putI h_x fp_RX12_535 rfl (by decide +kernel) ⟨by omega, by omega⟩ (by omega) (by omega) dX12_text_376 (fun V79332 e79330 => ?_)
                      have k79333 := st_fld e79330 aq79314 h_x (by decide) (by decide)
                      have sS79334 : sd V79332 x = sd Wi79146 x := k79333.2.1.trans (rfl : sd Wi79146 x = sd Wi79146 x)
                      have sQ79335 : wt V79332 x = wt Wi79146 x := k79333.2.2.trans (rfl : wt Wi79146 x = wt Wi79146 x)
                      clear k79333
                      have ak79336 := tk_fld e79330 ak79316 h_x (by decide) (rfl : ar 39 Wi79146 x = ar 39 Wi79146 x)
                      clear ak79316 ak79336
                      have ak79337 := tk_fld e79330 ak79317 h_x (by decide) (rfl : ar 41 Wi79146 x = ar 41 Wi79146 x)
                      clear ak79317 ak79337
                      have ak79338 := tk_fld e79330 ak79318 h_x (by decide) (rfl : ar 42 Wi79146 x = ar 42 Wi79146 x)
                      clear ak79318 ak79338
                      have ak79339 := tk_fld e79330 ak79319 h_x (by decide) (rfl : ar 43 Wi79146 x = ar 43 Wi79146 x)
                      clear ak79319 ak79339
                      have ak79340 := tk_fld e79330 ak79320 h_x (by decide) kp79306
                      clear kp79306 ak79320
                      have ak79341 := tk_fld e79330 ak79321 h_x (by decide) kp79307
                      clear kp79307 ak79321
                      have ak79342 := tk_fld e79330 ak79322 h_x (by decide) kp79308
                      clear kp79308 ak79322
                      have ak79343 := tk_fld e79330 ak79323 h_x (by decide) kp79309
                      clear kp79309 ak79323
                      have ak79344 := tk_fld e79330 ak79324 h_x (by decide) kp79310
                      clear kp79310 ak79324
                      have ak79345 := tk_fld e79330 ak79325 h_x (by decide) kp79311
                      clear kp79311 ak79325
                      have ak79346 := tk_fld e79330 ak79326 h_x (by decide) kp79312
                      clear kp79312 ak79326
                      refine GO.aload_n dX12_text_379 rfl rfl ?_
                      refine GO.getI h_x fl_RX12_535 rfl rfl dX12_text_380 (fun l79347 u79348 => ?_)
                      have e79349 : vi V79332 x 47 = (vi Wi79146 x 47) + 1 := upd2_int e79330 ⟨by omega, by omega⟩
                      refine GO.iconst dX12_text_383 ?_
                      refine GO.isub dX12_text_384 ?_
                      have e79350 : vi V79332 x 48 = vi Wi79146 x 48 := vi_up e79330 (Or.inr (by decide))
                      exact GO.reti rfl rfl dX12_text_385 ⟨rfl, _, rfl, ⟨by omega, by omega⟩, ⟨(by first | exact trivial | omega), (by first | exact w_0 | exact GX.mk w_0 (by omega) (by omega) ak79340.2 ak79341.2 ak79342.2 ak79343.2 ak79344.2 ak79345.2 ak79346.2 | exact GX.text hW_0 hWm h_x w_0 htm (by omega) (by omega) (by omega) ak79341.2 (by omega) (by omega) ak79342.2 ak79343.2 ak79344.2 ak79340.2 h53 h54 h55 (by omega) h49 (by omega) ak79345.2 ak79346.2)⟩⟩
                    ·
                      refine GO.aload_n dX12_text_347 rfl rfl ?_
                      refine GO.getA (n := 180) h_x fl_RX12_142 rfl rfl rfl rfl dX12_text_348 (fun hv79352 h79351 => ?_)
                      refine GO.bipush dX12_text_351 rfl ?_
                      refine GO.iload dX12_text_353 rfl ?_
                      refine GO.imul dX12_text_355 ?_
                      refine GO.aload_n dX12_text_356 rfl rfl ?_
                      refine GO.getI h_x fl_RX12_535 rfl rfl dX12_text_357 (fun l79353 u79354 => ?_)
                      refine GO.iadd dX12_text_360 ?_
                      refine GO.iconst dX12_text_361 ?_
                      have q79355 : -2147483648 ≤ vi Wi79146 x 47 ∧ vi Wi79146 x 47 ≤ 2147483647 := vi_ir
                      refine GO.iast (t := 50) rfl rfl (by decide +kernel) h79351 ⟨by omega, by omega⟩ (by omega) (by omega) (ir_c rfl) (by decide) (by decide) dX12_text_362 (fun V79357 e79356 => ?_)
                      have k79358 := st_oth e79356 aq79314 h_x h79351 (by decide) (by decide)
                      have sS79359 : sd V79357 x = sd Wi79146 x := k79358.2.1.trans (rfl : sd Wi79146 x = sd Wi79146 x)
                      have sQ79360 : wt V79357 x = wt Wi79146 x := k79358.2.2.trans (rfl : wt Wi79146 x = wt Wi79146 x)
                      clear k79358
                      have ak79361 := tk_oth e79356 ak79316 h_x h79351 (by decide) (by decide) (rfl : ar 39 Wi79146 x = ar 39 Wi79146 x)
                      clear ak79316 ak79361
                      have ak79362 := tk_oth e79356 ak79317 h_x h79351 (by decide) (by decide) (rfl : ar 41 Wi79146 x = ar 41 Wi79146 x)
                      clear ak79317 ak79362
                      have ak79363 := tk_oth e79356 ak79318 h_x h79351 (by decide) (by decide) (rfl : ar 42 Wi79146 x = ar 42 Wi79146 x)
                      clear ak79318 ak79363
                      have ak79364 := tk_oth e79356 ak79319 h_x h79351 (by decide) (by decide) (rfl : ar 43 Wi79146 x = ar 43 Wi79146 x)
                      clear ak79319 ak79364
                      have ak79365 := tk_oth e79356 ak79320 h_x h79351 (by decide) (by decide) kp79306
                      clear kp79306 ak79320
                      have ak79366 := tk_oth e79356 ak79321 h_x h79351 (by decide) (by decide) kp79307
                      clear kp79307 ak79321
                      have ak79367 := tk_oth e79356 ak79322 h_x h79351 (by decide) (by decide) kp79308
                      clear kp79308 ak79322
                      have ak79368 := tk_oth e79356 ak79323 h_x h79351 (by decide) (by decide) kp79309
                      clear kp79309 ak79323
                      have ak79369 := tk_oth e79356 ak79324 h_x h79351 (by decide) (by decide) kp79310
                      clear kp79310 ak79324
                      have ak79370 := tk_oth e79356 ak79325 h_x h79351 (by decide) (by decide) kp79311
                      clear kp79311 ak79325
                      have ak79371 := tk_oth e79356 ak79326 h_x h79351 (by decide) (by decide) kp79312
                      clear kp79312 ak79326
                      refine GO.iinc (X := i79146) (n := 1) (Y := i79146 + 1) (ls1 := [some (.ref x), some (ti p0), some (ti p1), some (ti p2), some (ti i131), some (ti (i79146 + 1)), none]) dX12_text_363 rfl rfl rfl rfl ?_
                      refine GO.goto (tgt := 340) dX12_text_366 (by decide) ?_
                      have e79372 : vi V79357 x 47 = vi Wi79146 x 47 := vi_up e79356 (Or.inl (K_ne h_x h79351 (by decide)))
                      have e79373 : vi V79357 x 48 = vi Wi79146 x 48 := vi_up e79356 (Or.inl (K_ne h_x h79351 (by decide)))
                      have q79374 : -2147483648 ≤ vi Wi79146 x 48 ∧ vi Wi79146 x 48 ≤ 2147483647 := vi_ir
                      exact ih79304 (i79146 + 1) V79357 ⟨by omega, by omega, by omega, ak79365.2, ak79366.2, ak79367.2, ak79368.2, ak79369.2, ak79370.2, ak79371.2, trivial⟩ (by show (2147483647 - (i79146 + 1)).toNat < (2147483647 - i79146).toNat; omega)
                  ·
                    refine GO.bipush dX12_text_217 rfl ?_
                    refine GO.aload_n dX12_text_219 rfl rfl ?_
                    refine GO.getI h_x fl_RX12_535 rfl rfl dX12_text_220 (fun l79375 u79376 => ?_)
                    refine GO.imul dX12_text_223 ?_
                    refine GO.iload dX12_text_224 rfl ?_
                    refine GO.iadd dX12_text_226 ?_
                    refine GO.name (fun z79377 hz79378 => ?_)
                    refine GO.istore (ls1 := [some (.ref x), some (ti p0), some (ti p1), some (ti p2), some (ti i131), some (ti i75631), some (ti z79377)]) dX12_text_227 rfl rfl ?_
                    refine GO.aload_n dX12_text_229 rfl rfl ?_
                    refine GO.getA (n := 240) h_x fl_RX12_124 rfl rfl rfl rfl dX12_text_230 (fun hv79380 h79379 => ?_)
                    refine GO.iload dX12_text_233 rfl ?_
                    refine GO.aload_n dX12_text_235 rfl rfl ?_
                    refine GO.getA (n := 12) h_x fl_RX12_94 rfl rfl rfl rfl dX12_text_236 (fun hv79382 h79381 => ?_)
                    refine GO.iload dX12_text_239 rfl ?_
                    have hl41 : vi Wi75631 (vq Wi75631 x 41) (i75631).toNat = ar 41 V39933 x (i75631).toNat := (congrFun kp79122 (i75631).toNat).trans (congrFun hm41 (i75631).toNat).symm
                    have q79383 : -2147483648 ≤ vi Wi75631 x 47 ∧ vi Wi75631 x 47 ≤ 2147483647 := vi_ir
                    have q79384 : -2147483648 ≤ vi Wi75631 x 38 ∧ vi Wi75631 x 38 ≤ 2147483647 := vi_ir
                    refine GO.iald (t := 34) rfl rfl h79381 r_i75631 (by omega) (by omega) dX12_text_241 (fun _ _ => ?_)
                    refine GO.iast (t := 44) rfl rfl (by decide +kernel) h79379 ⟨by omega, by omega⟩ (by omega) (by omega) vi_ir (vi_ir).1 (vi_ir).2 dX12_text_242 (fun V79386 e79385 => ?_)
                    have k79387 := st_oth e79385 aq79130 h_x h79379 (by decide) (by decide)
                    have sS79388 : sd V79386 x = sd Wi75631 x := k79387.2.1.trans (rfl : sd Wi75631 x = sd Wi75631 x)
                    have sQ79389 : wt V79386 x = wt Wi75631 x := k79387.2.2.trans (rfl : wt Wi75631 x = wt Wi75631 x)
                    have ak79390 := tk_oth e79385 ak79132 h_x h79379 (by decide) (by decide) kp79121
                    clear kp79121 ak79132
                    have ak79391 := tk_oth e79385 ak79133 h_x h79379 (by decide) (by decide) kp79122
                    clear kp79122 ak79133
                    have ak79392 := tk_oth e79385 ak79134 h_x h79379 (by decide) (by decide) kp79123
                    clear kp79123 ak79134
                    have ak79393 := tk_oth e79385 ak79135 h_x h79379 (by decide) (by decide) kp79124
                    clear kp79124 ak79135
                    have ak79394 := tk_oth e79385 ak79136 h_x h79379 (by decide) (by decide) kp79125
                    clear kp79125 ak79136
                    have ak79395 := tk_oth e79385 ak79137 h_x h79379 (by decide) (by decide) kp79126
                    clear kp79126 ak79137
                    have ak79396 := tk_put e79385 ak79138 h_x (vq_of hv79380) vi_ir (rfl : ar 53 Wi75631 x = ar 53 Wi75631 x)
                    clear ak79138
                    have ak79397 := tk_oth e79385 ak79139 h_x h79379 (by decide) (by decide) (rfl : ar 54 Wi75631 x = ar 54 Wi75631 x)
                    clear ak79139
                    have ak79398 := tk_oth e79385 ak79140 h_x h79379 (by decide) (by decide) (rfl : ar 55 Wi75631 x = ar 55 Wi75631 x)
                    clear ak79140
                    have ak79399 := tk_oth e79385 ak79141 h_x h79379 (by decide) (by decide) kp79127
                    clear kp79127 ak79141
                    have ak79400 := tk_oth e79385 ak79142 h_x h79379 (by decide) (by decide) kp79128
                    clear kp79128 ak79142
                    refine GO.aload_n dX12_text_243 rfl rfl ?_
                    refine GO.getA (n := 240) h_x fl_RX12_127 rfl rfl rfl rfl dX12_text_244 (fun hv79402 h79401 => ?_)
                    refine GO.iload dX12_text_247 rfl ?_
                    refine GO.sipush dX12_text_249 rfl ?_
                    refine GO.aload_n dX12_text_252 rfl rfl ?_
                    refine GO.getI h_x fl_RX12_535 rfl rfl dX12_text_253 (fun l79403 u79404 => ?_)
                    have e79405 : vi V79386 x 47 = vi Wi75631 x 47 := vi_up e79385 (Or.inl (K_ne h_x h79379 (by decide)))
                    refine GO.imul dX12_text_256 ?_
                    refine GO.aload_n dX12_text_257 rfl rfl ?_
                    refine GO.getA (n := 12) h_x fl_RX12_97 rfl rfl rfl rfl dX12_text_258 (fun hv79407 h79406 => ?_)
                    refine GO.iload dX12_text_261 rfl ?_
                    have hl42 : vi V79386 (vq V79386 x 42) (i75631).toNat = ar 42 V39933 x (i75631).toNat := (congrFun ak79392.2 (i75631).toNat).trans (congrFun hm42 (i75631).toNat).symm
                    refine GO.iald (t := 35) rfl rfl h79406 r_i75631 (by omega) (by omega) dX12_text_263 (fun l79408 u79409 => ?_)
                    refine GO.iadd dX12_text_264 ?_
                    refine GO.iast (t := 45) rfl rfl (by decide +kernel) h79401 ⟨by omega, by omega⟩ (by omega) (by omega) ⟨by omega, by omega⟩ (by omega) (by omega) dX12_text_265 (fun V79412 e79411 => ?_)
                    have k79413 := st_oth e79411 k79387.1 h_x h79401 (by decide) (by decide)
                    clear k79387
                    have sS79414 : sd V79412 x = sd Wi75631 x := k79413.2.1.trans sS79388
                    have sQ79415 : wt V79412 x = wt Wi75631 x := k79413.2.2.trans sQ79389
                    have ak79416 := tk_oth e79411 ak79390.1 h_x h79401 (by decide) (by decide) ak79390.2
                    clear ak79390
                    have ak79417 := tk_oth e79411 ak79391.1 h_x h79401 (by decide) (by decide) ak79391.2
                    clear ak79391
                    have ak79418 := tk_oth e79411 ak79392.1 h_x h79401 (by decide) (by decide) ak79392.2
                    clear ak79392
                    have ak79419 := tk_oth e79411 ak79393.1 h_x h79401 (by decide) (by decide) ak79393.2
                    clear ak79393
                    have ak79420 := tk_oth e79411 ak79394.1 h_x h79401 (by decide) (by decide) ak79394.2
                    clear ak79394
                    have ak79421 := tk_oth e79411 ak79395.1 h_x h79401 (by decide) (by decide) ak79395.2
                    clear ak79395
                    have ak79422 := tk_oth e79411 ak79396.1 h_x h79401 (by decide) (by decide) ak79396.2
                    clear ak79396
                    have ak79423 := tk_put e79411 ak79397.1 h_x (vq_of hv79402) ⟨by omega, by omega⟩ ak79397.2
                    clear ak79397
                    have ak79424 := tk_oth e79411 ak79398.1 h_x h79401 (by decide) (by decide) ak79398.2
                    clear ak79398
                    have ak79425 := tk_oth e79411 ak79399.1 h_x h79401 (by decide) (by decide) ak79399.2
                    clear ak79399
                    have ak79426 := tk_oth e79411 ak79400.1 h_x h79401 (by decide) (by decide) ak79400.2
                    clear ak79400
                    refine GO.aload_n dX12_text_266 rfl rfl ?_
                    refine GO.getA (n := 240) h_x fl_RX12_130 rfl rfl rfl rfl dX12_text_267 (fun hv79428 h79427 => ?_)
                    refine GO.iload dX12_text_270 rfl ?_
                    refine GO.sipush dX12_text_272 rfl ?_
                    refine GO.aload_n dX12_text_275 rfl rfl ?_
                    refine GO.getI h_x fl_RX12_535 rfl rfl dX12_text_276 (fun l79429 u79430 => ?_)
                    have e79431 : vi V79412 x 47 = vi V79386 x 47 := vi_up e79411 (Or.inl (K_ne h_x h79401 (by decide)))
                    refine GO.imul dX12_text_279 ?_
                    refine GO.aload_n dX12_text_280 rfl rfl ?_
                    refine GO.getA (n := 12) h_x fl_RX12_100 rfl rfl rfl rfl dX12_text_281 (fun hv79433 h79432 => ?_)
                    refine GO.iload dX12_text_284 rfl ?_
                    have hl43 : vi V79412 (vq V79412 x 43) (i75631).toNat = ar 43 V39933 x (i75631).toNat := (congrFun ak79419.2 (i75631).toNat).trans (congrFun hm43 (i75631).toNat).symm
                    refine GO.iald (t := 36) rfl rfl h79432 r_i75631 (by omega) (by omega) dX12_text_286 (fun l79434 u79435 => ?_)
                    refine GO.iadd dX12_text_287 ?_
                    refine GO.iast (t := 46) rfl rfl (by decide +kernel) h79427 ⟨by omega, by omega⟩ (by omega) (by omega) ⟨by omega, by omega⟩ (by omega) (by omega) dX12_text_288 (fun V79439 e79438 => ?_)
                    have k79440 := st_oth e79438 k79413.1 h_x h79427 (by decide) (by decide)
                    clear k79413
                    have sS79441 : sd V79439 x = sd Wi75631 x := k79440.2.1.trans sS79414
                    have sQ79442 : wt V79439 x = wt Wi75631 x := k79440.2.2.trans sQ79415
                    have ak79443 := tk_oth e79438 ak79416.1 h_x h79427 (by decide) (by decide) ak79416.2
                    clear ak79416
                    have ak79444 := tk_oth e79438 ak79417.1 h_x h79427 (by decide) (by decide) ak79417.2
                    clear ak79417
                    have ak79445 := tk_oth e79438 ak79418.1 h_x h79427 (by decide) (by decide) ak79418.2
                    clear ak79418
                    have ak79446 := tk_oth e79438 ak79419.1 h_x h79427 (by decide) (by decide) ak79419.2
                    clear ak79419
                    have ak79447 := tk_oth e79438 ak79420.1 h_x h79427 (by decide) (by decide) ak79420.2
                    clear ak79420
                    have ak79448 := tk_oth e79438 ak79421.1 h_x h79427 (by decide) (by decide) ak79421.2
                    clear ak79421
                    have ak79449 := tk_oth e79438 ak79422.1 h_x h79427 (by decide) (by decide) ak79422.2
                    clear ak79422
                    have ak79450 := tk_oth e79438 ak79423.1 h_x h79427 (by decide) (by decide) ak79423.2
                    clear ak79423
                    have ak79451 := tk_put e79438 ak79424.1 h_x (vq_of hv79428) ⟨by omega, by omega⟩ ak79424.2
                    clear ak79424
                    have ak79452 := tk_oth e79438 ak79425.1 h_x h79427 (by decide) (by decide) ak79425.2
                    clear ak79425
                    have ak79453 := tk_oth e79438 ak79426.1 h_x h79427 (by decide) (by decide) ak79426.2
                    clear ak79426
                    refine GO.aload_n dX12_text_289 rfl rfl ?_
                    refine GO.getA (n := 240) h_x fl_RX12_133 rfl rfl rfl rfl dX12_text_290 (fun hv79455 h79454 => ?_)
                    refine GO.iload dX12_text_293 rfl ?_
                    refine GO.aload_n dX12_text_295 rfl rfl ?_
                    refine GO.getA (n := 12) h_x fl_RX12_103 rfl rfl rfl rfl dX12_text_296 (fun hv79457 h79456 => ?_)
                    refine GO.iload dX12_text_299 rfl ?_
                    refine GO.iald (t := 37) rfl rfl h79456 r_i75631 (by omega) (by omega) dX12_text_301 (fun _ _ => ?_)
                    refine GO.iast (t := 47) rfl rfl (by decide +kernel) h79454 ⟨by omega, by omega⟩ (by omega) (by omega) vi_ir (vi_ir).1 (vi_ir).2 dX12_text_302 (fun V79462 e79461 => ?_)
                    have k79463 := st_oth e79461 k79440.1 h_x h79454 (by decide) (by decide)
                    clear k79440
                    have sS79464 : sd V79462 x = sd Wi75631 x := k79463.2.1.trans sS79441
                    have sQ79465 : wt V79462 x = wt Wi75631 x := k79463.2.2.trans sQ79442
                    have ak79466 := tk_oth e79461 ak79443.1 h_x h79454 (by decide) (by decide) ak79443.2
                    clear ak79443
                    have ak79467 := tk_oth e79461 ak79444.1 h_x h79454 (by decide) (by decide) ak79444.2
                    clear ak79444
                    have ak79468 := tk_oth e79461 ak79445.1 h_x h79454 (by decide) (by decide) ak79445.2
                    clear ak79445
                    have ak79469 := tk_oth e79461 ak79446.1 h_x h79454 (by decide) (by decide) ak79446.2
                    clear ak79446
                    have ak79470 := tk_oth e79461 ak79447.1 h_x h79454 (by decide) (by decide) ak79447.2
                    clear ak79447
                    have ak79471 := tk_oth e79461 ak79448.1 h_x h79454 (by decide) (by decide) ak79448.2
                    clear ak79448
                    have ak79472 := tk_oth e79461 ak79449.1 h_x h79454 (by decide) (by decide) ak79449.2
                    clear ak79449
                    have ak79473 := tk_oth e79461 ak79450.1 h_x h79454 (by decide) (by decide) ak79450.2
                    clear ak79450
                    have ak79474 := tk_oth e79461 ak79451.1 h_x h79454 (by decide) (by decide) ak79451.2
                    clear ak79451
                    have ak79475 := tk_oth e79461 ak79452.1 h_x h79454 (by decide) (by decide) ak79452.2
                    clear ak79452
                    have ak79476 := tk_oth e79461 ak79453.1 h_x h79454 (by decide) (by decide) ak79453.2
                    clear ak79453
                    refine GO.aload_n dX12_text_303 rfl rfl ?_
                    refine GO.getA (n := 240) h_x fl_RX12_136 rfl rfl rfl rfl dX12_text_304 (fun hv79478 h79477 => ?_)
                    refine GO.iload dX12_text_307 rfl ?_
                    refine GO.aload_n dX12_text_309 rfl rfl ?_
                    refine GO.getA (n := 12) h_x fl_RX12_106 rfl rfl rfl rfl dX12_text_310 (fun hv79480 h79479 => ?_)
                    refine GO.iload dX12_text_313 rfl ?_
                    refine GO.iald (t := 38) rfl rfl h79479 r_i75631 (by omega) (by omega) dX12_text_315 (fun l79481 u79482 => ?_)
                    refine GO.iast (t := 48) rfl rfl (by decide +kernel) h79477 ⟨by omega, by omega⟩ (by omega) (by omega) vi_ir (by omega) (by omega) dX12_text_316 (fun V79488 e79487 => ?_)
                    have k79489 := st_oth e79487 k79463.1 h_x h79477 (by decide) (by decide)
                    clear k79463
                    have sS79490 : sd V79488 x = sd Wi75631 x := k79489.2.1.trans sS79464
                    have sQ79491 : wt V79488 x = wt Wi75631 x := k79489.2.2.trans sQ79465
                    have ak79492 := tk_oth e79487 ak79466.1 h_x h79477 (by decide) (by decide) ak79466.2
                    clear ak79466
                    have ak79493 := tk_oth e79487 ak79467.1 h_x h79477 (by decide) (by decide) ak79467.2
                    clear ak79467
                    have ak79494 := tk_oth e79487 ak79468.1 h_x h79477 (by decide) (by decide) ak79468.2
                    clear ak79468
                    have ak79495 := tk_oth e79487 ak79469.1 h_x h79477 (by decide) (by decide) ak79469.2
                    clear ak79469
                    have ak79496 := tk_oth e79487 ak79470.1 h_x h79477 (by decide) (by decide) ak79470.2
                    clear ak79470
                    have ak79497 := tk_oth e79487 ak79471.1 h_x h79477 (by decide) (by decide) ak79471.2
                    clear ak79471
                    have ak79498 := tk_oth e79487 ak79472.1 h_x h79477 (by decide) (by decide) ak79472.2
                    clear ak79472
                    have ak79499 := tk_oth e79487 ak79473.1 h_x h79477 (by decide) (by decide) ak79473.2
                    clear ak79473
                    have ak79500 := tk_oth e79487 ak79474.1 h_x h79477 (by decide) (by decide) ak79474.2
                    clear ak79474
                    have ak79501 := tk_oth e79487 ak79475.1 h_x h79477 (by decide) (by decide) ak79475.2
                    clear ak79475
                    have ak79502 := tk_oth e79487 ak79476.1 h_x h79477 (by decide) (by decide) ak79476.2
                    clear ak79476
                    refine GO.aload_n dX12_text_317 rfl rfl ?_
                    refine GO.getA (n := 240) h_x fl_RX12_139 rfl rfl rfl rfl dX12_text_318 (fun hv79504 h79503 => ?_)
                    refine GO.iload dX12_text_321 rfl ?_
                    refine GO.aload_n dX12_text_323 rfl rfl ?_
                    refine GO.getA (n := 12) h_x fl_RX12_109 rfl rfl rfl rfl dX12_text_324 (fun hv79506 h79505 => ?_)
                    refine GO.iload dX12_text_327 rfl ?_
                    refine GO.iald (t := 39) rfl rfl h79505 r_i75631 (by omega) (by omega) dX12_text_329 (fun l79507 u79508 => ?_)
                    refine GO.iast (t := 49) rfl rfl (by decide +kernel) h79503 ⟨by omega, by omega⟩ (by omega) (by omega) vi_ir (by omega) (by omega) dX12_text_330 (fun V79515 e79514 => ?_)
                    have k79516 := st_oth e79514 k79489.1 h_x h79503 (by decide) (by decide)
                    clear k79489
                    have sS79517 : sd V79515 x = sd Wi75631 x := k79516.2.1.trans sS79490
                    have sQ79518 : wt V79515 x = wt Wi75631 x := k79516.2.2.trans sQ79491
                    clear k79516
                    have ak79519 := tk_oth e79514 ak79492.1 h_x h79503 (by decide) (by decide) ak79492.2
                    clear ak79492
                    have ak79520 := tk_oth e79514 ak79493.1 h_x h79503 (by decide) (by decide) ak79493.2
                    clear ak79493
                    have ak79521 := tk_oth e79514 ak79494.1 h_x h79503 (by decide) (by decide) ak79494.2
                    clear ak79494
                    have ak79522 := tk_oth e79514 ak79495.1 h_x h79503 (by decide) (by decide) ak79495.2
                    clear ak79495
                    have ak79523 := tk_oth e79514 ak79496.1 h_x h79503 (by decide) (by decide) ak79496.2
                    clear ak79496
                    have ak79524 := tk_oth e79514 ak79497.1 h_x h79503 (by decide) (by decide) ak79497.2
                    clear ak79497
                    have ak79525 := tk_oth e79514 ak79498.1 h_x h79503 (by decide) (by decide) ak79498.2
                    clear ak79498
                    have ak79526 := tk_oth e79514 ak79499.1 h_x h79503 (by decide) (by decide) ak79499.2
                    clear ak79499
                    have ak79527 := tk_oth e79514 ak79500.1 h_x h79503 (by decide) (by decide) ak79500.2
                    clear ak79500
                    have ak79528 := tk_oth e79514 ak79501.1 h_x h79503 (by decide) (by decide) ak79501.2
                    clear ak79501
                    have ak79529 := tk_oth e79514 ak79502.1 h_x h79503 (by decide) (by decide) ak79502.2
                    clear ak79502
                    refine GO.iinc (X := i75631) (n := 1) (Y := i75631 + 1) (ls1 := [some (.ref x), some (ti p0), some (ti p1), some (ti p2), some (ti i131), some (ti (i75631 + 1)), some (ti z79377)]) dX12_text_331 rfl rfl rfl rfl ?_
                    refine GO.goto (tgt := 208) dX12_text_334 (by decide) ?_
                    refine GO.drop [true, true, true, true, true, true, false] rfl ?_
                    have e79533 : vi V79439 x 47 = vi V79412 x 47 := vi_up e79438 (Or.inl (K_ne h_x h79427 (by decide)))
                    have e79532 : vi V79462 x 47 = vi V79439 x 47 := vi_up e79461 (Or.inl (K_ne h_x h79454 (by decide)))
                    have e79531 : vi V79488 x 47 = vi V79462 x 47 := vi_up e79487 (Or.inl (K_ne h_x h79477 (by decide)))
                    have e79530 : vi V79515 x 47 = vi V79488 x 47 := vi_up e79514 (Or.inl (K_ne h_x h79503 (by decide)))
                    have e79539 : vi V79386 x 48 = vi Wi75631 x 48 := vi_up e79385 (Or.inl (K_ne h_x h79379 (by decide)))
                    have e79538 : vi V79412 x 48 = vi V79386 x 48 := vi_up e79411 (Or.inl (K_ne h_x h79401 (by decide)))
                    have e79537 : vi V79439 x 48 = vi V79412 x 48 := vi_up e79438 (Or.inl (K_ne h_x h79427 (by decide)))
                    have e79536 : vi V79462 x 48 = vi V79439 x 48 := vi_up e79461 (Or.inl (K_ne h_x h79454 (by decide)))
                    have e79535 : vi V79488 x 48 = vi V79462 x 48 := vi_up e79487 (Or.inl (K_ne h_x h79477 (by decide)))
                    have e79534 : vi V79515 x 48 = vi V79488 x 48 := vi_up e79514 (Or.inl (K_ne h_x h79503 (by decide)))
                    have q79540 : -2147483648 ≤ vi Wi75631 x 48 ∧ vi Wi75631 x 48 ≤ 2147483647 := vi_ir
                    have e79546 : vi V79386 x 36 = vi Wi75631 x 36 := vi_up e79385 (Or.inl (K_ne h_x h79379 (by decide)))
                    have e79545 : vi V79412 x 36 = vi V79386 x 36 := vi_up e79411 (Or.inl (K_ne h_x h79401 (by decide)))
                    have e79544 : vi V79439 x 36 = vi V79412 x 36 := vi_up e79438 (Or.inl (K_ne h_x h79427 (by decide)))
                    have e79543 : vi V79462 x 36 = vi V79439 x 36 := vi_up e79461 (Or.inl (K_ne h_x h79454 (by decide)))
                    have e79542 : vi V79488 x 36 = vi V79462 x 36 := vi_up e79487 (Or.inl (K_ne h_x h79477 (by decide)))
                    have e79541 : vi V79515 x 36 = vi V79488 x 36 := vi_up e79514 (Or.inl (K_ne h_x h79503 (by decide)))
                    have q79547 : -2147483648 ≤ vi Wi75631 x 36 ∧ vi Wi75631 x 36 ≤ 2147483647 := vi_ir
                    have e79553 : vi V79386 x 38 = vi Wi75631 x 38 := vi_up e79385 (Or.inl (K_ne h_x h79379 (by decide)))
                    have e79552 : vi V79412 x 38 = vi V79386 x 38 := vi_up e79411 (Or.inl (K_ne h_x h79401 (by decide)))
                    have e79551 : vi V79439 x 38 = vi V79412 x 38 := vi_up e79438 (Or.inl (K_ne h_x h79427 (by decide)))
                    have e79550 : vi V79462 x 38 = vi V79439 x 38 := vi_up e79461 (Or.inl (K_ne h_x h79454 (by decide)))
                    have e79549 : vi V79488 x 38 = vi V79462 x 38 := vi_up e79487 (Or.inl (K_ne h_x h79477 (by decide)))
                    have e79548 : vi V79515 x 38 = vi V79488 x 38 := vi_up e79514 (Or.inl (K_ne h_x h79503 (by decide)))
                    exact ih79119 (i75631 + 1) V79515 ⟨by omega, by omega, by omega, (by first | exact CPf.rf.at ak79525.2 | exact CPf.put h53 (by omega) (by omega) ak79525.2 (by omega) (by omega) (by omega)), (by first | exact CPf.rf.at ak79526.2 | exact CPf.put h54 (by omega) (by omega) ak79526.2 (by omega) (by omega) (by omega)), (by first | exact CPf.rf.at ak79527.2 | exact CPf.put h55 (by omega) (by omega) ak79527.2 (by omega) (by omega) (by omega)), ak79519.2, ak79520.2, ak79521.2, ak79522.2, ak79523.2, ak79524.2, ak79528.2, ak79529.2, trivial⟩ (by show (2147483647 - (i75631 + 1)).toNat < (2147483647 - i75631).toNat; omega)
                ·
                  refine GO.aload_n dX12_text_176 rfl rfl ?_
                  refine GO.getA (n := 4400) h_x fl_RX12_112 rfl rfl rfl rfl dX12_text_177 (fun hv79555 h79554 => ?_)
                  refine GO.sipush dX12_text_180 rfl ?_
                  refine GO.aload_n dX12_text_183 rfl rfl ?_
                  refine GO.getI h_x fl_RX12_535 rfl rfl dX12_text_184 (fun l79556 u79557 => ?_)
                  refine GO.imul dX12_text_187 ?_
                  refine GO.iload dX12_text_188 rfl ?_
                  refine GO.iadd dX12_text_190 ?_
                  refine GO.aload_n dX12_text_191 rfl rfl ?_
                  refine GO.getA (n := 220) h_x fl_RX12_88 rfl rfl rfl rfl dX12_text_192 (fun hv79559 h79558 => ?_)
                  refine GO.iload dX12_text_195 rfl ?_
                  have hl39 : vi Wi40021 (vq Wi40021 x 39) (i40021).toNat = ar 39 V39933 x (i40021).toNat := (congrFun kp75604 (i40021).toNat).trans (congrFun hm39 (i40021).toNat).symm
                  have q79560 : -2147483648 ≤ vi Wi40021 x 36 ∧ vi Wi40021 x 36 ≤ 2147483647 := vi_ir
                  refine GO.iald (t := 32) rfl rfl h79558 r_i40021 (by omega) (by omega) dX12_text_197 (fun l79561 u79562 => ?_)
                  have q79563 : -2147483648 ≤ vi Wi40021 x 47 ∧ vi Wi40021 x 47 ≤ 2147483647 := vi_ir
                  refine GO.iast (t := 40) rfl rfl (by decide +kernel) h79554 ⟨by omega, by omega⟩ (by omega) (by omega) vi_ir (by omega) (by omega) dX12_text_198 (fun V79565 e79564 => ?_)
                  have k79566 := st_oth e79564 aq75615 h_x h79554 (by decide) (by decide)
                  have sS79567 : sd V79565 x = sd Wi40021 x := k79566.2.1.trans (rfl : sd Wi40021 x = sd Wi40021 x)
                  have sQ79568 : wt V79565 x = wt Wi40021 x := k79566.2.2.trans (rfl : wt Wi40021 x = wt Wi40021 x)
                  clear k79566
                  have ak79569 := tk_oth e79564 ak75617 h_x h79554 (by decide) (by decide) kp75604
                  clear kp75604 ak75617
                  have ak79570 := tk_oth e79564 ak75618 h_x h79554 (by decide) (by decide) kp75605
                  clear kp75605 ak75618
                  have ak79571 := tk_oth e79564 ak75619 h_x h79554 (by decide) (by decide) kp75606
                  clear kp75606 ak75619
                  have ak79572 := tk_oth e79564 ak75620 h_x h79554 (by decide) (by decide) kp75607
                  clear kp75607 ak75620
                  have ak79573 := tk_put e79564 ak75621 h_x (vq_of hv79555) vi_ir (rfl : ar 49 Wi40021 x = ar 49 Wi40021 x)
                  clear ak75621
                  have ak79574 := tk_oth e79564 ak75622 h_x h79554 (by decide) (by decide) kp75608
                  clear kp75608 ak75622
                  have ak79575 := tk_oth e79564 ak75623 h_x h79554 (by decide) (by decide) kp75609
                  clear kp75609 ak75623
                  have ak79576 := tk_oth e79564 ak75624 h_x h79554 (by decide) (by decide) kp75610
                  clear kp75610 ak75624
                  have ak79577 := tk_oth e79564 ak75625 h_x h79554 (by decide) (by decide) kp75611
                  clear kp75611 ak75625
                  have ak79578 := tk_oth e79564 ak75626 h_x h79554 (by decide) (by decide) kp75612
                  clear kp75612 ak75626
                  have ak79579 := tk_oth e79564 ak75627 h_x h79554 (by decide) (by decide) kp75613
                  clear kp75613 ak75627
                  refine GO.iinc (X := i40021) (n := 1) (Y := i40021 + 1) (ls1 := [some (.ref x), some (ti p0), some (ti p1), some (ti p2), some (ti i131), some (ti (i40021 + 1)), none]) dX12_text_199 rfl rfl rfl rfl ?_
                  refine GO.goto (tgt := 167) dX12_text_202 (by decide) ?_
                  have e79580 : vi V79565 x 47 = vi Wi40021 x 47 := vi_up e79564 (Or.inl (K_ne h_x h79554 (by decide)))
                  have e79581 : vi V79565 x 48 = vi Wi40021 x 48 := vi_up e79564 (Or.inl (K_ne h_x h79554 (by decide)))
                  have q79582 : -2147483648 ≤ vi Wi40021 x 48 ∧ vi Wi40021 x 48 ≤ 2147483647 := vi_ir
                  have e79583 : vi V79565 x 36 = vi Wi40021 x 36 := vi_up e79564 (Or.inl (K_ne h_x h79554 (by decide)))
                  have e79584 : vi V79565 x 38 = vi Wi40021 x 38 := vi_up e79564 (Or.inl (K_ne h_x h79554 (by decide)))
                  have q79585 : -2147483648 ≤ vi Wi40021 x 38 ∧ vi Wi40021 x 38 ≤ 2147483647 := vi_ir
                  exact ih75602 (i40021 + 1) V79565 ⟨by omega, by omega, by omega, (by first | exact CPf.rf.at ak79573.2 | exact CPf.put h49 (by omega) (by omega) ak79573.2 (by omega) (by omega) (by omega)), ak79569.2, ak79570.2, ak79571.2, ak79572.2, ak79574.2, ak79575.2, ak79576.2, ak79577.2, ak79578.2, ak79579.2, trivial⟩ (by show (2147483647 - (i40021 + 1)).toNat < (2147483647 - i40021).toNat; omega)
              ·
                refine GO.aload_n dX12_text_90 rfl rfl ?_
                refine GO.bipush dX12_text_91 rfl ?_
                refine GO.callV (ci := 11) (N := mX12_takes) dX12_text_93 (RX12, TX12, 151) rfl gV_RX12_532 h_x (t_X12_takes h_x (ir_c rfl) (by omega)) rfl [] rfl rfl (Nat.le_of_ble_eq_true rfl) rfl (k_is fun X79586 V79590 r79587 h79588 hF79589 => ?_)
                have k79591 := st_fr hF79589 aq39892 h_x (by decide +kernel) (by decide +kernel) (by decide +kernel) (by decide +kernel)
                have sS79592 : sd V79590 x = sd Wi131 x := k79591.2.1.trans (rfl : sd Wi131 x = sd Wi131 x)
                have sQ79593 : wt V79590 x = wt Wi131 x := k79591.2.2.trans (rfl : wt Wi131 x = wt Wi131 x)
                clear k79591
                have ak79594 := tk_fr hF79589 ak39894 h_x (by decide +kernel) (by decide +kernel) (rfl : ar 39 Wi131 x = ar 39 Wi131 x)
                clear ak39894
                have ak79595 := tk_fr hF79589 ak39895 h_x (by decide +kernel) (by decide +kernel) (rfl : ar 41 Wi131 x = ar 41 Wi131 x)
                clear ak39895
                have ak79596 := tk_fr hF79589 ak39896 h_x (by decide +kernel) (by decide +kernel) (rfl : ar 42 Wi131 x = ar 42 Wi131 x)
                clear ak39896
                have ak79597 := tk_fr hF79589 ak39897 h_x (by decide +kernel) (by decide +kernel) (rfl : ar 43 Wi131 x = ar 43 Wi131 x)
                clear ak39897
                have ak79598 := tk_fr hF79589 ak39898 h_x (by decide +kernel) (by decide +kernel) kp39884
                clear kp39884 ak39898
                have ak79599 := tk_fr hF79589 ak39899 h_x (by decide +kernel) (by decide +kernel) kp39885
                clear kp39885 ak39899
                have ak79600 := tk_fr hF79589 ak39900 h_x (by decide +kernel) (by decide +kernel) kp39886
                clear kp39886 ak39900
                have ak79601 := tk_fr hF79589 ak39901 h_x (by decide +kernel) (by decide +kernel) kp39887
                clear kp39887 ak39901
                have ak79602 := tk_fr hF79589 ak39902 h_x (by decide +kernel) (by decide +kernel) kp39888
                clear kp39888 ak39902
                have ak79603 := tk_fr hF79589 ak39903 h_x (by decide +kernel) (by decide +kernel) kp39889
                clear kp39889 ak39903
                have ak79604 := tk_fr hF79589 ak39904 h_x (by decide +kernel) (by decide +kernel) kp39890
                clear kp39890 ak39904
                refine GO.if_eq (tgt := 110) dX12_text_96 (by decide) r79587 (fun c79606 => ?_) (fun c79606 => ?_)
                ·
                  clear ak79594 ak79595 ak79596 ak79597
                  have e79607 : vi V79590 x 32 = vi Wi131 x 32 := vi_fr hF79589 h_x h_x (by decide +kernel)
                  have e79608 : vi V79590 x 36 = vi Wi131 x 36 := vi_fr hF79589 h_x h_x (by decide +kernel)
                  have e79609 : vi V79590 x 37 = vi Wi131 x 37 := vi_fr hF79589 h_x h_x (by decide +kernel)
                  refine GO.useWT (fun hWb => ?_)
                  have hrb := hWb.rd h_x
                  refine GO.iconst dX12_text_110 ?_
                  refine GO.istore (ls1 := [some (.ref x), some (ti p0), some (ti p1), some (ti p2), some (ti 0), none, none]) dX12_text_111 rfl rfl ?_
                  refine GO.goto (tgt := 74) dX12_text_113 (by decide) ?_
                  have e79610 : vi V79590 x 47 = vi Wi131 x 47 := vi_fr hF79589 h_x h_x (by decide +kernel)
                  have q79611 : -2147483648 ≤ vi Wi131 x 47 ∧ vi Wi131 x 47 ≤ 2147483647 := vi_ir
                  have e79612 : vi V79590 x 48 = vi Wi131 x 48 := vi_fr hF79589 h_x h_x (by decide +kernel)
                  have q79613 : -2147483648 ≤ vi Wi131 x 48 ∧ vi Wi131 x 48 ≤ 2147483647 := vi_ir
                  have q79614 : -2147483648 ≤ vi Wi131 x 36 ∧ vi Wi131 x 36 ≤ 2147483647 := vi_ir
                  have q79615 : -2147483648 ≤ vi Wi131 x 31 ∧ vi Wi131 x 31 ≤ 2147483647 := vi_ir
                  have q79616 : -2147483648 ≤ vi Wi131 x 32 ∧ vi Wi131 x 32 ≤ 2147483647 := vi_ir
                  have q79617 : -2147483648 ≤ vi V79590 x 31 ∧ vi V79590 x 31 ≤ 2147483647 := vi_ir
                  exact ih39882 0 V79590 ⟨by omega, by omega, by omega, (by first | exact fun h => raw_readsClause (by omega) | exact fun h => absurd rfl h | exact fun h => absurd h (by omega)), ak79598.2, ak79599.2, ak79600.2, ak79601.2, ak79602.2, ak79603.2, ak79604.2, trivial⟩ (by show (((1000 * 0) + (vi V79590 x 32 - vi V79590 x 31))).toNat < (((1000 * i131) + (vi Wi131 x 32 - vi Wi131 x 31))).toNat; omega)
                ·
                  have q79618 := h79588.2.1 (by omega)
                  have e79619 : vi V79590 x 38 = vi Wi131 x 38 := vi_fr hF79589 h_x h_x (by decide +kernel)
                  have e79620 : vi V79590 x 36 = vi Wi131 x 36 := vi_fr hF79589 h_x h_x (by decide +kernel)
                  refine GO.aload_n dX12_text_99 rfl rfl ?_
                  have q79621 : -2147483648 ≤ vi V79590 x 31 ∧ vi V79590 x 31 ≤ 2147483647 := vi_ir
                  have q79622 : -2147483648 ≤ vi Wi131 x 31 ∧ vi Wi131 x 31 ≤ 2147483647 := vi_ir
                  have q79623 : -2147483648 ≤ vi Wi131 x 32 ∧ vi Wi131 x 32 ≤ 2147483647 := vi_ir
                  have q79624 : -2147483648 ≤ vi Wi131 x 36 ∧ vi Wi131 x 36 ≤ 2147483647 := vi_ir
                  refine GO.callV (ci := 11) (N := mX12_readsClause) dX12_text_100 (RX12, TX12, 151) rfl gV_RX12_538 h_x (t_X12_readsClause h_x (by omega) ((by first | exact TC.nil (by omega) | exact TC.eq (htc (by omega)) ak79595.2 ak79596.2 ak79597.2 ak79594.2 (by omega) (by omega)))) rfl [] rfl rfl (Nat.le_of_ble_eq_true rfl) rfl (k_is fun X79625 V79629 r79626 h79627 hF79628 => ?_)
                  clear ak79594 ak79595 ak79596 ak79597
                  refine GO.useWT (fun hW79630 => ?_)
                  have aq79631 := hW79630.aq h_x
                  have ak79632 := tk_fr hF79628 ak79598.1 h_x (by decide +kernel) (by decide +kernel) ak79598.2
                  clear ak79598
                  have ak79633 := tk_fr hF79628 ak79599.1 h_x (by decide +kernel) (by decide +kernel) ak79599.2
                  clear ak79599
                  have ak79634 := tk_fr hF79628 ak79600.1 h_x (by decide +kernel) (by decide +kernel) ak79600.2
                  clear ak79600
                  have ak79635 := tk_fr hF79628 ak79601.1 h_x (by decide +kernel) (by decide +kernel) ak79601.2
                  clear ak79601
                  have ak79636 := tk_fr hF79628 ak79602.1 h_x (by decide +kernel) (by decide +kernel) ak79602.2
                  clear ak79602
                  have ak79637 := tk_fr hF79628 ak79603.1 h_x (by decide +kernel) (by decide +kernel) ak79603.2
                  clear ak79603
                  have ak79638 := tk_fr hF79628 ak79604.1 h_x (by decide +kernel) (by decide +kernel) ak79604.2
                  clear ak79604
                  refine GO.useWT (fun hW79639 => ?_)
                  have ak79640 := hW79639.arr h_x 39 32 (by decide) rfl (by decide)
                  clear ak79640
                  have ak79641 := hW79639.arr h_x 41 34 (by decide) rfl (by decide)
                  clear ak79641
                  have ak79642 := hW79639.arr h_x 42 35 (by decide) rfl (by decide)
                  clear ak79642
                  have ak79643 := hW79639.arr h_x 43 36 (by decide) rfl (by decide)
                  clear ak79643
                  have raw_readsClause := h79627.2.2.2
                  refine GO.if_eq (tgt := 110) dX12_text_103 (by decide) r79626 (fun c79646 => ?_) (fun c79646 => ?_)
                  ·
                    have e79648 : vi V79590 x 32 = vi Wi131 x 32 := vi_fr hF79589 h_x h_x (by decide +kernel)
                    have e79647 : vi V79629 x 32 = vi V79590 x 32 := vi_fr hF79628 h_x h_x (by decide +kernel)
                    refine GO.useWT (fun hWb => ?_)
                    have hrb := hWb.rd h_x
                    refine GO.iconst dX12_text_110 ?_
                    refine GO.istore (ls1 := [some (.ref x), some (ti p0), some (ti p1), some (ti p2), some (ti 0), none, none]) dX12_text_111 rfl rfl ?_
                    refine GO.goto (tgt := 74) dX12_text_113 (by decide) ?_
                    have e79651 : vi V79590 x 47 = vi Wi131 x 47 := vi_fr hF79589 h_x h_x (by decide +kernel)
                    have e79650 : vi V79629 x 47 = vi V79590 x 47 := vi_fr hF79628 h_x h_x (by decide +kernel)
                    have q79652 : -2147483648 ≤ vi Wi131 x 47 ∧ vi Wi131 x 47 ≤ 2147483647 := vi_ir
                    have e79654 : vi V79590 x 48 = vi Wi131 x 48 := vi_fr hF79589 h_x h_x (by decide +kernel)
                    have e79653 : vi V79629 x 48 = vi V79590 x 48 := vi_fr hF79628 h_x h_x (by decide +kernel)
                    have q79655 : -2147483648 ≤ vi Wi131 x 48 ∧ vi Wi131 x 48 ≤ 2147483647 := vi_ir
                    have q79656 : -2147483648 ≤ vi V79629 x 36 ∧ vi V79629 x 36 ≤ 2147483647 := vi_ir
                    have q79657 : -2147483648 ≤ vi V79629 x 31 ∧ vi V79629 x 31 ≤ 2147483647 := vi_ir
                    exact ih39882 0 V79629 ⟨by omega, by omega, by omega, (by first | exact fun h => raw_readsClause (by omega) | exact fun h => absurd rfl h | exact fun h => absurd h (by omega)), ak79632.2, ak79633.2, ak79634.2, ak79635.2, ak79636.2, ak79637.2, ak79638.2, trivial⟩ (by show (((1000 * 0) + (vi V79629 x 32 - vi V79629 x 31))).toNat < (((1000 * i131) + (vi Wi131 x 32 - vi Wi131 x 31))).toNat; omega)
                  ·
                    have q79658 := h79627.2.1 (by omega)
                    refine GO.iconst dX12_text_106 ?_
                    refine GO.goto (tgt := 111) dX12_text_107 (by decide) ?_
                    refine GO.istore (ls1 := [some (.ref x), some (ti p0), some (ti p1), some (ti p2), some (ti 1), none, none]) dX12_text_111 rfl rfl ?_
                    refine GO.goto (tgt := 74) dX12_text_113 (by decide) ?_
                    have e79660 : vi V79590 x 47 = vi Wi131 x 47 := vi_fr hF79589 h_x h_x (by decide +kernel)
                    have e79659 : vi V79629 x 47 = vi V79590 x 47 := vi_fr hF79628 h_x h_x (by decide +kernel)
                    have q79661 : -2147483648 ≤ vi Wi131 x 47 ∧ vi Wi131 x 47 ≤ 2147483647 := vi_ir
                    have e79663 : vi V79590 x 48 = vi Wi131 x 48 := vi_fr hF79589 h_x h_x (by decide +kernel)
                    have e79662 : vi V79629 x 48 = vi V79590 x 48 := vi_fr hF79628 h_x h_x (by decide +kernel)
                    have q79664 : -2147483648 ≤ vi Wi131 x 48 ∧ vi Wi131 x 48 ≤ 2147483647 := vi_ir
                    have q79665 : -2147483648 ≤ vi V79629 x 36 ∧ vi V79629 x 36 ≤ 2147483647 := vi_ir
                    have q79666 : -2147483648 ≤ vi V79629 x 31 ∧ vi V79629 x 31 ≤ 2147483647 := vi_ir
                    have e79668 : vi V79590 x 32 = vi Wi131 x 32 := vi_fr hF79589 h_x h_x (by decide +kernel)
                    have e79667 : vi V79629 x 32 = vi V79590 x 32 := vi_fr hF79628 h_x h_x (by decide +kernel)
                    exact ih39882 1 V79629 ⟨by omega, by omega, by omega, (by first | exact fun h => raw_readsClause (by omega) | exact fun h => absurd rfl h | exact fun h => absurd h (by omega)), ak79632.2, ak79633.2, ak79634.2, ak79635.2, ak79636.2, ak79637.2, ak79638.2, trivial⟩ (by show (((1000 * 1) + (vi V79629 x 32 - vi V79629 x 31))).toNat < (((1000 * i131) + (vi Wi131 x 32 - vi Wi131 x 31))).toNat; omega)
          ·
            clear ak4 ak5 ak6 ak7 ak8 ak9 ak10 ak11 ak12 ak13 ak14
            refine GO.iconst dX12_text_46 ?_
            exact GO.reti rfl rfl dX12_text_47 ⟨rfl, _, rfl, (ir_c rfl), ⟨(by first | exact trivial | omega), (by first | exact w_0 | exact GX.mk w_0 (by omega) (by omega) (rfl : ar 49 V x = ar 49 V x) (rfl : ar 50 V x = ar 50 V x) (rfl : ar 53 V x = ar 53 V x) (rfl : ar 54 V x = ar 54 V x) (rfl : ar 55 V x = ar 55 V x) (rfl : ar 60 V x = ar 60 V x) (rfl : ar 61 V x = ar 61 V x))⟩⟩
