def mX12_readsClause : MRec := (RX12, cX12_readsClause, 3, (some .boolean), yX12_readsClause, 7, 146, 0, 0, 4155553391722351615987629204355131448544995523439603617552334366590684201787929150118965542912)
set_option maxHeartbeats 8000000 in
theorem t_X12_readsClause {K : Kmap} {V : Vmap} {x : Nat} (h_x : K x = some (0, 11)) (q_0 : vi V x 36 ≤ vi V x 31) (w_0 : TC V x) : MC mX12_readsClause K V [.ref x] (IS K (fun X V1 => (X = 0 ∨ X = 1) ∧ (X ≠ 0 → vi V1 x 31 ≥ (vi V x 31 + 1) ∧ vi V1 x 36 ≤ vi V1 x 31) ∧ (X = 0 → True) ∧ (X ≠ 0 → TC V1 x))) := by
  refine MC.start 2 (by decide +kernel) rfl rfl rfl (ls0 := [some (.ref x), none, none]) rfl ?_
  refine GO.useWT (fun hW1 => ?_)
  have aq2 := hW1.aq h_x
  refine GO.useWT (fun hW3 => ?_)
  have ak4 := hW3.arr h_x 39 32 (by decide) rfl (by decide)
  have ak5 := hW3.arr h_x 41 34 (by decide) rfl (by decide)
  have ak6 := hW3.arr h_x 42 35 (by decide) rfl (by decide)
  have ak7 := hW3.arr h_x 43 36 (by decide) rfl (by decide)
  have hrd := (hW1).rd h_x
  have hcn := (hW1).cnt h_x
  refine GO.aload_n dX12_readsClause_0 rfl rfl ?_
  refine GO.callV (ci := 11) (N := mX12_sign) dX12_readsClause_1 (RX12, TX12, 151) rfl gV_RX12_449 h_x (t_X12_sign h_x) rfl [] rfl rfl (Nat.le_of_ble_eq_true rfl) rfl (k_ip fun X8 r9 h10 => ?_)
  refine GO.istore_n (ls1 := [some (.ref x), some (ti X8), none]) dX12_readsClause_4 rfl rfl rfl ?_
  refine GO.iload_n dX12_readsClause_5 rfl rfl ?_
  refine GO.callS (N := mX12_isLetter) dX12_readsClause_6 gS_RX12_523 (t_X12_isLetter r9) rfl [] rfl rfl (Nat.le_of_ble_eq_true rfl) rfl (k_ip fun X11 r12 h13 => ?_)
  refine GO.if_ne (tgt := 22) dX12_readsClause_9 (by decide) r12 (fun c14 => ?_) (fun c14 => ?_)
  ·
    have q15 := h13.2.1 (by omega)
    refine GO.aload_n dX12_readsClause_22 rfl rfl ?_
    refine GO.getI h_x fl_RX12_526 rfl rfl dX12_readsClause_23 (fun l16 u17 => ?_)
    refine GO.bipush dX12_readsClause_26 rfl ?_
    refine GO.icmp_ne (tgt := 41) dX12_readsClause_28 (by decide) vi_ir (ir_c rfl) (fun c18 => ?_) (fun c18 => ?_)
    ·
      refine GO.aload_n dX12_readsClause_41 rfl rfl ?_
      refine GO.aload_n dX12_readsClause_42 rfl rfl ?_
      refine GO.getI h_x fl_RX12_443 rfl rfl dX12_readsClause_43 (fun l19 u20 => ?_)
      refine GO.iconst dX12_readsClause_46 ?_
      refine GO.iadd dX12_readsClause_47 ?_
      have q22 : -2147483648 ≤ vi V x 31 ∧ vi V x 31 ≤ 2147483647 := vi_ir
      have q23 : -2147483648 ≤ vi V x 32 ∧ vi V x 32 ≤ 2147483647 := vi_ir
      have q24 : -2147483648 ≤ vi V x 36 ∧ vi V x 36 ≤ 2147483647 := vi_ir
      refine GO.putI h_x fp_RX12_443 rfl (by decide +kernel) ⟨by omega, by omega⟩ (by omega) (by omega) dX12_readsClause_48 (fun V25 e21 => ?_)
      have k26 := st_fld e21 aq2 h_x (by decide) (by decide)
      have sS27 : sd V25 x = sd V x := k26.2.1.trans (rfl : sd V x = sd V x)
      have sQ28 : wt V25 x = wt V x := k26.2.2.trans (rfl : wt V x = wt V x)
      have ak29 := tk_fld e21 ak4 h_x (by decide) (rfl : ar 39 V x = ar 39 V x)
      have ak30 := tk_fld e21 ak5 h_x (by decide) (rfl : ar 41 V x = ar 41 V x)
      have ak31 := tk_fld e21 ak6 h_x (by decide) (rfl : ar 42 V x = ar 42 V x)
      have ak32 := tk_fld e21 ak7 h_x (by decide) (rfl : ar 43 V x = ar 43 V x)
      refine GO.aload_n dX12_readsClause_51 rfl rfl ?_
      refine GO.getI h_x fl_RX12_526 rfl rfl dX12_readsClause_52 (fun l33 u34 => ?_)
      have e35 : vi V25 x 38 = vi V x 38 := vi_up e21 (Or.inr (by decide))
      refine GO.name (fun z36 hz37 => ?_)
      have r38 : ir z36 := hz37 ▸ vi_ir
      refine GO.istore_n (ls1 := [some (.ref x), some (ti X8), some (ti z36)]) dX12_readsClause_55 rfl rfl rfl ?_
      refine GO.aload_n dX12_readsClause_56 rfl rfl ?_
      refine GO.getA (n := 12) h_x fl_RX12_94 rfl rfl rfl rfl dX12_readsClause_57 (fun hv40 h39 => ?_)
      refine GO.iload_n dX12_readsClause_60 rfl rfl ?_
      refine GO.iload_n dX12_readsClause_61 rfl rfl ?_
      have q41 : -2147483648 ≤ vi V x 38 ∧ vi V x 38 ≤ 2147483647 := vi_ir
      refine GO.iast (t := 34) rfl rfl (by decide +kernel) h39 r38 (by omega) (by omega) r9 (r9).1 (r9).2 dX12_readsClause_62 (fun V43 e42 => ?_)
      have k44 := st_oth e42 k26.1 h_x h39 (by decide) (by decide)
      have sS45 : sd V43 x = sd V x := k44.2.1.trans sS27
      have sQ46 : wt V43 x = wt V x := k44.2.2.trans sQ28
      have ak47 := tk_oth e42 ak29.1 h_x h39 (by decide) (by decide) ak29.2
      have ak48 := tk_put e42 ak30.1 h_x (vq_of hv40) r9 ak30.2
      have ak49 := tk_oth e42 ak31.1 h_x h39 (by decide) (by decide) ak31.2
      have ak50 := tk_oth e42 ak32.1 h_x h39 (by decide) (by decide) ak32.2
      refine GO.aload_n dX12_readsClause_63 rfl rfl ?_
      refine GO.getA (n := 12) h_x fl_RX12_103 rfl rfl rfl rfl dX12_readsClause_64 (fun hv52 h51 => ?_)
      refine GO.iload_n dX12_readsClause_67 rfl rfl ?_
      refine GO.iconst dX12_readsClause_68 ?_
      refine GO.iast (t := 37) rfl rfl (by decide +kernel) h51 r38 (by omega) (by omega) (ir_c rfl) (by decide) (by decide) dX12_readsClause_69 (fun V54 e53 => ?_)
      have k55 := st_oth e53 k44.1 h_x h51 (by decide) (by decide)
      have sS56 : sd V54 x = sd V x := k55.2.1.trans sS45
      have sQ57 : wt V54 x = wt V x := k55.2.2.trans sQ46
      have ak58 := tk_oth e53 ak47.1 h_x h51 (by decide) (by decide) ak47.2
      have ak59 := tk_oth e53 ak48.1 h_x h51 (by decide) (by decide) ak48.2
      have ak60 := tk_oth e53 ak49.1 h_x h51 (by decide) (by decide) ak49.2
      have ak61 := tk_oth e53 ak50.1 h_x h51 (by decide) (by decide) ak50.2
      refine GO.aload_n dX12_readsClause_70 rfl rfl ?_
      refine GO.getA (n := 12) h_x fl_RX12_106 rfl rfl rfl rfl dX12_readsClause_71 (fun hv63 h62 => ?_)
      refine GO.iload_n dX12_readsClause_74 rfl rfl ?_
      refine GO.iconst dX12_readsClause_75 ?_
      refine GO.iast (t := 38) rfl rfl (by decide +kernel) h62 r38 (by omega) (by omega) (ir_c rfl) (by decide) (by decide) dX12_readsClause_76 (fun V65 e64 => ?_)
      have k66 := st_oth e64 k55.1 h_x h62 (by decide) (by decide)
      have sS67 : sd V65 x = sd V x := k66.2.1.trans sS56
      have sQ68 : wt V65 x = wt V x := k66.2.2.trans sQ57
      have ak69 := tk_oth e64 ak58.1 h_x h62 (by decide) (by decide) ak58.2
      have ak70 := tk_oth e64 ak59.1 h_x h62 (by decide) (by decide) ak59.2
      have ak71 := tk_oth e64 ak60.1 h_x h62 (by decide) (by decide) ak60.2
      have ak72 := tk_oth e64 ak61.1 h_x h62 (by decide) (by decide) ak61.2
      refine GO.aload_n dX12_readsClause_77 rfl rfl ?_
      refine GO.getA (n := 12) h_x fl_RX12_109 rfl rfl rfl rfl dX12_readsClause_78 (fun hv74 h73 => ?_)
      refine GO.iload_n dX12_readsClause_81 rfl rfl ?_
      refine GO.iconst dX12_readsClause_82 ?_
      refine GO.iast (t := 39) rfl rfl (by decide +kernel) h73 r38 (by omega) (by omega) (ir_c rfl) (by decide) (by decide) dX12_readsClause_83 (fun V76 e75 => ?_)
      have k77 := st_oth e75 k66.1 h_x h73 (by decide) (by decide)
      have sS78 : sd V76 x = sd V x := k77.2.1.trans sS67
      have sQ79 : wt V76 x = wt V x := k77.2.2.trans sQ68
      have ak80 := tk_oth e75 ak69.1 h_x h73 (by decide) (by decide) ak69.2
      have ak81 := tk_oth e75 ak70.1 h_x h73 (by decide) (by decide) ak70.2
      have ak82 := tk_oth e75 ak71.1 h_x h73 (by decide) (by decide) ak71.2
      have ak83 := tk_oth e75 ak72.1 h_x h73 (by decide) (by decide) ak72.2
      refine GO.aload_n dX12_readsClause_84 rfl rfl ?_
      refine GO.getA (n := 12) h_x fl_RX12_97 rfl rfl rfl rfl dX12_readsClause_85 (fun hv85 h84 => ?_)
      refine GO.iload_n dX12_readsClause_88 rfl rfl ?_
      refine GO.aload_n dX12_readsClause_89 rfl rfl ?_
      refine GO.getI h_x fl_RX12_466 rfl rfl dX12_readsClause_90 (fun l86 u87 => ?_)
      have e92 : vi V25 x 36 = vi V x 36 := vi_up e21 (Or.inr (by decide))
      have e91 : vi V43 x 36 = vi V25 x 36 := vi_up e42 (Or.inl (K_ne h_x h39 (by decide)))
      have e90 : vi V54 x 36 = vi V43 x 36 := vi_up e53 (Or.inl (K_ne h_x h51 (by decide)))
      have e89 : vi V65 x 36 = vi V54 x 36 := vi_up e64 (Or.inl (K_ne h_x h62 (by decide)))
      have e88 : vi V76 x 36 = vi V65 x 36 := vi_up e75 (Or.inl (K_ne h_x h73 (by decide)))
      refine GO.iast (t := 35) rfl rfl (by decide +kernel) h84 r38 (by omega) (by omega) vi_ir (by omega) (by omega) dX12_readsClause_93 (fun V94 e93 => ?_)
      have k95 := st_oth e93 k77.1 h_x h84 (by decide) (by decide)
      have sS96 : sd V94 x = sd V x := k95.2.1.trans sS78
      have sQ97 : wt V94 x = wt V x := k95.2.2.trans sQ79
      have ak98 := tk_oth e93 ak80.1 h_x h84 (by decide) (by decide) ak80.2
      have ak99 := tk_oth e93 ak81.1 h_x h84 (by decide) (by decide) ak81.2
      have ak100 := tk_put e93 ak82.1 h_x (vq_of hv85) vi_ir ak82.2
      have ak101 := tk_oth e93 ak83.1 h_x h84 (by decide) (by decide) ak83.2
      refine GO.iload_n dX12_readsClause_94 rfl rfl ?_
      refine GO.callS (N := mX12_isAsking) dX12_readsClause_95 gS_RX12_520 (t_X12_isAsking r9) rfl [] rfl rfl (Nat.le_of_ble_eq_true rfl) rfl (k_ip fun X102 r103 h104 => ?_)
      have raw_isAsking := h104.2.2.2
      have hj139 : ∀ (V140 : Vmap), ∀ (ji141 : vi V140 x 31 ≥ (vi V x 31 + 1) ∧ vi V140 x 31 ≤ 200 ∧ vi V140 x 36 ≥ vi V x 36 ∧ vi V140 x 36 ≤ vi V140 x 31 ∧ vi V140 x 38 = vi V x 38), ∀ (hrc0 : RC0 V V140 x X8 (z36).toNat), GO mX12_readsClause K V (IS K (fun X V1 => (X = 0 ∨ X = 1) ∧ (X ≠ 0 → vi V1 x 31 ≥ (vi V x 31 + 1) ∧ vi V1 x 36 ≤ vi V1 x 31) ∧ (X = 0 → True) ∧ (X ≠ 0 → TC V1 x))) K V140 0 0 110 [some (.ref x), some (ti X8), some (ti z36)] [] := by
        intro V140 ji141 hrc0
        refine GO.useWT (fun hW142 => ?_)
        have aq143 := hW142.aq h_x
        refine GO.useWT (fun hW144 => ?_)
        have ak145 := hW144.arr h_x 39 32 (by decide) rfl (by decide)
        have ak146 := hW144.arr h_x 41 34 (by decide) rfl (by decide)
        have ak147 := hW144.arr h_x 42 35 (by decide) rfl (by decide)
        have ak148 := hW144.arr h_x 43 36 (by decide) rfl (by decide)
        refine GO.aload_n dX12_readsClause_110 rfl rfl ?_
        refine GO.getA (n := 12) h_x fl_RX12_100 rfl rfl rfl rfl dX12_readsClause_111 (fun hv150 h149 => ?_)
        refine GO.iload_n dX12_readsClause_114 rfl rfl ?_
        refine GO.aload_n dX12_readsClause_115 rfl rfl ?_
        refine GO.getI h_x fl_RX12_466 rfl rfl dX12_readsClause_116 (fun l151 u152 => ?_)
        have q153 : -2147483648 ≤ vi V140 x 38 ∧ vi V140 x 38 ≤ 2147483647 := vi_ir
        have q155 : -2147483648 ≤ vi V140 x 36 ∧ vi V140 x 36 ≤ 2147483647 := vi_ir
        have q156 : -2147483648 ≤ vi V140 x 31 ∧ vi V140 x 31 ≤ 2147483647 := vi_ir
        refine GO.iast (t := 36) rfl rfl (by decide +kernel) h149 r38 (by omega) (by omega) vi_ir (by omega) (by omega) dX12_readsClause_119 (fun V157 e154 => ?_)
        have k158 := st_oth e154 aq143 h_x h149 (by decide) (by decide)
        have sS159 : sd V157 x = sd V140 x := k158.2.1.trans (rfl : sd V140 x = sd V140 x)
        have sQ160 : wt V157 x = wt V140 x := k158.2.2.trans (rfl : wt V140 x = wt V140 x)
        have ak161 := tk_oth e154 ak145 h_x h149 (by decide) (by decide) (rfl : ar 39 V140 x = ar 39 V140 x)
        have ak162 := tk_oth e154 ak146 h_x h149 (by decide) (by decide) (rfl : ar 41 V140 x = ar 41 V140 x)
        have ak163 := tk_oth e154 ak147 h_x h149 (by decide) (by decide) (rfl : ar 42 V140 x = ar 42 V140 x)
        have ak164 := tk_put e154 ak148 h_x (vq_of hv150) vi_ir (rfl : ar 43 V140 x = ar 43 V140 x)
        refine GO.iload_n dX12_readsClause_120 rfl rfl ?_
        refine GO.bipush dX12_readsClause_121 rfl ?_
        have hj413 : ∀ (V414 : Vmap), ∀ (ji415 : vi V414 x 31 ≥ (vi V x 31 + 1) ∧ vi V414 x 31 ≤ 200 ∧ vi V414 x 36 ≥ vi V x 36 ∧ vi V414 x 36 ≤ vi V414 x 31 ∧ vi V414 x 38 = vi V x 38), ∀ (hrc0 : RC1 V V414 x X8 (z36).toNat), GO mX12_readsClause K V (IS K (fun X V1 => (X = 0 ∨ X = 1) ∧ (X ≠ 0 → vi V1 x 31 ≥ (vi V x 31 + 1) ∧ vi V1 x 36 ≤ vi V1 x 31) ∧ (X = 0 → True) ∧ (X ≠ 0 → TC V1 x))) K V414 0 0 220 [some (.ref x), some (ti X8), some (ti z36)] [] := by
          intro V414 ji415 hrc0
          refine GO.useWT (fun hW416 => ?_)
          have aq417 := hW416.aq h_x
          refine GO.useWT (fun hW418 => ?_)
          have ak419 := hW418.arr h_x 39 32 (by decide) rfl (by decide)
          have ak420 := hW418.arr h_x 41 34 (by decide) rfl (by decide)
          have ak421 := hW418.arr h_x 42 35 (by decide) rfl (by decide)
          have ak422 := hW418.arr h_x 43 36 (by decide) rfl (by decide)
          refine GO.iload_n dX12_readsClause_220 rfl rfl ?_
          refine GO.bipush dX12_readsClause_221 rfl ?_
          have hj446 : ∀ (u447 : X8 ≤ 115), GO mX12_readsClause K V (IS K (fun X V1 => (X = 0 ∨ X = 1) ∧ (X ≠ 0 → vi V1 x 31 ≥ (vi V x 31 + 1) ∧ vi V1 x 36 ≤ vi V1 x 31) ∧ (X = 0 → True) ∧ (X ≠ 0 → TC V1 x))) K V414 0 0 256 [some (.ref x), some (ti X8), some (ti z36)] [] := by
            intro u447
            refine GO.aload_n dX12_readsClause_256 rfl rfl ?_
            refine GO.ldcw (X := 999999) dX12_readsClause_257 gw_2095 rfl ?_
            refine GO.callV (ci := 11) (N := mX12_readsNumber) dX12_readsClause_260 (RX12, TX12, 151) rfl gV_RX12_486 h_x (t_X12_readsNumber h_x (ir_c rfl)) rfl [] rfl rfl (Nat.le_of_ble_eq_true rfl) rfl (k_is fun X448 V452 r449 h450 hF451 => ?_)
            have k453 := st_fr hF451 aq417 h_x (by decide +kernel) (by decide +kernel) (by decide +kernel) (by decide +kernel)
            have sS454 : sd V452 x = sd V414 x := k453.2.1.trans (rfl : sd V414 x = sd V414 x)
            have sQ455 : wt V452 x = wt V414 x := k453.2.2.trans (rfl : wt V414 x = wt V414 x)
            have ak456 := tk_fr hF451 ak419 h_x (by decide +kernel) (by decide +kernel) (rfl : ar 39 V414 x = ar 39 V414 x)
            have ak457 := tk_fr hF451 ak420 h_x (by decide +kernel) (by decide +kernel) (rfl : ar 41 V414 x = ar 41 V414 x)
            have ak458 := tk_fr hF451 ak421 h_x (by decide +kernel) (by decide +kernel) (rfl : ar 42 V414 x = ar 42 V414 x)
            have ak459 := tk_fr hF451 ak422 h_x (by decide +kernel) (by decide +kernel) (rfl : ar 43 V414 x = ar 43 V414 x)
            refine GO.if_ne (tgt := 268) dX12_readsClause_263 (by decide) r449 (fun c462 => ?_) (fun c462 => ?_)
            ·
              have q463 := h450.2.1 (by omega)
              refine GO.aload_n dX12_readsClause_268 rfl rfl ?_
              refine GO.getA (n := 12) h_x fl_RX12_103 rfl rfl rfl rfl dX12_readsClause_269 (fun hv465 h464 => ?_)
              refine GO.iload_n dX12_readsClause_272 rfl rfl ?_
              refine GO.aload_n dX12_readsClause_273 rfl rfl ?_
              refine GO.getI h_x fl_RX12_459 rfl rfl dX12_readsClause_274 (fun _ _ => ?_)
              have q466 : -2147483648 ≤ vi V414 x 38 ∧ vi V414 x 38 ≤ 2147483647 := vi_ir
              refine GO.iast (t := 37) rfl rfl (by decide +kernel) h464 r38 (by omega) (by omega) vi_ir (vi_ir).1 (vi_ir).2 dX12_readsClause_277 (fun V468 e467 => ?_)
              have k469 := st_oth e467 k453.1 h_x h464 (by decide) (by decide)
              have sS470 : sd V468 x = sd V414 x := k469.2.1.trans sS454
              have sQ471 : wt V468 x = wt V414 x := k469.2.2.trans sQ455
              have ak472 := tk_oth e467 ak456.1 h_x h464 (by decide) (by decide) ak456.2
              have ak473 := tk_oth e467 ak457.1 h_x h464 (by decide) (by decide) ak457.2
              have ak474 := tk_oth e467 ak458.1 h_x h464 (by decide) (by decide) ak458.2
              have ak475 := tk_oth e467 ak459.1 h_x h464 (by decide) (by decide) ak459.2
              have e477 : vi V452 x 36 = vi V414 x 36 := vi_fr hF451 h_x h_x (by decide +kernel)
              have e476 : vi V468 x 36 = vi V452 x 36 := vi_up e467 (Or.inl (K_ne h_x h464 (by decide)))
              have e478 : vi V468 x 31 = vi V452 x 31 := vi_up e467 (Or.inl (K_ne h_x h464 (by decide)))
              have e480 : vi V452 x 38 = vi V414 x 38 := vi_fr hF451 h_x h_x (by decide +kernel)
              have e479 : vi V468 x 38 = vi V452 x 38 := vi_up e467 (Or.inl (K_ne h_x h464 (by decide)))
              refine GO.useWT (fun hWe => ?_)
              have hce := hWe.cnt h_x
              refine GO.aload_n dX12_readsClause_278 rfl rfl ?_
              refine GO.aload_n dX12_readsClause_279 rfl rfl ?_
              refine GO.getI h_x fl_RX12_526 rfl rfl dX12_readsClause_280 (fun l481 u482 => ?_)
              refine GO.iconst dX12_readsClause_283 ?_
              refine GO.iadd dX12_readsClause_284 ?_
              refine GO.putI h_x fp_RX12_526 rfl (by decide +kernel) ⟨by omega, by omega⟩ (by omega) (by omega) dX12_readsClause_285 (fun V484 e483 => ?_)
              have k485 := st_fld e483 k469.1 h_x (by decide) (by decide)
              have sS486 : sd V484 x = sd V414 x := k485.2.1.trans sS470
              have sQ487 : wt V484 x = wt V414 x := k485.2.2.trans sQ471
              have ak488 := tk_fld e483 ak472.1 h_x (by decide) ak472.2
              have ak489 := tk_fld e483 ak473.1 h_x (by decide) ak473.2
              have ak490 := tk_fld e483 ak474.1 h_x (by decide) ak474.2
              have ak491 := tk_fld e483 ak475.1 h_x (by decide) ak475.2
              refine GO.iconst dX12_readsClause_288 ?_
              have e492 : vi V484 x 31 = vi V468 x 31 := vi_up e483 (Or.inr (by decide))
              have q493 : -2147483648 ≤ vi V452 x 31 ∧ vi V452 x 31 ≤ 2147483647 := vi_ir
              have q494 : -2147483648 ≤ vi V414 x 31 ∧ vi V414 x 31 ≤ 2147483647 := vi_ir
              have q495 : -2147483648 ≤ vi V414 x 36 ∧ vi V414 x 36 ≤ 2147483647 := vi_ir
              have e496 : vi V484 x 36 = vi V468 x 36 := vi_up e483 (Or.inr (by decide))
              have e497 : vi V484 x 38 = (vi V468 x 38) + 1 := upd2_int e483 ⟨by omega, by omega⟩
              exact GO.retz rfl rfl dX12_readsClause_289 (Or.inr rfl) ⟨rfl, _, rfl, (ir_c rfl), ⟨Or.inr rfl, fun h => by omega, fun _ => trivial, (by first | exact fun h => absurd h (by decide) | exact fun _ => TC.rc w_0 (RC1.eq hrc0 ak488.2 ak489.2 ak490.2 ak491.2 (by omega)) (by omega) (by omega) (by omega) (by omega) (by omega))⟩⟩
            ·
              refine GO.iconst dX12_readsClause_266 ?_
              have q498 : -2147483648 ≤ vi V452 x 31 ∧ vi V452 x 31 ≤ 2147483647 := vi_ir
              have q499 : -2147483648 ≤ vi V414 x 31 ∧ vi V414 x 31 ≤ 2147483647 := vi_ir
              have q500 : -2147483648 ≤ vi V414 x 36 ∧ vi V414 x 36 ≤ 2147483647 := vi_ir
              have e501 : vi V452 x 36 = vi V414 x 36 := vi_fr hF451 h_x h_x (by decide +kernel)
              have e502 : vi V452 x 38 = vi V414 x 38 := vi_fr hF451 h_x h_x (by decide +kernel)
              exact GO.retz rfl rfl dX12_readsClause_267 (Or.inl rfl) ⟨rfl, _, rfl, (ir_c rfl), ⟨Or.inl rfl, fun h => absurd rfl h, fun _ => trivial, (by first | exact fun h => absurd rfl h | exact fun _ => TC.rc w_0 (RC1.eq hrc0 ak456.2 ak457.2 ak458.2 ak459.2 (by omega)) (by omega) (by omega) (by omega) (by omega) (by omega))⟩⟩
          refine GO.icmp_eq (tgt := 256) dX12_readsClause_223 (by decide) r9 (ir_c rfl) (fun c503 => ?_) (fun c503 => ?_)
          ·
            exact hj446  (by omega)
          ·
            refine GO.iload_n dX12_readsClause_226 rfl rfl ?_
            refine GO.bipush dX12_readsClause_227 rfl ?_
            refine GO.icmp_eq (tgt := 256) dX12_readsClause_229 (by decide) r9 (ir_c rfl) (fun c504 => ?_) (fun c504 => ?_)
            ·
              exact hj446  (by omega)
            ·
              refine GO.iload_n dX12_readsClause_232 rfl rfl ?_
              refine GO.bipush dX12_readsClause_233 rfl ?_
              refine GO.icmp_eq (tgt := 256) dX12_readsClause_235 (by decide) r9 (ir_c rfl) (fun c505 => ?_) (fun c505 => ?_)
              ·
                exact hj446  (by omega)
              ·
                refine GO.iload_n dX12_readsClause_238 rfl rfl ?_
                refine GO.bipush dX12_readsClause_239 rfl ?_
                refine GO.icmp_eq (tgt := 256) dX12_readsClause_241 (by decide) r9 (ir_c rfl) (fun c506 => ?_) (fun c506 => ?_)
                ·
                  exact hj446  (by omega)
                ·
                  refine GO.iload_n dX12_readsClause_244 rfl rfl ?_
                  refine GO.bipush dX12_readsClause_245 rfl ?_
                  refine GO.icmp_eq (tgt := 256) dX12_readsClause_247 (by decide) r9 (ir_c rfl) (fun c507 => ?_) (fun c507 => ?_)
                  ·
                    exact hj446  (by omega)
                  ·
                    refine GO.iload_n dX12_readsClause_250 rfl rfl ?_
                    refine GO.bipush dX12_readsClause_251 rfl ?_
                    refine GO.icmp_ne (tgt := 278) dX12_readsClause_253 (by decide) r9 (ir_c rfl) (fun c508 => ?_) (fun c508 => ?_)
                    ·
                      refine GO.useWT (fun hWe => ?_)
                      have hce := hWe.cnt h_x
                      refine GO.aload_n dX12_readsClause_278 rfl rfl ?_
                      refine GO.aload_n dX12_readsClause_279 rfl rfl ?_
                      refine GO.getI h_x fl_RX12_526 rfl rfl dX12_readsClause_280 (fun l509 u510 => ?_)
                      refine GO.iconst dX12_readsClause_283 ?_
                      refine GO.iadd dX12_readsClause_284 ?_
                      have q512 : -2147483648 ≤ vi V414 x 38 ∧ vi V414 x 38 ≤ 2147483647 := vi_ir
                      refine GO.putI h_x fp_RX12_526 rfl (by decide +kernel) ⟨by omega, by omega⟩ (by omega) (by omega) dX12_readsClause_285 (fun V513 e511 => ?_)
                      have k514 := st_fld e511 aq417 h_x (by decide) (by decide)
                      have sS515 : sd V513 x = sd V414 x := k514.2.1.trans (rfl : sd V414 x = sd V414 x)
                      have sQ516 : wt V513 x = wt V414 x := k514.2.2.trans (rfl : wt V414 x = wt V414 x)
                      have ak517 := tk_fld e511 ak419 h_x (by decide) (rfl : ar 39 V414 x = ar 39 V414 x)
                      have ak518 := tk_fld e511 ak420 h_x (by decide) (rfl : ar 41 V414 x = ar 41 V414 x)
                      have ak519 := tk_fld e511 ak421 h_x (by decide) (rfl : ar 42 V414 x = ar 42 V414 x)
                      have ak520 := tk_fld e511 ak422 h_x (by decide) (rfl : ar 43 V414 x = ar 43 V414 x)
                      refine GO.iconst dX12_readsClause_288 ?_
                      have e521 : vi V513 x 31 = vi V414 x 31 := vi_up e511 (Or.inr (by decide))
                      have q522 : -2147483648 ≤ vi V414 x 31 ∧ vi V414 x 31 ≤ 2147483647 := vi_ir
                      have q523 : -2147483648 ≤ vi V414 x 36 ∧ vi V414 x 36 ≤ 2147483647 := vi_ir
                      have e524 : vi V513 x 36 = vi V414 x 36 := vi_up e511 (Or.inr (by decide))
                      have e525 : vi V513 x 38 = (vi V414 x 38) + 1 := upd2_int e511 ⟨by omega, by omega⟩
                      exact GO.retz rfl rfl dX12_readsClause_289 (Or.inr rfl) ⟨rfl, _, rfl, (ir_c rfl), ⟨Or.inr rfl, fun h => by omega, fun _ => trivial, (by first | exact fun h => absurd h (by decide) | exact fun _ => TC.rc w_0 (RC1.eq hrc0 ak517.2 ak518.2 ak519.2 ak520.2 (by omega)) (by omega) (by omega) (by omega) (by omega) (by omega))⟩⟩
                    ·
                      exact hj446  (by omega)
        have hj528 : ∀ (l529 : 107 ≤ X8), ∀ (u530 : X8 ≤ 120), GO mX12_readsClause K V (IS K (fun X V1 => (X = 0 ∨ X = 1) ∧ (X ≠ 0 → vi V1 x 31 ≥ (vi V x 31 + 1) ∧ vi V1 x 36 ≤ vi V1 x 31) ∧ (X = 0 → True) ∧ (X ≠ 0 → TC V1 x))) K V157 0 0 132 [some (.ref x), some (ti X8), some (ti z36)] [] := by
          intro l529 u530
          refine GO.aload_n dX12_readsClause_132 rfl rfl ?_
          refine GO.iload_n dX12_readsClause_133 rfl rfl ?_
          refine GO.bipush dX12_readsClause_134 rfl ?_
          have hj533 : ∀ (z532 : Int), ∀ (l534 : 3 ≤ z532), ∀ (u535 : z532 ≤ 19), GO mX12_readsClause K V (IS K (fun X V1 => (X = 0 ∨ X = 1) ∧ (X ≠ 0 → vi V1 x 31 ≥ (vi V x 31 + 1) ∧ vi V1 x 36 ≤ vi V1 x 31) ∧ (X = 0 → True) ∧ (X ≠ 0 → TC V1 x))) K V157 0 0 145 [some (.ref x), some (ti X8), some (ti z36)] [ti z532, .ref x] := by
            intro z532 l534 u535
            have r536 : ir z532 := ⟨by omega, by omega⟩
            have e537 : vi V157 x 31 = vi V140 x 31 := vi_up e154 (Or.inl (K_ne h_x h149 (by decide)))
            refine GO.callV (ci := 11) (N := mX12_readsNumber) dX12_readsClause_145 (RX12, TX12, 151) rfl gV_RX12_486 h_x (t_X12_readsNumber h_x r536) rfl [] rfl rfl (Nat.le_of_ble_eq_true rfl) rfl (k_is fun X538 V542 r539 h540 hF541 => ?_)
            have k543 := st_fr hF541 k158.1 h_x (by decide +kernel) (by decide +kernel) (by decide +kernel) (by decide +kernel)
            have sS544 : sd V542 x = sd V140 x := k543.2.1.trans sS159
            have sQ545 : wt V542 x = wt V140 x := k543.2.2.trans sQ160
            have ak546 := tk_fr hF541 ak161.1 h_x (by decide +kernel) (by decide +kernel) ak161.2
            have ak547 := tk_fr hF541 ak162.1 h_x (by decide +kernel) (by decide +kernel) ak162.2
            have ak548 := tk_fr hF541 ak163.1 h_x (by decide +kernel) (by decide +kernel) ak163.2
            have ak549 := tk_fr hF541 ak164.1 h_x (by decide +kernel) (by decide +kernel) ak164.2
            refine GO.if_ne (tgt := 153) dX12_readsClause_148 (by decide) r539 (fun c552 => ?_) (fun c552 => ?_)
            ·
              have q553 := h540.2.1 (by omega)
              refine GO.aload_n dX12_readsClause_153 rfl rfl ?_
              refine GO.getA (n := 12) h_x fl_RX12_106 rfl rfl rfl rfl dX12_readsClause_154 (fun hv555 h554 => ?_)
              refine GO.iload_n dX12_readsClause_157 rfl rfl ?_
              refine GO.aload_n dX12_readsClause_158 rfl rfl ?_
              refine GO.getI h_x fl_RX12_459 rfl rfl dX12_readsClause_159 (fun _ _ => ?_)
              have q557 : -2147483648 ≤ vi V542 x 34 ∧ vi V542 x 34 ≤ 2147483647 := vi_ir
              refine GO.iast (t := 38) rfl rfl (by decide +kernel) h554 r38 (by omega) (by omega) vi_ir (by omega) (by omega) dX12_readsClause_162 (fun V558 e556 => ?_)
              have k559 := st_oth e556 k543.1 h_x h554 (by decide) (by decide)
              have sS560 : sd V558 x = sd V140 x := k559.2.1.trans sS544
              have sQ561 : wt V558 x = wt V140 x := k559.2.2.trans sQ545
              have ak562 := tk_oth e556 ak546.1 h_x h554 (by decide) (by decide) ak546.2
              have ak563 := tk_oth e556 ak547.1 h_x h554 (by decide) (by decide) ak547.2
              have ak564 := tk_oth e556 ak548.1 h_x h554 (by decide) (by decide) ak548.2
              have ak565 := tk_oth e556 ak549.1 h_x h554 (by decide) (by decide) ak549.2
              refine GO.aload_n dX12_readsClause_163 rfl rfl ?_
              refine GO.bipush dX12_readsClause_164 rfl ?_
              have e566 : vi V558 x 31 = vi V542 x 31 := vi_up e556 (Or.inl (K_ne h_x h554 (by decide)))
              refine GO.callV (ci := 11) (N := mX12_takes) dX12_readsClause_166 (RX12, TX12, 151) rfl gV_RX12_532 h_x (t_X12_takes h_x (ir_c rfl) (by omega)) rfl [] rfl rfl (Nat.le_of_ble_eq_true rfl) rfl (k_is fun X567 V571 r568 h569 hF570 => ?_)
              have k572 := st_fr hF570 k559.1 h_x (by decide +kernel) (by decide +kernel) (by decide +kernel) (by decide +kernel)
              have sS573 : sd V571 x = sd V140 x := k572.2.1.trans sS560
              have sQ574 : wt V571 x = wt V140 x := k572.2.2.trans sQ561
              have ak575 := tk_fr hF570 ak562.1 h_x (by decide +kernel) (by decide +kernel) ak562.2
              have ak576 := tk_fr hF570 ak563.1 h_x (by decide +kernel) (by decide +kernel) ak563.2
              have ak577 := tk_fr hF570 ak564.1 h_x (by decide +kernel) (by decide +kernel) ak564.2
              have ak578 := tk_fr hF570 ak565.1 h_x (by decide +kernel) (by decide +kernel) ak565.2
              refine GO.if_eq (tgt := 191) dX12_readsClause_169 (by decide) r568 (fun c580 => ?_) (fun c580 => ?_)
              ·
                refine GO.iconst dX12_readsClause_191 ?_
                have q581 : -2147483648 ≤ vi V571 x 31 ∧ vi V571 x 31 ≤ 2147483647 := vi_ir
                have q582 : -2147483648 ≤ vi V542 x 31 ∧ vi V542 x 31 ≤ 2147483647 := vi_ir
                have e586 : vi V157 x 36 = vi V140 x 36 := vi_up e154 (Or.inl (K_ne h_x h149 (by decide)))
                have e585 : vi V542 x 36 = vi V157 x 36 := vi_fr hF541 h_x h_x (by decide +kernel)
                have e584 : vi V558 x 36 = vi V542 x 36 := vi_up e556 (Or.inl (K_ne h_x h554 (by decide)))
                have e583 : vi V571 x 36 = vi V558 x 36 := vi_fr hF570 h_x h_x (by decide +kernel)
                have e590 : vi V157 x 38 = vi V140 x 38 := vi_up e154 (Or.inl (K_ne h_x h149 (by decide)))
                have e589 : vi V542 x 38 = vi V157 x 38 := vi_fr hF541 h_x h_x (by decide +kernel)
                have e588 : vi V558 x 38 = vi V542 x 38 := vi_up e556 (Or.inl (K_ne h_x h554 (by decide)))
                have e587 : vi V571 x 38 = vi V558 x 38 := vi_fr hF570 h_x h_x (by decide +kernel)
                exact GO.retz rfl rfl dX12_readsClause_192 (Or.inl rfl) ⟨rfl, _, rfl, (ir_c rfl), ⟨Or.inl rfl, fun h => absurd rfl h, fun _ => trivial, (by first | exact fun h => absurd rfl h | exact fun _ => TC.rc w_0 (RC1.eq hrc0 ak575.2 ak576.2 ak577.2 ak578.2 (by omega)) (by omega) (by omega) (by omega) (by omega) (by omega))⟩⟩
              ·
                have q591 := h569.2.1 (by omega)
                refine GO.aload_n dX12_readsClause_172 rfl rfl ?_
                refine GO.iload_n dX12_readsClause_173 rfl rfl ?_
                refine GO.bipush dX12_readsClause_174 rfl ?_
                have hj594 : ∀ (z593 : Int), ∀ (l595 : 3 ≤ z593), ∀ (u596 : z593 ≤ 11), GO mX12_readsClause K V (IS K (fun X V1 => (X = 0 ∨ X = 1) ∧ (X ≠ 0 → vi V1 x 31 ≥ (vi V x 31 + 1) ∧ vi V1 x 36 ≤ vi V1 x 31) ∧ (X = 0 → True) ∧ (X ≠ 0 → TC V1 x))) K V571 0 0 185 [some (.ref x), some (ti X8), some (ti z36)] [ti z593, .ref x] := by
                  intro z593 l595 u596
                  have r597 : ir z593 := ⟨by omega, by omega⟩
                  refine GO.callV (ci := 11) (N := mX12_readsNumber) dX12_readsClause_185 (RX12, TX12, 151) rfl gV_RX12_486 h_x (t_X12_readsNumber h_x r597) rfl [] rfl rfl (Nat.le_of_ble_eq_true rfl) rfl (k_is fun X598 V602 r599 h600 hF601 => ?_)
                  have k603 := st_fr hF601 k572.1 h_x (by decide +kernel) (by decide +kernel) (by decide +kernel) (by decide +kernel)
                  have sS604 : sd V602 x = sd V140 x := k603.2.1.trans sS573
                  have sQ605 : wt V602 x = wt V140 x := k603.2.2.trans sQ574
                  have ak606 := tk_fr hF601 ak575.1 h_x (by decide +kernel) (by decide +kernel) ak575.2
                  have ak607 := tk_fr hF601 ak576.1 h_x (by decide +kernel) (by decide +kernel) ak576.2
                  have ak608 := tk_fr hF601 ak577.1 h_x (by decide +kernel) (by decide +kernel) ak577.2
                  have ak609 := tk_fr hF601 ak578.1 h_x (by decide +kernel) (by decide +kernel) ak578.2
                  refine GO.if_ne (tgt := 193) dX12_readsClause_188 (by decide) r599 (fun c612 => ?_) (fun c612 => ?_)
                  ·
                    have q613 := h600.2.1 (by omega)
                    refine GO.aload_n dX12_readsClause_193 rfl rfl ?_
                    refine GO.getA (n := 12) h_x fl_RX12_109 rfl rfl rfl rfl dX12_readsClause_194 (fun hv615 h614 => ?_)
                    refine GO.iload_n dX12_readsClause_197 rfl rfl ?_
                    refine GO.aload_n dX12_readsClause_198 rfl rfl ?_
                    refine GO.getI h_x fl_RX12_459 rfl rfl dX12_readsClause_199 (fun _ _ => ?_)
                    have q617 : -2147483648 ≤ vi V602 x 34 ∧ vi V602 x 34 ≤ 2147483647 := vi_ir
                    refine GO.iast (t := 39) rfl rfl (by decide +kernel) h614 r38 (by omega) (by omega) vi_ir (by omega) (by omega) dX12_readsClause_202 (fun V618 e616 => ?_)
                    have k619 := st_oth e616 k603.1 h_x h614 (by decide) (by decide)
                    have sS620 : sd V618 x = sd V140 x := k619.2.1.trans sS604
                    have sQ621 : wt V618 x = wt V140 x := k619.2.2.trans sQ605
                    have ak622 := tk_oth e616 ak606.1 h_x h614 (by decide) (by decide) ak606.2
                    have ak623 := tk_oth e616 ak607.1 h_x h614 (by decide) (by decide) ak607.2
                    have ak624 := tk_oth e616 ak608.1 h_x h614 (by decide) (by decide) ak608.2
                    have ak625 := tk_oth e616 ak609.1 h_x h614 (by decide) (by decide) ak609.2
                    refine GO.iload_n dX12_readsClause_203 rfl rfl ?_
                    refine GO.bipush dX12_readsClause_204 rfl ?_
                    refine GO.icmp_ne (tgt := 220) dX12_readsClause_206 (by decide) r9 (ir_c rfl) (fun c626 => ?_) (fun c626 => ?_)
                    ·
                      have e627 : vi V618 x 31 = vi V602 x 31 := vi_up e616 (Or.inl (K_ne h_x h614 (by decide)))
                      have q628 : -2147483648 ≤ vi V602 x 31 ∧ vi V602 x 31 ≤ 2147483647 := vi_ir
                      have q629 : -2147483648 ≤ vi V571 x 31 ∧ vi V571 x 31 ≤ 2147483647 := vi_ir
                      have q630 : -2147483648 ≤ vi V542 x 31 ∧ vi V542 x 31 ≤ 2147483647 := vi_ir
                      have e636 : vi V157 x 36 = vi V140 x 36 := vi_up e154 (Or.inl (K_ne h_x h149 (by decide)))
                      have e635 : vi V542 x 36 = vi V157 x 36 := vi_fr hF541 h_x h_x (by decide +kernel)
                      have e634 : vi V558 x 36 = vi V542 x 36 := vi_up e556 (Or.inl (K_ne h_x h554 (by decide)))
                      have e633 : vi V571 x 36 = vi V558 x 36 := vi_fr hF570 h_x h_x (by decide +kernel)
                      have e632 : vi V602 x 36 = vi V571 x 36 := vi_fr hF601 h_x h_x (by decide +kernel)
                      have e631 : vi V618 x 36 = vi V602 x 36 := vi_up e616 (Or.inl (K_ne h_x h614 (by decide)))
                      have e642 : vi V157 x 38 = vi V140 x 38 := vi_up e154 (Or.inl (K_ne h_x h149 (by decide)))
                      have e641 : vi V542 x 38 = vi V157 x 38 := vi_fr hF541 h_x h_x (by decide +kernel)
                      have e640 : vi V558 x 38 = vi V542 x 38 := vi_up e556 (Or.inl (K_ne h_x h554 (by decide)))
                      have e639 : vi V571 x 38 = vi V558 x 38 := vi_fr hF570 h_x h_x (by decide +kernel)
                      have e638 : vi V602 x 38 = vi V571 x 38 := vi_fr hF601 h_x h_x (by decide +kernel)
                      have e637 : vi V618 x 38 = vi V602 x 38 := vi_up e616 (Or.inl (K_ne h_x h614 (by decide)))
                      refine GO.useWT (fun hWj643 => ?_)
                      have hrdj := hWj643.rd h_x
                      exact hj413  V618 (by omega) ((by first | exact RC1.eq hrc0 ak622.2 ak623.2 ak624.2 ak625.2 (by omega) | exact RC1.of hrc0 ak622.2 ak623.2 ak624.2 ak625.2 rfl (by omega) (by omega)))
                    ·
                      refine GO.aload_n dX12_readsClause_209 rfl rfl ?_
                      refine GO.bipush dX12_readsClause_210 rfl ?_
                      have e644 : vi V618 x 31 = vi V602 x 31 := vi_up e616 (Or.inl (K_ne h_x h614 (by decide)))
                      refine GO.callV (ci := 11) (N := mX12_takes) dX12_readsClause_212 (RX12, TX12, 151) rfl gV_RX12_532 h_x (t_X12_takes h_x (ir_c rfl) (by omega)) rfl [] rfl rfl (Nat.le_of_ble_eq_true rfl) rfl (k_is fun X645 V649 r646 h647 hF648 => ?_)
                      have k650 := st_fr hF648 k619.1 h_x (by decide +kernel) (by decide +kernel) (by decide +kernel) (by decide +kernel)
                      have sS651 : sd V649 x = sd V140 x := k650.2.1.trans sS620
                      have sQ652 : wt V649 x = wt V140 x := k650.2.2.trans sQ621
                      have ak653 := tk_fr hF648 ak622.1 h_x (by decide +kernel) (by decide +kernel) ak622.2
                      have ak654 := tk_fr hF648 ak623.1 h_x (by decide +kernel) (by decide +kernel) ak623.2
                      have ak655 := tk_fr hF648 ak624.1 h_x (by decide +kernel) (by decide +kernel) ak624.2
                      have ak656 := tk_fr hF648 ak625.1 h_x (by decide +kernel) (by decide +kernel) ak625.2
                      refine GO.if_ne (tgt := 220) dX12_readsClause_215 (by decide) r646 (fun c658 => ?_) (fun c658 => ?_)
                      ·
                        have q659 := h647.2.1 (by omega)
                        have q660 : -2147483648 ≤ vi V649 x 31 ∧ vi V649 x 31 ≤ 2147483647 := vi_ir
                        have q661 : -2147483648 ≤ vi V602 x 31 ∧ vi V602 x 31 ≤ 2147483647 := vi_ir
                        have q662 : -2147483648 ≤ vi V571 x 31 ∧ vi V571 x 31 ≤ 2147483647 := vi_ir
                        have q663 : -2147483648 ≤ vi V542 x 31 ∧ vi V542 x 31 ≤ 2147483647 := vi_ir
                        have e670 : vi V157 x 36 = vi V140 x 36 := vi_up e154 (Or.inl (K_ne h_x h149 (by decide)))
                        have e669 : vi V542 x 36 = vi V157 x 36 := vi_fr hF541 h_x h_x (by decide +kernel)
                        have e668 : vi V558 x 36 = vi V542 x 36 := vi_up e556 (Or.inl (K_ne h_x h554 (by decide)))
                        have e667 : vi V571 x 36 = vi V558 x 36 := vi_fr hF570 h_x h_x (by decide +kernel)
                        have e666 : vi V602 x 36 = vi V571 x 36 := vi_fr hF601 h_x h_x (by decide +kernel)
                        have e665 : vi V618 x 36 = vi V602 x 36 := vi_up e616 (Or.inl (K_ne h_x h614 (by decide)))
                        have e664 : vi V649 x 36 = vi V618 x 36 := vi_fr hF648 h_x h_x (by decide +kernel)
                        have e677 : vi V157 x 38 = vi V140 x 38 := vi_up e154 (Or.inl (K_ne h_x h149 (by decide)))
                        have e676 : vi V542 x 38 = vi V157 x 38 := vi_fr hF541 h_x h_x (by decide +kernel)
                        have e675 : vi V558 x 38 = vi V542 x 38 := vi_up e556 (Or.inl (K_ne h_x h554 (by decide)))
                        have e674 : vi V571 x 38 = vi V558 x 38 := vi_fr hF570 h_x h_x (by decide +kernel)
                        have e673 : vi V602 x 38 = vi V571 x 38 := vi_fr hF601 h_x h_x (by decide +kernel)
                        have e672 : vi V618 x 38 = vi V602 x 38 := vi_up e616 (Or.inl (K_ne h_x h614 (by decide)))
                        have e671 : vi V649 x 38 = vi V618 x 38 := vi_fr hF648 h_x h_x (by decide +kernel)
                        refine GO.useWT (fun hWj678 => ?_)
                        have hrdj := hWj678.rd h_x
                        exact hj413  V649 (by omega) ((by first | exact RC1.eq hrc0 ak653.2 ak654.2 ak655.2 ak656.2 (by omega) | exact RC1.of hrc0 ak653.2 ak654.2 ak655.2 ak656.2 rfl (by omega) (by omega)))
                      ·
                        refine GO.iconst dX12_readsClause_218 ?_
                        have q679 : -2147483648 ≤ vi V649 x 31 ∧ vi V649 x 31 ≤ 2147483647 := vi_ir
                        have q680 : -2147483648 ≤ vi V542 x 31 ∧ vi V542 x 31 ≤ 2147483647 := vi_ir
                        have q681 : -2147483648 ≤ vi V571 x 31 ∧ vi V571 x 31 ≤ 2147483647 := vi_ir
                        have q682 : -2147483648 ≤ vi V602 x 31 ∧ vi V602 x 31 ≤ 2147483647 := vi_ir
                        have e689 : vi V157 x 36 = vi V140 x 36 := vi_up e154 (Or.inl (K_ne h_x h149 (by decide)))
                        have e688 : vi V542 x 36 = vi V157 x 36 := vi_fr hF541 h_x h_x (by decide +kernel)
                        have e687 : vi V558 x 36 = vi V542 x 36 := vi_up e556 (Or.inl (K_ne h_x h554 (by decide)))
                        have e686 : vi V571 x 36 = vi V558 x 36 := vi_fr hF570 h_x h_x (by decide +kernel)
                        have e685 : vi V602 x 36 = vi V571 x 36 := vi_fr hF601 h_x h_x (by decide +kernel)
                        have e684 : vi V618 x 36 = vi V602 x 36 := vi_up e616 (Or.inl (K_ne h_x h614 (by decide)))
                        have e683 : vi V649 x 36 = vi V618 x 36 := vi_fr hF648 h_x h_x (by decide +kernel)
                        have e696 : vi V157 x 38 = vi V140 x 38 := vi_up e154 (Or.inl (K_ne h_x h149 (by decide)))
                        have e695 : vi V542 x 38 = vi V157 x 38 := vi_fr hF541 h_x h_x (by decide +kernel)
                        have e694 : vi V558 x 38 = vi V542 x 38 := vi_up e556 (Or.inl (K_ne h_x h554 (by decide)))
                        have e693 : vi V571 x 38 = vi V558 x 38 := vi_fr hF570 h_x h_x (by decide +kernel)
                        have e692 : vi V602 x 38 = vi V571 x 38 := vi_fr hF601 h_x h_x (by decide +kernel)
                        have e691 : vi V618 x 38 = vi V602 x 38 := vi_up e616 (Or.inl (K_ne h_x h614 (by decide)))
                        have e690 : vi V649 x 38 = vi V618 x 38 := vi_fr hF648 h_x h_x (by decide +kernel)
                        exact GO.retz rfl rfl dX12_readsClause_219 (Or.inl rfl) ⟨rfl, _, rfl, (ir_c rfl), ⟨Or.inl rfl, fun h => absurd rfl h, fun _ => trivial, (by first | exact fun h => absurd rfl h | exact fun _ => TC.rc w_0 (RC1.eq hrc0 ak653.2 ak654.2 ak655.2 ak656.2 (by omega)) (by omega) (by omega) (by omega) (by omega) (by omega))⟩⟩
                  ·
                    refine GO.iconst dX12_readsClause_191 ?_
                    have q697 : -2147483648 ≤ vi V602 x 31 ∧ vi V602 x 31 ≤ 2147483647 := vi_ir
                    have q698 : -2147483648 ≤ vi V542 x 31 ∧ vi V542 x 31 ≤ 2147483647 := vi_ir
                    have q699 : -2147483648 ≤ vi V571 x 31 ∧ vi V571 x 31 ≤ 2147483647 := vi_ir
                    have e704 : vi V157 x 36 = vi V140 x 36 := vi_up e154 (Or.inl (K_ne h_x h149 (by decide)))
                    have e703 : vi V542 x 36 = vi V157 x 36 := vi_fr hF541 h_x h_x (by decide +kernel)
                    have e702 : vi V558 x 36 = vi V542 x 36 := vi_up e556 (Or.inl (K_ne h_x h554 (by decide)))
                    have e701 : vi V571 x 36 = vi V558 x 36 := vi_fr hF570 h_x h_x (by decide +kernel)
                    have e700 : vi V602 x 36 = vi V571 x 36 := vi_fr hF601 h_x h_x (by decide +kernel)
                    have e709 : vi V157 x 38 = vi V140 x 38 := vi_up e154 (Or.inl (K_ne h_x h149 (by decide)))
                    have e708 : vi V542 x 38 = vi V157 x 38 := vi_fr hF541 h_x h_x (by decide +kernel)
                    have e707 : vi V558 x 38 = vi V542 x 38 := vi_up e556 (Or.inl (K_ne h_x h554 (by decide)))
                    have e706 : vi V571 x 38 = vi V558 x 38 := vi_fr hF570 h_x h_x (by decide +kernel)
                    have e705 : vi V602 x 38 = vi V571 x 38 := vi_fr hF601 h_x h_x (by decide +kernel)
                    exact GO.retz rfl rfl dX12_readsClause_192 (Or.inl rfl) ⟨rfl, _, rfl, (ir_c rfl), ⟨Or.inl rfl, fun h => absurd rfl h, fun _ => trivial, (by first | exact fun h => absurd rfl h | exact fun _ => TC.rc w_0 (RC1.eq hrc0 ak606.2 ak607.2 ak608.2 ak609.2 (by omega)) (by omega) (by omega) (by omega) (by omega) (by omega))⟩⟩
                refine GO.icmp_ne (tgt := 183) dX12_readsClause_176 (by decide) r9 (ir_c rfl) (fun c710 => ?_) (fun c710 => ?_)
                ·
                  refine GO.bipush dX12_readsClause_183 rfl ?_
                  exact hj594 11 (by omega) (by omega)
                ·
                  refine GO.iconst dX12_readsClause_179 ?_
                  refine GO.goto (tgt := 185) dX12_readsClause_180 (by decide) ?_
                  exact hj594 3 (by omega) (by omega)
            ·
              refine GO.iconst dX12_readsClause_151 ?_
              have q711 : -2147483648 ≤ vi V542 x 31 ∧ vi V542 x 31 ≤ 2147483647 := vi_ir
              have e713 : vi V157 x 36 = vi V140 x 36 := vi_up e154 (Or.inl (K_ne h_x h149 (by decide)))
              have e712 : vi V542 x 36 = vi V157 x 36 := vi_fr hF541 h_x h_x (by decide +kernel)
              have e715 : vi V157 x 38 = vi V140 x 38 := vi_up e154 (Or.inl (K_ne h_x h149 (by decide)))
              have e714 : vi V542 x 38 = vi V157 x 38 := vi_fr hF541 h_x h_x (by decide +kernel)
              exact GO.retz rfl rfl dX12_readsClause_152 (Or.inl rfl) ⟨rfl, _, rfl, (ir_c rfl), ⟨Or.inl rfl, fun h => absurd rfl h, fun _ => trivial, (by first | exact fun h => absurd rfl h | exact fun _ => TC.rc w_0 (RC1.eq hrc0 ak546.2 ak547.2 ak548.2 ak549.2 (by omega)) (by omega) (by omega) (by omega) (by omega) (by omega))⟩⟩
          refine GO.icmp_ne (tgt := 143) dX12_readsClause_136 (by decide) r9 (ir_c rfl) (fun c716 => ?_) (fun c716 => ?_)
          ·
            refine GO.bipush dX12_readsClause_143 rfl ?_
            exact hj533 19 (by omega) (by omega)
          ·
            refine GO.iconst dX12_readsClause_139 ?_
            refine GO.goto (tgt := 145) dX12_readsClause_140 (by decide) ?_
            exact hj533 3 (by omega) (by omega)
        refine GO.icmp_eq (tgt := 132) dX12_readsClause_123 (by decide) r9 (ir_c rfl) (fun c717 => ?_) (fun c717 => ?_)
        ·
          exact hj528  (by omega) (by omega)
        ·
          refine GO.iload_n dX12_readsClause_126 rfl rfl ?_
          refine GO.bipush dX12_readsClause_127 rfl ?_
          refine GO.icmp_ne (tgt := 220) dX12_readsClause_129 (by decide) r9 (ir_c rfl) (fun c718 => ?_) (fun c718 => ?_)
          ·
            have e719 : vi V157 x 31 = vi V140 x 31 := vi_up e154 (Or.inl (K_ne h_x h149 (by decide)))
            have e720 : vi V157 x 36 = vi V140 x 36 := vi_up e154 (Or.inl (K_ne h_x h149 (by decide)))
            have e721 : vi V157 x 38 = vi V140 x 38 := vi_up e154 (Or.inl (K_ne h_x h149 (by decide)))
            refine GO.useWT (fun hWj722 => ?_)
            have hrdj := hWj722.rd h_x
            exact hj413  V157 (by omega) ((by first | exact RC1.eq hrc0 ak161.2 ak162.2 ak163.2 ak164.2 (by omega) | exact RC1.of hrc0 ak161.2 ak162.2 ak163.2 ak164.2 rfl (by omega) (by omega)))
          ·
            exact hj528  (by omega) (by omega)
      refine GO.if_eq (tgt := 110) dX12_readsClause_98 (by decide) r103 (fun c723 => ?_) (fun c723 => ?_)
      ·
        have e729 : vi V25 x 31 = (vi V x 31) + 1 := upd2_int e21 ⟨by omega, by omega⟩
        have e728 : vi V43 x 31 = vi V25 x 31 := vi_up e42 (Or.inl (K_ne h_x h39 (by decide)))
        have e727 : vi V54 x 31 = vi V43 x 31 := vi_up e53 (Or.inl (K_ne h_x h51 (by decide)))
        have e726 : vi V65 x 31 = vi V54 x 31 := vi_up e64 (Or.inl (K_ne h_x h62 (by decide)))
        have e725 : vi V76 x 31 = vi V65 x 31 := vi_up e75 (Or.inl (K_ne h_x h73 (by decide)))
        have e724 : vi V94 x 31 = vi V76 x 31 := vi_up e93 (Or.inl (K_ne h_x h84 (by decide)))
        have e730 : vi V94 x 36 = vi V76 x 36 := vi_up e93 (Or.inl (K_ne h_x h84 (by decide)))
        have e735 : vi V43 x 38 = vi V25 x 38 := vi_up e42 (Or.inl (K_ne h_x h39 (by decide)))
        have e734 : vi V54 x 38 = vi V43 x 38 := vi_up e53 (Or.inl (K_ne h_x h51 (by decide)))
        have e733 : vi V65 x 38 = vi V54 x 38 := vi_up e64 (Or.inl (K_ne h_x h62 (by decide)))
        have e732 : vi V76 x 38 = vi V65 x 38 := vi_up e75 (Or.inl (K_ne h_x h73 (by decide)))
        have e731 : vi V94 x 38 = vi V76 x 38 := vi_up e93 (Or.inl (K_ne h_x h84 (by decide)))
        refine GO.useWT (fun hWj736 => ?_)
        have hrdj := hWj736.rd h_x
        exact hj139  V94 (by omega) ((by first | exact RC0.no ak98.2 ak99.2 ak100.2 ak101.2 (by omega) (by omega) (fun ha => absurd (raw_isAsking.2 ha) (by omega))))
      ·
        have q737 := h104.2.1 (by omega)
        have hs3 := ak98.2
        refine GO.aload_n dX12_readsClause_101 rfl rfl ?_
        have e738 : vi V94 x 36 = vi V76 x 36 := vi_up e93 (Or.inl (K_ne h_x h84 (by decide)))
        have e744 : vi V25 x 31 = (vi V x 31) + 1 := upd2_int e21 ⟨by omega, by omega⟩
        have e743 : vi V43 x 31 = vi V25 x 31 := vi_up e42 (Or.inl (K_ne h_x h39 (by decide)))
        have e742 : vi V54 x 31 = vi V43 x 31 := vi_up e53 (Or.inl (K_ne h_x h51 (by decide)))
        have e741 : vi V65 x 31 = vi V54 x 31 := vi_up e64 (Or.inl (K_ne h_x h62 (by decide)))
        have e740 : vi V76 x 31 = vi V65 x 31 := vi_up e75 (Or.inl (K_ne h_x h73 (by decide)))
        have e739 : vi V94 x 31 = vi V76 x 31 := vi_up e93 (Or.inl (K_ne h_x h84 (by decide)))
        refine GO.callV (ci := 11) (N := mX12_readsCondition) dX12_readsClause_102 (RX12, TX12, 151) rfl gV_RX12_529 h_x (t_X12_readsCondition h_x (by omega) (⟨rfl, fun _ _ => rfl⟩)) rfl [] rfl rfl (Nat.le_of_ble_eq_true rfl) rfl (k_is fun X745 V749 r746 h747 hF748 => ?_)
        refine GO.useWT (fun hW750 => ?_)
        have aq751 := hW750.aq h_x
        have ak752 := tk_fr hF748 ak99.1 h_x (by decide +kernel) (by decide +kernel) ak99.2
        have ak753 := tk_fr hF748 ak100.1 h_x (by decide +kernel) (by decide +kernel) ak100.2
        have ak754 := tk_fr hF748 ak101.1 h_x (by decide +kernel) (by decide +kernel) ak101.2
        refine GO.useWT (fun hW755 => ?_)
        have ak756 := hW755.arr h_x 39 32 (by decide) rfl (by decide)
        have raw_readsCondition := h747.2.2.2
        have hl1 := fun h => (raw_readsCondition h).gs.2.2.2.1
        have hl2 := fun h => (raw_readsCondition h).gs.2.1
        refine GO.if_ne (tgt := 110) dX12_readsClause_105 (by decide) r746 (fun c760 => ?_) (fun c760 => ?_)
        ·
          have q761 := h747.2.1 (by omega)
          have q762 : -2147483648 ≤ vi V749 x 31 ∧ vi V749 x 31 ≤ 2147483647 := vi_ir
          have q763 : -2147483648 ≤ vi V749 x 36 ∧ vi V749 x 36 ≤ 2147483647 := vi_ir
          have e769 : vi V43 x 38 = vi V25 x 38 := vi_up e42 (Or.inl (K_ne h_x h39 (by decide)))
          have e768 : vi V54 x 38 = vi V43 x 38 := vi_up e53 (Or.inl (K_ne h_x h51 (by decide)))
          have e767 : vi V65 x 38 = vi V54 x 38 := vi_up e64 (Or.inl (K_ne h_x h62 (by decide)))
          have e766 : vi V76 x 38 = vi V65 x 38 := vi_up e75 (Or.inl (K_ne h_x h73 (by decide)))
          have e765 : vi V94 x 38 = vi V76 x 38 := vi_up e93 (Or.inl (K_ne h_x h84 (by decide)))
          have e764 : vi V749 x 38 = vi V94 x 38 := vi_fr hF748 h_x h_x (by decide +kernel)
          refine GO.useWT (fun hWj770 => ?_)
          have hrdj := hWj770.rd h_x
          exact hj139  V749 (by omega) ((by first | exact RC0.no (rfl : ar 39 V749 x = ar 39 V749 x) ak752.2 ak753.2 ak754.2 (by omega) (by omega) (fun ha => absurd (raw_isAsking.2 ha) (by omega)) | exact RC0.yes (raw_readsCondition (by omega)) (by omega) hs3 ak752.2 ak753.2 ak754.2 (by omega) (by omega)))
        ·
          refine GO.iconst dX12_readsClause_108 ?_
          have q771 : -2147483648 ≤ vi V749 x 31 ∧ vi V749 x 31 ≤ 2147483647 := vi_ir
          have q772 : -2147483648 ≤ vi V749 x 36 ∧ vi V749 x 36 ≤ 2147483647 := vi_ir
          have e778 : vi V43 x 38 = vi V25 x 38 := vi_up e42 (Or.inl (K_ne h_x h39 (by decide)))
          have e777 : vi V54 x 38 = vi V43 x 38 := vi_up e53 (Or.inl (K_ne h_x h51 (by decide)))
          have e776 : vi V65 x 38 = vi V54 x 38 := vi_up e64 (Or.inl (K_ne h_x h62 (by decide)))
          have e775 : vi V76 x 38 = vi V65 x 38 := vi_up e75 (Or.inl (K_ne h_x h73 (by decide)))
          have e774 : vi V94 x 38 = vi V76 x 38 := vi_up e93 (Or.inl (K_ne h_x h84 (by decide)))
          have e773 : vi V749 x 38 = vi V94 x 38 := vi_fr hF748 h_x h_x (by decide +kernel)
          exact GO.retz rfl rfl dX12_readsClause_109 (Or.inl rfl) ⟨rfl, _, rfl, (ir_c rfl), ⟨Or.inl rfl, fun h => absurd rfl h, fun _ => trivial, (by first | exact fun h => absurd rfl h)⟩⟩
    ·
      refine GO.aload_n dX12_readsClause_31 rfl rfl ?_
      refine GO.iconst dX12_readsClause_32 ?_
      refine GO.aload_n dX12_readsClause_33 rfl rfl ?_
      refine GO.getI h_x fl_RX12_443 rfl rfl dX12_readsClause_34 (fun l779 u780 => ?_)
      refine GO.callV (ci := 11) (N := mX12_wrong) dX12_readsClause_37 (RX12, TX12, 151) rfl gV_RX12_456 h_x (t_X12_wrong h_x (ir_c rfl) vi_ir) rfl [] rfl rfl (Nat.le_of_ble_eq_true rfl) rfl (k_is fun X781 V785 r782 h783 hF784 => ?_)
      have k786 := st_fr hF784 aq2 h_x (by decide +kernel) (by decide +kernel) (by decide +kernel) (by decide +kernel)
      have sS787 : sd V785 x = sd V x := k786.2.1.trans (rfl : sd V x = sd V x)
      have sQ788 : wt V785 x = wt V x := k786.2.2.trans (rfl : wt V x = wt V x)
      have ak789 := tk_fr hF784 ak4 h_x (by decide +kernel) (by decide +kernel) (rfl : ar 39 V x = ar 39 V x)
      have ak790 := tk_fr hF784 ak5 h_x (by decide +kernel) (by decide +kernel) (rfl : ar 41 V x = ar 41 V x)
      have ak791 := tk_fr hF784 ak6 h_x (by decide +kernel) (by decide +kernel) (rfl : ar 42 V x = ar 42 V x)
      have ak792 := tk_fr hF784 ak7 h_x (by decide +kernel) (by decide +kernel) (rfl : ar 43 V x = ar 43 V x)
      have e793 : vi V785 x 31 = vi V x 31 := vi_fr hF784 h_x h_x (by decide +kernel)
      have q794 : -2147483648 ≤ vi V x 31 ∧ vi V x 31 ≤ 2147483647 := vi_ir
      have q795 : -2147483648 ≤ vi V x 32 ∧ vi V x 32 ≤ 2147483647 := vi_ir
      have q796 : -2147483648 ≤ vi V x 36 ∧ vi V x 36 ≤ 2147483647 := vi_ir
      have e797 : vi V785 x 36 = vi V x 36 := vi_fr hF784 h_x h_x (by decide +kernel)
      have e798 : vi V785 x 38 = vi V x 38 := vi_fr hF784 h_x h_x (by decide +kernel)
      exact GO.retz rfl rfl dX12_readsClause_40 (by omega) ⟨rfl, _, rfl, r782, ⟨by omega, fun h => by omega, fun _ => trivial, (by first | exact fun h => absurd h (by omega))⟩⟩
  ·
    refine GO.aload_n dX12_readsClause_12 rfl rfl ?_
    refine GO.iconst dX12_readsClause_13 ?_
    refine GO.aload_n dX12_readsClause_14 rfl rfl ?_
    refine GO.getI h_x fl_RX12_443 rfl rfl dX12_readsClause_15 (fun l799 u800 => ?_)
    refine GO.callV (ci := 11) (N := mX12_wrong) dX12_readsClause_18 (RX12, TX12, 151) rfl gV_RX12_456 h_x (t_X12_wrong h_x (ir_c rfl) vi_ir) rfl [] rfl rfl (Nat.le_of_ble_eq_true rfl) rfl (k_is fun X801 V805 r802 h803 hF804 => ?_)
    have k806 := st_fr hF804 aq2 h_x (by decide +kernel) (by decide +kernel) (by decide +kernel) (by decide +kernel)
    have sS807 : sd V805 x = sd V x := k806.2.1.trans (rfl : sd V x = sd V x)
    have sQ808 : wt V805 x = wt V x := k806.2.2.trans (rfl : wt V x = wt V x)
    have ak809 := tk_fr hF804 ak4 h_x (by decide +kernel) (by decide +kernel) (rfl : ar 39 V x = ar 39 V x)
    have ak810 := tk_fr hF804 ak5 h_x (by decide +kernel) (by decide +kernel) (rfl : ar 41 V x = ar 41 V x)
    have ak811 := tk_fr hF804 ak6 h_x (by decide +kernel) (by decide +kernel) (rfl : ar 42 V x = ar 42 V x)
    have ak812 := tk_fr hF804 ak7 h_x (by decide +kernel) (by decide +kernel) (rfl : ar 43 V x = ar 43 V x)
    have e813 : vi V805 x 31 = vi V x 31 := vi_fr hF804 h_x h_x (by decide +kernel)
    have q814 : -2147483648 ≤ vi V x 31 ∧ vi V x 31 ≤ 2147483647 := vi_ir
    have q815 : -2147483648 ≤ vi V x 36 ∧ vi V x 36 ≤ 2147483647 := vi_ir
    have e816 : vi V805 x 36 = vi V x 36 := vi_fr hF804 h_x h_x (by decide +kernel)
    have e817 : vi V805 x 38 = vi V x 38 := vi_fr hF804 h_x h_x (by decide +kernel)
    exact GO.retz rfl rfl dX12_readsClause_21 (by omega) ⟨rfl, _, rfl, r802, ⟨by omega, fun h => by omega, fun _ => trivial, (by first | exact fun h => absurd h (by omega))⟩⟩
