def mX12_readsClause : MRec := (RX12, cX12_readsClause, 3, (some .boolean), yX12_readsClause, 7, 146, 0, 0, 4155553391722351615987629204355131448544995523439603617552334366590684201787929150118965542912)
set_option maxHeartbeats 8000000 in
theorem t_X12_readsClause {K : Kmap} {V : Vmap} {x : Nat} (h_x : K x = some (0, 11)) (q_0 : vi V x 36 ≤ vi V x 31) (w_0 : TC V x) : MC mX12_readsClause K V [.ref x] (IS K (fun X V1 => (X = 0 ∨ X = 1) ∧ (X ≠ 0 → vi V1 x 31 ≥ (vi V x 31 + 1) ∧ vi V1 x 36 ≤ vi V1 x 31) ∧ (X = 0 → True) ∧ ((X ≠ 0 → TC V1 x)) ∧ (RCS V V1 x X))) := by
  refine MC.start 2 (by decide +kernel) rfl rfl rfl (ls0 := [some (.ref x), none, none]) rfl ?_
  refine GO.useWT (fun hW1 => ?_)
  have aq2 := hW1.aq h_x
  refine GO.useWT (fun hW3 => ?_)
  have ak4 := hW3.arr h_x 39 32 (by decide) rfl (by decide)
  have ak5 := hW3.arr h_x 41 34 (by decide) rfl (by decide)
  have ak6 := hW3.arr h_x 42 35 (by decide) rfl (by decide)
  have ak7 := hW3.arr h_x 43 36 (by decide) rfl (by decide)
  have ak8 := hW3.arr h_x 44 37 (by decide) rfl (by decide)
  have ak9 := hW3.arr h_x 45 38 (by decide) rfl (by decide)
  have ak10 := hW3.arr h_x 46 39 (by decide) rfl (by decide)
  refine GO.useWT (fun hW_0 => ?_)
  have hrd := (hW1).rd h_x
  have hcn := (hW1).cnt h_x
  refine GO.aload_n dX12_readsClause_0 rfl rfl ?_
  refine GO.callV (ci := 11) (N := mX12_sign) dX12_readsClause_1 (RX12, TX12, 151) rfl gV_RX12_449 h_x (t_X12_sign h_x) rfl [] rfl rfl (Nat.le_of_ble_eq_true rfl) rfl (k_ip fun X11 r12 h13 => ?_)
  refine GO.istore_n (ls1 := [some (.ref x), some (ti X11), none]) dX12_readsClause_4 rfl rfl rfl ?_
  refine GO.iload_n dX12_readsClause_5 rfl rfl ?_
  refine GO.callS (N := mX12_isLetter) dX12_readsClause_6 gS_RX12_523 (t_X12_isLetter r12) rfl [] rfl rfl (Nat.le_of_ble_eq_true rfl) rfl (k_ip fun X14 r15 h16 => ?_)
  refine GO.if_ne (tgt := 22) dX12_readsClause_9 (by decide) r15 (fun c17 => ?_) (fun c17 => ?_)
  ·
    have q18 := h16.2.1 (by omega)
    refine GO.aload_n dX12_readsClause_22 rfl rfl ?_
    refine GO.getI h_x fl_RX12_526 rfl rfl dX12_readsClause_23 (fun l19 u20 => ?_)
    refine GO.bipush dX12_readsClause_26 rfl ?_
    refine GO.icmp_ne (tgt := 41) dX12_readsClause_28 (by decide) vi_ir (ir_c rfl) (fun c21 => ?_) (fun c21 => ?_)
    ·
      refine GO.aload_n dX12_readsClause_41 rfl rfl ?_
      refine GO.aload_n dX12_readsClause_42 rfl rfl ?_
      refine GO.getI h_x fl_RX12_443 rfl rfl dX12_readsClause_43 (fun l22 u23 => ?_)
      refine GO.iconst dX12_readsClause_46 ?_
      refine GO.iadd dX12_readsClause_47 ?_
      have q25 : -2147483648 ≤ vi V x 31 ∧ vi V x 31 ≤ 2147483647 := vi_ir
      have q26 : -2147483648 ≤ vi V x 32 ∧ vi V x 32 ≤ 2147483647 := vi_ir
      have q27 : -2147483648 ≤ vi V x 36 ∧ vi V x 36 ≤ 2147483647 := vi_ir
      refine GO.putI h_x fp_RX12_443 rfl (by decide +kernel) ⟨by omega, by omega⟩ (by omega) (by omega) dX12_readsClause_48 (fun V28 e24 => ?_)
      have k29 := st_fld e24 aq2 h_x (by decide) (by decide)
      have sS30 : sd V28 x = sd V x := k29.2.1.trans (rfl : sd V x = sd V x)
      have sQ31 : wt V28 x = wt V x := k29.2.2.trans (rfl : wt V x = wt V x)
      have ak32 := tk_fld e24 ak4 h_x (by decide) (rfl : ar 39 V x = ar 39 V x)
      clear ak4
      have ak33 := tk_fld e24 ak5 h_x (by decide) (rfl : ar 41 V x = ar 41 V x)
      clear ak5
      have ak34 := tk_fld e24 ak6 h_x (by decide) (rfl : ar 42 V x = ar 42 V x)
      clear ak6
      have ak35 := tk_fld e24 ak7 h_x (by decide) (rfl : ar 43 V x = ar 43 V x)
      clear ak7
      have ak36 := tk_fld e24 ak8 h_x (by decide) (rfl : ar 44 V x = ar 44 V x)
      clear ak8
      have ak37 := tk_fld e24 ak9 h_x (by decide) (rfl : ar 45 V x = ar 45 V x)
      clear ak9
      have ak38 := tk_fld e24 ak10 h_x (by decide) (rfl : ar 46 V x = ar 46 V x)
      clear ak10
      refine GO.aload_n dX12_readsClause_51 rfl rfl ?_
      refine GO.getI h_x fl_RX12_526 rfl rfl dX12_readsClause_52 (fun l39 u40 => ?_)
      have e41 : vi V28 x 38 = vi V x 38 := vi_up e24 (Or.inr (by decide))
      refine GO.name (fun z42 hz43 => ?_)
      have r44 : ir z42 := hz43 ▸ vi_ir
      refine GO.istore_n (ls1 := [some (.ref x), some (ti X11), some (ti z42)]) dX12_readsClause_55 rfl rfl rfl ?_
      refine GO.aload_n dX12_readsClause_56 rfl rfl ?_
      refine GO.getA (n := 12) h_x fl_RX12_94 rfl rfl rfl rfl dX12_readsClause_57 (fun hv46 h45 => ?_)
      refine GO.iload_n dX12_readsClause_60 rfl rfl ?_
      refine GO.iload_n dX12_readsClause_61 rfl rfl ?_
      have q47 : -2147483648 ≤ vi V x 38 ∧ vi V x 38 ≤ 2147483647 := vi_ir
      refine GO.iast (t := 34) rfl rfl (by decide +kernel) h45 r44 (by omega) (by omega) r12 (r12).1 (r12).2 dX12_readsClause_62 (fun V49 e48 => ?_)
      have k50 := st_oth e48 k29.1 h_x h45 (by decide) (by decide)
      clear k29
      have sS51 : sd V49 x = sd V x := k50.2.1.trans sS30
      have sQ52 : wt V49 x = wt V x := k50.2.2.trans sQ31
      have ak53 := tk_oth e48 ak32.1 h_x h45 (by decide) (by decide) ak32.2
      clear ak32
      have ak54 := tk_put e48 ak33.1 h_x (vq_of hv46) r12 ak33.2
      clear ak33
      have ak55 := tk_oth e48 ak34.1 h_x h45 (by decide) (by decide) ak34.2
      clear ak34
      have ak56 := tk_oth e48 ak35.1 h_x h45 (by decide) (by decide) ak35.2
      clear ak35
      have ak57 := tk_oth e48 ak36.1 h_x h45 (by decide) (by decide) ak36.2
      clear ak36
      have ak58 := tk_oth e48 ak37.1 h_x h45 (by decide) (by decide) ak37.2
      clear ak37
      have ak59 := tk_oth e48 ak38.1 h_x h45 (by decide) (by decide) ak38.2
      clear ak38
      refine GO.aload_n dX12_readsClause_63 rfl rfl ?_
      refine GO.getA (n := 12) h_x fl_RX12_103 rfl rfl rfl rfl dX12_readsClause_64 (fun hv61 h60 => ?_)
      refine GO.iload_n dX12_readsClause_67 rfl rfl ?_
      refine GO.iconst dX12_readsClause_68 ?_
      refine GO.iast (t := 37) rfl rfl (by decide +kernel) h60 r44 (by omega) (by omega) (ir_c rfl) (by decide) (by decide) dX12_readsClause_69 (fun V63 e62 => ?_)
      have k64 := st_oth e62 k50.1 h_x h60 (by decide) (by decide)
      clear k50
      have sS65 : sd V63 x = sd V x := k64.2.1.trans sS51
      have sQ66 : wt V63 x = wt V x := k64.2.2.trans sQ52
      have ak67 := tk_oth e62 ak53.1 h_x h60 (by decide) (by decide) ak53.2
      clear ak53
      have ak68 := tk_oth e62 ak54.1 h_x h60 (by decide) (by decide) ak54.2
      clear ak54
      have ak69 := tk_oth e62 ak55.1 h_x h60 (by decide) (by decide) ak55.2
      clear ak55
      have ak70 := tk_oth e62 ak56.1 h_x h60 (by decide) (by decide) ak56.2
      clear ak56
      have ak71 := tk_put e62 ak57.1 h_x (vq_of hv61) (ir_c rfl) ak57.2
      clear ak57
      have ak72 := tk_oth e62 ak58.1 h_x h60 (by decide) (by decide) ak58.2
      clear ak58
      have ak73 := tk_oth e62 ak59.1 h_x h60 (by decide) (by decide) ak59.2
      clear ak59
      refine GO.aload_n dX12_readsClause_70 rfl rfl ?_
      refine GO.getA (n := 12) h_x fl_RX12_106 rfl rfl rfl rfl dX12_readsClause_71 (fun hv75 h74 => ?_)
      refine GO.iload_n dX12_readsClause_74 rfl rfl ?_
      refine GO.iconst dX12_readsClause_75 ?_
      refine GO.iast (t := 38) rfl rfl (by decide +kernel) h74 r44 (by omega) (by omega) (ir_c rfl) (by decide) (by decide) dX12_readsClause_76 (fun V77 e76 => ?_)
      have k78 := st_oth e76 k64.1 h_x h74 (by decide) (by decide)
      clear k64
      have sS79 : sd V77 x = sd V x := k78.2.1.trans sS65
      have sQ80 : wt V77 x = wt V x := k78.2.2.trans sQ66
      have ak81 := tk_oth e76 ak67.1 h_x h74 (by decide) (by decide) ak67.2
      clear ak67
      have ak82 := tk_oth e76 ak68.1 h_x h74 (by decide) (by decide) ak68.2
      clear ak68
      have ak83 := tk_oth e76 ak69.1 h_x h74 (by decide) (by decide) ak69.2
      clear ak69
      have ak84 := tk_oth e76 ak70.1 h_x h74 (by decide) (by decide) ak70.2
      clear ak70
      have ak85 := tk_oth e76 ak71.1 h_x h74 (by decide) (by decide) ak71.2
      clear ak71
      have ak86 := tk_put e76 ak72.1 h_x (vq_of hv75) (ir_c rfl) ak72.2
      clear ak72
      have ak87 := tk_oth e76 ak73.1 h_x h74 (by decide) (by decide) ak73.2
      clear ak73
      refine GO.aload_n dX12_readsClause_77 rfl rfl ?_
      refine GO.getA (n := 12) h_x fl_RX12_109 rfl rfl rfl rfl dX12_readsClause_78 (fun hv89 h88 => ?_)
      refine GO.iload_n dX12_readsClause_81 rfl rfl ?_
      refine GO.iconst dX12_readsClause_82 ?_
      refine GO.iast (t := 39) rfl rfl (by decide +kernel) h88 r44 (by omega) (by omega) (ir_c rfl) (by decide) (by decide) dX12_readsClause_83 (fun V91 e90 => ?_)
      have k92 := st_oth e90 k78.1 h_x h88 (by decide) (by decide)
      clear k78
      have sS93 : sd V91 x = sd V x := k92.2.1.trans sS79
      have sQ94 : wt V91 x = wt V x := k92.2.2.trans sQ80
      have ak95 := tk_oth e90 ak81.1 h_x h88 (by decide) (by decide) ak81.2
      clear ak81
      have ak96 := tk_oth e90 ak82.1 h_x h88 (by decide) (by decide) ak82.2
      clear ak82
      have ak97 := tk_oth e90 ak83.1 h_x h88 (by decide) (by decide) ak83.2
      clear ak83
      have ak98 := tk_oth e90 ak84.1 h_x h88 (by decide) (by decide) ak84.2
      clear ak84
      have ak99 := tk_oth e90 ak85.1 h_x h88 (by decide) (by decide) ak85.2
      clear ak85
      have ak100 := tk_oth e90 ak86.1 h_x h88 (by decide) (by decide) ak86.2
      clear ak86
      have ak101 := tk_put e90 ak87.1 h_x (vq_of hv89) (ir_c rfl) ak87.2
      clear ak87
      refine GO.aload_n dX12_readsClause_84 rfl rfl ?_
      refine GO.getA (n := 12) h_x fl_RX12_97 rfl rfl rfl rfl dX12_readsClause_85 (fun hv103 h102 => ?_)
      refine GO.iload_n dX12_readsClause_88 rfl rfl ?_
      refine GO.aload_n dX12_readsClause_89 rfl rfl ?_
      refine GO.getI h_x fl_RX12_466 rfl rfl dX12_readsClause_90 (fun l104 u105 => ?_)
      have e110 : vi V28 x 36 = vi V x 36 := vi_up e24 (Or.inr (by decide))
      have e109 : vi V49 x 36 = vi V28 x 36 := vi_up e48 (Or.inl (K_ne h_x h45 (by decide)))
      have e108 : vi V63 x 36 = vi V49 x 36 := vi_up e62 (Or.inl (K_ne h_x h60 (by decide)))
      have e107 : vi V77 x 36 = vi V63 x 36 := vi_up e76 (Or.inl (K_ne h_x h74 (by decide)))
      have e106 : vi V91 x 36 = vi V77 x 36 := vi_up e90 (Or.inl (K_ne h_x h88 (by decide)))
      refine GO.iast (t := 35) rfl rfl (by decide +kernel) h102 r44 (by omega) (by omega) vi_ir (by omega) (by omega) dX12_readsClause_93 (fun V112 e111 => ?_)
      have k113 := st_oth e111 k92.1 h_x h102 (by decide) (by decide)
      clear k92
      have sS114 : sd V112 x = sd V x := k113.2.1.trans sS93
      have sQ115 : wt V112 x = wt V x := k113.2.2.trans sQ94
      clear k113
      have ak116 := tk_oth e111 ak95.1 h_x h102 (by decide) (by decide) ak95.2
      clear ak95
      have ak117 := tk_oth e111 ak96.1 h_x h102 (by decide) (by decide) ak96.2
      clear ak96
      have ak118 := tk_put e111 ak97.1 h_x (vq_of hv103) vi_ir ak97.2
      clear ak97
      have ak119 := tk_oth e111 ak98.1 h_x h102 (by decide) (by decide) ak98.2
      clear ak98
      have ak120 := tk_oth e111 ak99.1 h_x h102 (by decide) (by decide) ak99.2
      clear ak99
      have ak121 := tk_oth e111 ak100.1 h_x h102 (by decide) (by decide) ak100.2
      clear ak100
      have ak122 := tk_oth e111 ak101.1 h_x h102 (by decide) (by decide) ak101.2
      clear ak101
      have e128 : vi V28 x 31 = (vi V x 31) + 1 := upd2_int e24 ⟨by omega, by omega⟩
      have e127 : vi V49 x 31 = vi V28 x 31 := vi_up e48 (Or.inl (K_ne h_x h45 (by decide)))
      have e126 : vi V63 x 31 = vi V49 x 31 := vi_up e62 (Or.inl (K_ne h_x h60 (by decide)))
      have e125 : vi V77 x 31 = vi V63 x 31 := vi_up e76 (Or.inl (K_ne h_x h74 (by decide)))
      have e124 : vi V91 x 31 = vi V77 x 31 := vi_up e90 (Or.inl (K_ne h_x h88 (by decide)))
      have e123 : vi V112 x 31 = vi V91 x 31 := vi_up e111 (Or.inl (K_ne h_x h102 (by decide)))
      have e129 : vi V112 x 36 = vi V91 x 36 := vi_up e111 (Or.inl (K_ne h_x h102 (by decide)))
      have e134 : vi V49 x 38 = vi V28 x 38 := vi_up e48 (Or.inl (K_ne h_x h45 (by decide)))
      have e133 : vi V63 x 38 = vi V49 x 38 := vi_up e62 (Or.inl (K_ne h_x h60 (by decide)))
      have e132 : vi V77 x 38 = vi V63 x 38 := vi_up e76 (Or.inl (K_ne h_x h74 (by decide)))
      have e131 : vi V91 x 38 = vi V77 x 38 := vi_up e90 (Or.inl (K_ne h_x h88 (by decide)))
      have e130 : vi V112 x 38 = vi V91 x 38 := vi_up e111 (Or.inl (K_ne h_x h102 (by decide)))
      have hrle := RLE.beg (V := V112) (c := X11) (by omega) (by omega) (by unfold isCL; exact decide_eq_true (by omega)) (by omega) (by omega) (by omega) (sS114)
      have hrb := RLB.beg (c := X11) ak117.2 ak120.2 ak121.2 ak122.2
      refine GO.useFR (fun hFs => ?_)
      have hT0 : ∀ src e, TP V x src e → TP V112 x src e := fun src e h => TP.fr h hFs hW_0 h_x (by decide +kernel) (by decide +kernel) (by decide +kernel)
      refine GO.iload_n dX12_readsClause_94 rfl rfl ?_
      refine GO.callS (N := mX12_isAsking) dX12_readsClause_95 gS_RX12_520 (t_X12_isAsking r12) rfl [] rfl rfl (Nat.le_of_ble_eq_true rfl) rfl (k_ip fun X135 r136 h137 => ?_)
      have raw_isAsking := h137.2.2.2
      have rw95 := h137.2.2.2
      have hj165 : ∀ (V166 : Vmap), ∀ (ji167 : vi V166 x 31 ≥ (vi V x 31 + 1) ∧ vi V166 x 31 ≤ 200 ∧ vi V166 x 36 ≥ vi V x 36 ∧ vi V166 x 36 ≤ vi V166 x 31 ∧ vi V166 x 38 = vi V x 38), ∀ (hrc0 : RC0 V V166 x X11 (z42).toNat), ∀ (hrc1 : RL1 V V166 x (z42).toNat X11), GO mX12_readsClause K V (IS K (fun X V1 => (X = 0 ∨ X = 1) ∧ (X ≠ 0 → vi V1 x 31 ≥ (vi V x 31 + 1) ∧ vi V1 x 36 ≤ vi V1 x 31) ∧ (X = 0 → True) ∧ ((X ≠ 0 → TC V1 x)) ∧ (RCS V V1 x X))) K V166 0 0 110 [some (.ref x), some (ti X11), some (ti z42)] [] := by
        intro V166 ji167 hrc0 hrc1
        refine GO.useWT (fun hW168 => ?_)
        have aq169 := hW168.aq h_x
        refine GO.useWT (fun hW170 => ?_)
        have ak171 := hW170.arr h_x 39 32 (by decide) rfl (by decide)
        have ak172 := hW170.arr h_x 41 34 (by decide) rfl (by decide)
        have ak173 := hW170.arr h_x 42 35 (by decide) rfl (by decide)
        have ak174 := hW170.arr h_x 43 36 (by decide) rfl (by decide)
        have ak175 := hW170.arr h_x 44 37 (by decide) rfl (by decide)
        have ak176 := hW170.arr h_x 45 38 (by decide) rfl (by decide)
        have ak177 := hW170.arr h_x 46 39 (by decide) rfl (by decide)
        refine GO.aload_n dX12_readsClause_110 rfl rfl ?_
        refine GO.getA (n := 12) h_x fl_RX12_100 rfl rfl rfl rfl dX12_readsClause_111 (fun hv179 h178 => ?_)
        refine GO.iload_n dX12_readsClause_114 rfl rfl ?_
        refine GO.aload_n dX12_readsClause_115 rfl rfl ?_
        refine GO.getI h_x fl_RX12_466 rfl rfl dX12_readsClause_116 (fun l180 u181 => ?_)
        have q182 : -2147483648 ≤ vi V166 x 38 ∧ vi V166 x 38 ≤ 2147483647 := vi_ir
        have q184 : -2147483648 ≤ vi V166 x 36 ∧ vi V166 x 36 ≤ 2147483647 := vi_ir
        have q185 : -2147483648 ≤ vi V166 x 31 ∧ vi V166 x 31 ≤ 2147483647 := vi_ir
        refine GO.iast (t := 36) rfl rfl (by decide +kernel) h178 r44 (by omega) (by omega) vi_ir (by omega) (by omega) dX12_readsClause_119 (fun V186 e183 => ?_)
        have k187 := st_oth e183 aq169 h_x h178 (by decide) (by decide)
        have sS188 : sd V186 x = sd V166 x := k187.2.1.trans (rfl : sd V166 x = sd V166 x)
        have sQ189 : wt V186 x = wt V166 x := k187.2.2.trans (rfl : wt V166 x = wt V166 x)
        have ak190 := tk_oth e183 ak171 h_x h178 (by decide) (by decide) (rfl : ar 39 V166 x = ar 39 V166 x)
        have ak191 := tk_oth e183 ak172 h_x h178 (by decide) (by decide) (rfl : ar 41 V166 x = ar 41 V166 x)
        have ak192 := tk_oth e183 ak173 h_x h178 (by decide) (by decide) (rfl : ar 42 V166 x = ar 42 V166 x)
        have ak193 := tk_put e183 ak174 h_x (vq_of hv179) vi_ir (rfl : ar 43 V166 x = ar 43 V166 x)
        have ak194 := tk_oth e183 ak175 h_x h178 (by decide) (by decide) (rfl : ar 44 V166 x = ar 44 V166 x)
        have ak195 := tk_oth e183 ak176 h_x h178 (by decide) (by decide) (rfl : ar 45 V166 x = ar 45 V166 x)
        have ak196 := tk_oth e183 ak177 h_x h178 (by decide) (by decide) (rfl : ar 46 V166 x = ar 46 V166 x)
        refine GO.iload_n dX12_readsClause_120 rfl rfl ?_
        refine GO.bipush dX12_readsClause_121 rfl ?_
        have hj462 : ∀ (V463 : Vmap), ∀ (ji464 : vi V463 x 31 ≥ (vi V x 31 + 1) ∧ vi V463 x 31 ≤ 200 ∧ vi V463 x 36 ≥ vi V x 36 ∧ vi V463 x 36 ≤ vi V463 x 31 ∧ vi V463 x 38 = vi V x 38), ∀ (hrc0 : RC1 V V463 x X11 (z42).toNat), ∀ (hrc1 : RL2 V V463 x (z42).toNat X11), GO mX12_readsClause K V (IS K (fun X V1 => (X = 0 ∨ X = 1) ∧ (X ≠ 0 → vi V1 x 31 ≥ (vi V x 31 + 1) ∧ vi V1 x 36 ≤ vi V1 x 31) ∧ (X = 0 → True) ∧ ((X ≠ 0 → TC V1 x)) ∧ (RCS V V1 x X))) K V463 0 0 220 [some (.ref x), some (ti X11), some (ti z42)] [] := by
          intro V463 ji464 hrc0 hrc1
          refine GO.useWT (fun hW465 => ?_)
          have aq466 := hW465.aq h_x
          refine GO.useWT (fun hW467 => ?_)
          have ak468 := hW467.arr h_x 39 32 (by decide) rfl (by decide)
          have ak469 := hW467.arr h_x 41 34 (by decide) rfl (by decide)
          have ak470 := hW467.arr h_x 42 35 (by decide) rfl (by decide)
          have ak471 := hW467.arr h_x 43 36 (by decide) rfl (by decide)
          have ak472 := hW467.arr h_x 44 37 (by decide) rfl (by decide)
          have ak473 := hW467.arr h_x 45 38 (by decide) rfl (by decide)
          have ak474 := hW467.arr h_x 46 39 (by decide) rfl (by decide)
          refine GO.iload_n dX12_readsClause_220 rfl rfl ?_
          refine GO.bipush dX12_readsClause_221 rfl ?_
          refine GO.icmp_eq (tgt := 256) dX12_readsClause_223 (by decide) r12 (ir_c rfl) (fun c475 => ?_) (fun c475 => ?_)
          ·
            have gs6 := (rfl : sd V463 x = sd V463 x)
            have hg1 := RL2.n hrc1 (by omega)
            refine GO.useFR (fun hFs => ?_)
            have hT5 : ∀ src e, TP V x src e → TP V463 x src e := fun src e h => TP.fr h hFs hW_0 h_x (by decide +kernel) (by decide +kernel) (by decide +kernel)
            refine GO.aload_n dX12_readsClause_256 rfl rfl ?_
            refine GO.ldcw (X := 999999) dX12_readsClause_257 gw_2095 rfl ?_
            refine GO.callV (ci := 11) (N := mX12_readsNumber) dX12_readsClause_260 (RX12, TX12, 151) rfl gV_RX12_486 h_x (t_X12_readsNumber h_x (ir_c rfl)) rfl [] rfl rfl (Nat.le_of_ble_eq_true rfl) rfl (k_is fun X476 V480 r477 h478 hF479 => ?_)
            have k481 := st_fr hF479 aq466 h_x (by decide +kernel) (by decide +kernel) (by decide +kernel) (by decide +kernel)
            have sS482 : sd V480 x = sd V463 x := k481.2.1.trans (rfl : sd V463 x = sd V463 x)
            have sQ483 : wt V480 x = wt V463 x := k481.2.2.trans (rfl : wt V463 x = wt V463 x)
            have ak484 := tk_fr hF479 ak468 h_x (by decide +kernel) (by decide +kernel) (rfl : ar 39 V463 x = ar 39 V463 x)
            have ak485 := tk_fr hF479 ak469 h_x (by decide +kernel) (by decide +kernel) (rfl : ar 41 V463 x = ar 41 V463 x)
            have ak486 := tk_fr hF479 ak470 h_x (by decide +kernel) (by decide +kernel) (rfl : ar 42 V463 x = ar 42 V463 x)
            have ak487 := tk_fr hF479 ak471 h_x (by decide +kernel) (by decide +kernel) (rfl : ar 43 V463 x = ar 43 V463 x)
            have ak488 := tk_fr hF479 ak472 h_x (by decide +kernel) (by decide +kernel) (rfl : ar 44 V463 x = ar 44 V463 x)
            have ak489 := tk_fr hF479 ak473 h_x (by decide +kernel) (by decide +kernel) (rfl : ar 45 V463 x = ar 45 V463 x)
            have ak490 := tk_fr hF479 ak474 h_x (by decide +kernel) (by decide +kernel) (rfl : ar 46 V463 x = ar 46 V463 x)
            have rq0_260 := h478.2.2.2
            refine GO.if_ne (tgt := 268) dX12_readsClause_263 (by decide) r477 (fun c493 => ?_) (fun c493 => ?_)
            ·
              have q494 := h478.2.1 (by omega)
              have e495 : vi V480 x 36 = vi V463 x 36 := vi_fr hF479 h_x h_x (by decide +kernel)
              have e496 : vi V480 x 38 = vi V463 x 38 := vi_fr hF479 h_x h_x (by decide +kernel)
              have gs7 := sS482
              have hg2 := RLE.num (rn := fun _ _ v s => .ok (s, (X11, v, _, _))) hg1 hT5 rq0_260 (by omega) (by omega) (gs7.trans gs6.symm)
              refine GO.aload_n dX12_readsClause_268 rfl rfl ?_
              refine GO.getA (n := 12) h_x fl_RX12_103 rfl rfl rfl rfl dX12_readsClause_269 (fun hv498 h497 => ?_)
              refine GO.iload_n dX12_readsClause_272 rfl rfl ?_
              refine GO.aload_n dX12_readsClause_273 rfl rfl ?_
              refine GO.getI h_x fl_RX12_459 rfl rfl dX12_readsClause_274 (fun _ _ => ?_)
              have q499 : -2147483648 ≤ vi V463 x 38 ∧ vi V463 x 38 ≤ 2147483647 := vi_ir
              refine GO.iast (t := 37) rfl rfl (by decide +kernel) h497 r44 (by omega) (by omega) vi_ir (vi_ir).1 (vi_ir).2 dX12_readsClause_277 (fun V501 e500 => ?_)
              have k502 := st_oth e500 k481.1 h_x h497 (by decide) (by decide)
              have sS503 : sd V501 x = sd V463 x := k502.2.1.trans sS482
              have sQ504 : wt V501 x = wt V463 x := k502.2.2.trans sQ483
              have ak505 := tk_oth e500 ak484.1 h_x h497 (by decide) (by decide) ak484.2
              have ak506 := tk_oth e500 ak485.1 h_x h497 (by decide) (by decide) ak485.2
              have ak507 := tk_oth e500 ak486.1 h_x h497 (by decide) (by decide) ak486.2
              have ak508 := tk_oth e500 ak487.1 h_x h497 (by decide) (by decide) ak487.2
              have ak509 := tk_put e500 ak488.1 h_x (vq_of hv498) vi_ir ak488.2
              have ak510 := tk_oth e500 ak489.1 h_x h497 (by decide) (by decide) ak489.2
              have ak511 := tk_oth e500 ak490.1 h_x h497 (by decide) (by decide) ak490.2
              have e512 : vi V501 x 36 = vi V480 x 36 := vi_up e500 (Or.inl (K_ne h_x h497 (by decide)))
              have e513 : vi V501 x 31 = vi V480 x 31 := vi_up e500 (Or.inl (K_ne h_x h497 (by decide)))
              have e514 : vi V501 x 38 = vi V480 x 38 := vi_up e500 (Or.inl (K_ne h_x h497 (by decide)))
              refine GO.useWT (fun hWe => ?_)
              have hce := hWe.cnt h_x
              refine GO.aload_n dX12_readsClause_278 rfl rfl ?_
              refine GO.aload_n dX12_readsClause_279 rfl rfl ?_
              refine GO.getI h_x fl_RX12_526 rfl rfl dX12_readsClause_280 (fun l515 u516 => ?_)
              refine GO.iconst dX12_readsClause_283 ?_
              refine GO.iadd dX12_readsClause_284 ?_
              refine GO.putI h_x fp_RX12_526 rfl (by decide +kernel) ⟨by omega, by omega⟩ (by omega) (by omega) dX12_readsClause_285 (fun V518 e517 => ?_)
              have k519 := st_fld e517 k502.1 h_x (by decide) (by decide)
              have sS520 : sd V518 x = sd V463 x := k519.2.1.trans sS503
              have sQ521 : wt V518 x = wt V463 x := k519.2.2.trans sQ504
              have ak522 := tk_fld e517 ak505.1 h_x (by decide) ak505.2
              have ak523 := tk_fld e517 ak506.1 h_x (by decide) ak506.2
              have ak524 := tk_fld e517 ak507.1 h_x (by decide) ak507.2
              have ak525 := tk_fld e517 ak508.1 h_x (by decide) ak508.2
              have ak526 := tk_fld e517 ak509.1 h_x (by decide) ak509.2
              have ak527 := tk_fld e517 ak510.1 h_x (by decide) ak510.2
              have ak528 := tk_fld e517 ak511.1 h_x (by decide) ak511.2
              refine GO.iconst dX12_readsClause_288 ?_
              have e529 : vi V518 x 31 = vi V501 x 31 := vi_up e517 (Or.inr (by decide))
              have q530 : -2147483648 ≤ vi V480 x 31 ∧ vi V480 x 31 ≤ 2147483647 := vi_ir
              have q531 : -2147483648 ≤ vi V463 x 31 ∧ vi V463 x 31 ≤ 2147483647 := vi_ir
              have q532 : -2147483648 ≤ vi V463 x 36 ∧ vi V463 x 36 ≤ 2147483647 := vi_ir
              have e533 : vi V518 x 36 = vi V501 x 36 := vi_up e517 (Or.inr (by decide))
              have e534 : vi V518 x 38 = (vi V501 x 38) + 1 := upd2_int e517 ⟨by omega, by omega⟩
              exact GO.retz rfl rfl dX12_readsClause_289 (Or.inr rfl) ⟨rfl, _, rfl, (ir_c rfl), ⟨Or.inr rfl, fun h => by omega, fun _ => trivial, (by first | exact fun h => absurd h (by decide) | exact fun _ => TC.rc w_0 (RC1.eq hrc0 ak522.2 ak523.2 ak524.2 ak525.2 (by omega)) (by omega) (by omega) (by omega) (by omega) (by omega)), (by first | exact RCS.fin hrc1.1 (by omega) (by omega) hg2 (Or.inr ak526.2) (by omega) (by omega) (by omega) ((sS520).trans gs7.symm) ak523.2 ak527.2 ak528.2 (by omega) | exact RCS.fin hrc1.1 (by omega) (by omega) (RL2.o hrc1 (by omega)) (Or.inl ⟨ak526.2, hrc1.2.1⟩) (by omega) (by omega) (by omega) (sS520) ak523.2 ak527.2 ak528.2 (by omega))⟩⟩
            ·
              refine GO.iconst dX12_readsClause_266 ?_
              have q538 : -2147483648 ≤ vi V480 x 31 ∧ vi V480 x 31 ≤ 2147483647 := vi_ir
              have q539 : -2147483648 ≤ vi V463 x 31 ∧ vi V463 x 31 ≤ 2147483647 := vi_ir
              have q540 : -2147483648 ≤ vi V463 x 36 ∧ vi V463 x 36 ≤ 2147483647 := vi_ir
              have e541 : vi V480 x 36 = vi V463 x 36 := vi_fr hF479 h_x h_x (by decide +kernel)
              have e542 : vi V480 x 38 = vi V463 x 38 := vi_fr hF479 h_x h_x (by decide +kernel)
              exact GO.retz rfl rfl dX12_readsClause_267 (Or.inl rfl) ⟨rfl, _, rfl, (ir_c rfl), ⟨Or.inl rfl, fun h => absurd rfl h, fun _ => trivial, (by first | exact fun h => absurd rfl h | exact fun _ => TC.rc w_0 (RC1.eq hrc0 ak484.2 ak485.2 ak486.2 ak487.2 (by omega)) (by omega) (by omega) (by omega) (by omega) (by omega)), (by first | exact ⟨fun hq => absurd rfl hq, fun _ => RLX.num (rn := fun _ _ v s => .ok (s, (_, v, _, _))) hg1 hT5 rq0_260 (by omega)⟩ | exact ⟨fun hq => absurd rfl hq, fun _ => RLX.e4 (by omega) (by unfold isCL; exact decide_eq_true (by omega)) (by omega) (by omega)⟩ | exact ⟨fun hq => absurd rfl hq, fun _ => RLX.e1 (fun _ _ h => h) rfl (by omega) (by unfold isCL; exact decide_eq_false (by omega)) (by omega)⟩)⟩⟩
          ·
            refine GO.iload_n dX12_readsClause_226 rfl rfl ?_
            refine GO.bipush dX12_readsClause_227 rfl ?_
            refine GO.icmp_eq (tgt := 256) dX12_readsClause_229 (by decide) r12 (ir_c rfl) (fun c544 => ?_) (fun c544 => ?_)
            ·
              have gs6 := (rfl : sd V463 x = sd V463 x)
              have hg1 := RL2.n hrc1 (by omega)
              refine GO.useFR (fun hFs => ?_)
              have hT5 : ∀ src e, TP V x src e → TP V463 x src e := fun src e h => TP.fr h hFs hW_0 h_x (by decide +kernel) (by decide +kernel) (by decide +kernel)
              refine GO.aload_n dX12_readsClause_256 rfl rfl ?_
              refine GO.ldcw (X := 999999) dX12_readsClause_257 gw_2095 rfl ?_
              refine GO.callV (ci := 11) (N := mX12_readsNumber) dX12_readsClause_260 (RX12, TX12, 151) rfl gV_RX12_486 h_x (t_X12_readsNumber h_x (ir_c rfl)) rfl [] rfl rfl (Nat.le_of_ble_eq_true rfl) rfl (k_is fun X545 V549 r546 h547 hF548 => ?_)
              have k550 := st_fr hF548 aq466 h_x (by decide +kernel) (by decide +kernel) (by decide +kernel) (by decide +kernel)
              have sS551 : sd V549 x = sd V463 x := k550.2.1.trans (rfl : sd V463 x = sd V463 x)
              have sQ552 : wt V549 x = wt V463 x := k550.2.2.trans (rfl : wt V463 x = wt V463 x)
              have ak553 := tk_fr hF548 ak468 h_x (by decide +kernel) (by decide +kernel) (rfl : ar 39 V463 x = ar 39 V463 x)
              have ak554 := tk_fr hF548 ak469 h_x (by decide +kernel) (by decide +kernel) (rfl : ar 41 V463 x = ar 41 V463 x)
              have ak555 := tk_fr hF548 ak470 h_x (by decide +kernel) (by decide +kernel) (rfl : ar 42 V463 x = ar 42 V463 x)
              have ak556 := tk_fr hF548 ak471 h_x (by decide +kernel) (by decide +kernel) (rfl : ar 43 V463 x = ar 43 V463 x)
              have ak557 := tk_fr hF548 ak472 h_x (by decide +kernel) (by decide +kernel) (rfl : ar 44 V463 x = ar 44 V463 x)
              have ak558 := tk_fr hF548 ak473 h_x (by decide +kernel) (by decide +kernel) (rfl : ar 45 V463 x = ar 45 V463 x)
              have ak559 := tk_fr hF548 ak474 h_x (by decide +kernel) (by decide +kernel) (rfl : ar 46 V463 x = ar 46 V463 x)
              have rq0_260 := h547.2.2.2
              refine GO.if_ne (tgt := 268) dX12_readsClause_263 (by decide) r546 (fun c562 => ?_) (fun c562 => ?_)
              ·
                have q563 := h547.2.1 (by omega)
                have e564 : vi V549 x 36 = vi V463 x 36 := vi_fr hF548 h_x h_x (by decide +kernel)
                have e565 : vi V549 x 38 = vi V463 x 38 := vi_fr hF548 h_x h_x (by decide +kernel)
                have gs7 := sS551
                have hg2 := RLE.num (rn := fun _ _ v s => .ok (s, (X11, v, _, _))) hg1 hT5 rq0_260 (by omega) (by omega) (gs7.trans gs6.symm)
                refine GO.aload_n dX12_readsClause_268 rfl rfl ?_
                refine GO.getA (n := 12) h_x fl_RX12_103 rfl rfl rfl rfl dX12_readsClause_269 (fun hv567 h566 => ?_)
                refine GO.iload_n dX12_readsClause_272 rfl rfl ?_
                refine GO.aload_n dX12_readsClause_273 rfl rfl ?_
                refine GO.getI h_x fl_RX12_459 rfl rfl dX12_readsClause_274 (fun _ _ => ?_)
                have q568 : -2147483648 ≤ vi V463 x 38 ∧ vi V463 x 38 ≤ 2147483647 := vi_ir
                refine GO.iast (t := 37) rfl rfl (by decide +kernel) h566 r44 (by omega) (by omega) vi_ir (vi_ir).1 (vi_ir).2 dX12_readsClause_277 (fun V570 e569 => ?_)
                have k571 := st_oth e569 k550.1 h_x h566 (by decide) (by decide)
                have sS572 : sd V570 x = sd V463 x := k571.2.1.trans sS551
                have sQ573 : wt V570 x = wt V463 x := k571.2.2.trans sQ552
                have ak574 := tk_oth e569 ak553.1 h_x h566 (by decide) (by decide) ak553.2
                have ak575 := tk_oth e569 ak554.1 h_x h566 (by decide) (by decide) ak554.2
                have ak576 := tk_oth e569 ak555.1 h_x h566 (by decide) (by decide) ak555.2
                have ak577 := tk_oth e569 ak556.1 h_x h566 (by decide) (by decide) ak556.2
                have ak578 := tk_put e569 ak557.1 h_x (vq_of hv567) vi_ir ak557.2
                have ak579 := tk_oth e569 ak558.1 h_x h566 (by decide) (by decide) ak558.2
                have ak580 := tk_oth e569 ak559.1 h_x h566 (by decide) (by decide) ak559.2
                have e581 : vi V570 x 36 = vi V549 x 36 := vi_up e569 (Or.inl (K_ne h_x h566 (by decide)))
                have e582 : vi V570 x 31 = vi V549 x 31 := vi_up e569 (Or.inl (K_ne h_x h566 (by decide)))
                have e583 : vi V570 x 38 = vi V549 x 38 := vi_up e569 (Or.inl (K_ne h_x h566 (by decide)))
                refine GO.useWT (fun hWe => ?_)
                have hce := hWe.cnt h_x
                refine GO.aload_n dX12_readsClause_278 rfl rfl ?_
                refine GO.aload_n dX12_readsClause_279 rfl rfl ?_
                refine GO.getI h_x fl_RX12_526 rfl rfl dX12_readsClause_280 (fun l584 u585 => ?_)
                refine GO.iconst dX12_readsClause_283 ?_
                refine GO.iadd dX12_readsClause_284 ?_
                refine GO.putI h_x fp_RX12_526 rfl (by decide +kernel) ⟨by omega, by omega⟩ (by omega) (by omega) dX12_readsClause_285 (fun V587 e586 => ?_)
                have k588 := st_fld e586 k571.1 h_x (by decide) (by decide)
                have sS589 : sd V587 x = sd V463 x := k588.2.1.trans sS572
                have sQ590 : wt V587 x = wt V463 x := k588.2.2.trans sQ573
                have ak591 := tk_fld e586 ak574.1 h_x (by decide) ak574.2
                have ak592 := tk_fld e586 ak575.1 h_x (by decide) ak575.2
                have ak593 := tk_fld e586 ak576.1 h_x (by decide) ak576.2
                have ak594 := tk_fld e586 ak577.1 h_x (by decide) ak577.2
                have ak595 := tk_fld e586 ak578.1 h_x (by decide) ak578.2
                have ak596 := tk_fld e586 ak579.1 h_x (by decide) ak579.2
                have ak597 := tk_fld e586 ak580.1 h_x (by decide) ak580.2
                refine GO.iconst dX12_readsClause_288 ?_
                have e598 : vi V587 x 31 = vi V570 x 31 := vi_up e586 (Or.inr (by decide))
                have q599 : -2147483648 ≤ vi V549 x 31 ∧ vi V549 x 31 ≤ 2147483647 := vi_ir
                have q600 : -2147483648 ≤ vi V463 x 31 ∧ vi V463 x 31 ≤ 2147483647 := vi_ir
                have q601 : -2147483648 ≤ vi V463 x 36 ∧ vi V463 x 36 ≤ 2147483647 := vi_ir
                have e602 : vi V587 x 36 = vi V570 x 36 := vi_up e586 (Or.inr (by decide))
                have e603 : vi V587 x 38 = (vi V570 x 38) + 1 := upd2_int e586 ⟨by omega, by omega⟩
                exact GO.retz rfl rfl dX12_readsClause_289 (Or.inr rfl) ⟨rfl, _, rfl, (ir_c rfl), ⟨Or.inr rfl, fun h => by omega, fun _ => trivial, (by first | exact fun h => absurd h (by decide) | exact fun _ => TC.rc w_0 (RC1.eq hrc0 ak591.2 ak592.2 ak593.2 ak594.2 (by omega)) (by omega) (by omega) (by omega) (by omega) (by omega)), (by first | exact RCS.fin hrc1.1 (by omega) (by omega) hg2 (Or.inr ak595.2) (by omega) (by omega) (by omega) ((sS589).trans gs7.symm) ak592.2 ak596.2 ak597.2 (by omega) | exact RCS.fin hrc1.1 (by omega) (by omega) (RL2.o hrc1 (by omega)) (Or.inl ⟨ak595.2, hrc1.2.1⟩) (by omega) (by omega) (by omega) (sS589) ak592.2 ak596.2 ak597.2 (by omega))⟩⟩
              ·
                refine GO.iconst dX12_readsClause_266 ?_
                have q607 : -2147483648 ≤ vi V549 x 31 ∧ vi V549 x 31 ≤ 2147483647 := vi_ir
                have q608 : -2147483648 ≤ vi V463 x 31 ∧ vi V463 x 31 ≤ 2147483647 := vi_ir
                have q609 : -2147483648 ≤ vi V463 x 36 ∧ vi V463 x 36 ≤ 2147483647 := vi_ir
                have e610 : vi V549 x 36 = vi V463 x 36 := vi_fr hF548 h_x h_x (by decide +kernel)
                have e611 : vi V549 x 38 = vi V463 x 38 := vi_fr hF548 h_x h_x (by decide +kernel)
                exact GO.retz rfl rfl dX12_readsClause_267 (Or.inl rfl) ⟨rfl, _, rfl, (ir_c rfl), ⟨Or.inl rfl, fun h => absurd rfl h, fun _ => trivial, (by first | exact fun h => absurd rfl h | exact fun _ => TC.rc w_0 (RC1.eq hrc0 ak553.2 ak554.2 ak555.2 ak556.2 (by omega)) (by omega) (by omega) (by omega) (by omega) (by omega)), (by first | exact ⟨fun hq => absurd rfl hq, fun _ => RLX.num (rn := fun _ _ v s => .ok (s, (_, v, _, _))) hg1 hT5 rq0_260 (by omega)⟩ | exact ⟨fun hq => absurd rfl hq, fun _ => RLX.e4 (by omega) (by unfold isCL; exact decide_eq_true (by omega)) (by omega) (by omega)⟩ | exact ⟨fun hq => absurd rfl hq, fun _ => RLX.e1 (fun _ _ h => h) rfl (by omega) (by unfold isCL; exact decide_eq_false (by omega)) (by omega)⟩)⟩⟩
            ·
              refine GO.iload_n dX12_readsClause_232 rfl rfl ?_
              refine GO.bipush dX12_readsClause_233 rfl ?_
              refine GO.icmp_eq (tgt := 256) dX12_readsClause_235 (by decide) r12 (ir_c rfl) (fun c613 => ?_) (fun c613 => ?_)
              ·
                have gs6 := (rfl : sd V463 x = sd V463 x)
                have hg1 := RL2.n hrc1 (by omega)
                refine GO.useFR (fun hFs => ?_)
                have hT5 : ∀ src e, TP V x src e → TP V463 x src e := fun src e h => TP.fr h hFs hW_0 h_x (by decide +kernel) (by decide +kernel) (by decide +kernel)
                refine GO.aload_n dX12_readsClause_256 rfl rfl ?_
                refine GO.ldcw (X := 999999) dX12_readsClause_257 gw_2095 rfl ?_
                refine GO.callV (ci := 11) (N := mX12_readsNumber) dX12_readsClause_260 (RX12, TX12, 151) rfl gV_RX12_486 h_x (t_X12_readsNumber h_x (ir_c rfl)) rfl [] rfl rfl (Nat.le_of_ble_eq_true rfl) rfl (k_is fun X614 V618 r615 h616 hF617 => ?_)
                have k619 := st_fr hF617 aq466 h_x (by decide +kernel) (by decide +kernel) (by decide +kernel) (by decide +kernel)
                have sS620 : sd V618 x = sd V463 x := k619.2.1.trans (rfl : sd V463 x = sd V463 x)
                have sQ621 : wt V618 x = wt V463 x := k619.2.2.trans (rfl : wt V463 x = wt V463 x)
                have ak622 := tk_fr hF617 ak468 h_x (by decide +kernel) (by decide +kernel) (rfl : ar 39 V463 x = ar 39 V463 x)
                have ak623 := tk_fr hF617 ak469 h_x (by decide +kernel) (by decide +kernel) (rfl : ar 41 V463 x = ar 41 V463 x)
                have ak624 := tk_fr hF617 ak470 h_x (by decide +kernel) (by decide +kernel) (rfl : ar 42 V463 x = ar 42 V463 x)
                have ak625 := tk_fr hF617 ak471 h_x (by decide +kernel) (by decide +kernel) (rfl : ar 43 V463 x = ar 43 V463 x)
                have ak626 := tk_fr hF617 ak472 h_x (by decide +kernel) (by decide +kernel) (rfl : ar 44 V463 x = ar 44 V463 x)
                have ak627 := tk_fr hF617 ak473 h_x (by decide +kernel) (by decide +kernel) (rfl : ar 45 V463 x = ar 45 V463 x)
                have ak628 := tk_fr hF617 ak474 h_x (by decide +kernel) (by decide +kernel) (rfl : ar 46 V463 x = ar 46 V463 x)
                have rq0_260 := h616.2.2.2
                refine GO.if_ne (tgt := 268) dX12_readsClause_263 (by decide) r615 (fun c631 => ?_) (fun c631 => ?_)
                ·
                  have q632 := h616.2.1 (by omega)
                  have e633 : vi V618 x 36 = vi V463 x 36 := vi_fr hF617 h_x h_x (by decide +kernel)
                  have e634 : vi V618 x 38 = vi V463 x 38 := vi_fr hF617 h_x h_x (by decide +kernel)
                  have gs7 := sS620
                  have hg2 := RLE.num (rn := fun _ _ v s => .ok (s, (X11, v, _, _))) hg1 hT5 rq0_260 (by omega) (by omega) (gs7.trans gs6.symm)
                  refine GO.aload_n dX12_readsClause_268 rfl rfl ?_
                  refine GO.getA (n := 12) h_x fl_RX12_103 rfl rfl rfl rfl dX12_readsClause_269 (fun hv636 h635 => ?_)
                  refine GO.iload_n dX12_readsClause_272 rfl rfl ?_
                  refine GO.aload_n dX12_readsClause_273 rfl rfl ?_
                  refine GO.getI h_x fl_RX12_459 rfl rfl dX12_readsClause_274 (fun _ _ => ?_)
                  have q637 : -2147483648 ≤ vi V463 x 38 ∧ vi V463 x 38 ≤ 2147483647 := vi_ir
                  refine GO.iast (t := 37) rfl rfl (by decide +kernel) h635 r44 (by omega) (by omega) vi_ir (vi_ir).1 (vi_ir).2 dX12_readsClause_277 (fun V639 e638 => ?_)
                  have k640 := st_oth e638 k619.1 h_x h635 (by decide) (by decide)
                  have sS641 : sd V639 x = sd V463 x := k640.2.1.trans sS620
                  have sQ642 : wt V639 x = wt V463 x := k640.2.2.trans sQ621
                  have ak643 := tk_oth e638 ak622.1 h_x h635 (by decide) (by decide) ak622.2
                  have ak644 := tk_oth e638 ak623.1 h_x h635 (by decide) (by decide) ak623.2
                  have ak645 := tk_oth e638 ak624.1 h_x h635 (by decide) (by decide) ak624.2
                  have ak646 := tk_oth e638 ak625.1 h_x h635 (by decide) (by decide) ak625.2
                  have ak647 := tk_put e638 ak626.1 h_x (vq_of hv636) vi_ir ak626.2
                  have ak648 := tk_oth e638 ak627.1 h_x h635 (by decide) (by decide) ak627.2
                  have ak649 := tk_oth e638 ak628.1 h_x h635 (by decide) (by decide) ak628.2
                  have e650 : vi V639 x 36 = vi V618 x 36 := vi_up e638 (Or.inl (K_ne h_x h635 (by decide)))
                  have e651 : vi V639 x 31 = vi V618 x 31 := vi_up e638 (Or.inl (K_ne h_x h635 (by decide)))
                  have e652 : vi V639 x 38 = vi V618 x 38 := vi_up e638 (Or.inl (K_ne h_x h635 (by decide)))
                  refine GO.useWT (fun hWe => ?_)
                  have hce := hWe.cnt h_x
                  refine GO.aload_n dX12_readsClause_278 rfl rfl ?_
                  refine GO.aload_n dX12_readsClause_279 rfl rfl ?_
                  refine GO.getI h_x fl_RX12_526 rfl rfl dX12_readsClause_280 (fun l653 u654 => ?_)
                  refine GO.iconst dX12_readsClause_283 ?_
                  refine GO.iadd dX12_readsClause_284 ?_
                  refine GO.putI h_x fp_RX12_526 rfl (by decide +kernel) ⟨by omega, by omega⟩ (by omega) (by omega) dX12_readsClause_285 (fun V656 e655 => ?_)
                  have k657 := st_fld e655 k640.1 h_x (by decide) (by decide)
                  have sS658 : sd V656 x = sd V463 x := k657.2.1.trans sS641
                  have sQ659 : wt V656 x = wt V463 x := k657.2.2.trans sQ642
                  have ak660 := tk_fld e655 ak643.1 h_x (by decide) ak643.2
                  have ak661 := tk_fld e655 ak644.1 h_x (by decide) ak644.2
                  have ak662 := tk_fld e655 ak645.1 h_x (by decide) ak645.2
                  have ak663 := tk_fld e655 ak646.1 h_x (by decide) ak646.2
                  have ak664 := tk_fld e655 ak647.1 h_x (by decide) ak647.2
                  have ak665 := tk_fld e655 ak648.1 h_x (by decide) ak648.2
                  have ak666 := tk_fld e655 ak649.1 h_x (by decide) ak649.2
                  refine GO.iconst dX12_readsClause_288 ?_
                  have e667 : vi V656 x 31 = vi V639 x 31 := vi_up e655 (Or.inr (by decide))
                  have q668 : -2147483648 ≤ vi V618 x 31 ∧ vi V618 x 31 ≤ 2147483647 := vi_ir
                  have q669 : -2147483648 ≤ vi V463 x 31 ∧ vi V463 x 31 ≤ 2147483647 := vi_ir
                  have q670 : -2147483648 ≤ vi V463 x 36 ∧ vi V463 x 36 ≤ 2147483647 := vi_ir
                  have e671 : vi V656 x 36 = vi V639 x 36 := vi_up e655 (Or.inr (by decide))
                  have e672 : vi V656 x 38 = (vi V639 x 38) + 1 := upd2_int e655 ⟨by omega, by omega⟩
                  exact GO.retz rfl rfl dX12_readsClause_289 (Or.inr rfl) ⟨rfl, _, rfl, (ir_c rfl), ⟨Or.inr rfl, fun h => by omega, fun _ => trivial, (by first | exact fun h => absurd h (by decide) | exact fun _ => TC.rc w_0 (RC1.eq hrc0 ak660.2 ak661.2 ak662.2 ak663.2 (by omega)) (by omega) (by omega) (by omega) (by omega) (by omega)), (by first | exact RCS.fin hrc1.1 (by omega) (by omega) hg2 (Or.inr ak664.2) (by omega) (by omega) (by omega) ((sS658).trans gs7.symm) ak661.2 ak665.2 ak666.2 (by omega) | exact RCS.fin hrc1.1 (by omega) (by omega) (RL2.o hrc1 (by omega)) (Or.inl ⟨ak664.2, hrc1.2.1⟩) (by omega) (by omega) (by omega) (sS658) ak661.2 ak665.2 ak666.2 (by omega))⟩⟩
                ·
                  refine GO.iconst dX12_readsClause_266 ?_
                  have q676 : -2147483648 ≤ vi V618 x 31 ∧ vi V618 x 31 ≤ 2147483647 := vi_ir
                  have q677 : -2147483648 ≤ vi V463 x 31 ∧ vi V463 x 31 ≤ 2147483647 := vi_ir
                  have q678 : -2147483648 ≤ vi V463 x 36 ∧ vi V463 x 36 ≤ 2147483647 := vi_ir
                  have e679 : vi V618 x 36 = vi V463 x 36 := vi_fr hF617 h_x h_x (by decide +kernel)
                  have e680 : vi V618 x 38 = vi V463 x 38 := vi_fr hF617 h_x h_x (by decide +kernel)
                  exact GO.retz rfl rfl dX12_readsClause_267 (Or.inl rfl) ⟨rfl, _, rfl, (ir_c rfl), ⟨Or.inl rfl, fun h => absurd rfl h, fun _ => trivial, (by first | exact fun h => absurd rfl h | exact fun _ => TC.rc w_0 (RC1.eq hrc0 ak622.2 ak623.2 ak624.2 ak625.2 (by omega)) (by omega) (by omega) (by omega) (by omega) (by omega)), (by first | exact ⟨fun hq => absurd rfl hq, fun _ => RLX.num (rn := fun _ _ v s => .ok (s, (_, v, _, _))) hg1 hT5 rq0_260 (by omega)⟩ | exact ⟨fun hq => absurd rfl hq, fun _ => RLX.e4 (by omega) (by unfold isCL; exact decide_eq_true (by omega)) (by omega) (by omega)⟩ | exact ⟨fun hq => absurd rfl hq, fun _ => RLX.e1 (fun _ _ h => h) rfl (by omega) (by unfold isCL; exact decide_eq_false (by omega)) (by omega)⟩)⟩⟩
              ·
                refine GO.iload_n dX12_readsClause_238 rfl rfl ?_
                refine GO.bipush dX12_readsClause_239 rfl ?_
                refine GO.icmp_eq (tgt := 256) dX12_readsClause_241 (by decide) r12 (ir_c rfl) (fun c682 => ?_) (fun c682 => ?_)
                ·
                  have gs6 := (rfl : sd V463 x = sd V463 x)
                  have hg1 := RL2.n hrc1 (by omega)
                  refine GO.useFR (fun hFs => ?_)
                  have hT5 : ∀ src e, TP V x src e → TP V463 x src e := fun src e h => TP.fr h hFs hW_0 h_x (by decide +kernel) (by decide +kernel) (by decide +kernel)
                  refine GO.aload_n dX12_readsClause_256 rfl rfl ?_
                  refine GO.ldcw (X := 999999) dX12_readsClause_257 gw_2095 rfl ?_
                  refine GO.callV (ci := 11) (N := mX12_readsNumber) dX12_readsClause_260 (RX12, TX12, 151) rfl gV_RX12_486 h_x (t_X12_readsNumber h_x (ir_c rfl)) rfl [] rfl rfl (Nat.le_of_ble_eq_true rfl) rfl (k_is fun X683 V687 r684 h685 hF686 => ?_)
                  have k688 := st_fr hF686 aq466 h_x (by decide +kernel) (by decide +kernel) (by decide +kernel) (by decide +kernel)
                  have sS689 : sd V687 x = sd V463 x := k688.2.1.trans (rfl : sd V463 x = sd V463 x)
                  have sQ690 : wt V687 x = wt V463 x := k688.2.2.trans (rfl : wt V463 x = wt V463 x)
                  have ak691 := tk_fr hF686 ak468 h_x (by decide +kernel) (by decide +kernel) (rfl : ar 39 V463 x = ar 39 V463 x)
                  have ak692 := tk_fr hF686 ak469 h_x (by decide +kernel) (by decide +kernel) (rfl : ar 41 V463 x = ar 41 V463 x)
                  have ak693 := tk_fr hF686 ak470 h_x (by decide +kernel) (by decide +kernel) (rfl : ar 42 V463 x = ar 42 V463 x)
                  have ak694 := tk_fr hF686 ak471 h_x (by decide +kernel) (by decide +kernel) (rfl : ar 43 V463 x = ar 43 V463 x)
                  have ak695 := tk_fr hF686 ak472 h_x (by decide +kernel) (by decide +kernel) (rfl : ar 44 V463 x = ar 44 V463 x)
                  have ak696 := tk_fr hF686 ak473 h_x (by decide +kernel) (by decide +kernel) (rfl : ar 45 V463 x = ar 45 V463 x)
                  have ak697 := tk_fr hF686 ak474 h_x (by decide +kernel) (by decide +kernel) (rfl : ar 46 V463 x = ar 46 V463 x)
                  have rq0_260 := h685.2.2.2
                  refine GO.if_ne (tgt := 268) dX12_readsClause_263 (by decide) r684 (fun c700 => ?_) (fun c700 => ?_)
                  ·
                    have q701 := h685.2.1 (by omega)
                    have e702 : vi V687 x 36 = vi V463 x 36 := vi_fr hF686 h_x h_x (by decide +kernel)
                    have e703 : vi V687 x 38 = vi V463 x 38 := vi_fr hF686 h_x h_x (by decide +kernel)
                    have gs7 := sS689
                    have hg2 := RLE.num (rn := fun _ _ v s => .ok (s, (X11, v, _, _))) hg1 hT5 rq0_260 (by omega) (by omega) (gs7.trans gs6.symm)
                    refine GO.aload_n dX12_readsClause_268 rfl rfl ?_
                    refine GO.getA (n := 12) h_x fl_RX12_103 rfl rfl rfl rfl dX12_readsClause_269 (fun hv705 h704 => ?_)
                    refine GO.iload_n dX12_readsClause_272 rfl rfl ?_
                    refine GO.aload_n dX12_readsClause_273 rfl rfl ?_
                    refine GO.getI h_x fl_RX12_459 rfl rfl dX12_readsClause_274 (fun _ _ => ?_)
                    have q706 : -2147483648 ≤ vi V463 x 38 ∧ vi V463 x 38 ≤ 2147483647 := vi_ir
                    refine GO.iast (t := 37) rfl rfl (by decide +kernel) h704 r44 (by omega) (by omega) vi_ir (vi_ir).1 (vi_ir).2 dX12_readsClause_277 (fun V708 e707 => ?_)
                    have k709 := st_oth e707 k688.1 h_x h704 (by decide) (by decide)
                    have sS710 : sd V708 x = sd V463 x := k709.2.1.trans sS689
                    have sQ711 : wt V708 x = wt V463 x := k709.2.2.trans sQ690
                    have ak712 := tk_oth e707 ak691.1 h_x h704 (by decide) (by decide) ak691.2
                    have ak713 := tk_oth e707 ak692.1 h_x h704 (by decide) (by decide) ak692.2
                    have ak714 := tk_oth e707 ak693.1 h_x h704 (by decide) (by decide) ak693.2
                    have ak715 := tk_oth e707 ak694.1 h_x h704 (by decide) (by decide) ak694.2
                    have ak716 := tk_put e707 ak695.1 h_x (vq_of hv705) vi_ir ak695.2
                    have ak717 := tk_oth e707 ak696.1 h_x h704 (by decide) (by decide) ak696.2
                    have ak718 := tk_oth e707 ak697.1 h_x h704 (by decide) (by decide) ak697.2
                    have e719 : vi V708 x 36 = vi V687 x 36 := vi_up e707 (Or.inl (K_ne h_x h704 (by decide)))
                    have e720 : vi V708 x 31 = vi V687 x 31 := vi_up e707 (Or.inl (K_ne h_x h704 (by decide)))
                    have e721 : vi V708 x 38 = vi V687 x 38 := vi_up e707 (Or.inl (K_ne h_x h704 (by decide)))
                    refine GO.useWT (fun hWe => ?_)
                    have hce := hWe.cnt h_x
                    refine GO.aload_n dX12_readsClause_278 rfl rfl ?_
                    refine GO.aload_n dX12_readsClause_279 rfl rfl ?_
                    refine GO.getI h_x fl_RX12_526 rfl rfl dX12_readsClause_280 (fun l722 u723 => ?_)
                    refine GO.iconst dX12_readsClause_283 ?_
                    refine GO.iadd dX12_readsClause_284 ?_
                    refine GO.putI h_x fp_RX12_526 rfl (by decide +kernel) ⟨by omega, by omega⟩ (by omega) (by omega) dX12_readsClause_285 (fun V725 e724 => ?_)
                    have k726 := st_fld e724 k709.1 h_x (by decide) (by decide)
                    have sS727 : sd V725 x = sd V463 x := k726.2.1.trans sS710
                    have sQ728 : wt V725 x = wt V463 x := k726.2.2.trans sQ711
                    have ak729 := tk_fld e724 ak712.1 h_x (by decide) ak712.2
                    have ak730 := tk_fld e724 ak713.1 h_x (by decide) ak713.2
                    have ak731 := tk_fld e724 ak714.1 h_x (by decide) ak714.2
                    have ak732 := tk_fld e724 ak715.1 h_x (by decide) ak715.2
                    have ak733 := tk_fld e724 ak716.1 h_x (by decide) ak716.2
                    have ak734 := tk_fld e724 ak717.1 h_x (by decide) ak717.2
                    have ak735 := tk_fld e724 ak718.1 h_x (by decide) ak718.2
                    refine GO.iconst dX12_readsClause_288 ?_
                    have e736 : vi V725 x 31 = vi V708 x 31 := vi_up e724 (Or.inr (by decide))
                    have q737 : -2147483648 ≤ vi V687 x 31 ∧ vi V687 x 31 ≤ 2147483647 := vi_ir
                    have q738 : -2147483648 ≤ vi V463 x 31 ∧ vi V463 x 31 ≤ 2147483647 := vi_ir
                    have q739 : -2147483648 ≤ vi V463 x 36 ∧ vi V463 x 36 ≤ 2147483647 := vi_ir
                    have e740 : vi V725 x 36 = vi V708 x 36 := vi_up e724 (Or.inr (by decide))
                    have e741 : vi V725 x 38 = (vi V708 x 38) + 1 := upd2_int e724 ⟨by omega, by omega⟩
                    exact GO.retz rfl rfl dX12_readsClause_289 (Or.inr rfl) ⟨rfl, _, rfl, (ir_c rfl), ⟨Or.inr rfl, fun h => by omega, fun _ => trivial, (by first | exact fun h => absurd h (by decide) | exact fun _ => TC.rc w_0 (RC1.eq hrc0 ak729.2 ak730.2 ak731.2 ak732.2 (by omega)) (by omega) (by omega) (by omega) (by omega) (by omega)), (by first | exact RCS.fin hrc1.1 (by omega) (by omega) hg2 (Or.inr ak733.2) (by omega) (by omega) (by omega) ((sS727).trans gs7.symm) ak730.2 ak734.2 ak735.2 (by omega) | exact RCS.fin hrc1.1 (by omega) (by omega) (RL2.o hrc1 (by omega)) (Or.inl ⟨ak733.2, hrc1.2.1⟩) (by omega) (by omega) (by omega) (sS727) ak730.2 ak734.2 ak735.2 (by omega))⟩⟩
                  ·
                    refine GO.iconst dX12_readsClause_266 ?_
                    have q745 : -2147483648 ≤ vi V687 x 31 ∧ vi V687 x 31 ≤ 2147483647 := vi_ir
                    have q746 : -2147483648 ≤ vi V463 x 31 ∧ vi V463 x 31 ≤ 2147483647 := vi_ir
                    have q747 : -2147483648 ≤ vi V463 x 36 ∧ vi V463 x 36 ≤ 2147483647 := vi_ir
                    have e748 : vi V687 x 36 = vi V463 x 36 := vi_fr hF686 h_x h_x (by decide +kernel)
                    have e749 : vi V687 x 38 = vi V463 x 38 := vi_fr hF686 h_x h_x (by decide +kernel)
                    exact GO.retz rfl rfl dX12_readsClause_267 (Or.inl rfl) ⟨rfl, _, rfl, (ir_c rfl), ⟨Or.inl rfl, fun h => absurd rfl h, fun _ => trivial, (by first | exact fun h => absurd rfl h | exact fun _ => TC.rc w_0 (RC1.eq hrc0 ak691.2 ak692.2 ak693.2 ak694.2 (by omega)) (by omega) (by omega) (by omega) (by omega) (by omega)), (by first | exact ⟨fun hq => absurd rfl hq, fun _ => RLX.num (rn := fun _ _ v s => .ok (s, (_, v, _, _))) hg1 hT5 rq0_260 (by omega)⟩ | exact ⟨fun hq => absurd rfl hq, fun _ => RLX.e4 (by omega) (by unfold isCL; exact decide_eq_true (by omega)) (by omega) (by omega)⟩ | exact ⟨fun hq => absurd rfl hq, fun _ => RLX.e1 (fun _ _ h => h) rfl (by omega) (by unfold isCL; exact decide_eq_false (by omega)) (by omega)⟩)⟩⟩
                ·
                  refine GO.iload_n dX12_readsClause_244 rfl rfl ?_
                  refine GO.bipush dX12_readsClause_245 rfl ?_
                  refine GO.icmp_eq (tgt := 256) dX12_readsClause_247 (by decide) r12 (ir_c rfl) (fun c751 => ?_) (fun c751 => ?_)
                  ·
                    have gs6 := (rfl : sd V463 x = sd V463 x)
                    have hg1 := RL2.n hrc1 (by omega)
                    refine GO.useFR (fun hFs => ?_)
                    have hT5 : ∀ src e, TP V x src e → TP V463 x src e := fun src e h => TP.fr h hFs hW_0 h_x (by decide +kernel) (by decide +kernel) (by decide +kernel)
                    refine GO.aload_n dX12_readsClause_256 rfl rfl ?_
                    refine GO.ldcw (X := 999999) dX12_readsClause_257 gw_2095 rfl ?_
                    refine GO.callV (ci := 11) (N := mX12_readsNumber) dX12_readsClause_260 (RX12, TX12, 151) rfl gV_RX12_486 h_x (t_X12_readsNumber h_x (ir_c rfl)) rfl [] rfl rfl (Nat.le_of_ble_eq_true rfl) rfl (k_is fun X752 V756 r753 h754 hF755 => ?_)
                    have k757 := st_fr hF755 aq466 h_x (by decide +kernel) (by decide +kernel) (by decide +kernel) (by decide +kernel)
                    have sS758 : sd V756 x = sd V463 x := k757.2.1.trans (rfl : sd V463 x = sd V463 x)
                    have sQ759 : wt V756 x = wt V463 x := k757.2.2.trans (rfl : wt V463 x = wt V463 x)
                    have ak760 := tk_fr hF755 ak468 h_x (by decide +kernel) (by decide +kernel) (rfl : ar 39 V463 x = ar 39 V463 x)
                    have ak761 := tk_fr hF755 ak469 h_x (by decide +kernel) (by decide +kernel) (rfl : ar 41 V463 x = ar 41 V463 x)
                    have ak762 := tk_fr hF755 ak470 h_x (by decide +kernel) (by decide +kernel) (rfl : ar 42 V463 x = ar 42 V463 x)
                    have ak763 := tk_fr hF755 ak471 h_x (by decide +kernel) (by decide +kernel) (rfl : ar 43 V463 x = ar 43 V463 x)
                    have ak764 := tk_fr hF755 ak472 h_x (by decide +kernel) (by decide +kernel) (rfl : ar 44 V463 x = ar 44 V463 x)
                    have ak765 := tk_fr hF755 ak473 h_x (by decide +kernel) (by decide +kernel) (rfl : ar 45 V463 x = ar 45 V463 x)
                    have ak766 := tk_fr hF755 ak474 h_x (by decide +kernel) (by decide +kernel) (rfl : ar 46 V463 x = ar 46 V463 x)
                    have rq0_260 := h754.2.2.2
                    refine GO.if_ne (tgt := 268) dX12_readsClause_263 (by decide) r753 (fun c769 => ?_) (fun c769 => ?_)
                    ·
                      have q770 := h754.2.1 (by omega)
                      have e771 : vi V756 x 36 = vi V463 x 36 := vi_fr hF755 h_x h_x (by decide +kernel)
                      have e772 : vi V756 x 38 = vi V463 x 38 := vi_fr hF755 h_x h_x (by decide +kernel)
                      have gs7 := sS758
                      have hg2 := RLE.num (rn := fun _ _ v s => .ok (s, (X11, v, _, _))) hg1 hT5 rq0_260 (by omega) (by omega) (gs7.trans gs6.symm)
                      refine GO.aload_n dX12_readsClause_268 rfl rfl ?_
                      refine GO.getA (n := 12) h_x fl_RX12_103 rfl rfl rfl rfl dX12_readsClause_269 (fun hv774 h773 => ?_)
                      refine GO.iload_n dX12_readsClause_272 rfl rfl ?_
                      refine GO.aload_n dX12_readsClause_273 rfl rfl ?_
                      refine GO.getI h_x fl_RX12_459 rfl rfl dX12_readsClause_274 (fun _ _ => ?_)
                      have q775 : -2147483648 ≤ vi V463 x 38 ∧ vi V463 x 38 ≤ 2147483647 := vi_ir
                      refine GO.iast (t := 37) rfl rfl (by decide +kernel) h773 r44 (by omega) (by omega) vi_ir (vi_ir).1 (vi_ir).2 dX12_readsClause_277 (fun V777 e776 => ?_)
                      have k778 := st_oth e776 k757.1 h_x h773 (by decide) (by decide)
                      have sS779 : sd V777 x = sd V463 x := k778.2.1.trans sS758
                      have sQ780 : wt V777 x = wt V463 x := k778.2.2.trans sQ759
                      have ak781 := tk_oth e776 ak760.1 h_x h773 (by decide) (by decide) ak760.2
                      have ak782 := tk_oth e776 ak761.1 h_x h773 (by decide) (by decide) ak761.2
                      have ak783 := tk_oth e776 ak762.1 h_x h773 (by decide) (by decide) ak762.2
                      have ak784 := tk_oth e776 ak763.1 h_x h773 (by decide) (by decide) ak763.2
                      have ak785 := tk_put e776 ak764.1 h_x (vq_of hv774) vi_ir ak764.2
                      have ak786 := tk_oth e776 ak765.1 h_x h773 (by decide) (by decide) ak765.2
                      have ak787 := tk_oth e776 ak766.1 h_x h773 (by decide) (by decide) ak766.2
                      have e788 : vi V777 x 36 = vi V756 x 36 := vi_up e776 (Or.inl (K_ne h_x h773 (by decide)))
                      have e789 : vi V777 x 31 = vi V756 x 31 := vi_up e776 (Or.inl (K_ne h_x h773 (by decide)))
                      have e790 : vi V777 x 38 = vi V756 x 38 := vi_up e776 (Or.inl (K_ne h_x h773 (by decide)))
                      refine GO.useWT (fun hWe => ?_)
                      have hce := hWe.cnt h_x
                      refine GO.aload_n dX12_readsClause_278 rfl rfl ?_
                      refine GO.aload_n dX12_readsClause_279 rfl rfl ?_
                      refine GO.getI h_x fl_RX12_526 rfl rfl dX12_readsClause_280 (fun l791 u792 => ?_)
                      refine GO.iconst dX12_readsClause_283 ?_
                      refine GO.iadd dX12_readsClause_284 ?_
                      refine GO.putI h_x fp_RX12_526 rfl (by decide +kernel) ⟨by omega, by omega⟩ (by omega) (by omega) dX12_readsClause_285 (fun V794 e793 => ?_)
                      have k795 := st_fld e793 k778.1 h_x (by decide) (by decide)
                      have sS796 : sd V794 x = sd V463 x := k795.2.1.trans sS779
                      have sQ797 : wt V794 x = wt V463 x := k795.2.2.trans sQ780
                      have ak798 := tk_fld e793 ak781.1 h_x (by decide) ak781.2
                      have ak799 := tk_fld e793 ak782.1 h_x (by decide) ak782.2
                      have ak800 := tk_fld e793 ak783.1 h_x (by decide) ak783.2
                      have ak801 := tk_fld e793 ak784.1 h_x (by decide) ak784.2
                      have ak802 := tk_fld e793 ak785.1 h_x (by decide) ak785.2
                      have ak803 := tk_fld e793 ak786.1 h_x (by decide) ak786.2
                      have ak804 := tk_fld e793 ak787.1 h_x (by decide) ak787.2
                      refine GO.iconst dX12_readsClause_288 ?_
                      have e805 : vi V794 x 31 = vi V777 x 31 := vi_up e793 (Or.inr (by decide))
                      have q806 : -2147483648 ≤ vi V756 x 31 ∧ vi V756 x 31 ≤ 2147483647 := vi_ir
                      have q807 : -2147483648 ≤ vi V463 x 31 ∧ vi V463 x 31 ≤ 2147483647 := vi_ir
                      have q808 : -2147483648 ≤ vi V463 x 36 ∧ vi V463 x 36 ≤ 2147483647 := vi_ir
                      have e809 : vi V794 x 36 = vi V777 x 36 := vi_up e793 (Or.inr (by decide))
                      have e810 : vi V794 x 38 = (vi V777 x 38) + 1 := upd2_int e793 ⟨by omega, by omega⟩
                      exact GO.retz rfl rfl dX12_readsClause_289 (Or.inr rfl) ⟨rfl, _, rfl, (ir_c rfl), ⟨Or.inr rfl, fun h => by omega, fun _ => trivial, (by first | exact fun h => absurd h (by decide) | exact fun _ => TC.rc w_0 (RC1.eq hrc0 ak798.2 ak799.2 ak800.2 ak801.2 (by omega)) (by omega) (by omega) (by omega) (by omega) (by omega)), (by first | exact RCS.fin hrc1.1 (by omega) (by omega) hg2 (Or.inr ak802.2) (by omega) (by omega) (by omega) ((sS796).trans gs7.symm) ak799.2 ak803.2 ak804.2 (by omega) | exact RCS.fin hrc1.1 (by omega) (by omega) (RL2.o hrc1 (by omega)) (Or.inl ⟨ak802.2, hrc1.2.1⟩) (by omega) (by omega) (by omega) (sS796) ak799.2 ak803.2 ak804.2 (by omega))⟩⟩
                    ·
                      refine GO.iconst dX12_readsClause_266 ?_
                      have q814 : -2147483648 ≤ vi V756 x 31 ∧ vi V756 x 31 ≤ 2147483647 := vi_ir
                      have q815 : -2147483648 ≤ vi V463 x 31 ∧ vi V463 x 31 ≤ 2147483647 := vi_ir
                      have q816 : -2147483648 ≤ vi V463 x 36 ∧ vi V463 x 36 ≤ 2147483647 := vi_ir
                      have e817 : vi V756 x 36 = vi V463 x 36 := vi_fr hF755 h_x h_x (by decide +kernel)
                      have e818 : vi V756 x 38 = vi V463 x 38 := vi_fr hF755 h_x h_x (by decide +kernel)
                      exact GO.retz rfl rfl dX12_readsClause_267 (Or.inl rfl) ⟨rfl, _, rfl, (ir_c rfl), ⟨Or.inl rfl, fun h => absurd rfl h, fun _ => trivial, (by first | exact fun h => absurd rfl h | exact fun _ => TC.rc w_0 (RC1.eq hrc0 ak760.2 ak761.2 ak762.2 ak763.2 (by omega)) (by omega) (by omega) (by omega) (by omega) (by omega)), (by first | exact ⟨fun hq => absurd rfl hq, fun _ => RLX.num (rn := fun _ _ v s => .ok (s, (_, v, _, _))) hg1 hT5 rq0_260 (by omega)⟩ | exact ⟨fun hq => absurd rfl hq, fun _ => RLX.e4 (by omega) (by unfold isCL; exact decide_eq_true (by omega)) (by omega) (by omega)⟩ | exact ⟨fun hq => absurd rfl hq, fun _ => RLX.e1 (fun _ _ h => h) rfl (by omega) (by unfold isCL; exact decide_eq_false (by omega)) (by omega)⟩)⟩⟩
                  ·
                    refine GO.iload_n dX12_readsClause_250 rfl rfl ?_
                    refine GO.bipush dX12_readsClause_251 rfl ?_
                    refine GO.icmp_ne (tgt := 278) dX12_readsClause_253 (by decide) r12 (ir_c rfl) (fun c820 => ?_) (fun c820 => ?_)
                    ·
                      refine GO.useWT (fun hWe => ?_)
                      have hce := hWe.cnt h_x
                      refine GO.aload_n dX12_readsClause_278 rfl rfl ?_
                      refine GO.aload_n dX12_readsClause_279 rfl rfl ?_
                      refine GO.getI h_x fl_RX12_526 rfl rfl dX12_readsClause_280 (fun l821 u822 => ?_)
                      refine GO.iconst dX12_readsClause_283 ?_
                      refine GO.iadd dX12_readsClause_284 ?_
                      have q824 : -2147483648 ≤ vi V463 x 38 ∧ vi V463 x 38 ≤ 2147483647 := vi_ir
                      refine GO.putI h_x fp_RX12_526 rfl (by decide +kernel) ⟨by omega, by omega⟩ (by omega) (by omega) dX12_readsClause_285 (fun V825 e823 => ?_)
                      have k826 := st_fld e823 aq466 h_x (by decide) (by decide)
                      have sS827 : sd V825 x = sd V463 x := k826.2.1.trans (rfl : sd V463 x = sd V463 x)
                      have sQ828 : wt V825 x = wt V463 x := k826.2.2.trans (rfl : wt V463 x = wt V463 x)
                      have ak829 := tk_fld e823 ak468 h_x (by decide) (rfl : ar 39 V463 x = ar 39 V463 x)
                      have ak830 := tk_fld e823 ak469 h_x (by decide) (rfl : ar 41 V463 x = ar 41 V463 x)
                      have ak831 := tk_fld e823 ak470 h_x (by decide) (rfl : ar 42 V463 x = ar 42 V463 x)
                      have ak832 := tk_fld e823 ak471 h_x (by decide) (rfl : ar 43 V463 x = ar 43 V463 x)
                      have ak833 := tk_fld e823 ak472 h_x (by decide) (rfl : ar 44 V463 x = ar 44 V463 x)
                      have ak834 := tk_fld e823 ak473 h_x (by decide) (rfl : ar 45 V463 x = ar 45 V463 x)
                      have ak835 := tk_fld e823 ak474 h_x (by decide) (rfl : ar 46 V463 x = ar 46 V463 x)
                      refine GO.iconst dX12_readsClause_288 ?_
                      have e836 : vi V825 x 31 = vi V463 x 31 := vi_up e823 (Or.inr (by decide))
                      have q837 : -2147483648 ≤ vi V463 x 31 ∧ vi V463 x 31 ≤ 2147483647 := vi_ir
                      have q838 : -2147483648 ≤ vi V463 x 36 ∧ vi V463 x 36 ≤ 2147483647 := vi_ir
                      have e839 : vi V825 x 36 = vi V463 x 36 := vi_up e823 (Or.inr (by decide))
                      have e840 : vi V825 x 38 = (vi V463 x 38) + 1 := upd2_int e823 ⟨by omega, by omega⟩
                      exact GO.retz rfl rfl dX12_readsClause_289 (Or.inr rfl) ⟨rfl, _, rfl, (ir_c rfl), ⟨Or.inr rfl, fun h => by omega, fun _ => trivial, (by first | exact fun h => absurd h (by decide) | exact fun _ => TC.rc w_0 (RC1.eq hrc0 ak829.2 ak830.2 ak831.2 ak832.2 (by omega)) (by omega) (by omega) (by omega) (by omega) (by omega)), (by first | exact RCS.fin hrc1.1 (by omega) (by omega) (RL2.o hrc1 (by omega)) (Or.inl ⟨ak833.2, hrc1.2.1⟩) (by omega) (by omega) (by omega) (sS827) ak830.2 ak834.2 ak835.2 (by omega))⟩⟩
                    ·
                      have gs6 := (rfl : sd V463 x = sd V463 x)
                      have hg1 := RL2.n hrc1 (by omega)
                      refine GO.useFR (fun hFs => ?_)
                      have hT5 : ∀ src e, TP V x src e → TP V463 x src e := fun src e h => TP.fr h hFs hW_0 h_x (by decide +kernel) (by decide +kernel) (by decide +kernel)
                      refine GO.aload_n dX12_readsClause_256 rfl rfl ?_
                      refine GO.ldcw (X := 999999) dX12_readsClause_257 gw_2095 rfl ?_
                      refine GO.callV (ci := 11) (N := mX12_readsNumber) dX12_readsClause_260 (RX12, TX12, 151) rfl gV_RX12_486 h_x (t_X12_readsNumber h_x (ir_c rfl)) rfl [] rfl rfl (Nat.le_of_ble_eq_true rfl) rfl (k_is fun X842 V846 r843 h844 hF845 => ?_)
                      have k847 := st_fr hF845 aq466 h_x (by decide +kernel) (by decide +kernel) (by decide +kernel) (by decide +kernel)
                      have sS848 : sd V846 x = sd V463 x := k847.2.1.trans (rfl : sd V463 x = sd V463 x)
                      have sQ849 : wt V846 x = wt V463 x := k847.2.2.trans (rfl : wt V463 x = wt V463 x)
                      have ak850 := tk_fr hF845 ak468 h_x (by decide +kernel) (by decide +kernel) (rfl : ar 39 V463 x = ar 39 V463 x)
                      have ak851 := tk_fr hF845 ak469 h_x (by decide +kernel) (by decide +kernel) (rfl : ar 41 V463 x = ar 41 V463 x)
                      have ak852 := tk_fr hF845 ak470 h_x (by decide +kernel) (by decide +kernel) (rfl : ar 42 V463 x = ar 42 V463 x)
                      have ak853 := tk_fr hF845 ak471 h_x (by decide +kernel) (by decide +kernel) (rfl : ar 43 V463 x = ar 43 V463 x)
                      have ak854 := tk_fr hF845 ak472 h_x (by decide +kernel) (by decide +kernel) (rfl : ar 44 V463 x = ar 44 V463 x)
                      have ak855 := tk_fr hF845 ak473 h_x (by decide +kernel) (by decide +kernel) (rfl : ar 45 V463 x = ar 45 V463 x)
                      have ak856 := tk_fr hF845 ak474 h_x (by decide +kernel) (by decide +kernel) (rfl : ar 46 V463 x = ar 46 V463 x)
                      have rq0_260 := h844.2.2.2
                      refine GO.if_ne (tgt := 268) dX12_readsClause_263 (by decide) r843 (fun c859 => ?_) (fun c859 => ?_)
                      ·
                        have q860 := h844.2.1 (by omega)
                        have e861 : vi V846 x 36 = vi V463 x 36 := vi_fr hF845 h_x h_x (by decide +kernel)
                        have e862 : vi V846 x 38 = vi V463 x 38 := vi_fr hF845 h_x h_x (by decide +kernel)
                        have gs7 := sS848
                        have hg2 := RLE.num (rn := fun _ _ v s => .ok (s, (X11, v, _, _))) hg1 hT5 rq0_260 (by omega) (by omega) (gs7.trans gs6.symm)
                        refine GO.aload_n dX12_readsClause_268 rfl rfl ?_
                        refine GO.getA (n := 12) h_x fl_RX12_103 rfl rfl rfl rfl dX12_readsClause_269 (fun hv864 h863 => ?_)
                        refine GO.iload_n dX12_readsClause_272 rfl rfl ?_
                        refine GO.aload_n dX12_readsClause_273 rfl rfl ?_
                        refine GO.getI h_x fl_RX12_459 rfl rfl dX12_readsClause_274 (fun _ _ => ?_)
                        have q865 : -2147483648 ≤ vi V463 x 38 ∧ vi V463 x 38 ≤ 2147483647 := vi_ir
                        refine GO.iast (t := 37) rfl rfl (by decide +kernel) h863 r44 (by omega) (by omega) vi_ir (vi_ir).1 (vi_ir).2 dX12_readsClause_277 (fun V867 e866 => ?_)
                        have k868 := st_oth e866 k847.1 h_x h863 (by decide) (by decide)
                        have sS869 : sd V867 x = sd V463 x := k868.2.1.trans sS848
                        have sQ870 : wt V867 x = wt V463 x := k868.2.2.trans sQ849
                        have ak871 := tk_oth e866 ak850.1 h_x h863 (by decide) (by decide) ak850.2
                        have ak872 := tk_oth e866 ak851.1 h_x h863 (by decide) (by decide) ak851.2
                        have ak873 := tk_oth e866 ak852.1 h_x h863 (by decide) (by decide) ak852.2
                        have ak874 := tk_oth e866 ak853.1 h_x h863 (by decide) (by decide) ak853.2
                        have ak875 := tk_put e866 ak854.1 h_x (vq_of hv864) vi_ir ak854.2
                        have ak876 := tk_oth e866 ak855.1 h_x h863 (by decide) (by decide) ak855.2
                        have ak877 := tk_oth e866 ak856.1 h_x h863 (by decide) (by decide) ak856.2
                        have e878 : vi V867 x 36 = vi V846 x 36 := vi_up e866 (Or.inl (K_ne h_x h863 (by decide)))
                        have e879 : vi V867 x 31 = vi V846 x 31 := vi_up e866 (Or.inl (K_ne h_x h863 (by decide)))
                        have e880 : vi V867 x 38 = vi V846 x 38 := vi_up e866 (Or.inl (K_ne h_x h863 (by decide)))
                        refine GO.useWT (fun hWe => ?_)
                        have hce := hWe.cnt h_x
                        refine GO.aload_n dX12_readsClause_278 rfl rfl ?_
                        refine GO.aload_n dX12_readsClause_279 rfl rfl ?_
                        refine GO.getI h_x fl_RX12_526 rfl rfl dX12_readsClause_280 (fun l881 u882 => ?_)
                        refine GO.iconst dX12_readsClause_283 ?_
                        refine GO.iadd dX12_readsClause_284 ?_
                        refine GO.putI h_x fp_RX12_526 rfl (by decide +kernel) ⟨by omega, by omega⟩ (by omega) (by omega) dX12_readsClause_285 (fun V884 e883 => ?_)
                        have k885 := st_fld e883 k868.1 h_x (by decide) (by decide)
                        have sS886 : sd V884 x = sd V463 x := k885.2.1.trans sS869
                        have sQ887 : wt V884 x = wt V463 x := k885.2.2.trans sQ870
                        have ak888 := tk_fld e883 ak871.1 h_x (by decide) ak871.2
                        have ak889 := tk_fld e883 ak872.1 h_x (by decide) ak872.2
                        have ak890 := tk_fld e883 ak873.1 h_x (by decide) ak873.2
                        have ak891 := tk_fld e883 ak874.1 h_x (by decide) ak874.2
                        have ak892 := tk_fld e883 ak875.1 h_x (by decide) ak875.2
                        have ak893 := tk_fld e883 ak876.1 h_x (by decide) ak876.2
                        have ak894 := tk_fld e883 ak877.1 h_x (by decide) ak877.2
                        refine GO.iconst dX12_readsClause_288 ?_
                        have e895 : vi V884 x 31 = vi V867 x 31 := vi_up e883 (Or.inr (by decide))
                        have q896 : -2147483648 ≤ vi V846 x 31 ∧ vi V846 x 31 ≤ 2147483647 := vi_ir
                        have q897 : -2147483648 ≤ vi V463 x 31 ∧ vi V463 x 31 ≤ 2147483647 := vi_ir
                        have q898 : -2147483648 ≤ vi V463 x 36 ∧ vi V463 x 36 ≤ 2147483647 := vi_ir
                        have e899 : vi V884 x 36 = vi V867 x 36 := vi_up e883 (Or.inr (by decide))
                        have e900 : vi V884 x 38 = (vi V867 x 38) + 1 := upd2_int e883 ⟨by omega, by omega⟩
                        exact GO.retz rfl rfl dX12_readsClause_289 (Or.inr rfl) ⟨rfl, _, rfl, (ir_c rfl), ⟨Or.inr rfl, fun h => by omega, fun _ => trivial, (by first | exact fun h => absurd h (by decide) | exact fun _ => TC.rc w_0 (RC1.eq hrc0 ak888.2 ak889.2 ak890.2 ak891.2 (by omega)) (by omega) (by omega) (by omega) (by omega) (by omega)), (by first | exact RCS.fin hrc1.1 (by omega) (by omega) hg2 (Or.inr ak892.2) (by omega) (by omega) (by omega) ((sS886).trans gs7.symm) ak889.2 ak893.2 ak894.2 (by omega) | exact RCS.fin hrc1.1 (by omega) (by omega) (RL2.o hrc1 (by omega)) (Or.inl ⟨ak892.2, hrc1.2.1⟩) (by omega) (by omega) (by omega) (sS886) ak889.2 ak893.2 ak894.2 (by omega))⟩⟩
                      ·
                        refine GO.iconst dX12_readsClause_266 ?_
                        have q904 : -2147483648 ≤ vi V846 x 31 ∧ vi V846 x 31 ≤ 2147483647 := vi_ir
                        have q905 : -2147483648 ≤ vi V463 x 31 ∧ vi V463 x 31 ≤ 2147483647 := vi_ir
                        have q906 : -2147483648 ≤ vi V463 x 36 ∧ vi V463 x 36 ≤ 2147483647 := vi_ir
                        have e907 : vi V846 x 36 = vi V463 x 36 := vi_fr hF845 h_x h_x (by decide +kernel)
                        have e908 : vi V846 x 38 = vi V463 x 38 := vi_fr hF845 h_x h_x (by decide +kernel)
                        exact GO.retz rfl rfl dX12_readsClause_267 (Or.inl rfl) ⟨rfl, _, rfl, (ir_c rfl), ⟨Or.inl rfl, fun h => absurd rfl h, fun _ => trivial, (by first | exact fun h => absurd rfl h | exact fun _ => TC.rc w_0 (RC1.eq hrc0 ak850.2 ak851.2 ak852.2 ak853.2 (by omega)) (by omega) (by omega) (by omega) (by omega) (by omega)), (by first | exact ⟨fun hq => absurd rfl hq, fun _ => RLX.num (rn := fun _ _ v s => .ok (s, (_, v, _, _))) hg1 hT5 rq0_260 (by omega)⟩ | exact ⟨fun hq => absurd rfl hq, fun _ => RLX.e4 (by omega) (by unfold isCL; exact decide_eq_true (by omega)) (by omega) (by omega)⟩ | exact ⟨fun hq => absurd rfl hq, fun _ => RLX.e1 (fun _ _ h => h) rfl (by omega) (by unfold isCL; exact decide_eq_false (by omega)) (by omega)⟩)⟩⟩
        refine GO.icmp_eq (tgt := 132) dX12_readsClause_123 (by decide) r12 (ir_c rfl) (fun c910 => ?_) (fun c910 => ?_)
        ·
          refine GO.aload_n dX12_readsClause_132 rfl rfl ?_
          refine GO.iload_n dX12_readsClause_133 rfl rfl ?_
          refine GO.bipush dX12_readsClause_134 rfl ?_
          refine GO.icmp_ne (tgt := 143) dX12_readsClause_136 (by decide) r12 (ir_c rfl) (fun h => by exfalso; omega) (fun c911 => ?_)
          have e912 : vi V186 x 31 = vi V166 x 31 := vi_up e183 (Or.inl (K_ne h_x h178 (by decide)))
          have e913 : vi V186 x 36 = vi V166 x 36 := vi_up e183 (Or.inl (K_ne h_x h178 (by decide)))
          have e914 : vi V186 x 38 = vi V166 x 38 := vi_up e183 (Or.inl (K_ne h_x h178 (by decide)))
          have he1 := (RL1.k hrc1 (by omega)).same (V1 := V186) (by omega) (by omega) (sS188)
          have gs0 := sS188
          refine GO.useFR (fun hFs => ?_)
          have hT1 : ∀ src e, TP V x src e → TP V186 x src e := fun src e h => TP.fr h hFs hW_0 h_x (by decide +kernel) (by decide +kernel) (by decide +kernel)
          refine GO.iconst dX12_readsClause_139 ?_
          refine GO.goto (tgt := 145) dX12_readsClause_140 (by decide) ?_
          refine GO.callV (ci := 11) (N := mX12_readsNumber) dX12_readsClause_145 (RX12, TX12, 151) rfl gV_RX12_486 h_x (t_X12_readsNumber h_x (ir_c rfl)) rfl [] rfl rfl (Nat.le_of_ble_eq_true rfl) rfl (k_is fun X915 V919 r916 h917 hF918 => ?_)
          have k920 := st_fr hF918 k187.1 h_x (by decide +kernel) (by decide +kernel) (by decide +kernel) (by decide +kernel)
          have sS921 : sd V919 x = sd V166 x := k920.2.1.trans sS188
          have sQ922 : wt V919 x = wt V166 x := k920.2.2.trans sQ189
          have ak923 := tk_fr hF918 ak190.1 h_x (by decide +kernel) (by decide +kernel) ak190.2
          have ak924 := tk_fr hF918 ak191.1 h_x (by decide +kernel) (by decide +kernel) ak191.2
          have ak925 := tk_fr hF918 ak192.1 h_x (by decide +kernel) (by decide +kernel) ak192.2
          have ak926 := tk_fr hF918 ak193.1 h_x (by decide +kernel) (by decide +kernel) ak193.2
          have ak927 := tk_fr hF918 ak194.1 h_x (by decide +kernel) (by decide +kernel) ak194.2
          have ak928 := tk_fr hF918 ak195.1 h_x (by decide +kernel) (by decide +kernel) ak195.2
          have ak929 := tk_fr hF918 ak196.1 h_x (by decide +kernel) (by decide +kernel) ak196.2
          have rq0_145 := h917.2.2.2
          refine GO.if_ne (tgt := 153) dX12_readsClause_148 (by decide) r916 (fun c932 => ?_) (fun c932 => ?_)
          ·
            have q933 := h917.2.1 (by omega)
            have e934 : vi V919 x 36 = vi V186 x 36 := vi_fr hF918 h_x h_x (by decide +kernel)
            have e935 : vi V919 x 38 = vi V186 x 38 := vi_fr hF918 h_x h_x (by decide +kernel)
            have gs1 := sS921
            try have he2 := RLE.num (rn := fun src e v s => kB src e X11 v s) he1 hT1 rq0_145 (by omega) (by omega) (gs1.trans gs0.symm)
            try have he2 := RLE.num (rn := fun src e v s => xB src e X11 v s) he1 hT1 rq0_145 (by omega) (by omega) (gs1.trans gs0.symm)
            refine GO.aload_n dX12_readsClause_153 rfl rfl ?_
            refine GO.getA (n := 12) h_x fl_RX12_106 rfl rfl rfl rfl dX12_readsClause_154 (fun hv937 h936 => ?_)
            refine GO.iload_n dX12_readsClause_157 rfl rfl ?_
            refine GO.aload_n dX12_readsClause_158 rfl rfl ?_
            refine GO.getI h_x fl_RX12_459 rfl rfl dX12_readsClause_159 (fun _ _ => ?_)
            have q939 : -2147483648 ≤ vi V919 x 34 ∧ vi V919 x 34 ≤ 2147483647 := vi_ir
            refine GO.iast (t := 38) rfl rfl (by decide +kernel) h936 r44 (by omega) (by omega) vi_ir (by omega) (by omega) dX12_readsClause_162 (fun V940 e938 => ?_)
            have k941 := st_oth e938 k920.1 h_x h936 (by decide) (by decide)
            have sS942 : sd V940 x = sd V166 x := k941.2.1.trans sS921
            have sQ943 : wt V940 x = wt V166 x := k941.2.2.trans sQ922
            have ak944 := tk_oth e938 ak923.1 h_x h936 (by decide) (by decide) ak923.2
            have ak945 := tk_oth e938 ak924.1 h_x h936 (by decide) (by decide) ak924.2
            have ak946 := tk_oth e938 ak925.1 h_x h936 (by decide) (by decide) ak925.2
            have ak947 := tk_oth e938 ak926.1 h_x h936 (by decide) (by decide) ak926.2
            have ak948 := tk_oth e938 ak927.1 h_x h936 (by decide) (by decide) ak927.2
            have ak949 := tk_put e938 ak928.1 h_x (vq_of hv937) vi_ir ak928.2
            have ak950 := tk_oth e938 ak929.1 h_x h936 (by decide) (by decide) ak929.2
            have e951 : vi V940 x 31 = vi V919 x 31 := vi_up e938 (Or.inl (K_ne h_x h936 (by decide)))
            have e952 : vi V940 x 36 = vi V919 x 36 := vi_up e938 (Or.inl (K_ne h_x h936 (by decide)))
            have e953 : vi V940 x 38 = vi V919 x 38 := vi_up e938 (Or.inl (K_ne h_x h936 (by decide)))
            have gs2 := sS942
            have he3 := RLE.same (V1 := V940) he2 (by omega) (by omega) (gs2.trans gs1.symm)
            refine GO.useFR (fun hFs => ?_)
            have hT2 : ∀ src e, TP V x src e → TP V940 x src e := fun src e h => TP.fr h hFs hW_0 h_x (by decide +kernel) (by decide +kernel) (by decide +kernel)
            refine GO.aload_n dX12_readsClause_163 rfl rfl ?_
            refine GO.bipush dX12_readsClause_164 rfl ?_
            refine GO.callV (ci := 11) (N := mX12_takes) dX12_readsClause_166 (RX12, TX12, 151) rfl gV_RX12_532 h_x (t_X12_takes h_x (ir_c rfl) (by omega)) rfl [] rfl rfl (Nat.le_of_ble_eq_true rfl) rfl (k_is fun X954 V958 r955 h956 hF957 => ?_)
            have k959 := st_fr hF957 k941.1 h_x (by decide +kernel) (by decide +kernel) (by decide +kernel) (by decide +kernel)
            have sS960 : sd V958 x = sd V166 x := k959.2.1.trans sS942
            have sQ961 : wt V958 x = wt V166 x := k959.2.2.trans sQ943
            have ak962 := tk_fr hF957 ak944.1 h_x (by decide +kernel) (by decide +kernel) ak944.2
            have ak963 := tk_fr hF957 ak945.1 h_x (by decide +kernel) (by decide +kernel) ak945.2
            have ak964 := tk_fr hF957 ak946.1 h_x (by decide +kernel) (by decide +kernel) ak946.2
            have ak965 := tk_fr hF957 ak947.1 h_x (by decide +kernel) (by decide +kernel) ak947.2
            have ak966 := tk_fr hF957 ak948.1 h_x (by decide +kernel) (by decide +kernel) ak948.2
            have ak967 := tk_fr hF957 ak949.1 h_x (by decide +kernel) (by decide +kernel) ak949.2
            have ak968 := tk_fr hF957 ak950.1 h_x (by decide +kernel) (by decide +kernel) ak950.2
            have rq0_166 := h956.2.2.2
            refine GO.if_eq (tgt := 191) dX12_readsClause_169 (by decide) r955 (fun c970 => ?_) (fun c970 => ?_)
            ·
              refine GO.iconst dX12_readsClause_191 ?_
              have q971 : -2147483648 ≤ vi V958 x 31 ∧ vi V958 x 31 ≤ 2147483647 := vi_ir
              have q972 : -2147483648 ≤ vi V919 x 31 ∧ vi V919 x 31 ≤ 2147483647 := vi_ir
              have e973 : vi V958 x 36 = vi V940 x 36 := vi_fr hF957 h_x h_x (by decide +kernel)
              have e974 : vi V958 x 38 = vi V940 x 38 := vi_fr hF957 h_x h_x (by decide +kernel)
              exact GO.retz rfl rfl dX12_readsClause_192 (Or.inl rfl) ⟨rfl, _, rfl, (ir_c rfl), ⟨Or.inl rfl, fun h => absurd rfl h, fun _ => trivial, (by first | exact fun h => absurd rfl h | exact fun _ => TC.rc w_0 (RC1.eq hrc0 ak962.2 ak963.2 ak964.2 ak965.2 (by omega)) (by omega) (by omega) (by omega) (by omega) (by omega)), (by first | exact ⟨fun hq => absurd rfl hq, fun _ => RLX.tk (k := 46) (r1 := fun src e => xC src e _ _) he3 hT2 (by omega) rq0_166 (by omega)⟩ | exact ⟨fun hq => absurd rfl hq, fun _ => RLX.tk (k := 46) (r1 := fun src e => kC src e _ _) he3 hT2 (by omega) rq0_166 (by omega)⟩ | exact ⟨fun hq => absurd rfl hq, fun _ => RLX.num (rn := fun src e v s => xB src e _ v s) he1 hT1 rq0_145 (by omega)⟩ | exact ⟨fun hq => absurd rfl hq, fun _ => RLX.num (rn := fun src e v s => kB src e _ v s) he1 hT1 rq0_145 (by omega)⟩ | exact ⟨fun hq => absurd rfl hq, fun _ => RLX.e4 (by omega) (by unfold isCL; exact decide_eq_true (by omega)) (by omega) (by omega)⟩ | exact ⟨fun hq => absurd rfl hq, fun _ => RLX.e1 (fun _ _ h => h) rfl (by omega) (by unfold isCL; exact decide_eq_false (by omega)) (by omega)⟩)⟩⟩
            ·
              have q976 := h956.2.1 (by omega)
              have e977 : vi V958 x 36 = vi V940 x 36 := vi_fr hF957 h_x h_x (by decide +kernel)
              have e978 : vi V958 x 38 = vi V940 x 38 := vi_fr hF957 h_x h_x (by decide +kernel)
              have gs3 := sS960
              try have he4 := RLE.tk (k := 46) (r1 := fun src e => kC src e X11 _) he3 hT2 (by omega) rq0_166 (by omega) (by omega) (gs3.trans gs2.symm)
              try have he4 := RLE.tk (k := 46) (r1 := fun src e => xC src e X11 _) he3 hT2 (by omega) rq0_166 (by omega) (by omega) (gs3.trans gs2.symm)
              refine GO.useFR (fun hFs => ?_)
              have hT3 : ∀ src e, TP V x src e → TP V958 x src e := fun src e h => TP.fr h hFs hW_0 h_x (by decide +kernel) (by decide +kernel) (by decide +kernel)
              refine GO.aload_n dX12_readsClause_172 rfl rfl ?_
              refine GO.iload_n dX12_readsClause_173 rfl rfl ?_
              refine GO.bipush dX12_readsClause_174 rfl ?_
              refine GO.icmp_ne (tgt := 183) dX12_readsClause_176 (by decide) r12 (ir_c rfl) (fun h => by exfalso; omega) (fun c979 => ?_)
              refine GO.iconst dX12_readsClause_179 ?_
              refine GO.goto (tgt := 185) dX12_readsClause_180 (by decide) ?_
              refine GO.callV (ci := 11) (N := mX12_readsNumber) dX12_readsClause_185 (RX12, TX12, 151) rfl gV_RX12_486 h_x (t_X12_readsNumber h_x (ir_c rfl)) rfl [] rfl rfl (Nat.le_of_ble_eq_true rfl) rfl (k_is fun X980 V984 r981 h982 hF983 => ?_)
              have k985 := st_fr hF983 k959.1 h_x (by decide +kernel) (by decide +kernel) (by decide +kernel) (by decide +kernel)
              have sS986 : sd V984 x = sd V166 x := k985.2.1.trans sS960
              have sQ987 : wt V984 x = wt V166 x := k985.2.2.trans sQ961
              have ak988 := tk_fr hF983 ak962.1 h_x (by decide +kernel) (by decide +kernel) ak962.2
              have ak989 := tk_fr hF983 ak963.1 h_x (by decide +kernel) (by decide +kernel) ak963.2
              have ak990 := tk_fr hF983 ak964.1 h_x (by decide +kernel) (by decide +kernel) ak964.2
              have ak991 := tk_fr hF983 ak965.1 h_x (by decide +kernel) (by decide +kernel) ak965.2
              have ak992 := tk_fr hF983 ak966.1 h_x (by decide +kernel) (by decide +kernel) ak966.2
              have ak993 := tk_fr hF983 ak967.1 h_x (by decide +kernel) (by decide +kernel) ak967.2
              have ak994 := tk_fr hF983 ak968.1 h_x (by decide +kernel) (by decide +kernel) ak968.2
              have rq0_185 := h982.2.2.2
              refine GO.if_ne (tgt := 193) dX12_readsClause_188 (by decide) r981 (fun c997 => ?_) (fun c997 => ?_)
              ·
                have q998 := h982.2.1 (by omega)
                have e999 : vi V984 x 36 = vi V958 x 36 := vi_fr hF983 h_x h_x (by decide +kernel)
                have e1000 : vi V984 x 38 = vi V958 x 38 := vi_fr hF983 h_x h_x (by decide +kernel)
                have gs4 := sS986
                try have he5 := RLE.num (rn := fun src e v s => kD src e X11 _ v s) he4 hT3 rq0_185 (by omega) (by omega) (gs4.trans gs3.symm)
                try have he5 := RLE.num (rn := fun src e v s => .ok (s, (X11, 0, _, v))) he4 hT3 rq0_185 (by omega) (by omega) (gs4.trans gs3.symm)
                refine GO.aload_n dX12_readsClause_193 rfl rfl ?_
                refine GO.getA (n := 12) h_x fl_RX12_109 rfl rfl rfl rfl dX12_readsClause_194 (fun hv1002 h1001 => ?_)
                refine GO.iload_n dX12_readsClause_197 rfl rfl ?_
                refine GO.aload_n dX12_readsClause_198 rfl rfl ?_
                refine GO.getI h_x fl_RX12_459 rfl rfl dX12_readsClause_199 (fun _ _ => ?_)
                have q1004 : -2147483648 ≤ vi V984 x 34 ∧ vi V984 x 34 ≤ 2147483647 := vi_ir
                refine GO.iast (t := 39) rfl rfl (by decide +kernel) h1001 r44 (by omega) (by omega) vi_ir (by omega) (by omega) dX12_readsClause_202 (fun V1005 e1003 => ?_)
                have k1006 := st_oth e1003 k985.1 h_x h1001 (by decide) (by decide)
                have sS1007 : sd V1005 x = sd V166 x := k1006.2.1.trans sS986
                have sQ1008 : wt V1005 x = wt V166 x := k1006.2.2.trans sQ987
                have ak1009 := tk_oth e1003 ak988.1 h_x h1001 (by decide) (by decide) ak988.2
                have ak1010 := tk_oth e1003 ak989.1 h_x h1001 (by decide) (by decide) ak989.2
                have ak1011 := tk_oth e1003 ak990.1 h_x h1001 (by decide) (by decide) ak990.2
                have ak1012 := tk_oth e1003 ak991.1 h_x h1001 (by decide) (by decide) ak991.2
                have ak1013 := tk_oth e1003 ak992.1 h_x h1001 (by decide) (by decide) ak992.2
                have ak1014 := tk_oth e1003 ak993.1 h_x h1001 (by decide) (by decide) ak993.2
                have ak1015 := tk_put e1003 ak994.1 h_x (vq_of hv1002) vi_ir ak994.2
                have e1016 : vi V1005 x 31 = vi V984 x 31 := vi_up e1003 (Or.inl (K_ne h_x h1001 (by decide)))
                have e1017 : vi V1005 x 36 = vi V984 x 36 := vi_up e1003 (Or.inl (K_ne h_x h1001 (by decide)))
                have e1018 : vi V1005 x 38 = vi V984 x 38 := vi_up e1003 (Or.inl (K_ne h_x h1001 (by decide)))
                have gs5 := sS1007
                have he6 := RLE.same (V1 := V1005) he5 (by omega) (by omega) (gs5.trans gs4.symm)
                refine GO.useFR (fun hFs => ?_)
                have hT4 : ∀ src e, TP V x src e → TP V1005 x src e := fun src e h => TP.fr h hFs hW_0 h_x (by decide +kernel) (by decide +kernel) (by decide +kernel)
                refine GO.iload_n dX12_readsClause_203 rfl rfl ?_
                refine GO.bipush dX12_readsClause_204 rfl ?_
                refine GO.icmp_ne (tgt := 220) dX12_readsClause_206 (by decide) r12 (ir_c rfl) (fun h => by exfalso; omega) (fun c1019 => ?_)
                refine GO.aload_n dX12_readsClause_209 rfl rfl ?_
                refine GO.bipush dX12_readsClause_210 rfl ?_
                refine GO.callV (ci := 11) (N := mX12_takes) dX12_readsClause_212 (RX12, TX12, 151) rfl gV_RX12_532 h_x (t_X12_takes h_x (ir_c rfl) (by omega)) rfl [] rfl rfl (Nat.le_of_ble_eq_true rfl) rfl (k_is fun X1020 V1024 r1021 h1022 hF1023 => ?_)
                have k1025 := st_fr hF1023 k1006.1 h_x (by decide +kernel) (by decide +kernel) (by decide +kernel) (by decide +kernel)
                have sS1026 : sd V1024 x = sd V166 x := k1025.2.1.trans sS1007
                have sQ1027 : wt V1024 x = wt V166 x := k1025.2.2.trans sQ1008
                have ak1028 := tk_fr hF1023 ak1009.1 h_x (by decide +kernel) (by decide +kernel) ak1009.2
                have ak1029 := tk_fr hF1023 ak1010.1 h_x (by decide +kernel) (by decide +kernel) ak1010.2
                have ak1030 := tk_fr hF1023 ak1011.1 h_x (by decide +kernel) (by decide +kernel) ak1011.2
                have ak1031 := tk_fr hF1023 ak1012.1 h_x (by decide +kernel) (by decide +kernel) ak1012.2
                have ak1032 := tk_fr hF1023 ak1013.1 h_x (by decide +kernel) (by decide +kernel) ak1013.2
                have ak1033 := tk_fr hF1023 ak1014.1 h_x (by decide +kernel) (by decide +kernel) ak1014.2
                have ak1034 := tk_fr hF1023 ak1015.1 h_x (by decide +kernel) (by decide +kernel) ak1015.2
                have rq0_212 := h1022.2.2.2
                refine GO.if_ne (tgt := 220) dX12_readsClause_215 (by decide) r1021 (fun c1036 => ?_) (fun c1036 => ?_)
                ·
                  have q1037 := h1022.2.1 (by omega)
                  have q1038 : -2147483648 ≤ vi V1024 x 31 ∧ vi V1024 x 31 ≤ 2147483647 := vi_ir
                  have q1039 : -2147483648 ≤ vi V984 x 31 ∧ vi V984 x 31 ≤ 2147483647 := vi_ir
                  have q1040 : -2147483648 ≤ vi V958 x 31 ∧ vi V958 x 31 ≤ 2147483647 := vi_ir
                  have q1041 : -2147483648 ≤ vi V919 x 31 ∧ vi V919 x 31 ≤ 2147483647 := vi_ir
                  have e1042 : vi V1024 x 36 = vi V1005 x 36 := vi_fr hF1023 h_x h_x (by decide +kernel)
                  have e1043 : vi V1024 x 38 = vi V1005 x 38 := vi_fr hF1023 h_x h_x (by decide +kernel)
                  refine GO.useWT (fun hWj1044 => ?_)
                  have hrdj := hWj1044.rd h_x
                  exact hj462  V1024 (by omega) ((by first | exact RC1.eq hrc0 ak1028.2 ak1029.2 ak1030.2 ak1031.2 (by omega) | exact RC1.of hrc0 ak1028.2 ak1029.2 ak1030.2 ak1031.2 rfl (by omega) (by omega))) ((by first | exact RL2.no hrc1 (by unfold isCL; exact decide_eq_true (by omega)) (by omega) (by omega) ak1029.2 ak1032.2 ak1033.2 ak1034.2 (by omega) (by omega) (sS1026) | exact RL2.k hrc1 (by omega) (RLE.tk (k := 61) (r1 := fun src e => kE src e _ _ _) he6 hT4 (by omega) rq0_212 (by omega) (by omega) ((sS1026).trans gs5.symm)) ak1029.2 ak1032.2 ak1033.2 ak1034.2 | exact RL2.xx hrc1 (by omega) he6 ak1029.2 ak1032.2 ak1033.2 ak1034.2))
                ·
                  refine GO.iconst dX12_readsClause_218 ?_
                  have q1045 : -2147483648 ≤ vi V1024 x 31 ∧ vi V1024 x 31 ≤ 2147483647 := vi_ir
                  have q1046 : -2147483648 ≤ vi V919 x 31 ∧ vi V919 x 31 ≤ 2147483647 := vi_ir
                  have q1047 : -2147483648 ≤ vi V958 x 31 ∧ vi V958 x 31 ≤ 2147483647 := vi_ir
                  have q1048 : -2147483648 ≤ vi V984 x 31 ∧ vi V984 x 31 ≤ 2147483647 := vi_ir
                  have e1049 : vi V1024 x 36 = vi V1005 x 36 := vi_fr hF1023 h_x h_x (by decide +kernel)
                  have e1050 : vi V1024 x 38 = vi V1005 x 38 := vi_fr hF1023 h_x h_x (by decide +kernel)
                  exact GO.retz rfl rfl dX12_readsClause_219 (Or.inl rfl) ⟨rfl, _, rfl, (ir_c rfl), ⟨Or.inl rfl, fun h => absurd rfl h, fun _ => trivial, (by first | exact fun h => absurd rfl h | exact fun _ => TC.rc w_0 (RC1.eq hrc0 ak1028.2 ak1029.2 ak1030.2 ak1031.2 (by omega)) (by omega) (by omega) (by omega) (by omega) (by omega)), (by first | exact ⟨fun hq => absurd rfl hq, fun _ => RLX.tk (k := 61) (r1 := fun src e => kE src e _ _ _) he6 hT4 (by omega) rq0_212 (by omega)⟩ | exact ⟨fun hq => absurd rfl hq, fun _ => RLX.num (rn := fun src e v s => .ok (s, (_, 0, _, v))) he4 hT3 rq0_185 (by omega)⟩ | exact ⟨fun hq => absurd rfl hq, fun _ => RLX.num (rn := fun src e v s => kD src e _ _ v s) he4 hT3 rq0_185 (by omega)⟩ | exact ⟨fun hq => absurd rfl hq, fun _ => RLX.tk (k := 46) (r1 := fun src e => xC src e _ _) he3 hT2 (by omega) rq0_166 (by omega)⟩ | exact ⟨fun hq => absurd rfl hq, fun _ => RLX.tk (k := 46) (r1 := fun src e => kC src e _ _) he3 hT2 (by omega) rq0_166 (by omega)⟩ | exact ⟨fun hq => absurd rfl hq, fun _ => RLX.num (rn := fun src e v s => xB src e _ v s) he1 hT1 rq0_145 (by omega)⟩ | exact ⟨fun hq => absurd rfl hq, fun _ => RLX.num (rn := fun src e v s => kB src e _ v s) he1 hT1 rq0_145 (by omega)⟩ | exact ⟨fun hq => absurd rfl hq, fun _ => RLX.e4 (by omega) (by unfold isCL; exact decide_eq_true (by omega)) (by omega) (by omega)⟩ | exact ⟨fun hq => absurd rfl hq, fun _ => RLX.e1 (fun _ _ h => h) rfl (by omega) (by unfold isCL; exact decide_eq_false (by omega)) (by omega)⟩)⟩⟩
              ·
                refine GO.iconst dX12_readsClause_191 ?_
                have q1052 : -2147483648 ≤ vi V984 x 31 ∧ vi V984 x 31 ≤ 2147483647 := vi_ir
                have q1053 : -2147483648 ≤ vi V919 x 31 ∧ vi V919 x 31 ≤ 2147483647 := vi_ir
                have q1054 : -2147483648 ≤ vi V958 x 31 ∧ vi V958 x 31 ≤ 2147483647 := vi_ir
                have e1055 : vi V984 x 36 = vi V958 x 36 := vi_fr hF983 h_x h_x (by decide +kernel)
                have e1056 : vi V984 x 38 = vi V958 x 38 := vi_fr hF983 h_x h_x (by decide +kernel)
                exact GO.retz rfl rfl dX12_readsClause_192 (Or.inl rfl) ⟨rfl, _, rfl, (ir_c rfl), ⟨Or.inl rfl, fun h => absurd rfl h, fun _ => trivial, (by first | exact fun h => absurd rfl h | exact fun _ => TC.rc w_0 (RC1.eq hrc0 ak988.2 ak989.2 ak990.2 ak991.2 (by omega)) (by omega) (by omega) (by omega) (by omega) (by omega)), (by first | exact ⟨fun hq => absurd rfl hq, fun _ => RLX.num (rn := fun src e v s => .ok (s, (_, 0, _, v))) he4 hT3 rq0_185 (by omega)⟩ | exact ⟨fun hq => absurd rfl hq, fun _ => RLX.num (rn := fun src e v s => kD src e _ _ v s) he4 hT3 rq0_185 (by omega)⟩ | exact ⟨fun hq => absurd rfl hq, fun _ => RLX.tk (k := 46) (r1 := fun src e => xC src e _ _) he3 hT2 (by omega) rq0_166 (by omega)⟩ | exact ⟨fun hq => absurd rfl hq, fun _ => RLX.tk (k := 46) (r1 := fun src e => kC src e _ _) he3 hT2 (by omega) rq0_166 (by omega)⟩ | exact ⟨fun hq => absurd rfl hq, fun _ => RLX.num (rn := fun src e v s => xB src e _ v s) he1 hT1 rq0_145 (by omega)⟩ | exact ⟨fun hq => absurd rfl hq, fun _ => RLX.num (rn := fun src e v s => kB src e _ v s) he1 hT1 rq0_145 (by omega)⟩ | exact ⟨fun hq => absurd rfl hq, fun _ => RLX.e4 (by omega) (by unfold isCL; exact decide_eq_true (by omega)) (by omega) (by omega)⟩ | exact ⟨fun hq => absurd rfl hq, fun _ => RLX.e1 (fun _ _ h => h) rfl (by omega) (by unfold isCL; exact decide_eq_false (by omega)) (by omega)⟩)⟩⟩
          ·
            refine GO.iconst dX12_readsClause_151 ?_
            have q1058 : -2147483648 ≤ vi V919 x 31 ∧ vi V919 x 31 ≤ 2147483647 := vi_ir
            have e1059 : vi V919 x 36 = vi V186 x 36 := vi_fr hF918 h_x h_x (by decide +kernel)
            have e1060 : vi V919 x 38 = vi V186 x 38 := vi_fr hF918 h_x h_x (by decide +kernel)
            exact GO.retz rfl rfl dX12_readsClause_152 (Or.inl rfl) ⟨rfl, _, rfl, (ir_c rfl), ⟨Or.inl rfl, fun h => absurd rfl h, fun _ => trivial, (by first | exact fun h => absurd rfl h | exact fun _ => TC.rc w_0 (RC1.eq hrc0 ak923.2 ak924.2 ak925.2 ak926.2 (by omega)) (by omega) (by omega) (by omega) (by omega) (by omega)), (by first | exact ⟨fun hq => absurd rfl hq, fun _ => RLX.num (rn := fun src e v s => xB src e _ v s) he1 hT1 rq0_145 (by omega)⟩ | exact ⟨fun hq => absurd rfl hq, fun _ => RLX.num (rn := fun src e v s => kB src e _ v s) he1 hT1 rq0_145 (by omega)⟩ | exact ⟨fun hq => absurd rfl hq, fun _ => RLX.e4 (by omega) (by unfold isCL; exact decide_eq_true (by omega)) (by omega) (by omega)⟩ | exact ⟨fun hq => absurd rfl hq, fun _ => RLX.e1 (fun _ _ h => h) rfl (by omega) (by unfold isCL; exact decide_eq_false (by omega)) (by omega)⟩)⟩⟩
        ·
          refine GO.iload_n dX12_readsClause_126 rfl rfl ?_
          refine GO.bipush dX12_readsClause_127 rfl ?_
          refine GO.icmp_ne (tgt := 220) dX12_readsClause_129 (by decide) r12 (ir_c rfl) (fun c1062 => ?_) (fun c1062 => ?_)
          ·
            have e1063 : vi V186 x 31 = vi V166 x 31 := vi_up e183 (Or.inl (K_ne h_x h178 (by decide)))
            have e1064 : vi V186 x 36 = vi V166 x 36 := vi_up e183 (Or.inl (K_ne h_x h178 (by decide)))
            have e1065 : vi V186 x 38 = vi V166 x 38 := vi_up e183 (Or.inl (K_ne h_x h178 (by decide)))
            refine GO.useWT (fun hWj1066 => ?_)
            have hrdj := hWj1066.rd h_x
            exact hj462  V186 (by omega) ((by first | exact RC1.eq hrc0 ak190.2 ak191.2 ak192.2 ak193.2 (by omega) | exact RC1.of hrc0 ak190.2 ak191.2 ak192.2 ak193.2 rfl (by omega) (by omega))) ((by first | exact RL2.no hrc1 (by unfold isCL; exact decide_eq_true (by omega)) (by omega) (by omega) ak191.2 ak194.2 ak195.2 ak196.2 (by omega) (by omega) (sS188)))
          ·
            refine GO.aload_n dX12_readsClause_132 rfl rfl ?_
            refine GO.iload_n dX12_readsClause_133 rfl rfl ?_
            refine GO.bipush dX12_readsClause_134 rfl ?_
            refine GO.icmp_ne (tgt := 143) dX12_readsClause_136 (by decide) r12 (ir_c rfl) (fun c1067 => ?_) (fun h => by exfalso; omega)
            have e1068 : vi V186 x 31 = vi V166 x 31 := vi_up e183 (Or.inl (K_ne h_x h178 (by decide)))
            have e1069 : vi V186 x 36 = vi V166 x 36 := vi_up e183 (Or.inl (K_ne h_x h178 (by decide)))
            have e1070 : vi V186 x 38 = vi V166 x 38 := vi_up e183 (Or.inl (K_ne h_x h178 (by decide)))
            have he1 := (RL1.xx hrc1 (by omega)).same (V1 := V186) (by omega) (by omega) (sS188)
            have gs0 := sS188
            refine GO.useFR (fun hFs => ?_)
            have hT1 : ∀ src e, TP V x src e → TP V186 x src e := fun src e h => TP.fr h hFs hW_0 h_x (by decide +kernel) (by decide +kernel) (by decide +kernel)
            refine GO.bipush dX12_readsClause_143 rfl ?_
            refine GO.callV (ci := 11) (N := mX12_readsNumber) dX12_readsClause_145 (RX12, TX12, 151) rfl gV_RX12_486 h_x (t_X12_readsNumber h_x (ir_c rfl)) rfl [] rfl rfl (Nat.le_of_ble_eq_true rfl) rfl (k_is fun X1071 V1075 r1072 h1073 hF1074 => ?_)
            have k1076 := st_fr hF1074 k187.1 h_x (by decide +kernel) (by decide +kernel) (by decide +kernel) (by decide +kernel)
            have sS1077 : sd V1075 x = sd V166 x := k1076.2.1.trans sS188
            have sQ1078 : wt V1075 x = wt V166 x := k1076.2.2.trans sQ189
            have ak1079 := tk_fr hF1074 ak190.1 h_x (by decide +kernel) (by decide +kernel) ak190.2
            have ak1080 := tk_fr hF1074 ak191.1 h_x (by decide +kernel) (by decide +kernel) ak191.2
            have ak1081 := tk_fr hF1074 ak192.1 h_x (by decide +kernel) (by decide +kernel) ak192.2
            have ak1082 := tk_fr hF1074 ak193.1 h_x (by decide +kernel) (by decide +kernel) ak193.2
            have ak1083 := tk_fr hF1074 ak194.1 h_x (by decide +kernel) (by decide +kernel) ak194.2
            have ak1084 := tk_fr hF1074 ak195.1 h_x (by decide +kernel) (by decide +kernel) ak195.2
            have ak1085 := tk_fr hF1074 ak196.1 h_x (by decide +kernel) (by decide +kernel) ak196.2
            have rq0_145 := h1073.2.2.2
            refine GO.if_ne (tgt := 153) dX12_readsClause_148 (by decide) r1072 (fun c1088 => ?_) (fun c1088 => ?_)
            ·
              have q1089 := h1073.2.1 (by omega)
              have e1090 : vi V1075 x 36 = vi V186 x 36 := vi_fr hF1074 h_x h_x (by decide +kernel)
              have e1091 : vi V1075 x 38 = vi V186 x 38 := vi_fr hF1074 h_x h_x (by decide +kernel)
              have gs1 := sS1077
              try have he2 := RLE.num (rn := fun src e v s => kB src e X11 v s) he1 hT1 rq0_145 (by omega) (by omega) (gs1.trans gs0.symm)
              try have he2 := RLE.num (rn := fun src e v s => xB src e X11 v s) he1 hT1 rq0_145 (by omega) (by omega) (gs1.trans gs0.symm)
              refine GO.aload_n dX12_readsClause_153 rfl rfl ?_
              refine GO.getA (n := 12) h_x fl_RX12_106 rfl rfl rfl rfl dX12_readsClause_154 (fun hv1093 h1092 => ?_)
              refine GO.iload_n dX12_readsClause_157 rfl rfl ?_
              refine GO.aload_n dX12_readsClause_158 rfl rfl ?_
              refine GO.getI h_x fl_RX12_459 rfl rfl dX12_readsClause_159 (fun _ _ => ?_)
              have q1095 : -2147483648 ≤ vi V1075 x 34 ∧ vi V1075 x 34 ≤ 2147483647 := vi_ir
              refine GO.iast (t := 38) rfl rfl (by decide +kernel) h1092 r44 (by omega) (by omega) vi_ir (by omega) (by omega) dX12_readsClause_162 (fun V1096 e1094 => ?_)
              have k1097 := st_oth e1094 k1076.1 h_x h1092 (by decide) (by decide)
              have sS1098 : sd V1096 x = sd V166 x := k1097.2.1.trans sS1077
              have sQ1099 : wt V1096 x = wt V166 x := k1097.2.2.trans sQ1078
              have ak1100 := tk_oth e1094 ak1079.1 h_x h1092 (by decide) (by decide) ak1079.2
              have ak1101 := tk_oth e1094 ak1080.1 h_x h1092 (by decide) (by decide) ak1080.2
              have ak1102 := tk_oth e1094 ak1081.1 h_x h1092 (by decide) (by decide) ak1081.2
              have ak1103 := tk_oth e1094 ak1082.1 h_x h1092 (by decide) (by decide) ak1082.2
              have ak1104 := tk_oth e1094 ak1083.1 h_x h1092 (by decide) (by decide) ak1083.2
              have ak1105 := tk_put e1094 ak1084.1 h_x (vq_of hv1093) vi_ir ak1084.2
              have ak1106 := tk_oth e1094 ak1085.1 h_x h1092 (by decide) (by decide) ak1085.2
              have e1107 : vi V1096 x 31 = vi V1075 x 31 := vi_up e1094 (Or.inl (K_ne h_x h1092 (by decide)))
              have e1108 : vi V1096 x 36 = vi V1075 x 36 := vi_up e1094 (Or.inl (K_ne h_x h1092 (by decide)))
              have e1109 : vi V1096 x 38 = vi V1075 x 38 := vi_up e1094 (Or.inl (K_ne h_x h1092 (by decide)))
              have gs2 := sS1098
              have he3 := RLE.same (V1 := V1096) he2 (by omega) (by omega) (gs2.trans gs1.symm)
              refine GO.useFR (fun hFs => ?_)
              have hT2 : ∀ src e, TP V x src e → TP V1096 x src e := fun src e h => TP.fr h hFs hW_0 h_x (by decide +kernel) (by decide +kernel) (by decide +kernel)
              refine GO.aload_n dX12_readsClause_163 rfl rfl ?_
              refine GO.bipush dX12_readsClause_164 rfl ?_
              refine GO.callV (ci := 11) (N := mX12_takes) dX12_readsClause_166 (RX12, TX12, 151) rfl gV_RX12_532 h_x (t_X12_takes h_x (ir_c rfl) (by omega)) rfl [] rfl rfl (Nat.le_of_ble_eq_true rfl) rfl (k_is fun X1110 V1114 r1111 h1112 hF1113 => ?_)
              have k1115 := st_fr hF1113 k1097.1 h_x (by decide +kernel) (by decide +kernel) (by decide +kernel) (by decide +kernel)
              have sS1116 : sd V1114 x = sd V166 x := k1115.2.1.trans sS1098
              have sQ1117 : wt V1114 x = wt V166 x := k1115.2.2.trans sQ1099
              have ak1118 := tk_fr hF1113 ak1100.1 h_x (by decide +kernel) (by decide +kernel) ak1100.2
              have ak1119 := tk_fr hF1113 ak1101.1 h_x (by decide +kernel) (by decide +kernel) ak1101.2
              have ak1120 := tk_fr hF1113 ak1102.1 h_x (by decide +kernel) (by decide +kernel) ak1102.2
              have ak1121 := tk_fr hF1113 ak1103.1 h_x (by decide +kernel) (by decide +kernel) ak1103.2
              have ak1122 := tk_fr hF1113 ak1104.1 h_x (by decide +kernel) (by decide +kernel) ak1104.2
              have ak1123 := tk_fr hF1113 ak1105.1 h_x (by decide +kernel) (by decide +kernel) ak1105.2
              have ak1124 := tk_fr hF1113 ak1106.1 h_x (by decide +kernel) (by decide +kernel) ak1106.2
              have rq0_166 := h1112.2.2.2
              refine GO.if_eq (tgt := 191) dX12_readsClause_169 (by decide) r1111 (fun c1126 => ?_) (fun c1126 => ?_)
              ·
                refine GO.iconst dX12_readsClause_191 ?_
                have q1127 : -2147483648 ≤ vi V1114 x 31 ∧ vi V1114 x 31 ≤ 2147483647 := vi_ir
                have q1128 : -2147483648 ≤ vi V1075 x 31 ∧ vi V1075 x 31 ≤ 2147483647 := vi_ir
                have e1129 : vi V1114 x 36 = vi V1096 x 36 := vi_fr hF1113 h_x h_x (by decide +kernel)
                have e1130 : vi V1114 x 38 = vi V1096 x 38 := vi_fr hF1113 h_x h_x (by decide +kernel)
                exact GO.retz rfl rfl dX12_readsClause_192 (Or.inl rfl) ⟨rfl, _, rfl, (ir_c rfl), ⟨Or.inl rfl, fun h => absurd rfl h, fun _ => trivial, (by first | exact fun h => absurd rfl h | exact fun _ => TC.rc w_0 (RC1.eq hrc0 ak1118.2 ak1119.2 ak1120.2 ak1121.2 (by omega)) (by omega) (by omega) (by omega) (by omega) (by omega)), (by first | exact ⟨fun hq => absurd rfl hq, fun _ => RLX.tk (k := 46) (r1 := fun src e => xC src e _ _) he3 hT2 (by omega) rq0_166 (by omega)⟩ | exact ⟨fun hq => absurd rfl hq, fun _ => RLX.tk (k := 46) (r1 := fun src e => kC src e _ _) he3 hT2 (by omega) rq0_166 (by omega)⟩ | exact ⟨fun hq => absurd rfl hq, fun _ => RLX.num (rn := fun src e v s => xB src e _ v s) he1 hT1 rq0_145 (by omega)⟩ | exact ⟨fun hq => absurd rfl hq, fun _ => RLX.num (rn := fun src e v s => kB src e _ v s) he1 hT1 rq0_145 (by omega)⟩ | exact ⟨fun hq => absurd rfl hq, fun _ => RLX.e4 (by omega) (by unfold isCL; exact decide_eq_true (by omega)) (by omega) (by omega)⟩ | exact ⟨fun hq => absurd rfl hq, fun _ => RLX.e1 (fun _ _ h => h) rfl (by omega) (by unfold isCL; exact decide_eq_false (by omega)) (by omega)⟩)⟩⟩
              ·
                have q1132 := h1112.2.1 (by omega)
                have e1133 : vi V1114 x 36 = vi V1096 x 36 := vi_fr hF1113 h_x h_x (by decide +kernel)
                have e1134 : vi V1114 x 38 = vi V1096 x 38 := vi_fr hF1113 h_x h_x (by decide +kernel)
                have gs3 := sS1116
                try have he4 := RLE.tk (k := 46) (r1 := fun src e => kC src e X11 _) he3 hT2 (by omega) rq0_166 (by omega) (by omega) (gs3.trans gs2.symm)
                try have he4 := RLE.tk (k := 46) (r1 := fun src e => xC src e X11 _) he3 hT2 (by omega) rq0_166 (by omega) (by omega) (gs3.trans gs2.symm)
                refine GO.useFR (fun hFs => ?_)
                have hT3 : ∀ src e, TP V x src e → TP V1114 x src e := fun src e h => TP.fr h hFs hW_0 h_x (by decide +kernel) (by decide +kernel) (by decide +kernel)
                refine GO.aload_n dX12_readsClause_172 rfl rfl ?_
                refine GO.iload_n dX12_readsClause_173 rfl rfl ?_
                refine GO.bipush dX12_readsClause_174 rfl ?_
                refine GO.icmp_ne (tgt := 183) dX12_readsClause_176 (by decide) r12 (ir_c rfl) (fun c1135 => ?_) (fun h => by exfalso; omega)
                refine GO.bipush dX12_readsClause_183 rfl ?_
                refine GO.callV (ci := 11) (N := mX12_readsNumber) dX12_readsClause_185 (RX12, TX12, 151) rfl gV_RX12_486 h_x (t_X12_readsNumber h_x (ir_c rfl)) rfl [] rfl rfl (Nat.le_of_ble_eq_true rfl) rfl (k_is fun X1136 V1140 r1137 h1138 hF1139 => ?_)
                have k1141 := st_fr hF1139 k1115.1 h_x (by decide +kernel) (by decide +kernel) (by decide +kernel) (by decide +kernel)
                have sS1142 : sd V1140 x = sd V166 x := k1141.2.1.trans sS1116
                have sQ1143 : wt V1140 x = wt V166 x := k1141.2.2.trans sQ1117
                have ak1144 := tk_fr hF1139 ak1118.1 h_x (by decide +kernel) (by decide +kernel) ak1118.2
                have ak1145 := tk_fr hF1139 ak1119.1 h_x (by decide +kernel) (by decide +kernel) ak1119.2
                have ak1146 := tk_fr hF1139 ak1120.1 h_x (by decide +kernel) (by decide +kernel) ak1120.2
                have ak1147 := tk_fr hF1139 ak1121.1 h_x (by decide +kernel) (by decide +kernel) ak1121.2
                have ak1148 := tk_fr hF1139 ak1122.1 h_x (by decide +kernel) (by decide +kernel) ak1122.2
                have ak1149 := tk_fr hF1139 ak1123.1 h_x (by decide +kernel) (by decide +kernel) ak1123.2
                have ak1150 := tk_fr hF1139 ak1124.1 h_x (by decide +kernel) (by decide +kernel) ak1124.2
                have rq0_185 := h1138.2.2.2
                refine GO.if_ne (tgt := 193) dX12_readsClause_188 (by decide) r1137 (fun c1153 => ?_) (fun c1153 => ?_)
                ·
                  have q1154 := h1138.2.1 (by omega)
                  have e1155 : vi V1140 x 36 = vi V1114 x 36 := vi_fr hF1139 h_x h_x (by decide +kernel)
                  have e1156 : vi V1140 x 38 = vi V1114 x 38 := vi_fr hF1139 h_x h_x (by decide +kernel)
                  have gs4 := sS1142
                  try have he5 := RLE.num (rn := fun src e v s => kD src e X11 _ v s) he4 hT3 rq0_185 (by omega) (by omega) (gs4.trans gs3.symm)
                  try have he5 := RLE.num (rn := fun src e v s => .ok (s, (X11, 0, _, v))) he4 hT3 rq0_185 (by omega) (by omega) (gs4.trans gs3.symm)
                  refine GO.aload_n dX12_readsClause_193 rfl rfl ?_
                  refine GO.getA (n := 12) h_x fl_RX12_109 rfl rfl rfl rfl dX12_readsClause_194 (fun hv1158 h1157 => ?_)
                  refine GO.iload_n dX12_readsClause_197 rfl rfl ?_
                  refine GO.aload_n dX12_readsClause_198 rfl rfl ?_
                  refine GO.getI h_x fl_RX12_459 rfl rfl dX12_readsClause_199 (fun _ _ => ?_)
                  have q1160 : -2147483648 ≤ vi V1140 x 34 ∧ vi V1140 x 34 ≤ 2147483647 := vi_ir
                  refine GO.iast (t := 39) rfl rfl (by decide +kernel) h1157 r44 (by omega) (by omega) vi_ir (by omega) (by omega) dX12_readsClause_202 (fun V1161 e1159 => ?_)
                  have k1162 := st_oth e1159 k1141.1 h_x h1157 (by decide) (by decide)
                  have sS1163 : sd V1161 x = sd V166 x := k1162.2.1.trans sS1142
                  have sQ1164 : wt V1161 x = wt V166 x := k1162.2.2.trans sQ1143
                  have ak1165 := tk_oth e1159 ak1144.1 h_x h1157 (by decide) (by decide) ak1144.2
                  have ak1166 := tk_oth e1159 ak1145.1 h_x h1157 (by decide) (by decide) ak1145.2
                  have ak1167 := tk_oth e1159 ak1146.1 h_x h1157 (by decide) (by decide) ak1146.2
                  have ak1168 := tk_oth e1159 ak1147.1 h_x h1157 (by decide) (by decide) ak1147.2
                  have ak1169 := tk_oth e1159 ak1148.1 h_x h1157 (by decide) (by decide) ak1148.2
                  have ak1170 := tk_oth e1159 ak1149.1 h_x h1157 (by decide) (by decide) ak1149.2
                  have ak1171 := tk_put e1159 ak1150.1 h_x (vq_of hv1158) vi_ir ak1150.2
                  have e1172 : vi V1161 x 31 = vi V1140 x 31 := vi_up e1159 (Or.inl (K_ne h_x h1157 (by decide)))
                  have e1173 : vi V1161 x 36 = vi V1140 x 36 := vi_up e1159 (Or.inl (K_ne h_x h1157 (by decide)))
                  have e1174 : vi V1161 x 38 = vi V1140 x 38 := vi_up e1159 (Or.inl (K_ne h_x h1157 (by decide)))
                  have gs5 := sS1163
                  have he6 := RLE.same (V1 := V1161) he5 (by omega) (by omega) (gs5.trans gs4.symm)
                  refine GO.useFR (fun hFs => ?_)
                  have hT4 : ∀ src e, TP V x src e → TP V1161 x src e := fun src e h => TP.fr h hFs hW_0 h_x (by decide +kernel) (by decide +kernel) (by decide +kernel)
                  refine GO.iload_n dX12_readsClause_203 rfl rfl ?_
                  refine GO.bipush dX12_readsClause_204 rfl ?_
                  refine GO.icmp_ne (tgt := 220) dX12_readsClause_206 (by decide) r12 (ir_c rfl) (fun c1175 => ?_) (fun h => by exfalso; omega)
                  have q1176 : -2147483648 ≤ vi V1140 x 31 ∧ vi V1140 x 31 ≤ 2147483647 := vi_ir
                  have q1177 : -2147483648 ≤ vi V1114 x 31 ∧ vi V1114 x 31 ≤ 2147483647 := vi_ir
                  have q1178 : -2147483648 ≤ vi V1075 x 31 ∧ vi V1075 x 31 ≤ 2147483647 := vi_ir
                  refine GO.useWT (fun hWj1179 => ?_)
                  have hrdj := hWj1179.rd h_x
                  exact hj462  V1161 (by omega) ((by first | exact RC1.eq hrc0 ak1165.2 ak1166.2 ak1167.2 ak1168.2 (by omega) | exact RC1.of hrc0 ak1165.2 ak1166.2 ak1167.2 ak1168.2 rfl (by omega) (by omega))) ((by first | exact RL2.no hrc1 (by unfold isCL; exact decide_eq_true (by omega)) (by omega) (by omega) ak1166.2 ak1169.2 ak1170.2 ak1171.2 (by omega) (by omega) (sS1163) | exact RL2.xx hrc1 (by omega) he6 ak1166.2 ak1169.2 ak1170.2 ak1171.2))
                ·
                  refine GO.iconst dX12_readsClause_191 ?_
                  have q1180 : -2147483648 ≤ vi V1140 x 31 ∧ vi V1140 x 31 ≤ 2147483647 := vi_ir
                  have q1181 : -2147483648 ≤ vi V1075 x 31 ∧ vi V1075 x 31 ≤ 2147483647 := vi_ir
                  have q1182 : -2147483648 ≤ vi V1114 x 31 ∧ vi V1114 x 31 ≤ 2147483647 := vi_ir
                  have e1183 : vi V1140 x 36 = vi V1114 x 36 := vi_fr hF1139 h_x h_x (by decide +kernel)
                  have e1184 : vi V1140 x 38 = vi V1114 x 38 := vi_fr hF1139 h_x h_x (by decide +kernel)
                  exact GO.retz rfl rfl dX12_readsClause_192 (Or.inl rfl) ⟨rfl, _, rfl, (ir_c rfl), ⟨Or.inl rfl, fun h => absurd rfl h, fun _ => trivial, (by first | exact fun h => absurd rfl h | exact fun _ => TC.rc w_0 (RC1.eq hrc0 ak1144.2 ak1145.2 ak1146.2 ak1147.2 (by omega)) (by omega) (by omega) (by omega) (by omega) (by omega)), (by first | exact ⟨fun hq => absurd rfl hq, fun _ => RLX.num (rn := fun src e v s => .ok (s, (_, 0, _, v))) he4 hT3 rq0_185 (by omega)⟩ | exact ⟨fun hq => absurd rfl hq, fun _ => RLX.num (rn := fun src e v s => kD src e _ _ v s) he4 hT3 rq0_185 (by omega)⟩ | exact ⟨fun hq => absurd rfl hq, fun _ => RLX.tk (k := 46) (r1 := fun src e => xC src e _ _) he3 hT2 (by omega) rq0_166 (by omega)⟩ | exact ⟨fun hq => absurd rfl hq, fun _ => RLX.tk (k := 46) (r1 := fun src e => kC src e _ _) he3 hT2 (by omega) rq0_166 (by omega)⟩ | exact ⟨fun hq => absurd rfl hq, fun _ => RLX.num (rn := fun src e v s => xB src e _ v s) he1 hT1 rq0_145 (by omega)⟩ | exact ⟨fun hq => absurd rfl hq, fun _ => RLX.num (rn := fun src e v s => kB src e _ v s) he1 hT1 rq0_145 (by omega)⟩ | exact ⟨fun hq => absurd rfl hq, fun _ => RLX.e4 (by omega) (by unfold isCL; exact decide_eq_true (by omega)) (by omega) (by omega)⟩ | exact ⟨fun hq => absurd rfl hq, fun _ => RLX.e1 (fun _ _ h => h) rfl (by omega) (by unfold isCL; exact decide_eq_false (by omega)) (by omega)⟩)⟩⟩
            ·
              refine GO.iconst dX12_readsClause_151 ?_
              have q1186 : -2147483648 ≤ vi V1075 x 31 ∧ vi V1075 x 31 ≤ 2147483647 := vi_ir
              have e1187 : vi V1075 x 36 = vi V186 x 36 := vi_fr hF1074 h_x h_x (by decide +kernel)
              have e1188 : vi V1075 x 38 = vi V186 x 38 := vi_fr hF1074 h_x h_x (by decide +kernel)
              exact GO.retz rfl rfl dX12_readsClause_152 (Or.inl rfl) ⟨rfl, _, rfl, (ir_c rfl), ⟨Or.inl rfl, fun h => absurd rfl h, fun _ => trivial, (by first | exact fun h => absurd rfl h | exact fun _ => TC.rc w_0 (RC1.eq hrc0 ak1079.2 ak1080.2 ak1081.2 ak1082.2 (by omega)) (by omega) (by omega) (by omega) (by omega) (by omega)), (by first | exact ⟨fun hq => absurd rfl hq, fun _ => RLX.num (rn := fun src e v s => xB src e _ v s) he1 hT1 rq0_145 (by omega)⟩ | exact ⟨fun hq => absurd rfl hq, fun _ => RLX.num (rn := fun src e v s => kB src e _ v s) he1 hT1 rq0_145 (by omega)⟩ | exact ⟨fun hq => absurd rfl hq, fun _ => RLX.e4 (by omega) (by unfold isCL; exact decide_eq_true (by omega)) (by omega) (by omega)⟩ | exact ⟨fun hq => absurd rfl hq, fun _ => RLX.e1 (fun _ _ h => h) rfl (by omega) (by unfold isCL; exact decide_eq_false (by omega)) (by omega)⟩)⟩⟩
      refine GO.if_eq (tgt := 110) dX12_readsClause_98 (by decide) r136 (fun c1190 => ?_) (fun c1190 => ?_)
      ·
        clear ak120 ak121 ak122
        have q1191 := h137.2.2.1 (by omega)
        refine GO.useWT (fun hWj1192 => ?_)
        have hrdj := hWj1192.rd h_x
        exact hj165  V112 (by omega) ((by first | exact RC0.no ak116.2 ak117.2 ak118.2 ak119.2 (by omega) (by omega) (fun ha => absurd (raw_isAsking.2 ha) (by omega)))) ((by first | exact RL1.no hrle (by omega) hrb rfl rfl rfl))
      ·
        have q1193 := h137.2.1 (by omega)
        have hs3 := ak116.2
        clear ak116
        refine GO.aload_n dX12_readsClause_101 rfl rfl ?_
        refine GO.callV (ci := 11) (N := mX12_readsCondition) dX12_readsClause_102 (RX12, TX12, 151) rfl gV_RX12_529 h_x (t_X12_readsCondition h_x (by omega) (⟨rfl, fun _ _ => rfl⟩)) rfl [] rfl rfl (Nat.le_of_ble_eq_true rfl) rfl (k_is fun X1194 V1198 r1195 h1196 hF1197 => ?_)
        refine GO.useWT (fun hW1199 => ?_)
        have aq1200 := hW1199.aq h_x
        have ak1201 := tk_fr hF1197 ak117.1 h_x (by decide +kernel) (by decide +kernel) ak117.2
        clear ak117
        have ak1202 := tk_fr hF1197 ak118.1 h_x (by decide +kernel) (by decide +kernel) ak118.2
        clear ak118
        have ak1203 := tk_fr hF1197 ak119.1 h_x (by decide +kernel) (by decide +kernel) ak119.2
        clear ak119
        have ak1204 := tk_fr hF1197 ak120.1 h_x (by decide +kernel) (by decide +kernel) ak120.2
        clear ak120
        have ak1205 := tk_fr hF1197 ak121.1 h_x (by decide +kernel) (by decide +kernel) ak121.2
        clear ak121
        have ak1206 := tk_fr hF1197 ak122.1 h_x (by decide +kernel) (by decide +kernel) ak122.2
        clear ak122
        refine GO.useWT (fun hW1207 => ?_)
        have ak1208 := hW1207.arr h_x 39 32 (by decide) rfl (by decide)
        clear ak1208
        have raw_readsCondition := h1196.2.2.2.1
        have rq0_102 := h1196.2.2.2.2
        have rw102 := h1196.2.2.2.1
        have hl1 := fun h => (raw_readsCondition h).gs.2.2.2.1
        have hl2 := fun h => (raw_readsCondition h).gs.2.1
        refine GO.if_ne (tgt := 110) dX12_readsClause_105 (by decide) r1195 (fun c1212 => ?_) (fun c1212 => ?_)
        ·
          have q1213 := h1196.2.1 (by omega)
          have q1214 : -2147483648 ≤ vi V1198 x 31 ∧ vi V1198 x 31 ≤ 2147483647 := vi_ir
          have q1215 : -2147483648 ≤ vi V1198 x 36 ∧ vi V1198 x 36 ≤ 2147483647 := vi_ir
          have e1216 : vi V1198 x 38 = vi V112 x 38 := vi_fr hF1197 h_x h_x (by decide +kernel)
          refine GO.useWT (fun hWj1217 => ?_)
          have hrdj := hWj1217.rd h_x
          exact hj165  V1198 (by omega) ((by first | exact RC0.no (rfl : ar 39 V1198 x = ar 39 V1198 x) ak1201.2 ak1202.2 ak1203.2 (by omega) (by omega) (fun ha => absurd (raw_isAsking.2 ha) (by omega)) | exact RC0.yes (raw_readsCondition (by omega)) (by omega) hs3 ak1201.2 ak1202.2 ak1203.2 (by omega) (by omega))) ((by first | exact RL1.no hrle (by omega) hrb rfl rfl rfl | exact RL1.yes hrle (by omega) hT0 rq0_102 (by omega) (RLB.beg ak1201.2 ak1204.2 ak1205.2 ak1206.2) rfl rfl rfl))
        ·
          clear ak1201 ak1202 ak1203 ak1204 ak1205 ak1206
          refine GO.iconst dX12_readsClause_108 ?_
          have q1218 : -2147483648 ≤ vi V1198 x 31 ∧ vi V1198 x 31 ≤ 2147483647 := vi_ir
          have q1219 : -2147483648 ≤ vi V1198 x 36 ∧ vi V1198 x 36 ≤ 2147483647 := vi_ir
          have e1220 : vi V1198 x 38 = vi V112 x 38 := vi_fr hF1197 h_x h_x (by decide +kernel)
          exact GO.retz rfl rfl dX12_readsClause_109 (Or.inl rfl) ⟨rfl, _, rfl, (ir_c rfl), ⟨Or.inl rfl, fun h => absurd rfl h, fun _ => trivial, (by first | exact fun h => absurd rfl h), (by first | exact ⟨fun hq => absurd rfl hq, fun _ => RLX.ask hrle (by omega) hT0 rq0_102 (by omega)⟩ | exact ⟨fun hq => absurd rfl hq, fun _ => RLX.e4 (by omega) (by unfold isCL; exact decide_eq_true (by omega)) (by omega) (by omega)⟩ | exact ⟨fun hq => absurd rfl hq, fun _ => RLX.e1 (fun _ _ h => h) rfl (by omega) (by unfold isCL; exact decide_eq_false (by omega)) (by omega)⟩)⟩⟩
    ·
      refine GO.aload_n dX12_readsClause_31 rfl rfl ?_
      refine GO.iconst dX12_readsClause_32 ?_
      refine GO.aload_n dX12_readsClause_33 rfl rfl ?_
      refine GO.getI h_x fl_RX12_443 rfl rfl dX12_readsClause_34 (fun l1222 u1223 => ?_)
      have q1224 : -2147483648 ≤ vi V x 31 ∧ vi V x 31 ≤ 2147483647 := vi_ir
      have q1225 : -2147483648 ≤ vi V x 32 ∧ vi V x 32 ≤ 2147483647 := vi_ir
      have q1226 : -2147483648 ≤ vi V x 36 ∧ vi V x 36 ≤ 2147483647 := vi_ir
      refine GO.callV (ci := 11) (N := mX12_wrong) dX12_readsClause_37 (RX12, TX12, 151) rfl gV_RX12_456 h_x (t_X12_wrong h_x (ir_c rfl) vi_ir (by omega) (by omega) (by omega) (by omega)) rfl [] rfl rfl (Nat.le_of_ble_eq_true rfl) rfl (k_is fun X1227 V1231 r1228 h1229 hF1230 => ?_)
      have k1232 := st_fr hF1230 aq2 h_x (by decide +kernel) (by decide +kernel) (by decide +kernel) (by decide +kernel)
      have sS1233 : sd V1231 x = sd V x := k1232.2.1.trans (rfl : sd V x = sd V x)
      have sQ1234 : wt V1231 x = wt V x := k1232.2.2.trans (rfl : wt V x = wt V x)
      clear k1232
      have ak1235 := tk_fr hF1230 ak4 h_x (by decide +kernel) (by decide +kernel) (rfl : ar 39 V x = ar 39 V x)
      clear ak4 ak1235
      have ak1236 := tk_fr hF1230 ak5 h_x (by decide +kernel) (by decide +kernel) (rfl : ar 41 V x = ar 41 V x)
      clear ak5 ak1236
      have ak1237 := tk_fr hF1230 ak6 h_x (by decide +kernel) (by decide +kernel) (rfl : ar 42 V x = ar 42 V x)
      clear ak6 ak1237
      have ak1238 := tk_fr hF1230 ak7 h_x (by decide +kernel) (by decide +kernel) (rfl : ar 43 V x = ar 43 V x)
      clear ak7 ak1238
      have ak1239 := tk_fr hF1230 ak8 h_x (by decide +kernel) (by decide +kernel) (rfl : ar 44 V x = ar 44 V x)
      clear ak8 ak1239
      have ak1240 := tk_fr hF1230 ak9 h_x (by decide +kernel) (by decide +kernel) (rfl : ar 45 V x = ar 45 V x)
      clear ak9 ak1240
      have ak1241 := tk_fr hF1230 ak10 h_x (by decide +kernel) (by decide +kernel) (rfl : ar 46 V x = ar 46 V x)
      clear ak10 ak1241
      have e1243 : vi V1231 x 31 = vi V x 31 := vi_fr hF1230 h_x h_x (by decide +kernel)
      have q1244 : -2147483648 ≤ vi V1231 x 33 ∧ vi V1231 x 33 ≤ 2147483647 := vi_ir
      have e1245 : vi V1231 x 36 = vi V x 36 := vi_fr hF1230 h_x h_x (by decide +kernel)
      have e1246 : vi V1231 x 38 = vi V x 38 := vi_fr hF1230 h_x h_x (by decide +kernel)
      exact GO.retz rfl rfl dX12_readsClause_40 (by omega) ⟨rfl, _, rfl, r1228, ⟨by omega, fun h => by omega, fun _ => trivial, (by first | exact fun h => absurd h (by omega)), (by first | exact ⟨fun hq => absurd (by omega) hq, fun _ => RLX.e4 (by omega) (by unfold isCL; exact decide_eq_true (by omega)) (by omega) (by omega)⟩ | exact ⟨fun hq => absurd (by omega) hq, fun _ => RLX.e1 (fun _ _ h => h) rfl (by omega) (by unfold isCL; exact decide_eq_false (by omega)) (by omega)⟩)⟩⟩
  ·
    have q1247 := h16.2.2 (by omega)
    refine GO.aload_n dX12_readsClause_12 rfl rfl ?_
    refine GO.iconst dX12_readsClause_13 ?_
    refine GO.aload_n dX12_readsClause_14 rfl rfl ?_
    refine GO.getI h_x fl_RX12_443 rfl rfl dX12_readsClause_15 (fun l1248 u1249 => ?_)
    have q1250 : -2147483648 ≤ vi V x 31 ∧ vi V x 31 ≤ 2147483647 := vi_ir
    have q1251 : -2147483648 ≤ vi V x 36 ∧ vi V x 36 ≤ 2147483647 := vi_ir
    refine GO.callV (ci := 11) (N := mX12_wrong) dX12_readsClause_18 (RX12, TX12, 151) rfl gV_RX12_456 h_x (t_X12_wrong h_x (ir_c rfl) vi_ir (by omega) (by omega) (by omega) (by omega)) rfl [] rfl rfl (Nat.le_of_ble_eq_true rfl) rfl (k_is fun X1252 V1256 r1253 h1254 hF1255 => ?_)
    have k1257 := st_fr hF1255 aq2 h_x (by decide +kernel) (by decide +kernel) (by decide +kernel) (by decide +kernel)
    have sS1258 : sd V1256 x = sd V x := k1257.2.1.trans (rfl : sd V x = sd V x)
    have sQ1259 : wt V1256 x = wt V x := k1257.2.2.trans (rfl : wt V x = wt V x)
    clear k1257
    have ak1260 := tk_fr hF1255 ak4 h_x (by decide +kernel) (by decide +kernel) (rfl : ar 39 V x = ar 39 V x)
    clear ak4 ak1260
    have ak1261 := tk_fr hF1255 ak5 h_x (by decide +kernel) (by decide +kernel) (rfl : ar 41 V x = ar 41 V x)
    clear ak5 ak1261
    have ak1262 := tk_fr hF1255 ak6 h_x (by decide +kernel) (by decide +kernel) (rfl : ar 42 V x = ar 42 V x)
    clear ak6 ak1262
    have ak1263 := tk_fr hF1255 ak7 h_x (by decide +kernel) (by decide +kernel) (rfl : ar 43 V x = ar 43 V x)
    clear ak7 ak1263
    have ak1264 := tk_fr hF1255 ak8 h_x (by decide +kernel) (by decide +kernel) (rfl : ar 44 V x = ar 44 V x)
    clear ak8 ak1264
    have ak1265 := tk_fr hF1255 ak9 h_x (by decide +kernel) (by decide +kernel) (rfl : ar 45 V x = ar 45 V x)
    clear ak9 ak1265
    have ak1266 := tk_fr hF1255 ak10 h_x (by decide +kernel) (by decide +kernel) (rfl : ar 46 V x = ar 46 V x)
    clear ak10 ak1266
    have e1268 : vi V1256 x 31 = vi V x 31 := vi_fr hF1255 h_x h_x (by decide +kernel)
    have q1269 : -2147483648 ≤ vi V1256 x 33 ∧ vi V1256 x 33 ≤ 2147483647 := vi_ir
    have e1270 : vi V1256 x 36 = vi V x 36 := vi_fr hF1255 h_x h_x (by decide +kernel)
    have e1271 : vi V1256 x 38 = vi V x 38 := vi_fr hF1255 h_x h_x (by decide +kernel)
    exact GO.retz rfl rfl dX12_readsClause_21 (by omega) ⟨rfl, _, rfl, r1253, ⟨by omega, fun h => by omega, fun _ => trivial, (by first | exact fun h => absurd h (by omega)), (by first | exact ⟨fun hq => absurd (by omega) hq, fun _ => RLX.e4 (by omega) (by unfold isCL; exact decide_eq_true (by omega)) (by omega) (by omega)⟩ | exact ⟨fun hq => absurd (by omega) hq, fun _ => RLX.e1 (fun _ _ h => h) rfl (by omega) (by unfold isCL; exact decide_eq_false (by omega)) (by omega)⟩)⟩⟩
