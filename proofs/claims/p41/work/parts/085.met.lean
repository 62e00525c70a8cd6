def mX1_judge : MRec := (RX1, cX1_judge, 11, (some .int), yX1_judge, 3, 72, 0, 0, 330527984395124299475957654016385519914202341482140609642324397637202895618155672912594605219857642423795606012511737872384)
def mX4_fill_t123 : MRec := (RX4, cX4_fill, 3, (none : Option Jvm.ClassFile.FieldType), yX4_fill, 0, 0, 0, 0, 40347654345107946713373737062547060536401653012956617387979052445947619094013143666088208645002153616185987062074179584)
def mX2_init : MRec := (RX2, cX2_init, 2, (none : Option Jvm.ClassFile.FieldType), yX2_init, 1, 22, 2, 27, 16598062275523971834049631454764644604049784928969747599982629359110265590759579298972565258335475713554444559401820544708633050249266195244691165424664499750398343399593100168921088)
def mX2_decidesOn : MRec := (RX2, cX2_decidesOn, 2, (some .boolean), yX2_decidesOn, 0, 0, 0, 0, 0)
def mX2_blocksWords : MRec := (RX2, cX2_blocksWords, 3, (some .boolean), yX2_blocksWords, 1, 21, 0, 0, 0)
def mX8_init_k34 : MRec := (RX8, cX8_init, 3, (none : Option Jvm.ClassFile.FieldType), yX8_init, 1, 21, 1, 16, 531137992816767098689588206552468627329593117727031923199444138200403559860852242739162502265229285668889329486246501015346579337652707239409519978766587351943831270835393219031728128)
def mX4_fill : MRec := (RX4, cX4_fill, 3, (none : Option Jvm.ClassFile.FieldType), yX4_fill, 0, 0, 0, 0, 3794275180128377091639574036764685364535950857523710002444946112771297432041422848)
def mX3_init : MRec := (RX3, cX3_init, 6, (none : Option Jvm.ClassFile.FieldType), yX3_init, 2, 43, 2, 20, 564334117367815042357687469461997916537692687584971418399409396837928782352155507910360158656806116026989187759265284420445314583020686806408565834963209063885266838033902727262633984)
set_option maxHeartbeats 1000000 in
theorem t_X1_judge {K : Kmap} {V : Vmap} {x : Nat} {p0 : Nat} {p1 : Int} {p2 : Int} {p3 : Int} (h_x : K x = some (0, 1)) (h_p0 : K p0 = some (0, 9)) (r_p1 : ir p1) (r_p2 : ir p2) (z_p2 : p2 = 0 ∨ p2 = 1) (r_p3 : ir p3) (z_p3 : p3 = 0 ∨ p3 = 1) : MC mX1_judge K V [.ref x, .ref p0, ti p1, ti p2, ti p3] (IS K (fun X V1 => True)) := by
  refine MC.start 6 (by decide +kernel) rfl rfl rfl (ls0 := [some (.ref x), some (.ref p0), some (ti p1), some (ti p2), some (ti p3), none, none, none, none, none, none]) rfl ?_
  refine GO.aload_n dX1_judge_0 rfl rfl ?_
  refine GO.iconst dX1_judge_1 ?_
  refine GO.putI h_x fp_RX1_55 rfl (by decide +kernel) (ir_c rfl) (by decide) (by decide) dX1_judge_2 (fun V2 e1 => ?_)
  refine GO.aload_n dX1_judge_5 rfl rfl ?_
  refine GO.iconst dX1_judge_6 ?_
  refine GO.putI h_x fp_RX1_58 rfl (by decide +kernel) (ir_c rfl) (by decide) (by decide) dX1_judge_7 (fun V4 e3 => ?_)
  refine GO.iconst dX1_judge_10 ?_
  refine GO.istore (ls1 := [some (.ref x), some (.ref p0), some (ti p1), some (ti p2), some (ti p3), some (ti 0), none, none, none, none, none]) dX1_judge_11 rfl rfl ?_
  refine GO.loop1 (fun i5 W => 0 ≤ i5 ∧ i5 ≤ 20 ∧ True) (fun i5 => [some (.ref x), some (.ref p0), some (ti p1), some (ti p2), some (ti p3), some (ti i5), none, none, none, none, none]) (fun i5 W => (2147483647 - i5).toNat) 0 ⟨by omega, by omega, trivial⟩ rfl (fun i5 Wi5 hp10429 ih10428 => ?_)
  obtain ⟨l_i5, u_i5, -⟩ := hp10429
  have r_i5 : ir i5 := ⟨by omega, by omega⟩
  show GO mX1_judge K V (IS K (fun X V1 => True)) K Wi5 0 0 13 [some (.ref x), some (.ref p0), some (ti p1), some (ti p2), some (ti p3), some (ti i5), none, none, none, none, none] []
  refine GO.iload dX1_judge_13 rfl ?_
  refine GO.aload_n dX1_judge_15 rfl rfl ?_
  refine GO.getI h_x fl_RX1_17 rfl rfl dX1_judge_16 (fun l10430 u10431 => ?_)
  refine GO.icmp_ge (tgt := 203) dX1_judge_19 (by decide) r_i5 vi_ir (fun c10432 => ?_) (fun c10432 => ?_)
  ·
    refine GO.iconst dX1_judge_203 ?_
    exact GO.reti rfl rfl dX1_judge_204 ⟨rfl, _, rfl, (ir_c rfl), trivial⟩
  ·
    refine GO.aload_n dX1_judge_22 rfl rfl ?_
    refine GO.iload dX1_judge_23 rfl ?_
    refine GO.callV (ci := 1) (N := mX1_textOf) dX1_judge_25 (RX1, TX1, 13) rfl gV_RX1_75 h_x (t_X1_textOf h_x r_i5) rfl [] rfl rfl (Nat.le_of_ble_eq_true rfl) rfl (k_rp (fun h10435 => ?_) (fun o10433 h10434 h10435 => ?_))
    ·
      have rwn25 := h10435.2
      have hn10436 : TNL Wi5 x → i5 < 0 ∨ vi Wi5 x 1 ≤ i5 := h10435.2
      refine GO.astoreN (ls1 := [some (.ref x), some (.ref p0), some (ti p1), some (ti p2), some (ti p3), some (ti i5), some (.null), none, none, none, none]) dX1_judge_28 rfl rfl ?_
      refine GO.aloadN dX1_judge_30 rfl ?_
      refine GO.ifnullN (tgt := 197) dX1_judge_32 (by decide) ?_
      refine GO.iinc (X := i5) (n := 1) (Y := i5 + 1) (ls1 := [some (.ref x), some (.ref p0), some (ti p1), some (ti p2), some (ti p3), some (ti (i5 + 1)), some (.null), none, none, none, none]) dX1_judge_197 rfl rfl rfl rfl ?_
      refine GO.goto (tgt := 13) dX1_judge_200 (by decide) ?_
      refine GO.drop [true, true, true, true, true, true, false, true, true, true, true] rfl ?_
      exact ih10428 (i5 + 1) Wi5 ⟨by omega, by omega, trivial⟩ (by show (2147483647 - (i5 + 1)).toNat < (2147483647 - i5).toNat; omega)
    ·
      have hp10437 : i5 ≥ 0 ∧ i5 < vi Wi5 x 1 := h10435.1
      have rwp25 := h10435.2
      have hq10438 : o10433 = vq Wi5 (vq Wi5 x 0) (i5).toNat := h10435.2
      refine GO.astore (ls1 := [some (.ref x), some (.ref p0), some (ti p1), some (ti p2), some (ti p3), some (ti i5), some (.ref o10433), none, none, none, none]) dX1_judge_28 rfl rfl ?_
      refine GO.aload dX1_judge_30 rfl ?_
      refine GO.ifnull dX1_judge_32 ?_
      refine GO.aload_n dX1_judge_35 rfl rfl ?_
      refine GO.getA (n := 20) h_x fl_RX1_33 rfl rfl rfl rfl dX1_judge_36 (fun hv10440 h10439 => ?_)
      refine GO.iload dX1_judge_39 rfl ?_
      refine GO.callS (N := mX4_get) dX1_judge_41 gS_RX1_88 (t_X4_get rfl h10439 r_i5) rfl [] rfl rfl (Nat.le_of_ble_eq_true rfl) rfl (k_ip fun X10441 r10442 h10443 => ?_)
      have raw_get := h10443.2
      have rw41 := h10443.2
      refine GO.if_ne (tgt := 50) dX1_judge_44 (by decide) r10442 (fun c10444 => ?_) (fun c10444 => ?_)
      ·
        refine GO.iconst dX1_judge_50 ?_
        refine GO.istore (ls1 := [some (.ref x), some (.ref p0), some (ti p1), some (ti p2), some (ti p3), some (ti i5), some (.ref o10433), some (ti 0), none, none, none]) dX1_judge_51 rfl rfl ?_
        refine GO.loop1 (fun i10445 W => 0 ≤ i10445 ∧ i10445 ≤ 12 ∧ True) (fun i10445 => [some (.ref x), some (.ref p0), some (ti p1), some (ti p2), some (ti p3), some (ti i5), some (.ref o10433), some (ti i10445), none, none, none]) (fun i10445 W => (2147483647 - i10445).toNat) 0 ⟨by omega, by omega, trivial⟩ rfl (fun i10445 Wi10445 hp11473 ih11472 => ?_)
        obtain ⟨l_i10445, u_i10445, -⟩ := hp11473
        have r_i10445 : ir i10445 := ⟨by omega, by omega⟩
        show GO mX1_judge K V (IS K (fun X V1 => True)) K Wi10445 0 0 53 [some (.ref x), some (.ref p0), some (ti p1), some (ti p2), some (ti p3), some (ti i5), some (.ref o10433), some (ti i10445), none, none, none] []
        refine GO.iload dX1_judge_53 rfl ?_
        refine GO.aload dX1_judge_55 rfl ?_
        refine GO.getR h10434 fl_RX1_102 rfl rfl dX1_judge_57 (fun hv11475 h11474 => ?_)
        refine GO.getI h11474 fl_RX1_105_k33 rfl rfl dX1_judge_60 (fun l11476 u11477 => ?_)
        refine GO.icmp_ge (tgt := 197) dX1_judge_63 (by decide) r_i10445 vi_ir (fun c11478 => ?_) (fun c11478 => ?_)
        ·
          refine GO.iinc (X := i5) (n := 1) (Y := i5 + 1) (ls1 := [some (.ref x), some (.ref p0), some (ti p1), some (ti p2), some (ti p3), some (ti (i5 + 1)), some (.ref o10433), some (ti i10445), none, none, none]) dX1_judge_197 rfl rfl rfl rfl ?_
          refine GO.goto (tgt := 13) dX1_judge_200 (by decide) ?_
          refine GO.drop [true, true, true, true, true, true, false, false, true, true, true] rfl ?_
          exact ih10428 (i5 + 1) Wi10445 ⟨by omega, by omega, trivial⟩ (by show (2147483647 - (i5 + 1)).toNat < (2147483647 - i5).toNat; omega)
        ·
          refine GO.aload_n dX1_judge_66 rfl rfl ?_
          refine GO.iload dX1_judge_67 rfl ?_
          refine GO.iload dX1_judge_69 rfl ?_
          refine GO.callV (ci := 1) (N := mX1_isCounting) dX1_judge_71 (RX1, TX1, 13) rfl gV_RX1_123 h_x (t_X1_isCounting h_x r_i5 r_i10445) rfl [] rfl rfl (Nat.le_of_ble_eq_true rfl) rfl (k_ip fun X11479 r11480 h11481 => ?_)
          have raw_isCounting := h11481.2.2.2
          have rw71 := h11481.2.2.2
          refine GO.if_eq (tgt := 191) dX1_judge_74 (by decide) r11480 (fun c11482 => ?_) (fun c11482 => ?_)
          ·
            refine GO.iinc (X := i10445) (n := 1) (Y := i10445 + 1) (ls1 := [some (.ref x), some (.ref p0), some (ti p1), some (ti p2), some (ti p3), some (ti i5), some (.ref o10433), some (ti (i10445 + 1)), none, none, none]) dX1_judge_191 rfl rfl rfl rfl ?_
            refine GO.goto (tgt := 53) dX1_judge_194 (by decide) ?_
            exact ih11472 (i10445 + 1) Wi10445 ⟨by omega, by omega, trivial⟩ (by show (2147483647 - (i10445 + 1)).toNat < (2147483647 - i10445).toNat; omega)
          ·
            refine GO.aload dX1_judge_77 rfl ?_
            refine GO.iload dX1_judge_79 rfl ?_
            refine GO.callV (ci := 8) (N := mX9_hasCondition) dX1_judge_81 (RX9, TX9, 5) rfl gV_RX1_127 h10434 (t_X9_hasCondition h10434 r_i10445) rfl [] rfl rfl (Nat.le_of_ble_eq_true rfl) rfl (k_ip fun X11483 r11484 h11485 => ?_)
            have raw_hasCondition := h11485.2.2.2
            have rw81 := h11485.2.2.2
            refine GO.if_ne (tgt := 90) dX1_judge_84 (by decide) r11484 (fun c11486 => ?_) (fun c11486 => ?_)
            ·
              refine GO.iload_n dX1_judge_90 rfl rfl ?_
              refine GO.if_eq (tgt := 109) dX1_judge_91 (by decide) r_p2 (fun c11491 => ?_) (fun c11491 => ?_)
              ·
                refine GO.null dX1_judge_109 ?_
                refine GO.astoreN (ls1 := [some (.ref x), some (.ref p0), some (ti p1), some (ti p2), some (ti p3), some (ti i5), some (.ref o10433), some (ti i10445), some (.null), none, none]) dX1_judge_110 rfl rfl ?_
                refine GO.aloadN dX1_judge_112 rfl ?_
                refine GO.ifnonnullN dX1_judge_114 ?_
                refine GO.aload_n dX1_judge_117 rfl rfl ?_
                refine GO.aload dX1_judge_118 rfl ?_
                refine GO.iload dX1_judge_120 rfl ?_
                refine GO.callV (ci := 1) (N := mX1_holds) dX1_judge_122 (RX1, TX1, 13) rfl gV_RX1_139 h_x (t_X1_holds h_x h10434 r_i10445) rfl [] rfl rfl (Nat.le_of_ble_eq_true rfl) rfl (k_is fun X11497 V11501 r11498 h11499 hF11500 => ?_)
                refine GO.goto (tgt := 135) dX1_judge_125 (by decide) ?_
                refine GO.istore (ls1 := [some (.ref x), some (.ref p0), some (ti p1), some (ti p2), some (ti p3), some (ti i5), some (.ref o10433), some (ti i10445), some (.null), some (ti X11497), none]) dX1_judge_135 rfl rfl ?_
                refine GO.iload dX1_judge_137 rfl ?_
                refine GO.bipush dX1_judge_139 rfl ?_
                have hj11508 : ∀ (z11507 : Int), ∀ (l11509 : (-2147483648) ≤ z11507), ∀ (u11510 : z11507 ≤ 2147483647), GO mX1_judge K V (IS K (fun X V1 => True)) K V11501 0 0 169 [some (.ref x), some (.ref p0), some (ti p1), some (ti p2), some (ti p3), some (ti i5), some (.ref o10433), some (ti i10445), some (.null), some (ti X11497), none] [ti z11507] := by
                  intro z11507 l11509 u11510
                  have r11511 : ir z11507 := ⟨by omega, by omega⟩
                  refine GO.istore (ls1 := [some (.ref x), some (.ref p0), some (ti p1), some (ti p2), some (ti p3), some (ti i5), some (.ref o10433), some (ti i10445), some (.null), some (ti X11497), some (ti z11507)]) dX1_judge_169 rfl rfl ?_
                  refine GO.iload dX1_judge_171 rfl ?_
                  refine GO.if_eq (tgt := 191) dX1_judge_173 (by decide) r11511 (fun c11512 => ?_) (fun c11512 => ?_)
                  ·
                    refine GO.iinc (X := i10445) (n := 1) (Y := i10445 + 1) (ls1 := [some (.ref x), some (.ref p0), some (ti p1), some (ti p2), some (ti p3), some (ti i5), some (.ref o10433), some (ti (i10445 + 1)), some (.null), some (ti X11497), some (ti z11507)]) dX1_judge_191 rfl rfl rfl rfl ?_
                    refine GO.goto (tgt := 53) dX1_judge_194 (by decide) ?_
                    refine GO.drop [true, true, true, true, true, true, true, true, false, false, false] rfl ?_
                    exact ih11472 (i10445 + 1) V11501 ⟨by omega, by omega, trivial⟩ (by show (2147483647 - (i10445 + 1)).toNat < (2147483647 - i10445).toNat; omega)
                  ·
                    refine GO.aload_n dX1_judge_176 rfl rfl ?_
                    refine GO.iload dX1_judge_177 rfl ?_
                    refine GO.putI h_x fp_RX1_55 rfl (by decide +kernel) r_i5 (r_i5).1 (r_i5).2 dX1_judge_179 (fun V11514 e11513 => ?_)
                    refine GO.aload_n dX1_judge_182 rfl rfl ?_
                    refine GO.iload dX1_judge_183 rfl ?_
                    refine GO.putI h_x fp_RX1_58 rfl (by decide +kernel) r_i10445 (r_i10445).1 (r_i10445).2 dX1_judge_185 (fun V11516 e11515 => ?_)
                    refine GO.iload dX1_judge_188 rfl ?_
                    exact GO.reti rfl rfl dX1_judge_190 ⟨rfl, _, rfl, r11511, trivial⟩
                refine GO.icmp_ne (tgt := 149) dX1_judge_141 (by decide) r11498 (ir_c rfl) (fun c11517 => ?_) (fun c11517 => ?_)
                ·
                  refine GO.iload dX1_judge_149 rfl ?_
                  refine GO.if_ne (tgt := 158) dX1_judge_151 (by decide) r11498 (fun c11518 => ?_) (fun c11518 => ?_)
                  ·
                    refine GO.aload dX1_judge_158 rfl ?_
                    refine GO.iload dX1_judge_160 rfl ?_
                    refine GO.aload_n dX1_judge_162 rfl rfl ?_
                    refine GO.iload_n dX1_judge_163 rfl rfl ?_
                    refine GO.iload dX1_judge_164 rfl ?_
                    refine GO.callS (N := mX1_bar) dX1_judge_166 gS_RX1_143 (t_X1_bar h10434 r_i10445 h_p0 r_p1 r_p3 (by omega)) rfl [] rfl rfl (Nat.le_of_ble_eq_true rfl) rfl (k_ip fun X11519 r11520 h11521 => ?_)
                    have q11522 : -2147483648 ≤ X11519 ∧ X11519 ≤ 2147483647 := r11520
                    exact hj11508 X11519 (by omega) (by omega)
                  ·
                    refine GO.iconst dX1_judge_154 ?_
                    refine GO.goto (tgt := 169) dX1_judge_155 (by decide) ?_
                    exact hj11508 0 (by omega) (by omega)
                ·
                  refine GO.bipush dX1_judge_144 rfl ?_
                  refine GO.goto (tgt := 169) dX1_judge_146 (by decide) ?_
                  exact hj11508 6 (by omega) (by omega)
              ·
                refine GO.aload_n dX1_judge_94 rfl rfl ?_
                refine GO.aload_n dX1_judge_95 rfl rfl ?_
                refine GO.getI h_p0 fl_RX1_130 rfl rfl dX1_judge_96 (fun _ _ => ?_)
                refine GO.iload dX1_judge_99 rfl ?_
                refine GO.iload dX1_judge_101 rfl ?_
                refine GO.callV (ci := 1) (N := mX1_readingOf) dX1_judge_103 (RX1, TX1, 13) rfl gV_RX1_135 h_x (t_X1_readingOf h_x vi_ir r_i5 r_i10445) rfl [] rfl rfl (Nat.le_of_ble_eq_true rfl) rfl (k_rp (fun h11525 => ?_) (fun o11523 h11524 h11525 => ?_))
                ·
                  refine GO.goto (tgt := 110) dX1_judge_106 (by decide) ?_
                  refine GO.astoreN (ls1 := [some (.ref x), some (.ref p0), some (ti p1), some (ti p2), some (ti p3), some (ti i5), some (.ref o10433), some (ti i10445), some (.null), none, none]) dX1_judge_110 rfl rfl ?_
                  refine GO.aloadN dX1_judge_112 rfl ?_
                  refine GO.ifnonnullN dX1_judge_114 ?_
                  refine GO.aload_n dX1_judge_117 rfl rfl ?_
                  refine GO.aload dX1_judge_118 rfl ?_
                  refine GO.iload dX1_judge_120 rfl ?_
                  refine GO.callV (ci := 1) (N := mX1_holds) dX1_judge_122 (RX1, TX1, 13) rfl gV_RX1_139 h_x (t_X1_holds h_x h10434 r_i10445) rfl [] rfl rfl (Nat.le_of_ble_eq_true rfl) rfl (k_is fun X11531 V11535 r11532 h11533 hF11534 => ?_)
                  refine GO.goto (tgt := 135) dX1_judge_125 (by decide) ?_
                  refine GO.istore (ls1 := [some (.ref x), some (.ref p0), some (ti p1), some (ti p2), some (ti p3), some (ti i5), some (.ref o10433), some (ti i10445), some (.null), some (ti X11531), none]) dX1_judge_135 rfl rfl ?_
                  refine GO.iload dX1_judge_137 rfl ?_
                  refine GO.bipush dX1_judge_139 rfl ?_
                  have hj11542 : ∀ (z11541 : Int), ∀ (l11543 : (-2147483648) ≤ z11541), ∀ (u11544 : z11541 ≤ 2147483647), GO mX1_judge K V (IS K (fun X V1 => True)) K V11535 0 0 169 [some (.ref x), some (.ref p0), some (ti p1), some (ti p2), some (ti p3), some (ti i5), some (.ref o10433), some (ti i10445), some (.null), some (ti X11531), none] [ti z11541] := by
                    intro z11541 l11543 u11544
                    have r11545 : ir z11541 := ⟨by omega, by omega⟩
                    refine GO.istore (ls1 := [some (.ref x), some (.ref p0), some (ti p1), some (ti p2), some (ti p3), some (ti i5), some (.ref o10433), some (ti i10445), some (.null), some (ti X11531), some (ti z11541)]) dX1_judge_169 rfl rfl ?_
                    refine GO.iload dX1_judge_171 rfl ?_
                    refine GO.if_eq (tgt := 191) dX1_judge_173 (by decide) r11545 (fun c11546 => ?_) (fun c11546 => ?_)
                    ·
                      refine GO.iinc (X := i10445) (n := 1) (Y := i10445 + 1) (ls1 := [some (.ref x), some (.ref p0), some (ti p1), some (ti p2), some (ti p3), some (ti i5), some (.ref o10433), some (ti (i10445 + 1)), some (.null), some (ti X11531), some (ti z11541)]) dX1_judge_191 rfl rfl rfl rfl ?_
                      refine GO.goto (tgt := 53) dX1_judge_194 (by decide) ?_
                      refine GO.drop [true, true, true, true, true, true, true, true, false, false, false] rfl ?_
                      exact ih11472 (i10445 + 1) V11535 ⟨by omega, by omega, trivial⟩ (by show (2147483647 - (i10445 + 1)).toNat < (2147483647 - i10445).toNat; omega)
                    ·
                      refine GO.aload_n dX1_judge_176 rfl rfl ?_
                      refine GO.iload dX1_judge_177 rfl ?_
                      refine GO.putI h_x fp_RX1_55 rfl (by decide +kernel) r_i5 (r_i5).1 (r_i5).2 dX1_judge_179 (fun V11548 e11547 => ?_)
                      refine GO.aload_n dX1_judge_182 rfl rfl ?_
                      refine GO.iload dX1_judge_183 rfl ?_
                      refine GO.putI h_x fp_RX1_58 rfl (by decide +kernel) r_i10445 (r_i10445).1 (r_i10445).2 dX1_judge_185 (fun V11550 e11549 => ?_)
                      refine GO.iload dX1_judge_188 rfl ?_
                      exact GO.reti rfl rfl dX1_judge_190 ⟨rfl, _, rfl, r11545, trivial⟩
                  refine GO.icmp_ne (tgt := 149) dX1_judge_141 (by decide) r11532 (ir_c rfl) (fun c11551 => ?_) (fun c11551 => ?_)
                  ·
                    refine GO.iload dX1_judge_149 rfl ?_
                    refine GO.if_ne (tgt := 158) dX1_judge_151 (by decide) r11532 (fun c11552 => ?_) (fun c11552 => ?_)
                    ·
                      refine GO.aload dX1_judge_158 rfl ?_
                      refine GO.iload dX1_judge_160 rfl ?_
                      refine GO.aload_n dX1_judge_162 rfl rfl ?_
                      refine GO.iload_n dX1_judge_163 rfl rfl ?_
                      refine GO.iload dX1_judge_164 rfl ?_
                      refine GO.callS (N := mX1_bar) dX1_judge_166 gS_RX1_143 (t_X1_bar h10434 r_i10445 h_p0 r_p1 r_p3 (by omega)) rfl [] rfl rfl (Nat.le_of_ble_eq_true rfl) rfl (k_ip fun X11553 r11554 h11555 => ?_)
                      have q11556 : -2147483648 ≤ X11553 ∧ X11553 ≤ 2147483647 := r11554
                      exact hj11542 X11553 (by omega) (by omega)
                    ·
                      refine GO.iconst dX1_judge_154 ?_
                      refine GO.goto (tgt := 169) dX1_judge_155 (by decide) ?_
                      exact hj11542 0 (by omega) (by omega)
                  ·
                    refine GO.bipush dX1_judge_144 rfl ?_
                    refine GO.goto (tgt := 169) dX1_judge_146 (by decide) ?_
                    exact hj11542 6 (by omega) (by omega)
                ·
                  refine GO.goto (tgt := 110) dX1_judge_106 (by decide) ?_
                  refine GO.astore (ls1 := [some (.ref x), some (.ref p0), some (ti p1), some (ti p2), some (ti p3), some (ti i5), some (.ref o10433), some (ti i10445), some (.ref o11523), none, none]) dX1_judge_110 rfl rfl ?_
                  refine GO.aload dX1_judge_112 rfl ?_
                  refine GO.ifnonnull (tgt := 128) dX1_judge_114 (by decide) ?_
                  refine GO.aload_n dX1_judge_128 rfl rfl ?_
                  refine GO.aload dX1_judge_129 rfl ?_
                  refine GO.iconst dX1_judge_131 ?_
                  refine GO.callV (ci := 1) (N := mX1_holds) dX1_judge_132 (RX1, TX1, 13) rfl gV_RX1_139 h_x (t_X1_holds h_x h11524 (ir_c rfl)) rfl [] rfl rfl (Nat.le_of_ble_eq_true rfl) rfl (k_is fun X11562 V11566 r11563 h11564 hF11565 => ?_)
                  refine GO.istore (ls1 := [some (.ref x), some (.ref p0), some (ti p1), some (ti p2), some (ti p3), some (ti i5), some (.ref o10433), some (ti i10445), some (.ref o11523), some (ti X11562), none]) dX1_judge_135 rfl rfl ?_
                  refine GO.iload dX1_judge_137 rfl ?_
                  refine GO.bipush dX1_judge_139 rfl ?_
                  have hj11573 : ∀ (z11572 : Int), ∀ (l11574 : (-2147483648) ≤ z11572), ∀ (u11575 : z11572 ≤ 2147483647), GO mX1_judge K V (IS K (fun X V1 => True)) K V11566 0 0 169 [some (.ref x), some (.ref p0), some (ti p1), some (ti p2), some (ti p3), some (ti i5), some (.ref o10433), some (ti i10445), some (.ref o11523), some (ti X11562), none] [ti z11572] := by
                    intro z11572 l11574 u11575
                    have r11576 : ir z11572 := ⟨by omega, by omega⟩
                    refine GO.istore (ls1 := [some (.ref x), some (.ref p0), some (ti p1), some (ti p2), some (ti p3), some (ti i5), some (.ref o10433), some (ti i10445), some (.ref o11523), some (ti X11562), some (ti z11572)]) dX1_judge_169 rfl rfl ?_
                    refine GO.iload dX1_judge_171 rfl ?_
                    refine GO.if_eq (tgt := 191) dX1_judge_173 (by decide) r11576 (fun c11577 => ?_) (fun c11577 => ?_)
                    ·
                      refine GO.iinc (X := i10445) (n := 1) (Y := i10445 + 1) (ls1 := [some (.ref x), some (.ref p0), some (ti p1), some (ti p2), some (ti p3), some (ti i5), some (.ref o10433), some (ti (i10445 + 1)), some (.ref o11523), some (ti X11562), some (ti z11572)]) dX1_judge_191 rfl rfl rfl rfl ?_
                      refine GO.goto (tgt := 53) dX1_judge_194 (by decide) ?_
                      refine GO.drop [true, true, true, true, true, true, true, true, false, false, false] rfl ?_
                      exact ih11472 (i10445 + 1) V11566 ⟨by omega, by omega, trivial⟩ (by show (2147483647 - (i10445 + 1)).toNat < (2147483647 - i10445).toNat; omega)
                    ·
                      refine GO.aload_n dX1_judge_176 rfl rfl ?_
                      refine GO.iload dX1_judge_177 rfl ?_
                      refine GO.putI h_x fp_RX1_55 rfl (by decide +kernel) r_i5 (r_i5).1 (r_i5).2 dX1_judge_179 (fun V11579 e11578 => ?_)
                      refine GO.aload_n dX1_judge_182 rfl rfl ?_
                      refine GO.iload dX1_judge_183 rfl ?_
                      refine GO.putI h_x fp_RX1_58 rfl (by decide +kernel) r_i10445 (r_i10445).1 (r_i10445).2 dX1_judge_185 (fun V11581 e11580 => ?_)
                      refine GO.iload dX1_judge_188 rfl ?_
                      exact GO.reti rfl rfl dX1_judge_190 ⟨rfl, _, rfl, r11576, trivial⟩
                  refine GO.icmp_ne (tgt := 149) dX1_judge_141 (by decide) r11563 (ir_c rfl) (fun c11582 => ?_) (fun c11582 => ?_)
                  ·
                    refine GO.iload dX1_judge_149 rfl ?_
                    refine GO.if_ne (tgt := 158) dX1_judge_151 (by decide) r11563 (fun c11583 => ?_) (fun c11583 => ?_)
                    ·
                      refine GO.aload dX1_judge_158 rfl ?_
                      refine GO.iload dX1_judge_160 rfl ?_
                      refine GO.aload_n dX1_judge_162 rfl rfl ?_
                      refine GO.iload_n dX1_judge_163 rfl rfl ?_
                      refine GO.iload dX1_judge_164 rfl ?_
                      refine GO.callS (N := mX1_bar) dX1_judge_166 gS_RX1_143 (t_X1_bar h10434 r_i10445 h_p0 r_p1 r_p3 (by omega)) rfl [] rfl rfl (Nat.le_of_ble_eq_true rfl) rfl (k_ip fun X11584 r11585 h11586 => ?_)
                      have q11587 : -2147483648 ≤ X11584 ∧ X11584 ≤ 2147483647 := r11585
                      exact hj11573 X11584 (by omega) (by omega)
                    ·
                      refine GO.iconst dX1_judge_154 ?_
                      refine GO.goto (tgt := 169) dX1_judge_155 (by decide) ?_
                      exact hj11573 0 (by omega) (by omega)
                  ·
                    refine GO.bipush dX1_judge_144 rfl ?_
                    refine GO.goto (tgt := 169) dX1_judge_146 (by decide) ?_
                    exact hj11573 6 (by omega) (by omega)
            ·
              refine GO.goto (tgt := 191) dX1_judge_87 (by decide) ?_
              refine GO.iinc (X := i10445) (n := 1) (Y := i10445 + 1) (ls1 := [some (.ref x), some (.ref p0), some (ti p1), some (ti p2), some (ti p3), some (ti i5), some (.ref o10433), some (ti (i10445 + 1)), none, none, none]) dX1_judge_191 rfl rfl rfl rfl ?_
              refine GO.goto (tgt := 53) dX1_judge_194 (by decide) ?_
              exact ih11472 (i10445 + 1) Wi10445 ⟨by omega, by omega, trivial⟩ (by show (2147483647 - (i10445 + 1)).toNat < (2147483647 - i10445).toNat; omega)
      ·
        refine GO.goto (tgt := 197) dX1_judge_47 (by decide) ?_
        refine GO.iinc (X := i5) (n := 1) (Y := i5 + 1) (ls1 := [some (.ref x), some (.ref p0), some (ti p1), some (ti p2), some (ti p3), some (ti (i5 + 1)), some (.ref o10433), none, none, none, none]) dX1_judge_197 rfl rfl rfl rfl ?_
        refine GO.goto (tgt := 13) dX1_judge_200 (by decide) ?_
        refine GO.drop [true, true, true, true, true, true, false, true, true, true, true] rfl ?_
        exact ih10428 (i5 + 1) Wi5 ⟨by omega, by omega, trivial⟩ (by show (2147483647 - (i5 + 1)).toNat < (2147483647 - i5).toNat; omega)

set_option maxHeartbeats 1000000 in
theorem t_X4_fill_t123 {K : Kmap} {V : Vmap} {p0 n_p0 : Nat} {p1 : Int} (h_p0 : K p0 = some (124, n_p0)) (r_p1 : ir p1) (q_0 : p1 ≥ (-1)) (q_1 : p1 ≤ 3599) : MC mX4_fill_t123 K V [.ref p0, ti p1] (VS K (fun V1 => (True) ∧ (FLL V V1 p0 n_p0 p1))) := by
  refine MC.start 1 (by decide +kernel) rfl rfl rfl (ls0 := [some (.ref p0), some (ti p1), none]) rfl ?_
  refine GO.aload_n dX4_fill_0 rfl rfl ?_
  refine GO.ifnonnull (tgt := 5) dX4_fill_1 (by decide) ?_
  refine GO.iconst dX4_fill_5 ?_
  refine GO.istore_n (ls1 := [some (.ref p0), some (ti p1), some (ti 0)]) dX4_fill_6 rfl rfl rfl ?_
  refine GO.loop1 (fun i1 W => 0 ≤ i1 ∧ i1 ≤ 5000 ∧ (FLI V W p0 p1 i1) ∧ True) (fun i1 => [some (.ref p0), some (ti p1), some (ti i1)]) (fun i1 W => (2147483647 - i1).toNat) 0 ⟨by omega, by omega, (by first | exact FLI.beg), trivial⟩ rfl (fun i1 Wi1 hp48 ih47 => ?_)
  obtain ⟨l_i1, u_i1, hfl, -⟩ := hp48
  have r_i1 : ir i1 := ⟨by omega, by omega⟩
  show GO mX4_fill_t123 K V (VS K (fun V1 => (True) ∧ (FLL V V1 p0 n_p0 p1))) K Wi1 0 0 7 [some (.ref p0), some (ti p1), some (ti i1)] []
  refine GO.iload_n dX4_fill_7 rfl rfl ?_
  refine GO.aload_n dX4_fill_8 rfl rfl ?_
  refine GO.alen h_p0 dX4_fill_9 (fun h49 => ?_)
  refine GO.icmp_ge (tgt := 23) dX4_fill_10 (by decide) r_i1 ⟨by omega, by omega⟩ (fun c50 => ?_) (fun c50 => ?_)
  ·
    exact GO.retv rfl rfl dX4_fill_23 ⟨rfl, rfl, ⟨trivial, FLI.end hfl (by omega)⟩⟩
  ·
    refine GO.aload_n dX4_fill_13 rfl rfl ?_
    refine GO.iload_n dX4_fill_14 rfl rfl ?_
    refine GO.iload_n dX4_fill_15 rfl rfl ?_
    have q52 : -2147483648 ≤ p1 ∧ p1 ≤ 2147483647 := r_p1
    refine GO.iast (t := 123) rfl rfl (by decide +kernel) h_p0 r_i1 (by omega) (by omega) r_p1 (by omega) (by omega) dX4_fill_16 (fun V53 e51 => ?_)
    refine GO.iinc (X := i1) (n := 1) (Y := i1 + 1) (ls1 := [some (.ref p0), some (ti p1), some (ti (i1 + 1))]) dX4_fill_17 rfl rfl rfl rfl ?_
    refine GO.goto (tgt := 7) dX4_fill_20 (by decide) ?_
    exact ih47 (i1 + 1) V53 ⟨by omega, by omega, (by first | exact FLI.beg | exact FLI.step hfl (by assumption) (by assumption) (by omega) (by omega)), trivial⟩ (by show (2147483647 - (i1 + 1)).toNat < (2147483647 - i1).toNat; omega)

set_option maxHeartbeats 1000000 in
theorem t_X2_init {K : Kmap} {V : Vmap} {x : Nat} {p0 : Int} (h_x : K x = some (0, 14)) (r_p0 : ir p0) : MC mX2_init K V [.ref x, ti p0] (VX (fun K1 V1 => (K1 x = some (0, 2) ∧ vi V1 x 2 = 0 ∧ ZR K V1 x 4 7 0 ∧ (OLDP K V V1 x) ∧ (NYR K V1 x)) ∧ KE K K1 x)) := by
  refine MC.start 0 (by decide +kernel) rfl rfl rfl (ls0 := [some (.ref x), some (ti p0)]) rfl ?_
  refine GO.aload_n dX2_init_0 rfl rfl ?_
  refine GO.objInit dX2_init_1 gw_329 gw_27 gw_28 rfl rfl ?_
  refine GO.aload_n dX2_init_4 rfl rfl ?_
  refine GO.iconst dX2_init_5 ?_
  refine GO.putRW rfl (by decide +kernel) h_x fp_raw_fp_RX2_9 rfl rfl dX2_init_6 (fun V2 e1 => ?_)
  refine GO.aload_n dX2_init_9 rfl rfl ?_
  refine GO.iconst dX2_init_10 ?_
  refine GO.putRW rfl (by decide +kernel) h_x fp_raw_fp_RX2_15 rfl rfl dX2_init_11 (fun V4 e3 => ?_)
  refine GO.aload_n dX2_init_14 rfl rfl ?_
  refine GO.bipush dX2_init_15 rfl ?_
  refine GO.newT (atype := .int) 123 20 gw_89 rfl rfl (fun _ _ h => h) rfl rfl rfl (Or.inr rfl) (fun _ => okv_df rfl rfl rfl) rfl rfl dX2_init_17 (fun o5 K6 V12 hq7 hK8 hE9 h10 hz13 hV11 => ?_)
  have h14 := (by rw [hK8, updK_ne (K_old h_x hq7)]; exact h_x : K6 x = some (0, 14))
  have h15 := KE.nw KE.rf h_x hq7
  refine GO.putRF rfl rfl (by decide +kernel) h14 fp_raw_fp_RX2_18 rfl rfl dX2_init_19 (fun V17 e16 => ?_)
  refine GO.aload_n dX2_init_22 rfl rfl ?_
  refine GO.bipush dX2_init_23 rfl ?_
  refine GO.newT (atype := .int) 124 7 gw_89 rfl rfl (fun _ _ h => h) rfl rfl rfl (Or.inr rfl) (fun _ => okv_df rfl rfl rfl) rfl rfl dX2_init_25 (fun o18 K19 V25 hq20 hK21 hE22 h23 hz26 hV24 => ?_)
  have h27 := (by rw [hK21, updK_ne (K_old h14 hq20)]; exact h14 : K19 x = some (0, 14))
  have h28 := hE22.arr h10
  have h29 := KE.nw (KE.new KE.rf hq7 hK8) h14 hq20
  refine GO.putRF rfl rfl (by decide +kernel) h27 fp_raw_fp_RX2_22 rfl rfl dX2_init_27 (fun V31 e30 => ?_)
  refine GO.aload_n dX2_init_30 rfl rfl ?_
  refine GO.iload_n dX2_init_31 rfl rfl ?_
  refine GO.putRW rfl (by decide +kernel) h27 fp_raw_fp_RX2_25 rfl rfl dX2_init_32 (fun V33 e32 => ?_)
  refine GO.aload_n dX2_init_35 rfl rfl ?_
  refine GO.getRaw h27 fl_raw_fl_RX2_18 (Eq.trans (uq_ne e32 (Or.inr (by decide))) (Eq.trans (uq_ne e30 (Or.inr (by decide))) (Eq.trans (congrFun (hV24 _ (K_old h14 hq20)) _) (uq_at e16)))) dX2_init_36 ?_
  refine GO.iconst dX2_init_39 ?_
  refine GO.callS (N := mX4_fill_t123) dX2_init_40 gS_RX2_28 (t_X4_fill_t123 h28 (ir_c rfl) (by omega) (by omega)) rfl [] rfl rfl (Nat.le_of_ble_eq_true rfl) rfl (k_vs fun V36 h35 hF34 => ?_)
  have raw_fill := h35.2
  have rw40 := h35.2
  refine GO.promote (ci := 2) rfl h27 (fun j hj => ?_) (fun K37 e38 hE39 h40 => ?_)
  ·
    have hj : j < 5 := hj
    match j, hj with
    | 0, _ => exact okv_any (Eq.trans (hF34 _ _ _ h27 h27 (by decide +kernel)) (uq_at e32))
    | 1, _ => exact okv_any (Eq.trans (hF34 _ _ _ h27 h27 (by decide +kernel)) (Eq.trans (uq_ne e32 (Or.inr (by decide))) (Eq.trans (uq_ne e30 (Or.inr (by decide))) (Eq.trans (congrFun (hV24 _ (K_old h14 hq20)) _) (Eq.trans (uq_ne e16 (Or.inr (by decide))) (Eq.trans (congrFun (hV11 _ (K_old h_x hq7)) _) (Eq.trans (uq_ne e3 (Or.inr (by decide))) (uq_at e1))))))))
    | 2, _ => exact okv_any (Eq.trans (hF34 _ _ _ h27 h27 (by decide +kernel)) (Eq.trans (uq_ne e32 (Or.inr (by decide))) (Eq.trans (uq_ne e30 (Or.inr (by decide))) (Eq.trans (congrFun (hV24 _ (K_old h14 hq20)) _) (Eq.trans (uq_ne e16 (Or.inr (by decide))) (Eq.trans (congrFun (hV11 _ (K_old h_x hq7)) _) (uq_at e3)))))))
    | 3, _ => exact ⟨_, (Eq.trans (hF34 _ _ _ h27 h27 (by decide +kernel)) (Eq.trans (uq_ne e32 (Or.inr (by decide))) (Eq.trans (uq_ne e30 (Or.inr (by decide))) (Eq.trans (congrFun (hV24 _ (K_old h14 hq20)) _) (uq_at e16))))), ⟨_, h28⟩⟩
    | 4, _ => exact ⟨_, (Eq.trans (hF34 _ _ _ h27 h27 (by decide +kernel)) (Eq.trans (uq_ne e32 (Or.inr (by decide))) (uq_at e30))), ⟨_, h23⟩⟩
    | j + 5, hj => exact absurd hj (by omega)
  exact GO.retv rfl rfl dX2_init_43 ⟨rfl, ⟨h40, vi_at (Eq.trans (hF34 _ _ _ h27 h27 (by decide +kernel)) (Eq.trans (uq_ne e32 (Or.inr (by decide))) (Eq.trans (uq_ne e30 (Or.inr (by decide))) (Eq.trans (congrFun (hV24 _ (K_old h14 hq20)) _) (Eq.trans (uq_ne e16 (Or.inr (by decide))) (Eq.trans (congrFun (hV11 _ (K_old h_x hq7)) _) (uq_at e3))))))) (ir_c rfl), ZR.mk (Eq.trans (hF34 _ _ _ h27 h27 (by decide +kernel)) (Eq.trans (uq_ne e32 (Or.inr (by decide))) (uq_at e30))) h29.1 (fun j => (Eq.trans (FRA hF34 h23 h23 (by decide +kernel) j) (Eq.trans (uq_ne e32 (Or.inl (K_ne h23 h27 (by decide)))) (uq_ne e30 (Or.inl (K_ne h23 h27 (by decide))))))) hz26, (OLDP.mk (by assumption) (by assumption) hq7 hK8 hV11 (by assumption) hq20 hV24 (by assumption) (by assumption) rw40), (NYR.mk (Eq.trans (hF34 _ _ _ h27 h27 (by decide +kernel)) (Eq.trans (uq_ne e32 (Or.inr (by decide))) (Eq.trans (uq_ne e30 (Or.inr (by decide))) (Eq.trans (congrFun (hV24 _ (K_old h14 hq20)) _) (uq_at e16))))) hq7 rw40 (by decide))⟩, KE.promote (KE.new (KE.new KE.rf hq7 hK8) hq20 hK21) e38⟩

set_option maxHeartbeats 1000000 in
theorem t_X2_decidesOn {K : Kmap} {V : Vmap} {x : Nat} {p0 : Int} (h_x : K x = some (0, 2)) (r_p0 : ir p0) : MC mX2_decidesOn K V [.ref x, ti p0] (IP K V (fun X => (X = 0 ∨ X = 1) ∧ (X ≠ 0 → True) ∧ (X = 0 → True))) := by
  refine MC.start 0 (by decide +kernel) rfl rfl rfl (ls0 := [some (.ref x), some (ti p0)]) rfl ?_
  refine GO.aload_n dX2_decidesOn_0 rfl rfl ?_
  refine GO.getI h_x fl_RX2_25 rfl rfl dX2_decidesOn_1 (fun _ _ => ?_)
  refine GO.iconst dX2_decidesOn_4 ?_
  refine GO.icmp_eq (tgt := 20) dX2_decidesOn_5 (by decide) vi_ir (ir_c rfl) (fun c1 => ?_) (fun c1 => ?_)
  ·
    refine GO.iconst dX2_decidesOn_20 ?_
    exact GO.retz rfl rfl dX2_decidesOn_21 (Or.inl rfl) ⟨rfl, rfl, _, rfl, (ir_c rfl), ⟨Or.inl rfl, fun _ => trivial, fun _ => trivial⟩⟩
  ·
    refine GO.aload_n dX2_decidesOn_8 rfl rfl ?_
    refine GO.getI h_x fl_RX2_25 rfl rfl dX2_decidesOn_9 (fun _ _ => ?_)
    refine GO.iload_n dX2_decidesOn_12 rfl rfl ?_
    refine GO.icmp_gt (tgt := 20) dX2_decidesOn_13 (by decide) vi_ir r_p0 (fun c2 => ?_) (fun c2 => ?_)
    ·
      refine GO.iconst dX2_decidesOn_20 ?_
      exact GO.retz rfl rfl dX2_decidesOn_21 (Or.inl rfl) ⟨rfl, rfl, _, rfl, (ir_c rfl), ⟨Or.inl rfl, fun _ => trivial, fun _ => trivial⟩⟩
    ·
      refine GO.iconst dX2_decidesOn_16 ?_
      refine GO.goto (tgt := 21) dX2_decidesOn_17 (by decide) ?_
      exact GO.retz rfl rfl dX2_decidesOn_21 (Or.inr rfl) ⟨rfl, rfl, _, rfl, (ir_c rfl), ⟨Or.inr rfl, fun _ => trivial, fun _ => trivial⟩⟩

set_option maxHeartbeats 1000000 in
theorem t_X2_blocksWords {K : Kmap} {V : Vmap} {x : Nat} {p0 : Int} (h_x : K x = some (0, 2)) (r_p0 : ir p0) : MC mX2_blocksWords K V [.ref x, ti p0] (IP K V (fun X => (X = 0 ∨ X = 1) ∧ (X ≠ 0 → True) ∧ (X = 0 → True) ∧ (X ≠ 0 ↔ BWp V x p0))) := by
  refine MC.start 1 (by decide +kernel) rfl rfl rfl (ls0 := [some (.ref x), some (ti p0), none]) rfl ?_
  refine GO.aload_n dX2_blocksWords_0 rfl rfl ?_
  refine GO.getI h_x fl_RX2_15 rfl rfl dX2_blocksWords_1 (fun _ _ => ?_)
  refine GO.iload_n dX2_blocksWords_4 rfl rfl ?_
  refine GO.iand dX2_blocksWords_5 ?_
  refine GO.if_eq (tgt := 11) dX2_blocksWords_6 (by decide) wand_ir (fun c1 => ?_) (fun c1 => ?_)
  ·
    have cc6 := c1
    refine GO.iconst dX2_blocksWords_11 ?_
    refine GO.istore_n (ls1 := [some (.ref x), some (ti p0), some (ti 0)]) dX2_blocksWords_12 rfl rfl rfl ?_
    refine GO.loop1 (fun i2 W => 0 ≤ i2 ∧ i2 ≤ 7 ∧ (BWn W x p0 i2) ∧ V = W) (fun i2 => [some (.ref x), some (ti p0), some (ti i2)]) (fun i2 W => (2147483647 - i2).toNat) 0 ⟨by omega, by omega, (by first | exact BWn.nil cc6), rfl⟩ rfl (fun i2 V35 hp37 ih36 => ?_)
    obtain ⟨l_i2, u_i2, hbw, rfl⟩ := hp37
    have r_i2 : ir i2 := ⟨by omega, by omega⟩
    show GO mX2_blocksWords K V (IP K V (fun X => (X = 0 ∨ X = 1) ∧ (X ≠ 0 → True) ∧ (X = 0 → True) ∧ (X ≠ 0 ↔ BWp V x p0))) K V 0 0 13 [some (.ref x), some (ti p0), some (ti i2)] []
    refine GO.iload_n dX2_blocksWords_13 rfl rfl ?_
    refine GO.bipush dX2_blocksWords_14 rfl ?_
    refine GO.icmp_ge (tgt := 50) dX2_blocksWords_16 (by decide) r_i2 (ir_c rfl) (fun c38 => ?_) (fun c38 => ?_)
    ·
      have cc16 := c38
      refine GO.iconst dX2_blocksWords_50 ?_
      exact GO.retz rfl rfl dX2_blocksWords_51 (Or.inl rfl) ⟨rfl, rfl, _, rfl, (ir_c rfl), ⟨Or.inl rfl, fun _ => trivial, fun _ => trivial, (by first | exact iff_of_true (by decide) (Or.inl cc6) | exact iff_of_false (fun h => h rfl) (BWn.end hbw (by omega)))⟩⟩
    ·
      have cc16 := c38
      refine GO.iload_n dX2_blocksWords_19 rfl rfl ?_
      refine GO.iload_n dX2_blocksWords_20 rfl rfl ?_
      refine GO.ishr dX2_blocksWords_21 ?_
      refine GO.iconst dX2_blocksWords_22 ?_
      refine GO.iand dX2_blocksWords_23 ?_
      refine GO.if_eq (tgt := 44) dX2_blocksWords_24 (by decide) wand_ir (fun c39 => ?_) (fun c39 => ?_)
      ·
        have cc24 := c39
        refine GO.iinc (X := i2) (n := 1) (Y := i2 + 1) (ls1 := [some (.ref x), some (ti p0), some (ti (i2 + 1))]) dX2_blocksWords_44 rfl rfl rfl rfl ?_
        refine GO.goto (tgt := 13) dX2_blocksWords_47 (by decide) ?_
        exact ih36 (i2 + 1) V ⟨by omega, by omega, (by first | exact BWn.no hbw (by omega) cc24 | exact BWn.nil cc6), rfl⟩ (by show (2147483647 - (i2 + 1)).toNat < (2147483647 - i2).toNat; omega)
      ·
        have cc24 := c39
        refine GO.aload_n dX2_blocksWords_27 rfl rfl ?_
        refine GO.getA (n := 7) h_x fl_RX2_22 rfl rfl rfl rfl dX2_blocksWords_28 (fun hv41 h40 => ?_)
        refine GO.iload_n dX2_blocksWords_31 rfl rfl ?_
        refine GO.callS (N := mX4_get) dX2_blocksWords_32 gS_RX2_34 (t_X4_get rfl h40 r_i2) rfl [] rfl rfl (Nat.le_of_ble_eq_true rfl) rfl (k_ip fun X42 r43 h44 => ?_)
        have raw_get := h44.2
        have rw32 := h44.2
        refine GO.iload_n dX2_blocksWords_35 rfl rfl ?_
        refine GO.iconst dX2_blocksWords_36 ?_
        refine GO.ixor dX2_blocksWords_37 ?_
        refine GO.iand dX2_blocksWords_38 ?_
        refine GO.if_eq (tgt := 44) dX2_blocksWords_39 (by decide) wand_ir (fun c45 => ?_) (fun c45 => ?_)
        ·
          have cc39 := c45
          refine GO.iinc (X := i2) (n := 1) (Y := i2 + 1) (ls1 := [some (.ref x), some (ti p0), some (ti (i2 + 1))]) dX2_blocksWords_44 rfl rfl rfl rfl ?_
          refine GO.goto (tgt := 13) dX2_blocksWords_47 (by decide) ?_
          exact ih36 (i2 + 1) V ⟨by omega, by omega, (by first | exact BWn.no hbw (by omega) cc24 | exact BWn.less hbw (by omega) (by omega) rw32 cc39 | exact BWn.nil cc6), rfl⟩ (by show (2147483647 - (i2 + 1)).toNat < (2147483647 - i2).toNat; omega)
        ·
          have cc39 := c45
          refine GO.iconst dX2_blocksWords_42 ?_
          exact GO.retz rfl rfl dX2_blocksWords_43 (Or.inr rfl) ⟨rfl, rfl, _, rfl, (ir_c rfl), ⟨Or.inr rfl, fun _ => trivial, fun _ => trivial, (by first | exact iff_of_true (by decide) (BWp.hit rw32 cc24 cc39 (by omega) (by omega)) | exact iff_of_true (by decide) (Or.inl cc6) | exact iff_of_false (fun h => h rfl) (BWn.end hbw (by omega)))⟩⟩
  ·
    have cc6 := c1
    refine GO.iconst dX2_blocksWords_9 ?_
    exact GO.retz rfl rfl dX2_blocksWords_10 (Or.inr rfl) ⟨rfl, rfl, _, rfl, (ir_c rfl), ⟨Or.inr rfl, fun _ => trivial, fun _ => trivial, (by first | exact iff_of_true (by decide) (Or.inl cc6))⟩⟩

set_option maxHeartbeats 1000000 in
theorem t_X8_init_k34 {K : Kmap} {V : Vmap} {x : Nat} {p0 : Int} {p1 : Int} (h_x : K x = some (0, 19)) (r_p0 : ir p0) (r_p1 : ir p1) (q_0 : p0 = 2) (q_1 : p1 = 8) : MC mX8_init_k34 K V [.ref x, ti p0, ti p1] (VX (fun K1 V1 => (K1 x = some (0, 34) ∧ vi V1 x 3 = 0) ∧ KE K K1 x)) := by
  refine MC.start 0 (by decide +kernel) rfl rfl rfl (ls0 := [some (.ref x), some (ti p0), some (ti p1)]) rfl ?_
  refine GO.aload_n dX8_init_0 rfl rfl ?_
  refine GO.objInit dX8_init_1 gw_103 gw_27 gw_28 rfl rfl ?_
  refine GO.aload_n dX8_init_4 rfl rfl ?_
  refine GO.iconst dX8_init_5 ?_
  refine GO.putRW rfl (by decide +kernel) h_x fp_raw_fp_RX8_9 rfl rfl dX8_init_6 (fun V2 e1 => ?_)
  refine GO.aload_n dX8_init_9 rfl rfl ?_
  refine GO.iload_n dX8_init_10 rfl rfl ?_
  refine GO.putRF rfl rfl (by decide +kernel) h_x fp_raw_fp_RX8_15 rfl rfl dX8_init_11 (fun V4 e3 => ?_)
  refine GO.aload_n dX8_init_14 rfl rfl ?_
  refine GO.iload_n dX8_init_15 rfl rfl ?_
  refine GO.putRF rfl rfl (by decide +kernel) h_x fp_raw_fp_RX8_18 rfl rfl dX8_init_16 (fun V6 e5 => ?_)
  refine GO.aload_n dX8_init_19 rfl rfl ?_
  refine GO.iconst dX8_init_20 ?_
  refine GO.iload_n dX8_init_21 rfl rfl ?_
  refine GO.iload_n dX8_init_22 rfl rfl ?_
  refine GO.imul dX8_init_23 ?_
  have q7 : -2147483648 ≤ p1 ∧ p1 ≤ 2147483647 := r_p1
  have q8 : -2147483648 ≤ p0 ∧ p0 ≤ 2147483647 := r_p0
  have m9 := mul_rng (a := p0) (b := p1) (A := 2) (B := 8) (by omega) (by omega) (by omega) (by omega)
  have m10 := mul_low (a := p0) (b := p1) (m := 2) (n := 8) (by omega) (by omega) (by omega) (by omega)
  refine GO.callS (N := mJ9_max_7cf53) dX8_init_24 gS_RX8_21 (t_J9_max_7cf53 (ir_c rfl) ⟨by omega, by omega⟩) rfl [.ref x] rfl rfl (Nat.le_of_ble_eq_true rfl) rfl (k_ip fun X11 r12 h13 => ?_)
  have q14 : -2147483648 ≤ X11 ∧ X11 ≤ 2147483647 := r12
  refine GO.newIT 156 16 gw_89 rfl rfl (fun _ _ => okv_df rfl rfl rfl) r12 (by omega) (by omega) rfl (Or.inr (by show _ = ((16 : Nat) : Int); omega)) rfl rfl dX8_init_27 (fun o15 K16 V22 hq17 hK18 hE19 h20 _ hV21 => ?_)
  have h23 := (by rw [hK18, updK_ne (K_old h_x hq17)]; exact h_x : K16 x = some (0, 19))
  have h24 := KE.nw KE.rf h_x hq17
  refine GO.putRF rfl rfl (by decide +kernel) h23 fp_raw_fp_RX8_27 rfl rfl dX8_init_29 (fun V26 e25 => ?_)
  refine GO.promoteT 34 rfl rfl h23 (fun j hj => ?_) (fun K27 e28 hE29 h30 => ?_)
  ·
    have hj : j < 4 := hj
    match j, hj with
    | 0, _ => exact okv_at (Eq.trans (uq_ne e25 (Or.inr (by decide))) (Eq.trans (congrFun (hV21 _ (K_old h_x hq17)) _) (Eq.trans (uq_ne e5 (Or.inr (by decide))) (uq_at e3)))) r_p0 (by omega) (by omega)
    | 1, _ => exact okv_at (Eq.trans (uq_ne e25 (Or.inr (by decide))) (Eq.trans (congrFun (hV21 _ (K_old h_x hq17)) _) (uq_at e5))) r_p1 (by omega) (by omega)
    | 2, _ => exact ⟨_, (uq_at e25), ⟨_, h20⟩⟩
    | 3, _ => exact okv_at (Eq.trans (uq_ne e25 (Or.inr (by decide))) (Eq.trans (congrFun (hV21 _ (K_old h_x hq17)) _) (Eq.trans (uq_ne e5 (Or.inr (by decide))) (Eq.trans (uq_ne e3 (Or.inr (by decide))) (uq_at e1))))) (ir_c rfl) (by omega) (by omega)
    | j + 4, hj => exact absurd hj (by omega)
  exact GO.retv rfl rfl dX8_init_32 ⟨rfl, ⟨h30, vi_at (Eq.trans (uq_ne e25 (Or.inr (by decide))) (Eq.trans (congrFun (hV21 _ (K_old h_x hq17)) _) (Eq.trans (uq_ne e5 (Or.inr (by decide))) (Eq.trans (uq_ne e3 (Or.inr (by decide))) (uq_at e1))))) (ir_c rfl)⟩, KE.promote (KE.new KE.rf hq17 hK18) e28⟩

set_option maxHeartbeats 1000000 in
theorem t_X4_fill {K : Kmap} {V : Vmap} {p0 n_p0 : Nat} {p1 : Int} (h_p0 : K p0 = some (1, n_p0)) (r_p1 : ir p1) : MC mX4_fill K V [.ref p0, ti p1] (VS K (fun V1 => (True) ∧ (FLL V V1 p0 n_p0 p1))) := by
  refine MC.start 1 (by decide +kernel) rfl rfl rfl (ls0 := [some (.ref p0), some (ti p1), none]) rfl ?_
  refine GO.aload_n dX4_fill_0 rfl rfl ?_
  refine GO.ifnonnull (tgt := 5) dX4_fill_1 (by decide) ?_
  refine GO.iconst dX4_fill_5 ?_
  refine GO.istore_n (ls1 := [some (.ref p0), some (ti p1), some (ti 0)]) dX4_fill_6 rfl rfl rfl ?_
  refine GO.loop1 (fun i1 W => 0 ≤ i1 ∧ i1 ≤ 5000 ∧ (FLI V W p0 p1 i1) ∧ True) (fun i1 => [some (.ref p0), some (ti p1), some (ti i1)]) (fun i1 W => (2147483647 - i1).toNat) 0 ⟨by omega, by omega, (by first | exact FLI.beg), trivial⟩ rfl (fun i1 Wi1 hp39 ih38 => ?_)
  obtain ⟨l_i1, u_i1, hfl, -⟩ := hp39
  have r_i1 : ir i1 := ⟨by omega, by omega⟩
  show GO mX4_fill K V (VS K (fun V1 => (True) ∧ (FLL V V1 p0 n_p0 p1))) K Wi1 0 0 7 [some (.ref p0), some (ti p1), some (ti i1)] []
  refine GO.iload_n dX4_fill_7 rfl rfl ?_
  refine GO.aload_n dX4_fill_8 rfl rfl ?_
  refine GO.alen h_p0 dX4_fill_9 (fun h40 => ?_)
  refine GO.icmp_ge (tgt := 23) dX4_fill_10 (by decide) r_i1 ⟨by omega, by omega⟩ (fun c41 => ?_) (fun c41 => ?_)
  ·
    exact GO.retv rfl rfl dX4_fill_23 ⟨rfl, rfl, ⟨trivial, FLI.end hfl (by omega)⟩⟩
  ·
    refine GO.aload_n dX4_fill_13 rfl rfl ?_
    refine GO.iload_n dX4_fill_14 rfl rfl ?_
    refine GO.iload_n dX4_fill_15 rfl rfl ?_
    refine GO.iast (t := 0) rfl rfl (by decide +kernel) h_p0 r_i1 (by omega) (by omega) r_p1 (r_p1).1 (r_p1).2 dX4_fill_16 (fun V43 e42 => ?_)
    refine GO.iinc (X := i1) (n := 1) (Y := i1 + 1) (ls1 := [some (.ref p0), some (ti p1), some (ti (i1 + 1))]) dX4_fill_17 rfl rfl rfl rfl ?_
    refine GO.goto (tgt := 7) dX4_fill_20 (by decide) ?_
    exact ih38 (i1 + 1) V43 ⟨by omega, by omega, (by first | exact FLI.beg | exact FLI.step hfl (by assumption) (by assumption) (by omega) (by omega)), trivial⟩ (by show (2147483647 - (i1 + 1)).toNat < (2147483647 - i1).toNat; omega)

set_option maxHeartbeats 1000000 in
theorem t_X3_init {K : Kmap} {V : Vmap} {x : Nat} {p0 : Int} {p1 : Int} {p2 : Int} {p3 : Int} {p4 : Int} (h_x : K x = some (0, 15)) (r_p0 : ir p0) (r_p1 : ir p1) (r_p2 : ir p2) (r_p3 : ir p3) (r_p4 : ir p4) : MC mX3_init K V [.ref x, ti p0, ti p1, ti p2, ti p3, ti p4] (VX (fun K1 V1 => (K1 x = some (0, 3) ∧ (PLN V1 x p0 p1 p2 p3 p4 0)) ∧ KE K K1 x)) := by
  refine MC.start 0 (by decide +kernel) rfl rfl rfl (ls0 := [some (.ref x), some (ti p0), some (ti p1), some (ti p2), some (ti p3), some (ti p4)]) rfl ?_
  refine GO.aload_n dX3_init_0 rfl rfl ?_
  refine GO.objInit dX3_init_1 gw_429 gw_27 gw_28 rfl rfl ?_
  refine GO.aload_n dX3_init_4 rfl rfl ?_
  refine GO.iconst dX3_init_5 ?_
  refine GO.putRW rfl (by decide +kernel) h_x fp_raw_fp_RX3_9 rfl rfl dX3_init_6 (fun V2 e1 => ?_)
  refine GO.aload_n dX3_init_9 rfl rfl ?_
  refine GO.iconst dX3_init_10 ?_
  refine GO.putRW rfl (by decide +kernel) h_x fp_raw_fp_RX3_15 rfl rfl dX3_init_11 (fun V4 e3 => ?_)
  refine GO.aload_n dX3_init_14 rfl rfl ?_
  refine GO.iconst dX3_init_15 ?_
  refine GO.putRW rfl (by decide +kernel) h_x fp_raw_fp_RX3_19 rfl rfl dX3_init_16 (fun V6 e5 => ?_)
  refine GO.aload_n dX3_init_19 rfl rfl ?_
  refine GO.iconst dX3_init_20 ?_
  refine GO.putRW rfl (by decide +kernel) h_x fp_raw_fp_RX3_22 rfl rfl dX3_init_21 (fun V8 e7 => ?_)
  refine GO.aload_n dX3_init_24 rfl rfl ?_
  refine GO.iconst dX3_init_25 ?_
  refine GO.putRW rfl (by decide +kernel) h_x fp_raw_fp_RX3_25 rfl rfl dX3_init_26 (fun V10 e9 => ?_)
  refine GO.aload_n dX3_init_29 rfl rfl ?_
  refine GO.iconst dX3_init_30 ?_
  refine GO.putRW rfl (by decide +kernel) h_x fp_raw_fp_RX3_28 rfl rfl dX3_init_31 (fun V12 e11 => ?_)
  refine GO.aload_n dX3_init_34 rfl rfl ?_
  refine GO.iconst dX3_init_35 ?_
  refine GO.putRW rfl (by decide +kernel) h_x fp_raw_fp_RX3_31 rfl rfl dX3_init_36 (fun V14 e13 => ?_)
  refine GO.aload_n dX3_init_39 rfl rfl ?_
  refine GO.iconst dX3_init_40 ?_
  refine GO.putRW rfl (by decide +kernel) h_x fp_raw_fp_RX3_34 rfl rfl dX3_init_41 (fun V16 e15 => ?_)
  refine GO.aload_n dX3_init_44 rfl rfl ?_
  refine GO.iload_n dX3_init_45 rfl rfl ?_
  refine GO.putRF rfl rfl (by decide +kernel) h_x fp_raw_fp_RX3_37 rfl rfl dX3_init_46 (fun V18 e17 => ?_)
  refine GO.aload_n dX3_init_49 rfl rfl ?_
  refine GO.iload_n dX3_init_50 rfl rfl ?_
  refine GO.putRF rfl rfl (by decide +kernel) h_x fp_raw_fp_RX3_40 rfl rfl dX3_init_51 (fun V20 e19 => ?_)
  refine GO.aload_n dX3_init_54 rfl rfl ?_
  refine GO.iload_n dX3_init_55 rfl rfl ?_
  refine GO.putRW rfl (by decide +kernel) h_x fp_raw_fp_RX3_43 rfl rfl dX3_init_56 (fun V22 e21 => ?_)
  refine GO.aload_n dX3_init_59 rfl rfl ?_
  refine GO.iload dX3_init_60 rfl ?_
  refine GO.putRF rfl rfl (by decide +kernel) h_x fp_raw_fp_RX3_46 rfl rfl dX3_init_62 (fun V24 e23 => ?_)
  refine GO.aload_n dX3_init_65 rfl rfl ?_
  refine GO.iload dX3_init_66 rfl ?_
  refine GO.putRW rfl (by decide +kernel) h_x fp_raw_fp_RX3_49 rfl rfl dX3_init_68 (fun V26 e25 => ?_)
  refine GO.aload_n dX3_init_71 rfl rfl ?_
  refine GO.iload_n dX3_init_72 rfl rfl ?_
  refine GO.iconst dX3_init_73 ?_
  refine GO.icmp_ne (tgt := 83) dX3_init_74 (by decide) r_p0 (ir_c rfl) (fun c27 => ?_) (fun c27 => ?_)
  ·
    refine GO.iload_n dX3_init_83 rfl rfl ?_
    refine GO.iconst dX3_init_84 ?_
    refine GO.icmp_ne (tgt := 95) dX3_init_85 (by decide) r_p0 (ir_c rfl) (fun c28 => ?_) (fun c28 => ?_)
    ·
      refine GO.null dX3_init_95 ?_
      refine GO.putRF rfl rfl (by decide +kernel) h_x fp_raw_fp_RX3_52 rfl rfl dX3_init_96 (fun V30 e29 => ?_)
      refine GO.aload_n dX3_init_99 rfl rfl ?_
      refine GO.iload_n dX3_init_100 rfl rfl ?_
      refine GO.iconst dX3_init_101 ?_
      have q32 : -2147483648 ≤ p0 ∧ p0 ≤ 2147483647 := r_p0
      refine GO.icmp_ne (tgt := 112) dX3_init_102 (by decide) r_p0 (ir_c rfl) (fun c31 => ?_) (fun h => by exfalso; omega)
      refine GO.null dX3_init_112 ?_
      refine GO.putRF rfl rfl (by decide +kernel) h_x fp_raw_fp_RX3_56 rfl rfl dX3_init_113 (fun V34 e33 => ?_)
      refine GO.aload_n dX3_init_116 rfl rfl ?_
      refine GO.iload_n dX3_init_117 rfl rfl ?_
      refine GO.iconst dX3_init_118 ?_
      refine GO.icmp_ne (tgt := 135) dX3_init_119 (by decide) r_p0 (ir_c rfl) (fun c35 => ?_) (fun c35 => ?_)
      ·
        refine GO.null dX3_init_135 ?_
        refine GO.putRF rfl rfl (by decide +kernel) h_x fp_raw_fp_RX3_64 rfl rfl dX3_init_136 (fun V37 e36 => ?_)
        refine GO.iload_n dX3_init_139 rfl rfl ?_
        refine GO.iconst dX3_init_140 ?_
        refine GO.icmp_ne (tgt := 152) dX3_init_141 (by decide) r_p0 (ir_c rfl) (fun c38 => ?_) (fun h => by exfalso; omega)
        refine GO.promote (ci := 3) rfl h_x (fun j hj => ?_) (fun K39 e40 hE41 h42 => ?_)
        ·
          have hj : j < 16 := hj
          match j, hj with
          | 0, _ => exact okv_any (Eq.trans (uq_ne e36 (Or.inr (by decide))) (Eq.trans (uq_ne e33 (Or.inr (by decide))) (Eq.trans (uq_ne e29 (Or.inr (by decide))) (Eq.trans (uq_ne e25 (Or.inr (by decide))) (Eq.trans (uq_ne e23 (Or.inr (by decide))) (Eq.trans (uq_ne e21 (Or.inr (by decide))) (Eq.trans (uq_ne e19 (Or.inr (by decide))) (uq_at e17))))))))
          | 1, _ => exact okv_any (Eq.trans (uq_ne e36 (Or.inr (by decide))) (Eq.trans (uq_ne e33 (Or.inr (by decide))) (Eq.trans (uq_ne e29 (Or.inr (by decide))) (Eq.trans (uq_ne e25 (Or.inr (by decide))) (Eq.trans (uq_ne e23 (Or.inr (by decide))) (Eq.trans (uq_ne e21 (Or.inr (by decide))) (uq_at e19)))))))
          | 2, _ => exact okv_any (Eq.trans (uq_ne e36 (Or.inr (by decide))) (Eq.trans (uq_ne e33 (Or.inr (by decide))) (Eq.trans (uq_ne e29 (Or.inr (by decide))) (Eq.trans (uq_ne e25 (Or.inr (by decide))) (Eq.trans (uq_ne e23 (Or.inr (by decide))) (uq_at e21))))))
          | 3, _ => exact okv_any (Eq.trans (uq_ne e36 (Or.inr (by decide))) (Eq.trans (uq_ne e33 (Or.inr (by decide))) (Eq.trans (uq_ne e29 (Or.inr (by decide))) (Eq.trans (uq_ne e25 (Or.inr (by decide))) (uq_at e23)))))
          | 4, _ => exact okv_any (Eq.trans (uq_ne e36 (Or.inr (by decide))) (Eq.trans (uq_ne e33 (Or.inr (by decide))) (Eq.trans (uq_ne e29 (Or.inr (by decide))) (uq_at e25))))
          | 5, _ => exact okv_at (Eq.trans (uq_ne e36 (Or.inr (by decide))) (Eq.trans (uq_ne e33 (Or.inr (by decide))) (Eq.trans (uq_ne e29 (Or.inr (by decide))) (Eq.trans (uq_ne e25 (Or.inr (by decide))) (Eq.trans (uq_ne e23 (Or.inr (by decide))) (Eq.trans (uq_ne e21 (Or.inr (by decide))) (Eq.trans (uq_ne e19 (Or.inr (by decide))) (Eq.trans (uq_ne e17 (Or.inr (by decide))) (Eq.trans (uq_ne e15 (Or.inr (by decide))) (Eq.trans (uq_ne e13 (Or.inr (by decide))) (Eq.trans (uq_ne e11 (Or.inr (by decide))) (Eq.trans (uq_ne e9 (Or.inr (by decide))) (Eq.trans (uq_ne e7 (Or.inr (by decide))) (Eq.trans (uq_ne e5 (Or.inr (by decide))) (Eq.trans (uq_ne e3 (Or.inr (by decide))) (uq_at e1)))))))))))))))) (ir_c rfl) (by omega) (by omega)
          | 6, _ => exact okv_any (Eq.trans (uq_ne e36 (Or.inr (by decide))) (Eq.trans (uq_ne e33 (Or.inr (by decide))) (Eq.trans (uq_ne e29 (Or.inr (by decide))) (Eq.trans (uq_ne e25 (Or.inr (by decide))) (Eq.trans (uq_ne e23 (Or.inr (by decide))) (Eq.trans (uq_ne e21 (Or.inr (by decide))) (Eq.trans (uq_ne e19 (Or.inr (by decide))) (Eq.trans (uq_ne e17 (Or.inr (by decide))) (Eq.trans (uq_ne e15 (Or.inr (by decide))) (Eq.trans (uq_ne e13 (Or.inr (by decide))) (Eq.trans (uq_ne e11 (Or.inr (by decide))) (Eq.trans (uq_ne e9 (Or.inr (by decide))) (Eq.trans (uq_ne e7 (Or.inr (by decide))) (Eq.trans (uq_ne e5 (Or.inr (by decide))) (uq_at e3)))))))))))))))
          | 7, _ => exact okv_any (Eq.trans (uq_ne e36 (Or.inr (by decide))) (Eq.trans (uq_ne e33 (Or.inr (by decide))) (Eq.trans (uq_ne e29 (Or.inr (by decide))) (Eq.trans (uq_ne e25 (Or.inr (by decide))) (Eq.trans (uq_ne e23 (Or.inr (by decide))) (Eq.trans (uq_ne e21 (Or.inr (by decide))) (Eq.trans (uq_ne e19 (Or.inr (by decide))) (Eq.trans (uq_ne e17 (Or.inr (by decide))) (Eq.trans (uq_ne e15 (Or.inr (by decide))) (Eq.trans (uq_ne e13 (Or.inr (by decide))) (Eq.trans (uq_ne e11 (Or.inr (by decide))) (Eq.trans (uq_ne e9 (Or.inr (by decide))) (Eq.trans (uq_ne e7 (Or.inr (by decide))) (uq_at e5))))))))))))))
          | 8, _ => exact okv_any (Eq.trans (uq_ne e36 (Or.inr (by decide))) (Eq.trans (uq_ne e33 (Or.inr (by decide))) (Eq.trans (uq_ne e29 (Or.inr (by decide))) (Eq.trans (uq_ne e25 (Or.inr (by decide))) (Eq.trans (uq_ne e23 (Or.inr (by decide))) (Eq.trans (uq_ne e21 (Or.inr (by decide))) (Eq.trans (uq_ne e19 (Or.inr (by decide))) (Eq.trans (uq_ne e17 (Or.inr (by decide))) (Eq.trans (uq_ne e15 (Or.inr (by decide))) (Eq.trans (uq_ne e13 (Or.inr (by decide))) (Eq.trans (uq_ne e11 (Or.inr (by decide))) (Eq.trans (uq_ne e9 (Or.inr (by decide))) (uq_at e7)))))))))))))
          | 9, _ => exact okv_any (Eq.trans (uq_ne e36 (Or.inr (by decide))) (Eq.trans (uq_ne e33 (Or.inr (by decide))) (Eq.trans (uq_ne e29 (Or.inr (by decide))) (Eq.trans (uq_ne e25 (Or.inr (by decide))) (Eq.trans (uq_ne e23 (Or.inr (by decide))) (Eq.trans (uq_ne e21 (Or.inr (by decide))) (Eq.trans (uq_ne e19 (Or.inr (by decide))) (Eq.trans (uq_ne e17 (Or.inr (by decide))) (Eq.trans (uq_ne e15 (Or.inr (by decide))) (Eq.trans (uq_ne e13 (Or.inr (by decide))) (Eq.trans (uq_ne e11 (Or.inr (by decide))) (uq_at e9))))))))))))
          | 10, _ => exact okv_at (Eq.trans (uq_ne e36 (Or.inr (by decide))) (Eq.trans (uq_ne e33 (Or.inr (by decide))) (Eq.trans (uq_ne e29 (Or.inr (by decide))) (Eq.trans (uq_ne e25 (Or.inr (by decide))) (Eq.trans (uq_ne e23 (Or.inr (by decide))) (Eq.trans (uq_ne e21 (Or.inr (by decide))) (Eq.trans (uq_ne e19 (Or.inr (by decide))) (Eq.trans (uq_ne e17 (Or.inr (by decide))) (Eq.trans (uq_ne e15 (Or.inr (by decide))) (Eq.trans (uq_ne e13 (Or.inr (by decide))) (uq_at e11))))))))))) (ir_c rfl) (by omega) (by omega)
          | 11, _ => exact okv_any (Eq.trans (uq_ne e36 (Or.inr (by decide))) (Eq.trans (uq_ne e33 (Or.inr (by decide))) (Eq.trans (uq_ne e29 (Or.inr (by decide))) (Eq.trans (uq_ne e25 (Or.inr (by decide))) (Eq.trans (uq_ne e23 (Or.inr (by decide))) (Eq.trans (uq_ne e21 (Or.inr (by decide))) (Eq.trans (uq_ne e19 (Or.inr (by decide))) (Eq.trans (uq_ne e17 (Or.inr (by decide))) (Eq.trans (uq_ne e15 (Or.inr (by decide))) (uq_at e13))))))))))
          | 12, _ => exact okv_any (Eq.trans (uq_ne e36 (Or.inr (by decide))) (Eq.trans (uq_ne e33 (Or.inr (by decide))) (Eq.trans (uq_ne e29 (Or.inr (by decide))) (Eq.trans (uq_ne e25 (Or.inr (by decide))) (Eq.trans (uq_ne e23 (Or.inr (by decide))) (Eq.trans (uq_ne e21 (Or.inr (by decide))) (Eq.trans (uq_ne e19 (Or.inr (by decide))) (Eq.trans (uq_ne e17 (Or.inr (by decide))) (uq_at e15)))))))))
          | 13, _ => exact Or.inl (Eq.trans (uq_ne e36 (Or.inr (by decide))) (Eq.trans (uq_ne e33 (Or.inr (by decide))) (uq_at e29)))
          | 14, _ => exact Or.inl (Eq.trans (uq_ne e36 (Or.inr (by decide))) (uq_at e33))
          | 15, _ => exact Or.inl (uq_at e36)
          | j + 16, hj => exact absurd hj (by omega)
        exact GO.retv rfl rfl dX3_init_152 ⟨rfl, ⟨h42, (⟨vi_at (Eq.trans (uq_ne e36 (Or.inr (by decide))) (Eq.trans (uq_ne e33 (Or.inr (by decide))) (Eq.trans (uq_ne e29 (Or.inr (by decide))) (Eq.trans (uq_ne e25 (Or.inr (by decide))) (Eq.trans (uq_ne e23 (Or.inr (by decide))) (Eq.trans (uq_ne e21 (Or.inr (by decide))) (Eq.trans (uq_ne e19 (Or.inr (by decide))) (uq_at e17)))))))) r_p0, vi_at (Eq.trans (uq_ne e36 (Or.inr (by decide))) (Eq.trans (uq_ne e33 (Or.inr (by decide))) (Eq.trans (uq_ne e29 (Or.inr (by decide))) (Eq.trans (uq_ne e25 (Or.inr (by decide))) (Eq.trans (uq_ne e23 (Or.inr (by decide))) (Eq.trans (uq_ne e21 (Or.inr (by decide))) (uq_at e19))))))) r_p1, vi_at (Eq.trans (uq_ne e36 (Or.inr (by decide))) (Eq.trans (uq_ne e33 (Or.inr (by decide))) (Eq.trans (uq_ne e29 (Or.inr (by decide))) (Eq.trans (uq_ne e25 (Or.inr (by decide))) (Eq.trans (uq_ne e23 (Or.inr (by decide))) (uq_at e21)))))) r_p2, vi_at (Eq.trans (uq_ne e36 (Or.inr (by decide))) (Eq.trans (uq_ne e33 (Or.inr (by decide))) (Eq.trans (uq_ne e29 (Or.inr (by decide))) (Eq.trans (uq_ne e25 (Or.inr (by decide))) (uq_at e23))))) r_p3, vi_at (Eq.trans (uq_ne e36 (Or.inr (by decide))) (Eq.trans (uq_ne e33 (Or.inr (by decide))) (Eq.trans (uq_ne e29 (Or.inr (by decide))) (uq_at e25)))) r_p4, vi_at (Eq.trans (uq_ne e36 (Or.inr (by decide))) (Eq.trans (uq_ne e33 (Or.inr (by decide))) (Eq.trans (uq_ne e29 (Or.inr (by decide))) (Eq.trans (uq_ne e25 (Or.inr (by decide))) (Eq.trans (uq_ne e23 (Or.inr (by decide))) (Eq.trans (uq_ne e21 (Or.inr (by decide))) (Eq.trans (uq_ne e19 (Or.inr (by decide))) (Eq.trans (uq_ne e17 (Or.inr (by decide))) (Eq.trans (uq_ne e15 (Or.inr (by decide))) (Eq.trans (uq_ne e13 (Or.inr (by decide))) (Eq.trans (uq_ne e11 (Or.inr (by decide))) (Eq.trans (uq_ne e9 (Or.inr (by decide))) (Eq.trans (uq_ne e7 (Or.inr (by decide))) (Eq.trans (uq_ne e5 (Or.inr (by decide))) (Eq.trans (uq_ne e3 (Or.inr (by decide))) (uq_at e1)))))))))))))))) (ir_c rfl), vi_at (Eq.trans (uq_ne e36 (Or.inr (by decide))) (Eq.trans (uq_ne e33 (Or.inr (by decide))) (Eq.trans (uq_ne e29 (Or.inr (by decide))) (Eq.trans (uq_ne e25 (Or.inr (by decide))) (Eq.trans (uq_ne e23 (Or.inr (by decide))) (Eq.trans (uq_ne e21 (Or.inr (by decide))) (Eq.trans (uq_ne e19 (Or.inr (by decide))) (Eq.trans (uq_ne e17 (Or.inr (by decide))) (Eq.trans (uq_ne e15 (Or.inr (by decide))) (Eq.trans (uq_ne e13 (Or.inr (by decide))) (uq_at e11))))))))))) (ir_c rfl)⟩)⟩, KE.promote KE.rf e40⟩
      ·
        refine GO.new (ci := 19) (RX8, TX8, 4) tyX8 rfl rfl lays_7 tyX8_ok gw_430 gw_99 gw_5 rfl rfl dX3_init_122 (fun o43 K44 V50 hq45 hK46 hE47 h48 _ hV49 => ?_)
        have h51 := (by rw [hK46, updK_ne (K_old h_x hq45)]; exact h_x : K44 x = some (0, 15))
        have h52 := KE.nw KE.rf h_x hq45
        refine GO.dup dX3_init_125 rfl ?_
        refine GO.iconst dX3_init_126 ?_
        refine GO.bipush dX3_init_127 rfl ?_
        refine GO.callI (N := mX8_init_k34) dX3_init_129 gI_RX3_61 rfl (t_X8_init_k34 h48 (ir_c rfl) (ir_c rfl) (by omega) (by omega)) rfl [.ref o43, .ref x] rfl rfl (Nat.le_of_ble_eq_true rfl) rfl (k_vx fun K55 V57 h56 hE54 hF53 => ?_)
        have h58 := h56.2 _ _ (K_ne h51 h48 (by decide)) h51
        have h59 := h56.1.1
        have q60 : vi V57 o43 3 = 0 := h56.1.2
        refine GO.goto (tgt := 136) dX3_init_132 (by decide) ?_
        refine GO.putRF rfl rfl (by decide +kernel) h58 fp_raw_fp_RX3_64 rfl rfl dX3_init_136 (fun V62 e61 => ?_)
        refine GO.iload_n dX3_init_139 rfl rfl ?_
        refine GO.iconst dX3_init_140 ?_
        refine GO.icmp_ne (tgt := 152) dX3_init_141 (by decide) r_p0 (ir_c rfl) (fun c63 => ?_) (fun h => by exfalso; omega)
        refine GO.promote (ci := 3) rfl h58 (fun j hj => ?_) (fun K64 e65 hE66 h67 => ?_)
        ·
          have hj : j < 16 := hj
          match j, hj with
          | 0, _ => exact okv_any (Eq.trans (uq_ne e61 (Or.inr (by decide))) (Eq.trans (hF53 _ _ _ h51 h58 (by decide +kernel)) (Eq.trans (congrFun (hV49 _ (K_old h_x hq45)) _) (Eq.trans (uq_ne e33 (Or.inr (by decide))) (Eq.trans (uq_ne e29 (Or.inr (by decide))) (Eq.trans (uq_ne e25 (Or.inr (by decide))) (Eq.trans (uq_ne e23 (Or.inr (by decide))) (Eq.trans (uq_ne e21 (Or.inr (by decide))) (Eq.trans (uq_ne e19 (Or.inr (by decide))) (uq_at e17))))))))))
          | 1, _ => exact okv_any (Eq.trans (uq_ne e61 (Or.inr (by decide))) (Eq.trans (hF53 _ _ _ h51 h58 (by decide +kernel)) (Eq.trans (congrFun (hV49 _ (K_old h_x hq45)) _) (Eq.trans (uq_ne e33 (Or.inr (by decide))) (Eq.trans (uq_ne e29 (Or.inr (by decide))) (Eq.trans (uq_ne e25 (Or.inr (by decide))) (Eq.trans (uq_ne e23 (Or.inr (by decide))) (Eq.trans (uq_ne e21 (Or.inr (by decide))) (uq_at e19)))))))))
          | 2, _ => exact okv_any (Eq.trans (uq_ne e61 (Or.inr (by decide))) (Eq.trans (hF53 _ _ _ h51 h58 (by decide +kernel)) (Eq.trans (congrFun (hV49 _ (K_old h_x hq45)) _) (Eq.trans (uq_ne e33 (Or.inr (by decide))) (Eq.trans (uq_ne e29 (Or.inr (by decide))) (Eq.trans (uq_ne e25 (Or.inr (by decide))) (Eq.trans (uq_ne e23 (Or.inr (by decide))) (uq_at e21))))))))
          | 3, _ => exact okv_any (Eq.trans (uq_ne e61 (Or.inr (by decide))) (Eq.trans (hF53 _ _ _ h51 h58 (by decide +kernel)) (Eq.trans (congrFun (hV49 _ (K_old h_x hq45)) _) (Eq.trans (uq_ne e33 (Or.inr (by decide))) (Eq.trans (uq_ne e29 (Or.inr (by decide))) (Eq.trans (uq_ne e25 (Or.inr (by decide))) (uq_at e23)))))))
          | 4, _ => exact okv_any (Eq.trans (uq_ne e61 (Or.inr (by decide))) (Eq.trans (hF53 _ _ _ h51 h58 (by decide +kernel)) (Eq.trans (congrFun (hV49 _ (K_old h_x hq45)) _) (Eq.trans (uq_ne e33 (Or.inr (by decide))) (Eq.trans (uq_ne e29 (Or.inr (by decide))) (uq_at e25))))))
          | 5, _ => exact okv_at (Eq.trans (uq_ne e61 (Or.inr (by decide))) (Eq.trans (hF53 _ _ _ h51 h58 (by decide +kernel)) (Eq.trans (congrFun (hV49 _ (K_old h_x hq45)) _) (Eq.trans (uq_ne e33 (Or.inr (by decide))) (Eq.trans (uq_ne e29 (Or.inr (by decide))) (Eq.trans (uq_ne e25 (Or.inr (by decide))) (Eq.trans (uq_ne e23 (Or.inr (by decide))) (Eq.trans (uq_ne e21 (Or.inr (by decide))) (Eq.trans (uq_ne e19 (Or.inr (by decide))) (Eq.trans (uq_ne e17 (Or.inr (by decide))) (Eq.trans (uq_ne e15 (Or.inr (by decide))) (Eq.trans (uq_ne e13 (Or.inr (by decide))) (Eq.trans (uq_ne e11 (Or.inr (by decide))) (Eq.trans (uq_ne e9 (Or.inr (by decide))) (Eq.trans (uq_ne e7 (Or.inr (by decide))) (Eq.trans (uq_ne e5 (Or.inr (by decide))) (Eq.trans (uq_ne e3 (Or.inr (by decide))) (uq_at e1)))))))))))))))))) (ir_c rfl) (by omega) (by omega)
          | 6, _ => exact okv_any (Eq.trans (uq_ne e61 (Or.inr (by decide))) (Eq.trans (hF53 _ _ _ h51 h58 (by decide +kernel)) (Eq.trans (congrFun (hV49 _ (K_old h_x hq45)) _) (Eq.trans (uq_ne e33 (Or.inr (by decide))) (Eq.trans (uq_ne e29 (Or.inr (by decide))) (Eq.trans (uq_ne e25 (Or.inr (by decide))) (Eq.trans (uq_ne e23 (Or.inr (by decide))) (Eq.trans (uq_ne e21 (Or.inr (by decide))) (Eq.trans (uq_ne e19 (Or.inr (by decide))) (Eq.trans (uq_ne e17 (Or.inr (by decide))) (Eq.trans (uq_ne e15 (Or.inr (by decide))) (Eq.trans (uq_ne e13 (Or.inr (by decide))) (Eq.trans (uq_ne e11 (Or.inr (by decide))) (Eq.trans (uq_ne e9 (Or.inr (by decide))) (Eq.trans (uq_ne e7 (Or.inr (by decide))) (Eq.trans (uq_ne e5 (Or.inr (by decide))) (uq_at e3)))))))))))))))))
          | 7, _ => exact okv_any (Eq.trans (uq_ne e61 (Or.inr (by decide))) (Eq.trans (hF53 _ _ _ h51 h58 (by decide +kernel)) (Eq.trans (congrFun (hV49 _ (K_old h_x hq45)) _) (Eq.trans (uq_ne e33 (Or.inr (by decide))) (Eq.trans (uq_ne e29 (Or.inr (by decide))) (Eq.trans (uq_ne e25 (Or.inr (by decide))) (Eq.trans (uq_ne e23 (Or.inr (by decide))) (Eq.trans (uq_ne e21 (Or.inr (by decide))) (Eq.trans (uq_ne e19 (Or.inr (by decide))) (Eq.trans (uq_ne e17 (Or.inr (by decide))) (Eq.trans (uq_ne e15 (Or.inr (by decide))) (Eq.trans (uq_ne e13 (Or.inr (by decide))) (Eq.trans (uq_ne e11 (Or.inr (by decide))) (Eq.trans (uq_ne e9 (Or.inr (by decide))) (Eq.trans (uq_ne e7 (Or.inr (by decide))) (uq_at e5))))))))))))))))
          | 8, _ => exact okv_any (Eq.trans (uq_ne e61 (Or.inr (by decide))) (Eq.trans (hF53 _ _ _ h51 h58 (by decide +kernel)) (Eq.trans (congrFun (hV49 _ (K_old h_x hq45)) _) (Eq.trans (uq_ne e33 (Or.inr (by decide))) (Eq.trans (uq_ne e29 (Or.inr (by decide))) (Eq.trans (uq_ne e25 (Or.inr (by decide))) (Eq.trans (uq_ne e23 (Or.inr (by decide))) (Eq.trans (uq_ne e21 (Or.inr (by decide))) (Eq.trans (uq_ne e19 (Or.inr (by decide))) (Eq.trans (uq_ne e17 (Or.inr (by decide))) (Eq.trans (uq_ne e15 (Or.inr (by decide))) (Eq.trans (uq_ne e13 (Or.inr (by decide))) (Eq.trans (uq_ne e11 (Or.inr (by decide))) (Eq.trans (uq_ne e9 (Or.inr (by decide))) (uq_at e7)))))))))))))))
          | 9, _ => exact okv_any (Eq.trans (uq_ne e61 (Or.inr (by decide))) (Eq.trans (hF53 _ _ _ h51 h58 (by decide +kernel)) (Eq.trans (congrFun (hV49 _ (K_old h_x hq45)) _) (Eq.trans (uq_ne e33 (Or.inr (by decide))) (Eq.trans (uq_ne e29 (Or.inr (by decide))) (Eq.trans (uq_ne e25 (Or.inr (by decide))) (Eq.trans (uq_ne e23 (Or.inr (by decide))) (Eq.trans (uq_ne e21 (Or.inr (by decide))) (Eq.trans (uq_ne e19 (Or.inr (by decide))) (Eq.trans (uq_ne e17 (Or.inr (by decide))) (Eq.trans (uq_ne e15 (Or.inr (by decide))) (Eq.trans (uq_ne e13 (Or.inr (by decide))) (Eq.trans (uq_ne e11 (Or.inr (by decide))) (uq_at e9))))))))))))))
          | 10, _ => exact okv_at (Eq.trans (uq_ne e61 (Or.inr (by decide))) (Eq.trans (hF53 _ _ _ h51 h58 (by decide +kernel)) (Eq.trans (congrFun (hV49 _ (K_old h_x hq45)) _) (Eq.trans (uq_ne e33 (Or.inr (by decide))) (Eq.trans (uq_ne e29 (Or.inr (by decide))) (Eq.trans (uq_ne e25 (Or.inr (by decide))) (Eq.trans (uq_ne e23 (Or.inr (by decide))) (Eq.trans (uq_ne e21 (Or.inr (by decide))) (Eq.trans (uq_ne e19 (Or.inr (by decide))) (Eq.trans (uq_ne e17 (Or.inr (by decide))) (Eq.trans (uq_ne e15 (Or.inr (by decide))) (Eq.trans (uq_ne e13 (Or.inr (by decide))) (uq_at e11))))))))))))) (ir_c rfl) (by omega) (by omega)
          | 11, _ => exact okv_any (Eq.trans (uq_ne e61 (Or.inr (by decide))) (Eq.trans (hF53 _ _ _ h51 h58 (by decide +kernel)) (Eq.trans (congrFun (hV49 _ (K_old h_x hq45)) _) (Eq.trans (uq_ne e33 (Or.inr (by decide))) (Eq.trans (uq_ne e29 (Or.inr (by decide))) (Eq.trans (uq_ne e25 (Or.inr (by decide))) (Eq.trans (uq_ne e23 (Or.inr (by decide))) (Eq.trans (uq_ne e21 (Or.inr (by decide))) (Eq.trans (uq_ne e19 (Or.inr (by decide))) (Eq.trans (uq_ne e17 (Or.inr (by decide))) (Eq.trans (uq_ne e15 (Or.inr (by decide))) (uq_at e13))))))))))))
          | 12, _ => exact okv_any (Eq.trans (uq_ne e61 (Or.inr (by decide))) (Eq.trans (hF53 _ _ _ h51 h58 (by decide +kernel)) (Eq.trans (congrFun (hV49 _ (K_old h_x hq45)) _) (Eq.trans (uq_ne e33 (Or.inr (by decide))) (Eq.trans (uq_ne e29 (Or.inr (by decide))) (Eq.trans (uq_ne e25 (Or.inr (by decide))) (Eq.trans (uq_ne e23 (Or.inr (by decide))) (Eq.trans (uq_ne e21 (Or.inr (by decide))) (Eq.trans (uq_ne e19 (Or.inr (by decide))) (Eq.trans (uq_ne e17 (Or.inr (by decide))) (uq_at e15)))))))))))
          | 13, _ => exact Or.inl (Eq.trans (uq_ne e61 (Or.inr (by decide))) (Eq.trans (hF53 _ _ _ h51 h58 (by decide +kernel)) (Eq.trans (congrFun (hV49 _ (K_old h_x hq45)) _) (Eq.trans (uq_ne e33 (Or.inr (by decide))) (uq_at e29)))))
          | 14, _ => exact Or.inl (Eq.trans (uq_ne e61 (Or.inr (by decide))) (Eq.trans (hF53 _ _ _ h51 h58 (by decide +kernel)) (Eq.trans (congrFun (hV49 _ (K_old h_x hq45)) _) (uq_at e33))))
          | 15, _ => exact Or.inr ⟨_, (uq_at e61), h59⟩
          | j + 16, hj => exact absurd hj (by omega)
        exact GO.retv rfl rfl dX3_init_152 ⟨rfl, ⟨h67, (⟨vi_at (Eq.trans (uq_ne e61 (Or.inr (by decide))) (Eq.trans (hF53 _ _ _ h51 h58 (by decide +kernel)) (Eq.trans (congrFun (hV49 _ (K_old h_x hq45)) _) (Eq.trans (uq_ne e33 (Or.inr (by decide))) (Eq.trans (uq_ne e29 (Or.inr (by decide))) (Eq.trans (uq_ne e25 (Or.inr (by decide))) (Eq.trans (uq_ne e23 (Or.inr (by decide))) (Eq.trans (uq_ne e21 (Or.inr (by decide))) (Eq.trans (uq_ne e19 (Or.inr (by decide))) (uq_at e17)))))))))) r_p0, vi_at (Eq.trans (uq_ne e61 (Or.inr (by decide))) (Eq.trans (hF53 _ _ _ h51 h58 (by decide +kernel)) (Eq.trans (congrFun (hV49 _ (K_old h_x hq45)) _) (Eq.trans (uq_ne e33 (Or.inr (by decide))) (Eq.trans (uq_ne e29 (Or.inr (by decide))) (Eq.trans (uq_ne e25 (Or.inr (by decide))) (Eq.trans (uq_ne e23 (Or.inr (by decide))) (Eq.trans (uq_ne e21 (Or.inr (by decide))) (uq_at e19))))))))) r_p1, vi_at (Eq.trans (uq_ne e61 (Or.inr (by decide))) (Eq.trans (hF53 _ _ _ h51 h58 (by decide +kernel)) (Eq.trans (congrFun (hV49 _ (K_old h_x hq45)) _) (Eq.trans (uq_ne e33 (Or.inr (by decide))) (Eq.trans (uq_ne e29 (Or.inr (by decide))) (Eq.trans (uq_ne e25 (Or.inr (by decide))) (Eq.trans (uq_ne e23 (Or.inr (by decide))) (uq_at e21)))))))) r_p2, vi_at (Eq.trans (uq_ne e61 (Or.inr (by decide))) (Eq.trans (hF53 _ _ _ h51 h58 (by decide +kernel)) (Eq.trans (congrFun (hV49 _ (K_old h_x hq45)) _) (Eq.trans (uq_ne e33 (Or.inr (by decide))) (Eq.trans (uq_ne e29 (Or.inr (by decide))) (Eq.trans (uq_ne e25 (Or.inr (by decide))) (uq_at e23))))))) r_p3, vi_at (Eq.trans (uq_ne e61 (Or.inr (by decide))) (Eq.trans (hF53 _ _ _ h51 h58 (by decide +kernel)) (Eq.trans (congrFun (hV49 _ (K_old h_x hq45)) _) (Eq.trans (uq_ne e33 (Or.inr (by decide))) (Eq.trans (uq_ne e29 (Or.inr (by decide))) (uq_at e25)))))) r_p4, vi_at (Eq.trans (uq_ne e61 (Or.inr (by decide))) (Eq.trans (hF53 _ _ _ h51 h58 (by decide +kernel)) (Eq.trans (congrFun (hV49 _ (K_old h_x hq45)) _) (Eq.trans (uq_ne e33 (Or.inr (by decide))) (Eq.trans (uq_ne e29 (Or.inr (by decide))) (Eq.trans (uq_ne e25 (Or.inr (by decide))) (Eq.trans (uq_ne e23 (Or.inr (by decide))) (Eq.trans (uq_ne e21 (Or.inr (by decide))) (Eq.trans (uq_ne e19 (Or.inr (by decide))) (Eq.trans (uq_ne e17 (Or.inr (by decide))) (Eq.trans (uq_ne e15 (Or.inr (by decide))) (Eq.trans (uq_ne e13 (Or.inr (by decide))) (Eq.trans (uq_ne e11 (Or.inr (by decide))) (Eq.trans (uq_ne e9 (Or.inr (by decide))) (Eq.trans (uq_ne e7 (Or.inr (by decide))) (Eq.trans (uq_ne e5 (Or.inr (by decide))) (Eq.trans (uq_ne e3 (Or.inr (by decide))) (uq_at e1)))))))))))))))))) (ir_c rfl), vi_at (Eq.trans (uq_ne e61 (Or.inr (by decide))) (Eq.trans (hF53 _ _ _ h51 h58 (by decide +kernel)) (Eq.trans (congrFun (hV49 _ (K_old h_x hq45)) _) (Eq.trans (uq_ne e33 (Or.inr (by decide))) (Eq.trans (uq_ne e29 (Or.inr (by decide))) (Eq.trans (uq_ne e25 (Or.inr (by decide))) (Eq.trans (uq_ne e23 (Or.inr (by decide))) (Eq.trans (uq_ne e21 (Or.inr (by decide))) (Eq.trans (uq_ne e19 (Or.inr (by decide))) (Eq.trans (uq_ne e17 (Or.inr (by decide))) (Eq.trans (uq_ne e15 (Or.inr (by decide))) (Eq.trans (uq_ne e13 (Or.inr (by decide))) (uq_at e11))))))))))))) (ir_c rfl)⟩)⟩, KE.promote (KE.call (KE.new KE.rf hq45 hK46) h56.2 h52) e65⟩
    ·
      refine GO.bipush dX3_init_88 rfl ?_
      refine GO.newI gw_89 (ir_c rfl) (by omega) 10 (by omega) rfl rfl rfl dX3_init_90 (fun o68 K69 V75 hq70 hK71 hE72 h73 _ hV74 => ?_)
      have h76 := (by rw [hK71, updK_ne (K_old h_x hq70)]; exact h_x : K69 x = some (0, 15))
      have h77 := KE.nw KE.rf h_x hq70
      refine GO.goto (tgt := 96) dX3_init_92 (by decide) ?_
      refine GO.putRF rfl rfl (by decide +kernel) h76 fp_raw_fp_RX3_52 rfl rfl dX3_init_96 (fun V79 e78 => ?_)
      refine GO.aload_n dX3_init_99 rfl rfl ?_
      refine GO.iload_n dX3_init_100 rfl rfl ?_
      refine GO.iconst dX3_init_101 ?_
      have q81 : -2147483648 ≤ p0 ∧ p0 ≤ 2147483647 := r_p0
      refine GO.icmp_ne (tgt := 112) dX3_init_102 (by decide) r_p0 (ir_c rfl) (fun h => by exfalso; omega) (fun c80 => ?_)
      refine GO.bipush dX3_init_105 rfl ?_
      refine GO.newI gw_89 (ir_c rfl) (by omega) 10 (by omega) rfl rfl rfl dX3_init_107 (fun o82 K83 V89 hq84 hK85 hE86 h87 _ hV88 => ?_)
      have h90 := (by rw [hK85, updK_ne (K_old h76 hq84)]; exact h76 : K83 x = some (0, 15))
      have h91 := hE86.arr h73
      have h92 := KE.nw (KE.new KE.rf hq70 hK71) h76 hq84
      refine GO.goto (tgt := 113) dX3_init_109 (by decide) ?_
      refine GO.putRF rfl rfl (by decide +kernel) h90 fp_raw_fp_RX3_56 rfl rfl dX3_init_113 (fun V94 e93 => ?_)
      refine GO.aload_n dX3_init_116 rfl rfl ?_
      refine GO.iload_n dX3_init_117 rfl rfl ?_
      refine GO.iconst dX3_init_118 ?_
      refine GO.icmp_ne (tgt := 135) dX3_init_119 (by decide) r_p0 (ir_c rfl) (fun c95 => ?_) (fun h => by exfalso; omega)
      refine GO.null dX3_init_135 ?_
      refine GO.putRF rfl rfl (by decide +kernel) h90 fp_raw_fp_RX3_64 rfl rfl dX3_init_136 (fun V97 e96 => ?_)
      refine GO.iload_n dX3_init_139 rfl rfl ?_
      refine GO.iconst dX3_init_140 ?_
      refine GO.icmp_ne (tgt := 152) dX3_init_141 (by decide) r_p0 (ir_c rfl) (fun h => by exfalso; omega) (fun c98 => ?_)
      refine GO.aload_n dX3_init_144 rfl rfl ?_
      refine GO.getRaw h90 fl_raw_fl_RX3_52 (Eq.trans (uq_ne e96 (Or.inr (by decide))) (Eq.trans (uq_ne e93 (Or.inr (by decide))) (Eq.trans (congrFun (hV88 _ (K_old h76 hq84)) _) (uq_at e78)))) dX3_init_145 ?_
      refine GO.iconst dX3_init_148 ?_
      refine GO.callS (N := mX4_fill) dX3_init_149 gS_RX3_68 (t_X4_fill h91 (ir_c rfl)) rfl [] rfl rfl (Nat.le_of_ble_eq_true rfl) rfl (k_vs fun V101 h100 hF99 => ?_)
      have raw_fill := h100.2
      have rw149 := h100.2
      refine GO.promote (ci := 3) rfl h90 (fun j hj => ?_) (fun K102 e103 hE104 h105 => ?_)
      ·
        have hj : j < 16 := hj
        match j, hj with
        | 0, _ => exact okv_any (Eq.trans (hF99 _ _ _ h90 h90 (by decide +kernel)) (Eq.trans (uq_ne e96 (Or.inr (by decide))) (Eq.trans (uq_ne e93 (Or.inr (by decide))) (Eq.trans (congrFun (hV88 _ (K_old h76 hq84)) _) (Eq.trans (uq_ne e78 (Or.inr (by decide))) (Eq.trans (congrFun (hV74 _ (K_old h_x hq70)) _) (Eq.trans (uq_ne e25 (Or.inr (by decide))) (Eq.trans (uq_ne e23 (Or.inr (by decide))) (Eq.trans (uq_ne e21 (Or.inr (by decide))) (Eq.trans (uq_ne e19 (Or.inr (by decide))) (uq_at e17)))))))))))
        | 1, _ => exact okv_any (Eq.trans (hF99 _ _ _ h90 h90 (by decide +kernel)) (Eq.trans (uq_ne e96 (Or.inr (by decide))) (Eq.trans (uq_ne e93 (Or.inr (by decide))) (Eq.trans (congrFun (hV88 _ (K_old h76 hq84)) _) (Eq.trans (uq_ne e78 (Or.inr (by decide))) (Eq.trans (congrFun (hV74 _ (K_old h_x hq70)) _) (Eq.trans (uq_ne e25 (Or.inr (by decide))) (Eq.trans (uq_ne e23 (Or.inr (by decide))) (Eq.trans (uq_ne e21 (Or.inr (by decide))) (uq_at e19))))))))))
        | 2, _ => exact okv_any (Eq.trans (hF99 _ _ _ h90 h90 (by decide +kernel)) (Eq.trans (uq_ne e96 (Or.inr (by decide))) (Eq.trans (uq_ne e93 (Or.inr (by decide))) (Eq.trans (congrFun (hV88 _ (K_old h76 hq84)) _) (Eq.trans (uq_ne e78 (Or.inr (by decide))) (Eq.trans (congrFun (hV74 _ (K_old h_x hq70)) _) (Eq.trans (uq_ne e25 (Or.inr (by decide))) (Eq.trans (uq_ne e23 (Or.inr (by decide))) (uq_at e21)))))))))
        | 3, _ => exact okv_any (Eq.trans (hF99 _ _ _ h90 h90 (by decide +kernel)) (Eq.trans (uq_ne e96 (Or.inr (by decide))) (Eq.trans (uq_ne e93 (Or.inr (by decide))) (Eq.trans (congrFun (hV88 _ (K_old h76 hq84)) _) (Eq.trans (uq_ne e78 (Or.inr (by decide))) (Eq.trans (congrFun (hV74 _ (K_old h_x hq70)) _) (Eq.trans (uq_ne e25 (Or.inr (by decide))) (uq_at e23))))))))
        | 4, _ => exact okv_any (Eq.trans (hF99 _ _ _ h90 h90 (by decide +kernel)) (Eq.trans (uq_ne e96 (Or.inr (by decide))) (Eq.trans (uq_ne e93 (Or.inr (by decide))) (Eq.trans (congrFun (hV88 _ (K_old h76 hq84)) _) (Eq.trans (uq_ne e78 (Or.inr (by decide))) (Eq.trans (congrFun (hV74 _ (K_old h_x hq70)) _) (uq_at e25)))))))
        | 5, _ => exact okv_at (Eq.trans (hF99 _ _ _ h90 h90 (by decide +kernel)) (Eq.trans (uq_ne e96 (Or.inr (by decide))) (Eq.trans (uq_ne e93 (Or.inr (by decide))) (Eq.trans (congrFun (hV88 _ (K_old h76 hq84)) _) (Eq.trans (uq_ne e78 (Or.inr (by decide))) (Eq.trans (congrFun (hV74 _ (K_old h_x hq70)) _) (Eq.trans (uq_ne e25 (Or.inr (by decide))) (Eq.trans (uq_ne e23 (Or.inr (by decide))) (Eq.trans (uq_ne e21 (Or.inr (by decide))) (Eq.trans (uq_ne e19 (Or.inr (by decide))) (Eq.trans (uq_ne e17 (Or.inr (by decide))) (Eq.trans (uq_ne e15 (Or.inr (by decide))) (Eq.trans (uq_ne e13 (Or.inr (by decide))) (Eq.trans (uq_ne e11 (Or.inr (by decide))) (Eq.trans (uq_ne e9 (Or.inr (by decide))) (Eq.trans (uq_ne e7 (Or.inr (by decide))) (Eq.trans (uq_ne e5 (Or.inr (by decide))) (Eq.trans (uq_ne e3 (Or.inr (by decide))) (uq_at e1))))))))))))))))))) (ir_c rfl) (by omega) (by omega)
        | 6, _ => exact okv_any (Eq.trans (hF99 _ _ _ h90 h90 (by decide +kernel)) (Eq.trans (uq_ne e96 (Or.inr (by decide))) (Eq.trans (uq_ne e93 (Or.inr (by decide))) (Eq.trans (congrFun (hV88 _ (K_old h76 hq84)) _) (Eq.trans (uq_ne e78 (Or.inr (by decide))) (Eq.trans (congrFun (hV74 _ (K_old h_x hq70)) _) (Eq.trans (uq_ne e25 (Or.inr (by decide))) (Eq.trans (uq_ne e23 (Or.inr (by decide))) (Eq.trans (uq_ne e21 (Or.inr (by decide))) (Eq.trans (uq_ne e19 (Or.inr (by decide))) (Eq.trans (uq_ne e17 (Or.inr (by decide))) (Eq.trans (uq_ne e15 (Or.inr (by decide))) (Eq.trans (uq_ne e13 (Or.inr (by decide))) (Eq.trans (uq_ne e11 (Or.inr (by decide))) (Eq.trans (uq_ne e9 (Or.inr (by decide))) (Eq.trans (uq_ne e7 (Or.inr (by decide))) (Eq.trans (uq_ne e5 (Or.inr (by decide))) (uq_at e3))))))))))))))))))
        | 7, _ => exact okv_any (Eq.trans (hF99 _ _ _ h90 h90 (by decide +kernel)) (Eq.trans (uq_ne e96 (Or.inr (by decide))) (Eq.trans (uq_ne e93 (Or.inr (by decide))) (Eq.trans (congrFun (hV88 _ (K_old h76 hq84)) _) (Eq.trans (uq_ne e78 (Or.inr (by decide))) (Eq.trans (congrFun (hV74 _ (K_old h_x hq70)) _) (Eq.trans (uq_ne e25 (Or.inr (by decide))) (Eq.trans (uq_ne e23 (Or.inr (by decide))) (Eq.trans (uq_ne e21 (Or.inr (by decide))) (Eq.trans (uq_ne e19 (Or.inr (by decide))) (Eq.trans (uq_ne e17 (Or.inr (by decide))) (Eq.trans (uq_ne e15 (Or.inr (by decide))) (Eq.trans (uq_ne e13 (Or.inr (by decide))) (Eq.trans (uq_ne e11 (Or.inr (by decide))) (Eq.trans (uq_ne e9 (Or.inr (by decide))) (Eq.trans (uq_ne e7 (Or.inr (by decide))) (uq_at e5)))))))))))))))))
        | 8, _ => exact okv_any (Eq.trans (hF99 _ _ _ h90 h90 (by decide +kernel)) (Eq.trans (uq_ne e96 (Or.inr (by decide))) (Eq.trans (uq_ne e93 (Or.inr (by decide))) (Eq.trans (congrFun (hV88 _ (K_old h76 hq84)) _) (Eq.trans (uq_ne e78 (Or.inr (by decide))) (Eq.trans (congrFun (hV74 _ (K_old h_x hq70)) _) (Eq.trans (uq_ne e25 (Or.inr (by decide))) (Eq.trans (uq_ne e23 (Or.inr (by decide))) (Eq.trans (uq_ne e21 (Or.inr (by decide))) (Eq.trans (uq_ne e19 (Or.inr (by decide))) (Eq.trans (uq_ne e17 (Or.inr (by decide))) (Eq.trans (uq_ne e15 (Or.inr (by decide))) (Eq.trans (uq_ne e13 (Or.inr (by decide))) (Eq.trans (uq_ne e11 (Or.inr (by decide))) (Eq.trans (uq_ne e9 (Or.inr (by decide))) (uq_at e7))))))))))))))))
        | 9, _ => exact okv_any (Eq.trans (hF99 _ _ _ h90 h90 (by decide +kernel)) (Eq.trans (uq_ne e96 (Or.inr (by decide))) (Eq.trans (uq_ne e93 (Or.inr (by decide))) (Eq.trans (congrFun (hV88 _ (K_old h76 hq84)) _) (Eq.trans (uq_ne e78 (Or.inr (by decide))) (Eq.trans (congrFun (hV74 _ (K_old h_x hq70)) _) (Eq.trans (uq_ne e25 (Or.inr (by decide))) (Eq.trans (uq_ne e23 (Or.inr (by decide))) (Eq.trans (uq_ne e21 (Or.inr (by decide))) (Eq.trans (uq_ne e19 (Or.inr (by decide))) (Eq.trans (uq_ne e17 (Or.inr (by decide))) (Eq.trans (uq_ne e15 (Or.inr (by decide))) (Eq.trans (uq_ne e13 (Or.inr (by decide))) (Eq.trans (uq_ne e11 (Or.inr (by decide))) (uq_at e9)))))))))))))))
        | 10, _ => exact okv_at (Eq.trans (hF99 _ _ _ h90 h90 (by decide +kernel)) (Eq.trans (uq_ne e96 (Or.inr (by decide))) (Eq.trans (uq_ne e93 (Or.inr (by decide))) (Eq.trans (congrFun (hV88 _ (K_old h76 hq84)) _) (Eq.trans (uq_ne e78 (Or.inr (by decide))) (Eq.trans (congrFun (hV74 _ (K_old h_x hq70)) _) (Eq.trans (uq_ne e25 (Or.inr (by decide))) (Eq.trans (uq_ne e23 (Or.inr (by decide))) (Eq.trans (uq_ne e21 (Or.inr (by decide))) (Eq.trans (uq_ne e19 (Or.inr (by decide))) (Eq.trans (uq_ne e17 (Or.inr (by decide))) (Eq.trans (uq_ne e15 (Or.inr (by decide))) (Eq.trans (uq_ne e13 (Or.inr (by decide))) (uq_at e11)))))))))))))) (ir_c rfl) (by omega) (by omega)
        | 11, _ => exact okv_any (Eq.trans (hF99 _ _ _ h90 h90 (by decide +kernel)) (Eq.trans (uq_ne e96 (Or.inr (by decide))) (Eq.trans (uq_ne e93 (Or.inr (by decide))) (Eq.trans (congrFun (hV88 _ (K_old h76 hq84)) _) (Eq.trans (uq_ne e78 (Or.inr (by decide))) (Eq.trans (congrFun (hV74 _ (K_old h_x hq70)) _) (Eq.trans (uq_ne e25 (Or.inr (by decide))) (Eq.trans (uq_ne e23 (Or.inr (by decide))) (Eq.trans (uq_ne e21 (Or.inr (by decide))) (Eq.trans (uq_ne e19 (Or.inr (by decide))) (Eq.trans (uq_ne e17 (Or.inr (by decide))) (Eq.trans (uq_ne e15 (Or.inr (by decide))) (uq_at e13)))))))))))))
        | 12, _ => exact okv_any (Eq.trans (hF99 _ _ _ h90 h90 (by decide +kernel)) (Eq.trans (uq_ne e96 (Or.inr (by decide))) (Eq.trans (uq_ne e93 (Or.inr (by decide))) (Eq.trans (congrFun (hV88 _ (K_old h76 hq84)) _) (Eq.trans (uq_ne e78 (Or.inr (by decide))) (Eq.trans (congrFun (hV74 _ (K_old h_x hq70)) _) (Eq.trans (uq_ne e25 (Or.inr (by decide))) (Eq.trans (uq_ne e23 (Or.inr (by decide))) (Eq.trans (uq_ne e21 (Or.inr (by decide))) (Eq.trans (uq_ne e19 (Or.inr (by decide))) (Eq.trans (uq_ne e17 (Or.inr (by decide))) (uq_at e15))))))))))))
        | 13, _ => exact Or.inr ⟨_, (Eq.trans (hF99 _ _ _ h90 h90 (by decide +kernel)) (Eq.trans (uq_ne e96 (Or.inr (by decide))) (Eq.trans (uq_ne e93 (Or.inr (by decide))) (Eq.trans (congrFun (hV88 _ (K_old h76 hq84)) _) (uq_at e78))))), ⟨_, h91⟩⟩
        | 14, _ => exact Or.inr ⟨_, (Eq.trans (hF99 _ _ _ h90 h90 (by decide +kernel)) (Eq.trans (uq_ne e96 (Or.inr (by decide))) (uq_at e93))), ⟨_, h87⟩⟩
        | 15, _ => exact Or.inl (Eq.trans (hF99 _ _ _ h90 h90 (by decide +kernel)) (uq_at e96))
        | j + 16, hj => exact absurd hj (by omega)
      exact GO.retv rfl rfl dX3_init_152 ⟨rfl, ⟨h105, (⟨vi_at (Eq.trans (hF99 _ _ _ h90 h90 (by decide +kernel)) (Eq.trans (uq_ne e96 (Or.inr (by decide))) (Eq.trans (uq_ne e93 (Or.inr (by decide))) (Eq.trans (congrFun (hV88 _ (K_old h76 hq84)) _) (Eq.trans (uq_ne e78 (Or.inr (by decide))) (Eq.trans (congrFun (hV74 _ (K_old h_x hq70)) _) (Eq.trans (uq_ne e25 (Or.inr (by decide))) (Eq.trans (uq_ne e23 (Or.inr (by decide))) (Eq.trans (uq_ne e21 (Or.inr (by decide))) (Eq.trans (uq_ne e19 (Or.inr (by decide))) (uq_at e17))))))))))) r_p0, vi_at (Eq.trans (hF99 _ _ _ h90 h90 (by decide +kernel)) (Eq.trans (uq_ne e96 (Or.inr (by decide))) (Eq.trans (uq_ne e93 (Or.inr (by decide))) (Eq.trans (congrFun (hV88 _ (K_old h76 hq84)) _) (Eq.trans (uq_ne e78 (Or.inr (by decide))) (Eq.trans (congrFun (hV74 _ (K_old h_x hq70)) _) (Eq.trans (uq_ne e25 (Or.inr (by decide))) (Eq.trans (uq_ne e23 (Or.inr (by decide))) (Eq.trans (uq_ne e21 (Or.inr (by decide))) (uq_at e19)))))))))) r_p1, vi_at (Eq.trans (hF99 _ _ _ h90 h90 (by decide +kernel)) (Eq.trans (uq_ne e96 (Or.inr (by decide))) (Eq.trans (uq_ne e93 (Or.inr (by decide))) (Eq.trans (congrFun (hV88 _ (K_old h76 hq84)) _) (Eq.trans (uq_ne e78 (Or.inr (by decide))) (Eq.trans (congrFun (hV74 _ (K_old h_x hq70)) _) (Eq.trans (uq_ne e25 (Or.inr (by decide))) (Eq.trans (uq_ne e23 (Or.inr (by decide))) (uq_at e21))))))))) r_p2, vi_at (Eq.trans (hF99 _ _ _ h90 h90 (by decide +kernel)) (Eq.trans (uq_ne e96 (Or.inr (by decide))) (Eq.trans (uq_ne e93 (Or.inr (by decide))) (Eq.trans (congrFun (hV88 _ (K_old h76 hq84)) _) (Eq.trans (uq_ne e78 (Or.inr (by decide))) (Eq.trans (congrFun (hV74 _ (K_old h_x hq70)) _) (Eq.trans (uq_ne e25 (Or.inr (by decide))) (uq_at e23)))))))) r_p3, vi_at (Eq.trans (hF99 _ _ _ h90 h90 (by decide +kernel)) (Eq.trans (uq_ne e96 (Or.inr (by decide))) (Eq.trans (uq_ne e93 (Or.inr (by decide))) (Eq.trans (congrFun (hV88 _ (K_old h76 hq84)) _) (Eq.trans (uq_ne e78 (Or.inr (by decide))) (Eq.trans (congrFun (hV74 _ (K_old h_x hq70)) _) (uq_at e25))))))) r_p4, vi_at (Eq.trans (hF99 _ _ _ h90 h90 (by decide +kernel)) (Eq.trans (uq_ne e96 (Or.inr (by decide))) (Eq.trans (uq_ne e93 (Or.inr (by decide))) (Eq.trans (congrFun (hV88 _ (K_old h76 hq84)) _) (Eq.trans (uq_ne e78 (Or.inr (by decide))) (Eq.trans (congrFun (hV74 _ (K_old h_x hq70)) _) (Eq.trans (uq_ne e25 (Or.inr (by decide))) (Eq.trans (uq_ne e23 (Or.inr (by decide))) (Eq.trans (uq_ne e21 (Or.inr (by decide))) (Eq.trans (uq_ne e19 (Or.inr (by decide))) (Eq.trans (uq_ne e17 (Or.inr (by decide))) (Eq.trans (uq_ne e15 (Or.inr (by decide))) (Eq.trans (uq_ne e13 (Or.inr (by decide))) (Eq.trans (uq_ne e11 (Or.inr (by decide))) (Eq.trans (uq_ne e9 (Or.inr (by decide))) (Eq.trans (uq_ne e7 (Or.inr (by decide))) (Eq.trans (uq_ne e5 (Or.inr (by decide))) (Eq.trans (uq_ne e3 (Or.inr (by decide))) (uq_at e1))))))))))))))))))) (ir_c rfl), vi_at (Eq.trans (hF99 _ _ _ h90 h90 (by decide +kernel)) (Eq.trans (uq_ne e96 (Or.inr (by decide))) (Eq.trans (uq_ne e93 (Or.inr (by decide))) (Eq.trans (congrFun (hV88 _ (K_old h76 hq84)) _) (Eq.trans (uq_ne e78 (Or.inr (by decide))) (Eq.trans (congrFun (hV74 _ (K_old h_x hq70)) _) (Eq.trans (uq_ne e25 (Or.inr (by decide))) (Eq.trans (uq_ne e23 (Or.inr (by decide))) (Eq.trans (uq_ne e21 (Or.inr (by decide))) (Eq.trans (uq_ne e19 (Or.inr (by decide))) (Eq.trans (uq_ne e17 (Or.inr (by decide))) (Eq.trans (uq_ne e15 (Or.inr (by decide))) (Eq.trans (uq_ne e13 (Or.inr (by decide))) (uq_at e11)))))))))))))) (ir_c rfl)⟩)⟩, KE.promote (KE.new (KE.new KE.rf hq70 hK71) hq84 hK85) e103⟩
  ·
    refine GO.iconst dX3_init_77 ?_
    refine GO.newI gw_89 (ir_c rfl) (by omega) 4 (by omega) rfl rfl rfl dX3_init_78 (fun o106 K107 V113 hq108 hK109 hE110 h111 _ hV112 => ?_)
    have h114 := (by rw [hK109, updK_ne (K_old h_x hq108)]; exact h_x : K107 x = some (0, 15))
    have h115 := KE.nw KE.rf h_x hq108
    refine GO.goto (tgt := 96) dX3_init_80 (by decide) ?_
    refine GO.putRF rfl rfl (by decide +kernel) h114 fp_raw_fp_RX3_52 rfl rfl dX3_init_96 (fun V117 e116 => ?_)
    refine GO.aload_n dX3_init_99 rfl rfl ?_
    refine GO.iload_n dX3_init_100 rfl rfl ?_
    refine GO.iconst dX3_init_101 ?_
    have q119 : -2147483648 ≤ p0 ∧ p0 ≤ 2147483647 := r_p0
    refine GO.icmp_ne (tgt := 112) dX3_init_102 (by decide) r_p0 (ir_c rfl) (fun c118 => ?_) (fun h => by exfalso; omega)
    refine GO.null dX3_init_112 ?_
    refine GO.putRF rfl rfl (by decide +kernel) h114 fp_raw_fp_RX3_56 rfl rfl dX3_init_113 (fun V121 e120 => ?_)
    refine GO.aload_n dX3_init_116 rfl rfl ?_
    refine GO.iload_n dX3_init_117 rfl rfl ?_
    refine GO.iconst dX3_init_118 ?_
    refine GO.icmp_ne (tgt := 135) dX3_init_119 (by decide) r_p0 (ir_c rfl) (fun c122 => ?_) (fun h => by exfalso; omega)
    refine GO.null dX3_init_135 ?_
    refine GO.putRF rfl rfl (by decide +kernel) h114 fp_raw_fp_RX3_64 rfl rfl dX3_init_136 (fun V124 e123 => ?_)
    refine GO.iload_n dX3_init_139 rfl rfl ?_
    refine GO.iconst dX3_init_140 ?_
    refine GO.icmp_ne (tgt := 152) dX3_init_141 (by decide) r_p0 (ir_c rfl) (fun c125 => ?_) (fun h => by exfalso; omega)
    refine GO.promote (ci := 3) rfl h114 (fun j hj => ?_) (fun K126 e127 hE128 h129 => ?_)
    ·
      have hj : j < 16 := hj
      match j, hj with
      | 0, _ => exact okv_any (Eq.trans (uq_ne e123 (Or.inr (by decide))) (Eq.trans (uq_ne e120 (Or.inr (by decide))) (Eq.trans (uq_ne e116 (Or.inr (by decide))) (Eq.trans (congrFun (hV112 _ (K_old h_x hq108)) _) (Eq.trans (uq_ne e25 (Or.inr (by decide))) (Eq.trans (uq_ne e23 (Or.inr (by decide))) (Eq.trans (uq_ne e21 (Or.inr (by decide))) (Eq.trans (uq_ne e19 (Or.inr (by decide))) (uq_at e17)))))))))
      | 1, _ => exact okv_any (Eq.trans (uq_ne e123 (Or.inr (by decide))) (Eq.trans (uq_ne e120 (Or.inr (by decide))) (Eq.trans (uq_ne e116 (Or.inr (by decide))) (Eq.trans (congrFun (hV112 _ (K_old h_x hq108)) _) (Eq.trans (uq_ne e25 (Or.inr (by decide))) (Eq.trans (uq_ne e23 (Or.inr (by decide))) (Eq.trans (uq_ne e21 (Or.inr (by decide))) (uq_at e19))))))))
      | 2, _ => exact okv_any (Eq.trans (uq_ne e123 (Or.inr (by decide))) (Eq.trans (uq_ne e120 (Or.inr (by decide))) (Eq.trans (uq_ne e116 (Or.inr (by decide))) (Eq.trans (congrFun (hV112 _ (K_old h_x hq108)) _) (Eq.trans (uq_ne e25 (Or.inr (by decide))) (Eq.trans (uq_ne e23 (Or.inr (by decide))) (uq_at e21)))))))
      | 3, _ => exact okv_any (Eq.trans (uq_ne e123 (Or.inr (by decide))) (Eq.trans (uq_ne e120 (Or.inr (by decide))) (Eq.trans (uq_ne e116 (Or.inr (by decide))) (Eq.trans (congrFun (hV112 _ (K_old h_x hq108)) _) (Eq.trans (uq_ne e25 (Or.inr (by decide))) (uq_at e23))))))
      | 4, _ => exact okv_any (Eq.trans (uq_ne e123 (Or.inr (by decide))) (Eq.trans (uq_ne e120 (Or.inr (by decide))) (Eq.trans (uq_ne e116 (Or.inr (by decide))) (Eq.trans (congrFun (hV112 _ (K_old h_x hq108)) _) (uq_at e25)))))
      | 5, _ => exact okv_at (Eq.trans (uq_ne e123 (Or.inr (by decide))) (Eq.trans (uq_ne e120 (Or.inr (by decide))) (Eq.trans (uq_ne e116 (Or.inr (by decide))) (Eq.trans (congrFun (hV112 _ (K_old h_x hq108)) _) (Eq.trans (uq_ne e25 (Or.inr (by decide))) (Eq.trans (uq_ne e23 (Or.inr (by decide))) (Eq.trans (uq_ne e21 (Or.inr (by decide))) (Eq.trans (uq_ne e19 (Or.inr (by decide))) (Eq.trans (uq_ne e17 (Or.inr (by decide))) (Eq.trans (uq_ne e15 (Or.inr (by decide))) (Eq.trans (uq_ne e13 (Or.inr (by decide))) (Eq.trans (uq_ne e11 (Or.inr (by decide))) (Eq.trans (uq_ne e9 (Or.inr (by decide))) (Eq.trans (uq_ne e7 (Or.inr (by decide))) (Eq.trans (uq_ne e5 (Or.inr (by decide))) (Eq.trans (uq_ne e3 (Or.inr (by decide))) (uq_at e1))))))))))))))))) (ir_c rfl) (by omega) (by omega)
      | 6, _ => exact okv_any (Eq.trans (uq_ne e123 (Or.inr (by decide))) (Eq.trans (uq_ne e120 (Or.inr (by decide))) (Eq.trans (uq_ne e116 (Or.inr (by decide))) (Eq.trans (congrFun (hV112 _ (K_old h_x hq108)) _) (Eq.trans (uq_ne e25 (Or.inr (by decide))) (Eq.trans (uq_ne e23 (Or.inr (by decide))) (Eq.trans (uq_ne e21 (Or.inr (by decide))) (Eq.trans (uq_ne e19 (Or.inr (by decide))) (Eq.trans (uq_ne e17 (Or.inr (by decide))) (Eq.trans (uq_ne e15 (Or.inr (by decide))) (Eq.trans (uq_ne e13 (Or.inr (by decide))) (Eq.trans (uq_ne e11 (Or.inr (by decide))) (Eq.trans (uq_ne e9 (Or.inr (by decide))) (Eq.trans (uq_ne e7 (Or.inr (by decide))) (Eq.trans (uq_ne e5 (Or.inr (by decide))) (uq_at e3))))))))))))))))
      | 7, _ => exact okv_any (Eq.trans (uq_ne e123 (Or.inr (by decide))) (Eq.trans (uq_ne e120 (Or.inr (by decide))) (Eq.trans (uq_ne e116 (Or.inr (by decide))) (Eq.trans (congrFun (hV112 _ (K_old h_x hq108)) _) (Eq.trans (uq_ne e25 (Or.inr (by decide))) (Eq.trans (uq_ne e23 (Or.inr (by decide))) (Eq.trans (uq_ne e21 (Or.inr (by decide))) (Eq.trans (uq_ne e19 (Or.inr (by decide))) (Eq.trans (uq_ne e17 (Or.inr (by decide))) (Eq.trans (uq_ne e15 (Or.inr (by decide))) (Eq.trans (uq_ne e13 (Or.inr (by decide))) (Eq.trans (uq_ne e11 (Or.inr (by decide))) (Eq.trans (uq_ne e9 (Or.inr (by decide))) (Eq.trans (uq_ne e7 (Or.inr (by decide))) (uq_at e5)))))))))))))))
      | 8, _ => exact okv_any (Eq.trans (uq_ne e123 (Or.inr (by decide))) (Eq.trans (uq_ne e120 (Or.inr (by decide))) (Eq.trans (uq_ne e116 (Or.inr (by decide))) (Eq.trans (congrFun (hV112 _ (K_old h_x hq108)) _) (Eq.trans (uq_ne e25 (Or.inr (by decide))) (Eq.trans (uq_ne e23 (Or.inr (by decide))) (Eq.trans (uq_ne e21 (Or.inr (by decide))) (Eq.trans (uq_ne e19 (Or.inr (by decide))) (Eq.trans (uq_ne e17 (Or.inr (by decide))) (Eq.trans (uq_ne e15 (Or.inr (by decide))) (Eq.trans (uq_ne e13 (Or.inr (by decide))) (Eq.trans (uq_ne e11 (Or.inr (by decide))) (Eq.trans (uq_ne e9 (Or.inr (by decide))) (uq_at e7))))))))))))))
      | 9, _ => exact okv_any (Eq.trans (uq_ne e123 (Or.inr (by decide))) (Eq.trans (uq_ne e120 (Or.inr (by decide))) (Eq.trans (uq_ne e116 (Or.inr (by decide))) (Eq.trans (congrFun (hV112 _ (K_old h_x hq108)) _) (Eq.trans (uq_ne e25 (Or.inr (by decide))) (Eq.trans (uq_ne e23 (Or.inr (by decide))) (Eq.trans (uq_ne e21 (Or.inr (by decide))) (Eq.trans (uq_ne e19 (Or.inr (by decide))) (Eq.trans (uq_ne e17 (Or.inr (by decide))) (Eq.trans (uq_ne e15 (Or.inr (by decide))) (Eq.trans (uq_ne e13 (Or.inr (by decide))) (Eq.trans (uq_ne e11 (Or.inr (by decide))) (uq_at e9)))))))))))))
      | 10, _ => exact okv_at (Eq.trans (uq_ne e123 (Or.inr (by decide))) (Eq.trans (uq_ne e120 (Or.inr (by decide))) (Eq.trans (uq_ne e116 (Or.inr (by decide))) (Eq.trans (congrFun (hV112 _ (K_old h_x hq108)) _) (Eq.trans (uq_ne e25 (Or.inr (by decide))) (Eq.trans (uq_ne e23 (Or.inr (by decide))) (Eq.trans (uq_ne e21 (Or.inr (by decide))) (Eq.trans (uq_ne e19 (Or.inr (by decide))) (Eq.trans (uq_ne e17 (Or.inr (by decide))) (Eq.trans (uq_ne e15 (Or.inr (by decide))) (Eq.trans (uq_ne e13 (Or.inr (by decide))) (uq_at e11)))))))))))) (ir_c rfl) (by omega) (by omega)
      | 11, _ => exact okv_any (Eq.trans (uq_ne e123 (Or.inr (by decide))) (Eq.trans (uq_ne e120 (Or.inr (by decide))) (Eq.trans (uq_ne e116 (Or.inr (by decide))) (Eq.trans (congrFun (hV112 _ (K_old h_x hq108)) _) (Eq.trans (uq_ne e25 (Or.inr (by decide))) (Eq.trans (uq_ne e23 (Or.inr (by decide))) (Eq.trans (uq_ne e21 (Or.inr (by decide))) (Eq.trans (uq_ne e19 (Or.inr (by decide))) (Eq.trans (uq_ne e17 (Or.inr (by decide))) (Eq.trans (uq_ne e15 (Or.inr (by decide))) (uq_at e13)))))))))))
      | 12, _ => exact okv_any (Eq.trans (uq_ne e123 (Or.inr (by decide))) (Eq.trans (uq_ne e120 (Or.inr (by decide))) (Eq.trans (uq_ne e116 (Or.inr (by decide))) (Eq.trans (congrFun (hV112 _ (K_old h_x hq108)) _) (Eq.trans (uq_ne e25 (Or.inr (by decide))) (Eq.trans (uq_ne e23 (Or.inr (by decide))) (Eq.trans (uq_ne e21 (Or.inr (by decide))) (Eq.trans (uq_ne e19 (Or.inr (by decide))) (Eq.trans (uq_ne e17 (Or.inr (by decide))) (uq_at e15))))))))))
      | 13, _ => exact Or.inr ⟨_, (Eq.trans (uq_ne e123 (Or.inr (by decide))) (Eq.trans (uq_ne e120 (Or.inr (by decide))) (uq_at e116))), ⟨_, h111⟩⟩
      | 14, _ => exact Or.inl (Eq.trans (uq_ne e123 (Or.inr (by decide))) (uq_at e120))
      | 15, _ => exact Or.inl (uq_at e123)
      | j + 16, hj => exact absurd hj (by omega)
    exact GO.retv rfl rfl dX3_init_152 ⟨rfl, ⟨h129, (⟨vi_at (Eq.trans (uq_ne e123 (Or.inr (by decide))) (Eq.trans (uq_ne e120 (Or.inr (by decide))) (Eq.trans (uq_ne e116 (Or.inr (by decide))) (Eq.trans (congrFun (hV112 _ (K_old h_x hq108)) _) (Eq.trans (uq_ne e25 (Or.inr (by decide))) (Eq.trans (uq_ne e23 (Or.inr (by decide))) (Eq.trans (uq_ne e21 (Or.inr (by decide))) (Eq.trans (uq_ne e19 (Or.inr (by decide))) (uq_at e17))))))))) r_p0, vi_at (Eq.trans (uq_ne e123 (Or.inr (by decide))) (Eq.trans (uq_ne e120 (Or.inr (by decide))) (Eq.trans (uq_ne e116 (Or.inr (by decide))) (Eq.trans (congrFun (hV112 _ (K_old h_x hq108)) _) (Eq.trans (uq_ne e25 (Or.inr (by decide))) (Eq.trans (uq_ne e23 (Or.inr (by decide))) (Eq.trans (uq_ne e21 (Or.inr (by decide))) (uq_at e19)))))))) r_p1, vi_at (Eq.trans (uq_ne e123 (Or.inr (by decide))) (Eq.trans (uq_ne e120 (Or.inr (by decide))) (Eq.trans (uq_ne e116 (Or.inr (by decide))) (Eq.trans (congrFun (hV112 _ (K_old h_x hq108)) _) (Eq.trans (uq_ne e25 (Or.inr (by decide))) (Eq.trans (uq_ne e23 (Or.inr (by decide))) (uq_at e21))))))) r_p2, vi_at (Eq.trans (uq_ne e123 (Or.inr (by decide))) (Eq.trans (uq_ne e120 (Or.inr (by decide))) (Eq.trans (uq_ne e116 (Or.inr (by decide))) (Eq.trans (congrFun (hV112 _ (K_old h_x hq108)) _) (Eq.trans (uq_ne e25 (Or.inr (by decide))) (uq_at e23)))))) r_p3, vi_at (Eq.trans (uq_ne e123 (Or.inr (by decide))) (Eq.trans (uq_ne e120 (Or.inr (by decide))) (Eq.trans (uq_ne e116 (Or.inr (by decide))) (Eq.trans (congrFun (hV112 _ (K_old h_x hq108)) _) (uq_at e25))))) r_p4, vi_at (Eq.trans (uq_ne e123 (Or.inr (by decide))) (Eq.trans (uq_ne e120 (Or.inr (by decide))) (Eq.trans (uq_ne e116 (Or.inr (by decide))) (Eq.trans (congrFun (hV112 _ (K_old h_x hq108)) _) (Eq.trans (uq_ne e25 (Or.inr (by decide))) (Eq.trans (uq_ne e23 (Or.inr (by decide))) (Eq.trans (uq_ne e21 (Or.inr (by decide))) (Eq.trans (uq_ne e19 (Or.inr (by decide))) (Eq.trans (uq_ne e17 (Or.inr (by decide))) (Eq.trans (uq_ne e15 (Or.inr (by decide))) (Eq.trans (uq_ne e13 (Or.inr (by decide))) (Eq.trans (uq_ne e11 (Or.inr (by decide))) (Eq.trans (uq_ne e9 (Or.inr (by decide))) (Eq.trans (uq_ne e7 (Or.inr (by decide))) (Eq.trans (uq_ne e5 (Or.inr (by decide))) (Eq.trans (uq_ne e3 (Or.inr (by decide))) (uq_at e1))))))))))))))))) (ir_c rfl), vi_at (Eq.trans (uq_ne e123 (Or.inr (by decide))) (Eq.trans (uq_ne e120 (Or.inr (by decide))) (Eq.trans (uq_ne e116 (Or.inr (by decide))) (Eq.trans (congrFun (hV112 _ (K_old h_x hq108)) _) (Eq.trans (uq_ne e25 (Or.inr (by decide))) (Eq.trans (uq_ne e23 (Or.inr (by decide))) (Eq.trans (uq_ne e21 (Or.inr (by decide))) (Eq.trans (uq_ne e19 (Or.inr (by decide))) (Eq.trans (uq_ne e17 (Or.inr (by decide))) (Eq.trans (uq_ne e15 (Or.inr (by decide))) (Eq.trans (uq_ne e13 (Or.inr (by decide))) (uq_at e11)))))))))))) (ir_c rfl)⟩)⟩, KE.promote (KE.new KE.rf hq108 hK109) e127⟩
