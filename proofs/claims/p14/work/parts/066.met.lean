def mX1_strike_k33 : MRec := (RX1, cX1_strike, 7, (none : Option Jvm.ClassFile.FieldType), yX1_strike, 1, 24, 0, 0, 82631996098781074868989413504096379978550585370535152410581099409300723904538918228148651304964410605948901503127919788032)
def mX1_weighTexts : MRec := (RX1, cX1_weighTexts, 7, (none : Option Jvm.ClassFile.FieldType), yX1_weighTexts, 2, 50, 0, 0, 123947994148171612303484120256144569967825878055802728615871649113951085856808377342222976957446615908923352254691879682048)
def mX9_letterOf : MRec := (RX9, cX9_letterOf, 2, (some .int), yX9_letterOf, 1, 24, 0, 0, 0)
def mX1_isCounting : MRec := (RX1, cX1_isCounting, 3, (some .boolean), yX1_isCounting, 1, 21, 0, 0, 0)
def mX1_numberOf : MRec := (RX1, cX1_numberOf, 8, (some .int), yX1_numberOf, 2, 45, 0, 0, 0)
def mX1_binds : MRec := (RX1, cX1_binds, 7, (some .boolean), yX1_binds, 3, 76, 0, 0, 123947994148171612303484120256144569967825878055802728615871649113951085856808377342222976957446615908923352254691879682048)
def mX1_weigh : MRec := (RX1, cX1_weigh, 6, (none : Option Jvm.ClassFile.FieldType), yX1_weigh, 4, 102, 0, 0, 123947994148171612303484120256144569967825878055802728615871649113951085856808377342222976957446615908923352254691881254912)
def mX8_has_k33 : MRec := (RX8, cX8_has, 2, (some .boolean), yX8_has, 0, 0, 0, 0, 0)
def mX9_hasCondition : MRec := (RX9, cX9_hasCondition, 2, (some .boolean), yX9_hasCondition, 1, 24, 0, 0, 0)
def mX8_get_k32 : MRec := (RX8, cX8_get, 5, (some .int), yX8_get, 0, 0, 0, 0, 0)
def mX1_readingOf : MRec := (RX1, cX1_readingOf, 6, (some (.object "IceTreaty$Text")), yX1_readingOf, 1, 24, 0, 0, 0)
set_option maxHeartbeats 1000000 in
theorem t_X1_strike_k33 {K : Kmap} {V : Vmap} {x : Nat} {p0 : Int} {p1 : Nat} {p2 : Int} (h_x : K x = some (0, 1)) (r_p0 : ir p0) (h_p1 : K p1 = some (0, 33)) (r_p2 : ir p2) : MC mX1_strike_k33 K V [.ref x, ti p0, .ref p1, ti p2] (VS K (fun V1 => (True))) := by
  refine MC.start 3 (by decide +kernel) rfl rfl rfl (ls0 := [some (.ref x), some (ti p0), some (.ref p1), some (ti p2), none, none, none]) rfl ?_
  refine GO.iconst dX1_strike_0 ?_
  refine GO.istore (ls1 := [some (.ref x), some (ti p0), some (.ref p1), some (ti p2), some (ti 0), none, none]) dX1_strike_1 rfl rfl ?_
  refine GO.loop1 (fun i1 W => 0 ≤ i1 ∧ i1 ≤ 12 ∧ True) (fun i1 => [some (.ref x), some (ti p0), some (.ref p1), some (ti p2), some (ti i1), none, none]) (fun i1 W => (2147483647 - i1).toNat) 0 ⟨by omega, by omega, trivial⟩ rfl (fun i1 Wi1 hp255 ih254 => ?_)
  obtain ⟨l_i1, u_i1, -⟩ := hp255
  have r_i1 : ir i1 := ⟨by omega, by omega⟩
  show GO mX1_strike_k33 K V (VS K (fun V1 => (True))) K Wi1 0 0 3 [some (.ref x), some (ti p0), some (.ref p1), some (ti p2), some (ti i1), none, none] []
  refine GO.iload dX1_strike_3 rfl ?_
  refine GO.aload_n dX1_strike_5 rfl rfl ?_
  refine GO.getI h_p1 fl_RX1_105_k33 rfl rfl dX1_strike_6 (fun l256 u257 => ?_)
  refine GO.icmp_ge (tgt := 86) dX1_strike_9 (by decide) r_i1 vi_ir (fun c258 => ?_) (fun c258 => ?_)
  ·
    exact GO.retv rfl rfl dX1_strike_86 ⟨rfl, rfl, trivial⟩
  ·
    refine GO.aload_n dX1_strike_12 rfl rfl ?_
    refine GO.iload dX1_strike_13 rfl ?_
    refine GO.iconst dX1_strike_15 ?_
    refine GO.callV (ci := 33) (N := mX8_get_k33) dX1_strike_16 (RX8, TX8, 4) rfl gV_RX1_116 h_p1 (t_X8_get_k33 h_p1 r_i1 (ir_c rfl)) rfl [] rfl rfl (Nat.le_of_ble_eq_true rfl) rfl (k_ip fun X259 r260 h261 => ?_)
    have raw_get := h261.2
    have rw16 := h261.2
    refine GO.istore (ls1 := [some (.ref x), some (ti p0), some (.ref p1), some (ti p2), some (ti i1), some (ti X259), none]) dX1_strike_19 rfl rfl ?_
    refine GO.iload_n dX1_strike_21 rfl rfl ?_
    refine GO.iload dX1_strike_22 rfl ?_
    refine GO.ishr dX1_strike_24 ?_
    refine GO.iconst dX1_strike_25 ?_
    refine GO.iand dX1_strike_26 ?_
    refine GO.if_eq (tgt := 80) dX1_strike_27 (by decide) wand_ir (fun c262 => ?_) (fun c262 => ?_)
    ·
      refine GO.iinc (X := i1) (n := 1) (Y := i1 + 1) (ls1 := [some (.ref x), some (ti p0), some (.ref p1), some (ti p2), some (ti (i1 + 1)), some (ti X259), none]) dX1_strike_80 rfl rfl rfl rfl ?_
      refine GO.goto (tgt := 3) dX1_strike_83 (by decide) ?_
      refine GO.drop [true, true, true, true, true, false, true] rfl ?_
      exact ih254 (i1 + 1) Wi1 ⟨by omega, by omega, trivial⟩ (by show (2147483647 - (i1 + 1)).toNat < (2147483647 - i1).toNat; omega)
    ·
      refine GO.aload_n dX1_strike_30 rfl rfl ?_
      refine GO.iload dX1_strike_31 rfl ?_
      refine GO.iconst dX1_strike_33 ?_
      refine GO.callV (ci := 33) (N := mX8_get_k33) dX1_strike_34 (RX8, TX8, 4) rfl gV_RX1_116 h_p1 (t_X8_get_k33 h_p1 r_i1 (ir_c rfl)) rfl [] rfl rfl (Nat.le_of_ble_eq_true rfl) rfl (k_ip fun X263 r264 h265 => ?_)
      have raw_get := h265.2
      have rw34 := h265.2
      refine GO.bipush dX1_strike_37 rfl ?_
      refine GO.icmp_ne (tgt := 80) dX1_strike_39 (by decide) r264 (ir_c rfl) (fun c266 => ?_) (fun c266 => ?_)
      ·
        refine GO.iinc (X := i1) (n := 1) (Y := i1 + 1) (ls1 := [some (.ref x), some (ti p0), some (.ref p1), some (ti p2), some (ti (i1 + 1)), some (ti X259), none]) dX1_strike_80 rfl rfl rfl rfl ?_
        refine GO.goto (tgt := 3) dX1_strike_83 (by decide) ?_
        refine GO.drop [true, true, true, true, true, false, true] rfl ?_
        exact ih254 (i1 + 1) Wi1 ⟨by omega, by omega, trivial⟩ (by show (2147483647 - (i1 + 1)).toNat < (2147483647 - i1).toNat; omega)
      ·
        refine GO.iload dX1_strike_42 rfl ?_
        refine GO.iload_n dX1_strike_44 rfl rfl ?_
        refine GO.icmp_ge (tgt := 80) dX1_strike_45 (by decide) r260 r_p0 (fun c267 => ?_) (fun c267 => ?_)
        ·
          refine GO.iinc (X := i1) (n := 1) (Y := i1 + 1) (ls1 := [some (.ref x), some (ti p0), some (.ref p1), some (ti p2), some (ti (i1 + 1)), some (ti X259), none]) dX1_strike_80 rfl rfl rfl rfl ?_
          refine GO.goto (tgt := 3) dX1_strike_83 (by decide) ?_
          refine GO.drop [true, true, true, true, true, false, true] rfl ?_
          exact ih254 (i1 + 1) Wi1 ⟨by omega, by omega, trivial⟩ (by show (2147483647 - (i1 + 1)).toNat < (2147483647 - i1).toNat; omega)
        ·
          refine GO.iconst dX1_strike_48 ?_
          refine GO.aload_n dX1_strike_49 rfl rfl ?_
          refine GO.iload dX1_strike_50 rfl ?_
          refine GO.iconst dX1_strike_52 ?_
          refine GO.callV (ci := 33) (N := mX8_get_k33) dX1_strike_53 (RX8, TX8, 4) rfl gV_RX1_116 h_p1 (t_X8_get_k33 h_p1 r_i1 (ir_c rfl)) rfl [ti 1] rfl rfl (Nat.le_of_ble_eq_true rfl) rfl (k_ip fun X268 r269 h270 => ?_)
          have raw_get := h270.2
          have rw53 := h270.2
          refine GO.ishl dX1_strike_56 ?_
          refine GO.name (fun z271 hz272 => ?_)
          have r273 : ir z271 := hz272 ▸ wshl_ir
          refine GO.istore (ls1 := [some (.ref x), some (ti p0), some (.ref p1), some (ti p2), some (ti i1), some (ti X259), some (ti z271)]) dX1_strike_57 rfl rfl ?_
          refine GO.aload_n dX1_strike_59 rfl rfl ?_
          refine GO.getA (n := 20) h_x fl_RX1_37 rfl rfl rfl rfl dX1_strike_60 (fun hv275 h274 => ?_)
          refine GO.iload dX1_strike_63 rfl ?_
          refine GO.aload_n dX1_strike_65 rfl rfl ?_
          refine GO.getRaw h_x fl_RX1_37 hv275 dX1_strike_66 ?_
          refine GO.iload dX1_strike_69 rfl ?_
          refine GO.callS (N := mX4_get) dX1_strike_71 gS_RX1_88 (t_X4_get rfl h274 r260) rfl [ti X259, .ref (vq Wi1 x 5)] rfl rfl (Nat.le_of_ble_eq_true rfl) rfl (k_ip fun X278 r279 h280 => ?_)
          have raw_get := h280.2
          have rw71 := h280.2
          refine GO.iload dX1_strike_74 rfl ?_
          refine GO.ior dX1_strike_76 ?_
          refine GO.callS (N := mX4_put_t134) dX1_strike_77 gS_RX1_108 (t_X4_put_t134 h274 r260 wor_ir) rfl [] rfl rfl (Nat.le_of_ble_eq_true rfl) rfl (k_vs fun V283 h282 hF281 => ?_)
          have raw_put := h282.2
          have rw77 := h282.2
          refine GO.iinc (X := i1) (n := 1) (Y := i1 + 1) (ls1 := [some (.ref x), some (ti p0), some (.ref p1), some (ti p2), some (ti (i1 + 1)), some (ti X259), some (ti z271)]) dX1_strike_80 rfl rfl rfl rfl ?_
          refine GO.goto (tgt := 3) dX1_strike_83 (by decide) ?_
          refine GO.drop [true, true, true, true, true, false, false] rfl ?_
          exact ih254 (i1 + 1) V283 ⟨by omega, by omega, trivial⟩ (by show (2147483647 - (i1 + 1)).toNat < (2147483647 - i1).toNat; omega)

set_option maxHeartbeats 1000000 in
theorem t_X1_weighTexts {K : Kmap} {V : Vmap} {x : Nat} {p0 : Int} {p1 : Int} (h_x : K x = some (0, 1)) (r_p0 : ir p0) (r_p1 : ir p1) : MC mX1_weighTexts K V [.ref x, ti p0, ti p1] (VS K (fun V1 => (True))) := by
  refine MC.start 4 (by decide +kernel) rfl rfl rfl (ls0 := [some (.ref x), some (ti p0), some (ti p1), none, none, none, none]) rfl ?_
  refine GO.aload_n dX1_weighTexts_0 rfl rfl ?_
  refine GO.getA (n := 20) h_x fl_RX1_33 rfl rfl rfl rfl dX1_weighTexts_1 (fun hv2 h1 => ?_)
  refine GO.iconst dX1_weighTexts_4 ?_
  refine GO.callS (N := mX4_fill_t133) dX1_weighTexts_5 gS_RX1_98 (t_X4_fill_t133 h1 (ir_c rfl)) rfl [] rfl rfl (Nat.le_of_ble_eq_true rfl) rfl (k_vs fun V5 h4 hF3 => ?_)
  have raw_fill := h4.2
  have rw5 := h4.2
  refine GO.aload_n dX1_weighTexts_8 rfl rfl ?_
  refine GO.getA (n := 20) h_x fl_RX1_37 rfl rfl rfl rfl dX1_weighTexts_9 (fun hv7 h6 => ?_)
  refine GO.iconst dX1_weighTexts_12 ?_
  refine GO.callS (N := mX4_fill_t134) dX1_weighTexts_13 gS_RX1_98 (t_X4_fill_t134 h6 (ir_c rfl)) rfl [] rfl rfl (Nat.le_of_ble_eq_true rfl) rfl (k_vs fun V10 h9 hF8 => ?_)
  have raw_fill := h9.2
  have rw13 := h9.2
  refine GO.iload_n dX1_weighTexts_16 rfl rfl ?_
  refine GO.iconst dX1_weighTexts_17 ?_
  refine GO.isub dX1_weighTexts_18 ?_
  refine GO.norm (fun z11 r12 hn13 => ?_)
  refine GO.istore_n (ls1 := [some (.ref x), some (ti p0), some (ti p1), some (ti z11), none, none, none]) dX1_weighTexts_19 rfl rfl rfl ?_
  have q48 : -2147483648 ≤ z11 ∧ z11 ≤ 2147483647 := r12
  refine GO.loop1 (fun i14 W => (-2147483648) ≤ i14 ∧ i14 ≤ 2147483647 ∧ True) (fun i14 => [some (.ref x), some (ti p0), some (ti p1), some (ti i14), none, none, none]) (fun i14 W => (i14 + 2147483648).toNat) z11 ⟨by omega, by omega, trivial⟩ rfl (fun i14 Wi14 hp50 ih49 => ?_)
  obtain ⟨l_i14, u_i14, -⟩ := hp50
  have r_i14 : ir i14 := ⟨by omega, by omega⟩
  show GO mX1_weighTexts K V (VS K (fun V1 => (True))) K Wi14 0 0 20 [some (.ref x), some (ti p0), some (ti p1), some (ti i14), none, none, none] []
  refine GO.iload_n dX1_weighTexts_20 rfl rfl ?_
  refine GO.if_lt (tgt := 104) dX1_weighTexts_21 (by decide) r_i14 (fun c51 => ?_) (fun c51 => ?_)
  ·
    exact GO.retv rfl rfl dX1_weighTexts_104 ⟨rfl, rfl, trivial⟩
  ·
    refine GO.aload_n dX1_weighTexts_24 rfl rfl ?_
    refine GO.iload_n dX1_weighTexts_25 rfl rfl ?_
    refine GO.callV (ci := 1) (N := mX1_textOf) dX1_weighTexts_26 (RX1, TX1, 13) rfl gV_RX1_75 h_x (t_X1_textOf h_x r_i14) rfl [] rfl rfl (Nat.le_of_ble_eq_true rfl) rfl (k_rp (fun h54 => ?_) (fun o52 h53 h54 => ?_))
    ·
      have rwn26 := h54.2
      have hn55 : TNL Wi14 x → i14 < 0 ∨ vi Wi14 x 1 ≤ i14 := h54.2
      refine GO.astoreN (ls1 := [some (.ref x), some (ti p0), some (ti p1), some (ti i14), some (.null), none, none]) dX1_weighTexts_29 rfl rfl ?_
      refine GO.aloadN dX1_weighTexts_31 rfl ?_
      refine GO.ifnullN (tgt := 98) dX1_weighTexts_33 (by decide) ?_
      refine GO.iinc (X := i14) (n := (-1)) (Y := i14 + (-1)) (ls1 := [some (.ref x), some (ti p0), some (ti p1), some (ti (i14 + (-1))), some (.null), none, none]) dX1_weighTexts_98 rfl rfl rfl rfl ?_
      refine GO.goto (tgt := 20) dX1_weighTexts_101 (by decide) ?_
      refine GO.drop [true, true, true, true, false, true, true] rfl ?_
      exact ih49 (i14 + (-1)) Wi14 ⟨by omega, by omega, trivial⟩ (by show ((i14 + (-1)) + 2147483648).toNat < (i14 + 2147483648).toNat; omega)
    ·
      have hp56 : i14 ≥ 0 ∧ i14 < vi Wi14 x 1 := h54.1
      have rwp26 := h54.2
      have hq57 : o52 = vq Wi14 (vq Wi14 x 0) (i14).toNat := h54.2
      refine GO.astore (ls1 := [some (.ref x), some (ti p0), some (ti p1), some (ti i14), some (.ref o52), none, none]) dX1_weighTexts_29 rfl rfl ?_
      refine GO.aload dX1_weighTexts_31 rfl ?_
      refine GO.ifnull dX1_weighTexts_33 ?_
      refine GO.iload_n dX1_weighTexts_36 rfl rfl ?_
      refine GO.iload_n dX1_weighTexts_37 rfl rfl ?_
      refine GO.ishr dX1_weighTexts_38 ?_
      refine GO.iconst dX1_weighTexts_39 ?_
      refine GO.iand dX1_weighTexts_40 ?_
      refine GO.if_ne (tgt := 47) dX1_weighTexts_41 (by decide) wand_ir (fun c58 => ?_) (fun c58 => ?_)
      ·
        refine GO.iconst dX1_weighTexts_47 ?_
        refine GO.aload dX1_weighTexts_48 rfl ?_
        refine GO.getR h53 fl_RX1_102 rfl rfl dX1_weighTexts_50 (fun hv60 h59 => ?_)
        refine GO.getI h59 fl_RX1_105_k33 rfl rfl dX1_weighTexts_53 (fun l61 u62 => ?_)
        refine GO.ishl dX1_weighTexts_56 ?_
        refine GO.iconst dX1_weighTexts_57 ?_
        refine GO.isub dX1_weighTexts_58 ?_
        refine GO.norm (fun z63 r64 hn65 => ?_)
        refine GO.istore (ls1 := [some (.ref x), some (ti p0), some (ti p1), some (ti i14), some (.ref o52), some (ti z63), none]) dX1_weighTexts_59 rfl rfl ?_
        refine GO.iload dX1_weighTexts_61 rfl ?_
        refine GO.aload_n dX1_weighTexts_63 rfl rfl ?_
        refine GO.getA (n := 20) h_x fl_RX1_37 rfl rfl rfl rfl dX1_weighTexts_64 (fun hv67 h66 => ?_)
        refine GO.iload_n dX1_weighTexts_67 rfl rfl ?_
        refine GO.callS (N := mX4_get) dX1_weighTexts_68 gS_RX1_88 (t_X4_get rfl h66 r_i14) rfl [ti z63] rfl rfl (Nat.le_of_ble_eq_true rfl) rfl (k_ip fun X68 r69 h70 => ?_)
        have raw_get := h70.2
        have rw68 := h70.2
        refine GO.iconst dX1_weighTexts_71 ?_
        refine GO.ixor dX1_weighTexts_72 ?_
        refine GO.iand dX1_weighTexts_73 ?_
        refine GO.name (fun z71 hz72 => ?_)
        have r73 : ir z71 := hz72 ▸ wand_ir
        refine GO.istore (ls1 := [some (.ref x), some (ti p0), some (ti p1), some (ti i14), some (.ref o52), some (ti z63), some (ti z71)]) dX1_weighTexts_74 rfl rfl ?_
        refine GO.aload_n dX1_weighTexts_76 rfl rfl ?_
        refine GO.getA (n := 20) h_x fl_RX1_33 rfl rfl rfl rfl dX1_weighTexts_77 (fun hv75 h74 => ?_)
        refine GO.iload_n dX1_weighTexts_80 rfl rfl ?_
        refine GO.iload dX1_weighTexts_81 rfl ?_
        refine GO.callS (N := mX4_put_t133) dX1_weighTexts_83 gS_RX1_108 (t_X4_put_t133 h74 r_i14 r73) rfl [] rfl rfl (Nat.le_of_ble_eq_true rfl) rfl (k_vs fun V78 h77 hF76 => ?_)
        have raw_put := h77.2
        have rw83 := h77.2
        refine GO.aload_n dX1_weighTexts_86 rfl rfl ?_
        refine GO.iload_n dX1_weighTexts_87 rfl rfl ?_
        refine GO.aload dX1_weighTexts_88 rfl ?_
        refine GO.getR h53 fl_RX1_102 rfl rfl dX1_weighTexts_90 (fun hv80 h79 => ?_)
        refine GO.iload dX1_weighTexts_93 rfl ?_
        refine GO.callV (ci := 1) (N := mX1_strike_k33) dX1_weighTexts_95 (RX1, TX1, 13) rfl gV_RX1_112 h_x (t_X1_strike_k33 h_x r_i14 h79 r73) rfl [] rfl rfl (Nat.le_of_ble_eq_true rfl) rfl (k_vs fun V83 h82 hF81 => ?_)
        refine GO.iinc (X := i14) (n := (-1)) (Y := i14 + (-1)) (ls1 := [some (.ref x), some (ti p0), some (ti p1), some (ti (i14 + (-1))), some (.ref o52), some (ti z63), some (ti z71)]) dX1_weighTexts_98 rfl rfl rfl rfl ?_
        refine GO.goto (tgt := 20) dX1_weighTexts_101 (by decide) ?_
        refine GO.drop [true, true, true, true, false, false, false] rfl ?_
        have q84 : -2147483648 ≤ vi Wi14 x 1 ∧ vi Wi14 x 1 ≤ 2147483647 := vi_ir
        exact ih49 (i14 + (-1)) V83 ⟨by omega, by omega, trivial⟩ (by show ((i14 + (-1)) + 2147483648).toNat < (i14 + 2147483648).toNat; omega)
      ·
        refine GO.goto (tgt := 98) dX1_weighTexts_44 (by decide) ?_
        refine GO.iinc (X := i14) (n := (-1)) (Y := i14 + (-1)) (ls1 := [some (.ref x), some (ti p0), some (ti p1), some (ti (i14 + (-1))), some (.ref o52), none, none]) dX1_weighTexts_98 rfl rfl rfl rfl ?_
        refine GO.goto (tgt := 20) dX1_weighTexts_101 (by decide) ?_
        refine GO.drop [true, true, true, true, false, true, true] rfl ?_
        have q85 : -2147483648 ≤ vi Wi14 x 1 ∧ vi Wi14 x 1 ≤ 2147483647 := vi_ir
        exact ih49 (i14 + (-1)) Wi14 ⟨by omega, by omega, trivial⟩ (by show ((i14 + (-1)) + 2147483648).toNat < (i14 + 2147483648).toNat; omega)

set_option maxHeartbeats 1000000 in
theorem t_X9_letterOf {K : Kmap} {V : Vmap} {x : Nat} {p0 : Int} (h_x : K x = some (0, 8)) (r_p0 : ir p0) : MC mX9_letterOf K V [.ref x, ti p0] (IP K V (fun X => True)) := by
  refine MC.start 0 (by decide +kernel) rfl rfl rfl (ls0 := [some (.ref x), some (ti p0)]) rfl ?_
  refine GO.aload_n dX9_letterOf_0 rfl rfl ?_
  refine GO.getR h_x fl_RX9_26 rfl rfl dX9_letterOf_1 (fun hv2 h1 => ?_)
  refine GO.iload_n dX9_letterOf_4 rfl rfl ?_
  refine GO.iconst dX9_letterOf_5 ?_
  refine GO.callV (ci := 33) (N := mX8_get_k33) dX9_letterOf_6 (RX8, TX8, 4) rfl gV_RX9_40 h1 (t_X8_get_k33 h1 r_p0 (ir_c rfl)) rfl [] rfl rfl (Nat.le_of_ble_eq_true rfl) rfl (k_ip fun X3 r4 h5 => ?_)
  have raw_get := h5.2
  have rw6 := h5.2
  exact GO.reti rfl rfl dX9_letterOf_9 ⟨rfl, rfl, _, rfl, r4, trivial⟩

set_option maxHeartbeats 1000000 in
theorem t_X1_isCounting {K : Kmap} {V : Vmap} {x : Nat} {p0 : Int} {p1 : Int} (h_x : K x = some (0, 1)) (r_p0 : ir p0) (r_p1 : ir p1) : MC mX1_isCounting K V [.ref x, ti p0, ti p1] (IP K V (fun X => (X = 0 ∨ X = 1) ∧ (X ≠ 0 → True) ∧ (X = 0 → True))) := by
  refine MC.start 0 (by decide +kernel) rfl rfl rfl (ls0 := [some (.ref x), some (ti p0), some (ti p1)]) rfl ?_
  refine GO.aload_n dX1_isCounting_0 rfl rfl ?_
  refine GO.getA (n := 20) h_x fl_RX1_33 rfl rfl rfl rfl dX1_isCounting_1 (fun hv2 h1 => ?_)
  refine GO.iload_n dX1_isCounting_4 rfl rfl ?_
  refine GO.callS (N := mX4_get) dX1_isCounting_5 gS_RX1_88 (t_X4_get rfl h1 r_p0) rfl [] rfl rfl (Nat.le_of_ble_eq_true rfl) rfl (k_ip fun X3 r4 h5 => ?_)
  have raw_get := h5.2
  have rw5 := h5.2
  refine GO.iload_n dX1_isCounting_8 rfl rfl ?_
  refine GO.ishr dX1_isCounting_9 ?_
  refine GO.iconst dX1_isCounting_10 ?_
  refine GO.iand dX1_isCounting_11 ?_
  refine GO.if_eq (tgt := 19) dX1_isCounting_12 (by decide) wand_ir (fun c6 => ?_) (fun c6 => ?_)
  ·
    refine GO.iconst dX1_isCounting_19 ?_
    exact GO.retz rfl rfl dX1_isCounting_20 (by omega) ⟨rfl, rfl, _, rfl, (ir_c rfl), ⟨by omega, fun _ => trivial, fun _ => trivial⟩⟩
  ·
    refine GO.iconst dX1_isCounting_15 ?_
    refine GO.goto (tgt := 20) dX1_isCounting_16 (by decide) ?_
    exact GO.retz rfl rfl dX1_isCounting_20 (by omega) ⟨rfl, rfl, _, rfl, (ir_c rfl), ⟨by omega, fun _ => trivial, fun _ => trivial⟩⟩

set_option maxHeartbeats 1000000 in
theorem t_X1_numberOf {K : Kmap} {V : Vmap} {x : Nat} {p0 : Int} {p1 : Int} {p2 : Int} (h_x : K x = some (0, 1)) (r_p0 : ir p0) (r_p1 : ir p1) (r_p2 : ir p2) : MC mX1_numberOf K V [.ref x, ti p0, ti p1, ti p2] (IP K V (fun X => True)) := by
  refine MC.start 4 (by decide +kernel) rfl rfl rfl (ls0 := [some (.ref x), some (ti p0), some (ti p1), some (ti p2), none, none, none, none]) rfl ?_
  refine GO.aload_n dX1_numberOf_0 rfl rfl ?_
  refine GO.getI h_x fl_RX1_17 rfl rfl dX1_numberOf_1 (fun l1 u2 => ?_)
  refine GO.iconst dX1_numberOf_4 ?_
  refine GO.isub dX1_numberOf_5 ?_
  refine GO.name (fun z3 hz4 => ?_)
  refine GO.istore (ls1 := [some (.ref x), some (ti p0), some (ti p1), some (ti p2), some (ti z3), none, none, none]) dX1_numberOf_6 rfl rfl ?_
  refine GO.loop1 (fun i5 W => (-1) ≤ i5 ∧ i5 ≤ 19 ∧ V = W) (fun i5 => [some (.ref x), some (ti p0), some (ti p1), some (ti p2), some (ti i5), none, none, none]) (fun i5 W => (i5 + 2147483648).toNat) z3 ⟨by omega, by omega, rfl⟩ rfl (fun i5 V197 hp199 ih198 => ?_)
  obtain ⟨l_i5, u_i5, rfl⟩ := hp199
  have r_i5 : ir i5 := ⟨by omega, by omega⟩
  show GO mX1_numberOf K V (IP K V (fun X => True)) K V 0 0 8 [some (.ref x), some (ti p0), some (ti p1), some (ti p2), some (ti i5), none, none, none] []
  refine GO.iload dX1_numberOf_8 rfl ?_
  refine GO.if_lt (tgt := 152) dX1_numberOf_10 (by decide) r_i5 (fun c200 => ?_) (fun c200 => ?_)
  ·
    refine GO.iconst dX1_numberOf_152 ?_
    exact GO.reti rfl rfl dX1_numberOf_153 ⟨rfl, rfl, _, rfl, (ir_c rfl), trivial⟩
  ·
    refine GO.aload_n dX1_numberOf_13 rfl rfl ?_
    refine GO.iload dX1_numberOf_14 rfl ?_
    refine GO.callV (ci := 1) (N := mX1_textOf) dX1_numberOf_16 (RX1, TX1, 13) rfl gV_RX1_75 h_x (t_X1_textOf h_x r_i5) rfl [] rfl rfl (Nat.le_of_ble_eq_true rfl) rfl (k_rp (fun h203 => ?_) (fun o201 h202 h203 => ?_))
    ·
      have rwn16 := h203.2
      have hn204 : TNL V x → i5 < 0 ∨ vi V x 1 ≤ i5 := h203.2
      refine GO.astoreN (ls1 := [some (.ref x), some (ti p0), some (ti p1), some (ti p2), some (ti i5), some (.null), none, none]) dX1_numberOf_19 rfl rfl ?_
      refine GO.aloadN dX1_numberOf_21 rfl ?_
      refine GO.ifnullN (tgt := 146) dX1_numberOf_23 (by decide) ?_
      refine GO.iinc (X := i5) (n := (-1)) (Y := i5 + (-1)) (ls1 := [some (.ref x), some (ti p0), some (ti p1), some (ti p2), some (ti (i5 + (-1))), some (.null), none, none]) dX1_numberOf_146 rfl rfl rfl rfl ?_
      refine GO.goto (tgt := 8) dX1_numberOf_149 (by decide) ?_
      refine GO.drop [true, true, true, true, true, false, true, true] rfl ?_
      exact ih198 (i5 + (-1)) V ⟨by omega, by omega, rfl⟩ (by show ((i5 + (-1)) + 2147483648).toNat < (i5 + 2147483648).toNat; omega)
    ·
      have hp205 : i5 ≥ 0 ∧ i5 < vi V x 1 := h203.1
      have rwp16 := h203.2
      have hq206 : o201 = vq V (vq V x 0) (i5).toNat := h203.2
      refine GO.astore (ls1 := [some (.ref x), some (ti p0), some (ti p1), some (ti p2), some (ti i5), some (.ref o201), none, none]) dX1_numberOf_19 rfl rfl ?_
      refine GO.aload dX1_numberOf_21 rfl ?_
      refine GO.ifnull dX1_numberOf_23 ?_
      refine GO.aload_n dX1_numberOf_26 rfl rfl ?_
      refine GO.getA (n := 20) h_x fl_RX1_33 rfl rfl rfl rfl dX1_numberOf_27 (fun hv208 h207 => ?_)
      refine GO.iload dX1_numberOf_30 rfl ?_
      refine GO.callS (N := mX4_get) dX1_numberOf_32 gS_RX1_88 (t_X4_get rfl h207 r_i5) rfl [] rfl rfl (Nat.le_of_ble_eq_true rfl) rfl (k_ip fun X209 r210 h211 => ?_)
      have raw_get := h211.2
      have rw32 := h211.2
      refine GO.if_ne (tgt := 41) dX1_numberOf_35 (by decide) r210 (fun c212 => ?_) (fun c212 => ?_)
      ·
        refine GO.aload dX1_numberOf_41 rfl ?_
        refine GO.getR h202 fl_RX1_102 rfl rfl dX1_numberOf_43 (fun hv214 h213 => ?_)
        refine GO.getI h213 fl_RX1_105_k33 rfl rfl dX1_numberOf_46 (fun l215 u216 => ?_)
        refine GO.iconst dX1_numberOf_49 ?_
        refine GO.isub dX1_numberOf_50 ?_
        refine GO.name (fun z217 hz218 => ?_)
        refine GO.istore (ls1 := [some (.ref x), some (ti p0), some (ti p1), some (ti p2), some (ti i5), some (.ref o201), some (ti z217), none]) dX1_numberOf_51 rfl rfl ?_
        refine GO.loop1 (fun i219 W => (-1) ≤ i219 ∧ i219 ≤ 11 ∧ V = W) (fun i219 => [some (.ref x), some (ti p0), some (ti p1), some (ti p2), some (ti i5), some (.ref o201), some (ti i219), none]) (fun i219 W => (i219 + 2147483648).toNat) z217 ⟨by omega, by omega, rfl⟩ rfl (fun i219 V304 hp306 ih305 => ?_)
        obtain ⟨l_i219, u_i219, rfl⟩ := hp306
        have r_i219 : ir i219 := ⟨by omega, by omega⟩
        show GO mX1_numberOf K V (IP K V (fun X => True)) K V 0 0 53 [some (.ref x), some (ti p0), some (ti p1), some (ti p2), some (ti i5), some (.ref o201), some (ti i219), none] []
        refine GO.iload dX1_numberOf_53 rfl ?_
        refine GO.if_lt (tgt := 146) dX1_numberOf_55 (by decide) r_i219 (fun c307 => ?_) (fun c307 => ?_)
        ·
          refine GO.iinc (X := i5) (n := (-1)) (Y := i5 + (-1)) (ls1 := [some (.ref x), some (ti p0), some (ti p1), some (ti p2), some (ti (i5 + (-1))), some (.ref o201), some (ti i219), none]) dX1_numberOf_146 rfl rfl rfl rfl ?_
          refine GO.goto (tgt := 8) dX1_numberOf_149 (by decide) ?_
          refine GO.drop [true, true, true, true, true, false, false, true] rfl ?_
          exact ih198 (i5 + (-1)) V ⟨by omega, by omega, rfl⟩ (by show ((i5 + (-1)) + 2147483648).toNat < (i5 + 2147483648).toNat; omega)
        ·
          refine GO.iload_n dX1_numberOf_58 rfl rfl ?_
          refine GO.bipush dX1_numberOf_59 rfl ?_
          have hj330 : ∀ (z329 : Int), ∀ (l331 : 0 ≤ z329), ∀ (u332 : z329 ≤ 1), GO mX1_numberOf K V (IP K V (fun X => True)) K V 0 0 99 [some (.ref x), some (ti p0), some (ti p1), some (ti p2), some (ti i5), some (.ref o201), some (ti i219), none] [ti z329] := by
            intro z329 l331 u332
            have r333 : ir z329 := ⟨by omega, by omega⟩
            refine GO.istore (ls1 := [some (.ref x), some (ti p0), some (ti p1), some (ti p2), some (ti i5), some (.ref o201), some (ti i219), some (ti z329)]) dX1_numberOf_99 rfl rfl ?_
            refine GO.aload dX1_numberOf_101 rfl ?_
            refine GO.iload dX1_numberOf_103 rfl ?_
            refine GO.callV (ci := 8) (N := mX9_letterOf) dX1_numberOf_105 (RX9, TX9, 5) rfl gV_RX1_119 h202 (t_X9_letterOf h202 r_i219) rfl [] rfl rfl (Nat.le_of_ble_eq_true rfl) rfl (k_ip fun X334 r335 h336 => ?_)
            refine GO.iload_n dX1_numberOf_108 rfl rfl ?_
            refine GO.icmp_ne (tgt := 140) dX1_numberOf_109 (by decide) r335 r_p0 (fun c337 => ?_) (fun c337 => ?_)
            ·
              refine GO.iinc (X := i219) (n := (-1)) (Y := i219 + (-1)) (ls1 := [some (.ref x), some (ti p0), some (ti p1), some (ti p2), some (ti i5), some (.ref o201), some (ti (i219 + (-1))), some (ti z329)]) dX1_numberOf_140 rfl rfl rfl rfl ?_
              refine GO.goto (tgt := 53) dX1_numberOf_143 (by decide) ?_
              refine GO.drop [true, true, true, true, true, true, true, false] rfl ?_
              exact ih305 (i219 + (-1)) V ⟨by omega, by omega, rfl⟩ (by show ((i219 + (-1)) + 2147483648).toNat < (i219 + 2147483648).toNat; omega)
            ·
              refine GO.iload dX1_numberOf_112 rfl ?_
              refine GO.if_ne (tgt := 140) dX1_numberOf_114 (by decide) r333 (fun c338 => ?_) (fun c338 => ?_)
              ·
                refine GO.iinc (X := i219) (n := (-1)) (Y := i219 + (-1)) (ls1 := [some (.ref x), some (ti p0), some (ti p1), some (ti p2), some (ti i5), some (.ref o201), some (ti (i219 + (-1))), some (ti z329)]) dX1_numberOf_140 rfl rfl rfl rfl ?_
                refine GO.goto (tgt := 53) dX1_numberOf_143 (by decide) ?_
                refine GO.drop [true, true, true, true, true, true, true, false] rfl ?_
                exact ih305 (i219 + (-1)) V ⟨by omega, by omega, rfl⟩ (by show ((i219 + (-1)) + 2147483648).toNat < (i219 + 2147483648).toNat; omega)
              ·
                refine GO.aload_n dX1_numberOf_117 rfl rfl ?_
                refine GO.iload dX1_numberOf_118 rfl ?_
                refine GO.iload dX1_numberOf_120 rfl ?_
                refine GO.callV (ci := 1) (N := mX1_isCounting) dX1_numberOf_122 (RX1, TX1, 13) rfl gV_RX1_123 h_x (t_X1_isCounting h_x r_i5 r_i219) rfl [] rfl rfl (Nat.le_of_ble_eq_true rfl) rfl (k_ip fun X339 r340 h341 => ?_)
                refine GO.if_eq (tgt := 140) dX1_numberOf_125 (by decide) r340 (fun c342 => ?_) (fun c342 => ?_)
                ·
                  refine GO.iinc (X := i219) (n := (-1)) (Y := i219 + (-1)) (ls1 := [some (.ref x), some (ti p0), some (ti p1), some (ti p2), some (ti i5), some (.ref o201), some (ti (i219 + (-1))), some (ti z329)]) dX1_numberOf_140 rfl rfl rfl rfl ?_
                  refine GO.goto (tgt := 53) dX1_numberOf_143 (by decide) ?_
                  refine GO.drop [true, true, true, true, true, true, true, false] rfl ?_
                  exact ih305 (i219 + (-1)) V ⟨by omega, by omega, rfl⟩ (by show ((i219 + (-1)) + 2147483648).toNat < (i219 + 2147483648).toNat; omega)
                ·
                  refine GO.aload dX1_numberOf_128 rfl ?_
                  refine GO.getRaw h202 fl_RX1_102 hv214 dX1_numberOf_130 ?_
                  refine GO.iload dX1_numberOf_133 rfl ?_
                  refine GO.iconst dX1_numberOf_135 ?_
                  refine GO.callV (ci := 33) (N := mX8_get_k33) dX1_numberOf_136 (RX8, TX8, 4) rfl gV_RX1_116 h213 (t_X8_get_k33 h213 r_i219 (ir_c rfl)) rfl [] rfl rfl (Nat.le_of_ble_eq_true rfl) rfl (k_ip fun X345 r346 h347 => ?_)
                  have raw_get := h347.2
                  have rw136 := h347.2
                  exact GO.reti rfl rfl dX1_numberOf_139 ⟨rfl, rfl, _, rfl, r346, trivial⟩
          have hj369 : GO mX1_numberOf K V (IP K V (fun X => True)) K V 0 0 98 [some (.ref x), some (ti p0), some (ti p1), some (ti p2), some (ti i5), some (.ref o201), some (ti i219), none] [] := by
            skip
            refine GO.iconst dX1_numberOf_98 ?_
            exact hj330 0 (by omega) (by omega)
          refine GO.icmp_ne (tgt := 98) dX1_numberOf_61 (by decide) r_p0 (ir_c rfl) (fun c370 => ?_) (fun c370 => ?_)
          ·
            exact hj369 
          ·
            refine GO.aload dX1_numberOf_64 rfl ?_
            refine GO.getRaw h202 fl_RX1_102 hv214 dX1_numberOf_66 ?_
            refine GO.iload dX1_numberOf_69 rfl ?_
            refine GO.iconst dX1_numberOf_71 ?_
            refine GO.callV (ci := 33) (N := mX8_get_k33) dX1_numberOf_72 (RX8, TX8, 4) rfl gV_RX1_116 h213 (t_X8_get_k33 h213 r_i219 (ir_c rfl)) rfl [] rfl rfl (Nat.le_of_ble_eq_true rfl) rfl (k_ip fun X373 r374 h375 => ?_)
            have raw_get := h375.2
            have rw72 := h375.2
            refine GO.iload_n dX1_numberOf_75 rfl rfl ?_
            have hj383 : GO mX1_numberOf K V (IP K V (fun X => True)) K V 0 0 94 [some (.ref x), some (ti p0), some (ti p1), some (ti p2), some (ti i5), some (.ref o201), some (ti i219), none] [] := by
              skip
              refine GO.iconst dX1_numberOf_94 ?_
              refine GO.goto (tgt := 99) dX1_numberOf_95 (by decide) ?_
              exact hj330 1 (by omega) (by omega)
            refine GO.icmp_ne (tgt := 94) dX1_numberOf_76 (by decide) r374 r_p1 (fun c384 => ?_) (fun c384 => ?_)
            ·
              exact hj383 
            ·
              refine GO.aload dX1_numberOf_79 rfl ?_
              refine GO.getRaw h202 fl_RX1_102 hv214 dX1_numberOf_81 ?_
              refine GO.iload dX1_numberOf_84 rfl ?_
              refine GO.iconst dX1_numberOf_86 ?_
              refine GO.callV (ci := 33) (N := mX8_get_k33) dX1_numberOf_87 (RX8, TX8, 4) rfl gV_RX1_116 h213 (t_X8_get_k33 h213 r_i219 (ir_c rfl)) rfl [] rfl rfl (Nat.le_of_ble_eq_true rfl) rfl (k_ip fun X387 r388 h389 => ?_)
              have raw_get := h389.2
              have rw87 := h389.2
              refine GO.iload_n dX1_numberOf_90 rfl rfl ?_
              refine GO.icmp_eq (tgt := 98) dX1_numberOf_91 (by decide) r388 r_p2 (fun c390 => ?_) (fun c390 => ?_)
              ·
                exact hj369 
              ·
                exact hj383 
      ·
        refine GO.goto (tgt := 146) dX1_numberOf_38 (by decide) ?_
        refine GO.iinc (X := i5) (n := (-1)) (Y := i5 + (-1)) (ls1 := [some (.ref x), some (ti p0), some (ti p1), some (ti p2), some (ti (i5 + (-1))), some (.ref o201), none, none]) dX1_numberOf_146 rfl rfl rfl rfl ?_
        refine GO.goto (tgt := 8) dX1_numberOf_149 (by decide) ?_
        refine GO.drop [true, true, true, true, true, false, true, true] rfl ?_
        exact ih198 (i5 + (-1)) V ⟨by omega, by omega, rfl⟩ (by show ((i5 + (-1)) + 2147483648).toNat < (i5 + 2147483648).toNat; omega)

set_option maxHeartbeats 1000000 in
theorem t_X1_binds {K : Kmap} {V : Vmap} {x : Nat} {p0 : Int} {p1 : Nat} {p2 : Int} {p3 : Int} (h_x : K x = some (0, 1)) (r_p0 : ir p0) (h_p1 : K p1 = some (0, 2)) (r_p2 : ir p2) (r_p3 : ir p3) : MC mX1_binds K V [.ref x, ti p0, .ref p1, ti p2, ti p3] (IS K (fun X V1 => (X = 0 ∨ X = 1) ∧ (X ≠ 0 → True) ∧ (X = 0 → True))) := by
  refine MC.start 2 (by decide +kernel) rfl rfl rfl (ls0 := [some (.ref x), some (ti p0), some (.ref p1), some (ti p2), some (ti p3), none, none]) rfl ?_
  refine GO.aload_n dX1_binds_0 rfl rfl ?_
  refine GO.iload_n dX1_binds_1 rfl rfl ?_
  refine GO.callV (ci := 1) (N := mX1_textOf) dX1_binds_2 (RX1, TX1, 13) rfl gV_RX1_75 h_x (t_X1_textOf h_x r_p0) rfl [] rfl rfl (Nat.le_of_ble_eq_true rfl) rfl (k_rp (fun h3 => ?_) (fun o1 h2 h3 => ?_))
  ·
    have rwn2 := h3.2
    have hn4 : TNL V x → p0 < 0 ∨ vi V x 1 ≤ p0 := h3.2
    refine GO.astoreN (ls1 := [some (.ref x), some (ti p0), some (.ref p1), some (ti p2), some (ti p3), some (.null), none]) dX1_binds_5 rfl rfl ?_
    refine GO.aloadN dX1_binds_7 rfl ?_
    refine GO.ifnullN (tgt := 21) dX1_binds_9 (by decide) ?_
    refine GO.iconst dX1_binds_21 ?_
    exact GO.retz rfl rfl dX1_binds_22 (by omega) ⟨rfl, _, rfl, (ir_c rfl), ⟨by omega, fun _ => trivial, fun _ => trivial⟩⟩
  ·
    have hp5 : p0 ≥ 0 ∧ p0 < vi V x 1 := h3.1
    have rwp2 := h3.2
    have hq6 : o1 = vq V (vq V x 0) (p0).toNat := h3.2
    refine GO.astore (ls1 := [some (.ref x), some (ti p0), some (.ref p1), some (ti p2), some (ti p3), some (.ref o1), none]) dX1_binds_5 rfl rfl ?_
    refine GO.aload dX1_binds_7 rfl ?_
    refine GO.ifnull dX1_binds_9 ?_
    refine GO.aload dX1_binds_12 rfl ?_
    refine GO.iload_n dX1_binds_14 rfl rfl ?_
    refine GO.callV (ci := 8) (N := mX9_isInForce) dX1_binds_15 (RX9, TX9, 5) rfl gV_RX1_79 h2 (t_X9_isInForce h2 r_p2) rfl [] rfl rfl (Nat.le_of_ble_eq_true rfl) rfl (k_ip fun X7 r8 h9 => ?_)
    refine GO.if_ne (tgt := 23) dX1_binds_18 (by decide) r8 (fun c10 => ?_) (fun c10 => ?_)
    ·
      refine GO.iload_n dX1_binds_23 rfl rfl ?_
      refine GO.if_ne (tgt := 29) dX1_binds_24 (by decide) r_p0 (fun c11 => ?_) (fun c11 => ?_)
      ·
        refine GO.aload_n dX1_binds_29 rfl rfl ?_
        refine GO.getA (n := 20) h_p1 fl_RX1_83 rfl rfl rfl rfl dX1_binds_30 (fun hv13 h12 => ?_)
        refine GO.iload_n dX1_binds_33 rfl rfl ?_
        refine GO.callS (N := mX4_get) dX1_binds_34 gS_RX1_88 (t_X4_get rfl h12 r_p0) rfl [] rfl rfl (Nat.le_of_ble_eq_true rfl) rfl (k_ip fun X14 r15 h16 => ?_)
        have raw_get := h16.2
        have rw34 := h16.2
        refine GO.istore (ls1 := [some (.ref x), some (ti p0), some (.ref p1), some (ti p2), some (ti p3), some (.ref o1), some (ti X14)]) dX1_binds_37 rfl rfl ?_
        refine GO.iload dX1_binds_39 rfl ?_
        refine GO.iconst dX1_binds_41 ?_
        refine GO.icmp_eq (tgt := 51) dX1_binds_42 (by decide) r15 (ir_c rfl) (fun c17 => ?_) (fun c17 => ?_)
        ·
          refine GO.iconst dX1_binds_51 ?_
          exact GO.retz rfl rfl dX1_binds_52 (by omega) ⟨rfl, _, rfl, (ir_c rfl), ⟨by omega, fun _ => trivial, fun _ => trivial⟩⟩
        ·
          refine GO.iload dX1_binds_45 rfl ?_
          refine GO.iload_n dX1_binds_47 rfl rfl ?_
          refine GO.icmp_le (tgt := 53) dX1_binds_48 (by decide) r15 r_p2 (fun c18 => ?_) (fun c18 => ?_)
          ·
            refine GO.aload_n dX1_binds_53 rfl rfl ?_
            refine GO.iload_n dX1_binds_54 rfl rfl ?_
            refine GO.iload dX1_binds_55 rfl ?_
            refine GO.callV (ci := 1) (N := mX1_weighTexts) dX1_binds_57 (RX1, TX1, 13) rfl gV_RX1_72 h_x (t_X1_weighTexts h_x r_p0 r_p3) rfl [] rfl rfl (Nat.le_of_ble_eq_true rfl) rfl (k_vs fun V21 h20 hF19 => ?_)
            refine GO.iload_n dX1_binds_60 rfl rfl ?_
            refine GO.iload dX1_binds_61 rfl ?_
            refine GO.isub dX1_binds_63 ?_
            refine GO.norm (fun z22 r23 hn24 => ?_)
            refine GO.aload_n dX1_binds_64 rfl rfl ?_
            refine GO.bipush dX1_binds_65 rfl ?_
            refine GO.iconst dX1_binds_67 ?_
            refine GO.iconst dX1_binds_68 ?_
            refine GO.callV (ci := 1) (N := mX1_numberOf) dX1_binds_69 (RX1, TX1, 13) rfl gV_RX1_94 h_x (t_X1_numberOf h_x (ir_c rfl) (ir_c rfl) (ir_c rfl)) rfl [ti z22] rfl rfl (Nat.le_of_ble_eq_true rfl) rfl (k_ip fun X25 r26 h27 => ?_)
            refine GO.icmp_lt (tgt := 79) dX1_binds_72 (by decide) r23 r26 (fun c28 => ?_) (fun c28 => ?_)
            ·
              refine GO.iconst dX1_binds_79 ?_
              exact GO.retz rfl rfl dX1_binds_80 (by omega) ⟨rfl, _, rfl, (ir_c rfl), ⟨by omega, fun _ => trivial, fun _ => trivial⟩⟩
            ·
              refine GO.iconst dX1_binds_75 ?_
              refine GO.goto (tgt := 80) dX1_binds_76 (by decide) ?_
              exact GO.retz rfl rfl dX1_binds_80 (by omega) ⟨rfl, _, rfl, (ir_c rfl), ⟨by omega, fun _ => trivial, fun _ => trivial⟩⟩
          ·
            refine GO.iconst dX1_binds_51 ?_
            exact GO.retz rfl rfl dX1_binds_52 (by omega) ⟨rfl, _, rfl, (ir_c rfl), ⟨by omega, fun _ => trivial, fun _ => trivial⟩⟩
      ·
        refine GO.iconst dX1_binds_27 ?_
        exact GO.retz rfl rfl dX1_binds_28 (by omega) ⟨rfl, _, rfl, (ir_c rfl), ⟨by omega, fun _ => trivial, fun _ => trivial⟩⟩
    ·
      refine GO.iconst dX1_binds_21 ?_
      exact GO.retz rfl rfl dX1_binds_22 (by omega) ⟨rfl, _, rfl, (ir_c rfl), ⟨by omega, fun _ => trivial, fun _ => trivial⟩⟩

set_option maxHeartbeats 1000000 in
theorem t_X1_weigh {K : Kmap} {V : Vmap} {x : Nat} {p0 : Int} {p1 : Nat} {p2 : Int} (h_x : K x = some (0, 1)) (r_p0 : ir p0) (h_p1 : K p1 = some (0, 2)) (r_p2 : ir p2) : MC mX1_weigh K V [.ref x, ti p0, .ref p1, ti p2] (VS K (fun V1 => (True))) := by
  refine MC.start 2 (by decide +kernel) rfl rfl rfl (ls0 := [some (.ref x), some (ti p0), some (.ref p1), some (ti p2), none, none]) rfl ?_
  refine GO.aload_n dX1_weigh_0 rfl rfl ?_
  refine GO.getI h_x fl_RX1_40 rfl rfl dX1_weigh_1 (fun _ _ => ?_)
  refine GO.iload_n dX1_weigh_4 rfl rfl ?_
  have hj3 : GO mX1_weigh K V (VS K (fun V1 => (True))) K V 0 0 17 [some (.ref x), some (ti p0), some (.ref p1), some (ti p2), none, none] [] := by
    skip
    refine GO.iconst dX1_weigh_17 ?_
    refine GO.istore (ls1 := [some (.ref x), some (ti p0), some (.ref p1), some (ti p2), some (ti 0), none]) dX1_weigh_18 rfl rfl ?_
    refine GO.iconst dX1_weigh_20 ?_
    refine GO.istore (ls1 := [some (.ref x), some (ti p0), some (.ref p1), some (ti p2), some (ti 0), some (ti 0)]) dX1_weigh_21 rfl rfl ?_
    refine GO.loop2 (fun i4 i5 W => (-2147483648) ≤ i4 ∧ i4 ≤ 2147483647 ∧ 0 ≤ i5 ∧ i5 ≤ 20 ∧ True) (fun i4 i5 => [some (.ref x), some (ti p0), some (.ref p1), some (ti p2), some (ti i4), some (ti i5)]) (fun i4 i5 W => (2147483647 - i5).toNat) 0 0 ⟨by omega, by omega, by omega, by omega, trivial⟩ rfl (fun i4 i5 Wi4 hp658 ih657 => ?_)
    obtain ⟨l_i4, u_i4, l_i5, u_i5, -⟩ := hp658
    have r_i4 : ir i4 := ⟨by omega, by omega⟩
    have r_i5 : ir i5 := ⟨by omega, by omega⟩
    show GO mX1_weigh K V (VS K (fun V1 => (True))) K Wi4 0 0 23 [some (.ref x), some (ti p0), some (.ref p1), some (ti p2), some (ti i4), some (ti i5)] []
    refine GO.iload dX1_weigh_23 rfl ?_
    refine GO.aload_n dX1_weigh_25 rfl rfl ?_
    refine GO.getI h_x fl_RX1_17 rfl rfl dX1_weigh_26 (fun l659 u660 => ?_)
    refine GO.icmp_ge (tgt := 60) dX1_weigh_29 (by decide) r_i5 vi_ir (fun c661 => ?_) (fun c661 => ?_)
    ·
      refine GO.aload_n dX1_weigh_60 rfl rfl ?_
      refine GO.aload_n dX1_weigh_61 rfl rfl ?_
      refine GO.getI h_x fl_RX1_17 rfl rfl dX1_weigh_62 (fun l662 u663 => ?_)
      refine GO.iload dX1_weigh_65 rfl ?_
      refine GO.callV (ci := 1) (N := mX1_weighTexts) dX1_weigh_67 (RX1, TX1, 13) rfl gV_RX1_72 h_x (t_X1_weighTexts h_x vi_ir r_i4) rfl [] rfl rfl (Nat.le_of_ble_eq_true rfl) rfl (k_vs fun V666 h665 hF664 => ?_)
      refine GO.aload_n dX1_weigh_70 rfl rfl ?_
      refine GO.iload_n dX1_weigh_71 rfl rfl ?_
      refine GO.putI h_x fp_RX1_40 rfl (by decide +kernel) r_p0 (r_p0).1 (r_p0).2 dX1_weigh_72 (fun V668 e667 => ?_)
      refine GO.aload_n dX1_weigh_75 rfl rfl ?_
      refine GO.iload_n dX1_weigh_76 rfl rfl ?_
      refine GO.putI h_x fp_RX1_43 rfl (by decide +kernel) r_p2 (r_p2).1 (r_p2).2 dX1_weigh_77 (fun V670 e669 => ?_)
      exact GO.retv rfl rfl dX1_weigh_80 ⟨rfl, rfl, trivial⟩
    ·
      refine GO.aload_n dX1_weigh_32 rfl rfl ?_
      refine GO.iload dX1_weigh_33 rfl ?_
      refine GO.aload_n dX1_weigh_35 rfl rfl ?_
      refine GO.iload_n dX1_weigh_36 rfl rfl ?_
      refine GO.iload dX1_weigh_37 rfl ?_
      refine GO.callV (ci := 1) (N := mX1_binds) dX1_weigh_39 (RX1, TX1, 13) rfl gV_RX1_68 h_x (t_X1_binds h_x r_i5 h_p1 r_p2 r_i4) rfl [] rfl rfl (Nat.le_of_ble_eq_true rfl) rfl (k_is fun X671 V675 r672 h673 hF674 => ?_)
      refine GO.if_eq (tgt := 54) dX1_weigh_42 (by decide) r672 (fun c676 => ?_) (fun c676 => ?_)
      ·
        refine GO.iinc (X := i5) (n := 1) (Y := i5 + 1) (ls1 := [some (.ref x), some (ti p0), some (.ref p1), some (ti p2), some (ti i4), some (ti (i5 + 1))]) dX1_weigh_54 rfl rfl rfl rfl ?_
        refine GO.goto (tgt := 23) dX1_weigh_57 (by decide) ?_
        exact ih657 i4 (i5 + 1) V675 ⟨by omega, by omega, by omega, by omega, trivial⟩ (by show (2147483647 - (i5 + 1)).toNat < (2147483647 - i5).toNat; omega)
      ·
        refine GO.iload dX1_weigh_45 rfl ?_
        refine GO.iconst dX1_weigh_47 ?_
        refine GO.iload dX1_weigh_48 rfl ?_
        refine GO.ishl dX1_weigh_50 ?_
        refine GO.ior dX1_weigh_51 ?_
        refine GO.name (fun z677 hz678 => ?_)
        have r679 : ir z677 := hz678 ▸ wor_ir
        refine GO.istore (ls1 := [some (.ref x), some (ti p0), some (.ref p1), some (ti p2), some (ti z677), some (ti i5)]) dX1_weigh_52 rfl rfl ?_
        refine GO.iinc (X := i5) (n := 1) (Y := i5 + 1) (ls1 := [some (.ref x), some (ti p0), some (.ref p1), some (ti p2), some (ti z677), some (ti (i5 + 1))]) dX1_weigh_54 rfl rfl rfl rfl ?_
        refine GO.goto (tgt := 23) dX1_weigh_57 (by decide) ?_
        have q680 : -2147483648 ≤ z677 ∧ z677 ≤ 2147483647 := r679
        have q681 : -2147483648 ≤ wor i4 (wshl 1 i5) ∧ wor i4 (wshl 1 i5) ≤ 2147483647 := wor_ir
        exact ih657 z677 (i5 + 1) V675 ⟨by omega, by omega, by omega, by omega, trivial⟩ (by show (2147483647 - (i5 + 1)).toNat < (2147483647 - i5).toNat; omega)
  refine GO.icmp_ne (tgt := 17) dX1_weigh_5 (by decide) vi_ir r_p0 (fun c682 => ?_) (fun c682 => ?_)
  ·
    exact hj3 
  ·
    refine GO.aload_n dX1_weigh_8 rfl rfl ?_
    refine GO.getI h_x fl_RX1_43 rfl rfl dX1_weigh_9 (fun _ _ => ?_)
    refine GO.iload_n dX1_weigh_12 rfl rfl ?_
    refine GO.icmp_ne (tgt := 17) dX1_weigh_13 (by decide) vi_ir r_p2 (fun c683 => ?_) (fun c683 => ?_)
    ·
      exact hj3 
    ·
      exact GO.retv rfl rfl dX1_weigh_16 ⟨rfl, rfl, trivial⟩

set_option maxHeartbeats 1000000 in
theorem t_X8_has_k33 {K : Kmap} {V : Vmap} {x : Nat} {p0 : Int} (h_x : K x = some (0, 33)) (r_p0 : ir p0) : MC mX8_has_k33 K V [.ref x, ti p0] (IP K V (fun X => (X = 0 ∨ X = 1) ∧ (X ≠ 0 → p0 ≥ 0 ∧ p0 < vi V x 3) ∧ (X = 0 → (p0 < 0 ∨ p0 ≥ vi V x 3)))) := by
  refine MC.start 0 (by decide +kernel) rfl rfl rfl (ls0 := [some (.ref x), some (ti p0)]) rfl ?_
  refine GO.iload_n dX8_has_0 rfl rfl ?_
  refine GO.if_lt (tgt := 16) dX8_has_1 (by decide) r_p0 (fun c1 => ?_) (fun c1 => ?_)
  ·
    refine GO.iconst dX8_has_16 ?_
    have q2 : -2147483648 ≤ vi V x 3 ∧ vi V x 3 ≤ 2147483647 := vi_ir
    exact GO.retz rfl rfl dX8_has_17 (by omega) ⟨rfl, rfl, _, rfl, (ir_c rfl), ⟨by omega, fun h => by omega, fun h => by omega⟩⟩
  ·
    refine GO.iload_n dX8_has_4 rfl rfl ?_
    refine GO.aload_n dX8_has_5 rfl rfl ?_
    refine GO.getI h_x fl_RX8_9_k33 rfl rfl dX8_has_6 (fun l3 u4 => ?_)
    refine GO.icmp_ge (tgt := 16) dX8_has_9 (by decide) r_p0 vi_ir (fun c5 => ?_) (fun c5 => ?_)
    ·
      refine GO.iconst dX8_has_16 ?_
      have q6 : -2147483648 ≤ p0 ∧ p0 ≤ 2147483647 := r_p0
      exact GO.retz rfl rfl dX8_has_17 (by omega) ⟨rfl, rfl, _, rfl, (ir_c rfl), ⟨by omega, fun h => by omega, fun h => by omega⟩⟩
    ·
      refine GO.iconst dX8_has_12 ?_
      refine GO.goto (tgt := 17) dX8_has_13 (by decide) ?_
      have q7 : -2147483648 ≤ p0 ∧ p0 ≤ 2147483647 := r_p0
      exact GO.retz rfl rfl dX8_has_17 (by omega) ⟨rfl, rfl, _, rfl, (ir_c rfl), ⟨by omega, fun h => by omega, fun h => by omega⟩⟩

set_option maxHeartbeats 1000000 in
theorem t_X9_hasCondition {K : Kmap} {V : Vmap} {x : Nat} {p0 : Int} (h_x : K x = some (0, 8)) (r_p0 : ir p0) : MC mX9_hasCondition K V [.ref x, ti p0] (IP K V (fun X => (X = 0 ∨ X = 1) ∧ (X ≠ 0 → True) ∧ (X = 0 → True) ∧ (HCN K V x p0 X))) := by
  refine MC.start 0 (by decide +kernel) rfl rfl rfl (ls0 := [some (.ref x), some (ti p0)]) rfl ?_
  refine GO.aload_n dX9_hasCondition_0 rfl rfl ?_
  refine GO.getR h_x fl_RX9_26 rfl rfl dX9_hasCondition_1 (fun hv2 h1 => ?_)
  refine GO.iload_n dX9_hasCondition_4 rfl rfl ?_
  refine GO.callV (ci := 33) (N := mX8_has_k33) dX9_hasCondition_5 (RX8, TX8, 4) rfl gV_RX9_43 h1 (t_X8_has_k33 h1 r_p0) rfl [] rfl rfl (Nat.le_of_ble_eq_true rfl) rfl (k_ip fun X3 r4 h5 => ?_)
  refine GO.if_eq (tgt := 36) dX9_hasCondition_8 (by decide) r4 (fun c6 => ?_) (fun c6 => ?_)
  ·
    have q7 := h5.2.2 (by omega)
    refine GO.iconst dX9_hasCondition_36 ?_
    exact GO.retz rfl rfl dX9_hasCondition_37 (by omega) ⟨rfl, rfl, _, rfl, (ir_c rfl), ⟨by omega, fun _ => trivial, fun _ => trivial, (by first | exact HCN.out (by omega) (by omega) | exact HCN.in (by omega) (by omega) rw17 rw26 (by constructor <;> intro _ <;> omega))⟩⟩
  ·
    have q8 := h5.2.1 (by omega)
    refine GO.aload_n dX9_hasCondition_11 rfl rfl ?_
    refine GO.getRaw h_x fl_RX9_26 hv2 dX9_hasCondition_12 ?_
    refine GO.iload_n dX9_hasCondition_15 rfl rfl ?_
    refine GO.iconst dX9_hasCondition_16 ?_
    refine GO.callV (ci := 33) (N := mX8_get_k33) dX9_hasCondition_17 (RX8, TX8, 4) rfl gV_RX9_40 h1 (t_X8_get_k33 h1 r_p0 (ir_c rfl)) rfl [] rfl rfl (Nat.le_of_ble_eq_true rfl) rfl (k_ip fun X11 r12 h13 => ?_)
    have raw_get := h13.2
    have rw17 := h13.2
    refine GO.aload_n dX9_hasCondition_20 rfl rfl ?_
    refine GO.getRaw h_x fl_RX9_26 hv2 dX9_hasCondition_21 ?_
    refine GO.iload_n dX9_hasCondition_24 rfl rfl ?_
    refine GO.iconst dX9_hasCondition_25 ?_
    refine GO.callV (ci := 33) (N := mX8_get_k33) dX9_hasCondition_26 (RX8, TX8, 4) rfl gV_RX9_40 h1 (t_X8_get_k33 h1 r_p0 (ir_c rfl)) rfl [ti X11] rfl rfl (Nat.le_of_ble_eq_true rfl) rfl (k_ip fun X16 r17 h18 => ?_)
    have raw_get := h18.2
    have rw26 := h18.2
    refine GO.icmp_le (tgt := 36) dX9_hasCondition_29 (by decide) r12 r17 (fun c19 => ?_) (fun c19 => ?_)
    ·
      refine GO.iconst dX9_hasCondition_36 ?_
      exact GO.retz rfl rfl dX9_hasCondition_37 (by omega) ⟨rfl, rfl, _, rfl, (ir_c rfl), ⟨by omega, fun _ => trivial, fun _ => trivial, (by first | exact HCN.out (by omega) (by omega) | exact HCN.in (by omega) (by omega) rw17 rw26 (by constructor <;> intro _ <;> omega))⟩⟩
    ·
      refine GO.iconst dX9_hasCondition_32 ?_
      refine GO.goto (tgt := 37) dX9_hasCondition_33 (by decide) ?_
      exact GO.retz rfl rfl dX9_hasCondition_37 (by omega) ⟨rfl, rfl, _, rfl, (ir_c rfl), ⟨by omega, fun _ => trivial, fun _ => trivial, (by first | exact HCN.out (by omega) (by omega) | exact HCN.in (by omega) (by omega) rw17 rw26 (by constructor <;> intro _ <;> omega))⟩⟩

set_option maxHeartbeats 1000000 in
theorem t_X8_get_k32 {K : Kmap} {V : Vmap} {x : Nat} {p0 : Int} {p1 : Int} (h_x : K x = some (0, 32)) (r_p0 : ir p0) (r_p1 : ir p1) : MC mX8_get_k32 K V [.ref x, ti p0, ti p1] (IP K V (fun X => (X ≥ (-2147483648) ∧ X ≤ 2147483647) ∧ (TG K V x p0 p1 X))) := by
  refine MC.start 2 (by decide +kernel) rfl rfl rfl (ls0 := [some (.ref x), some (ti p0), some (ti p1), none, none]) rfl ?_
  refine GO.iload_n dX8_get_0 rfl rfl ?_
  refine GO.aload_n dX8_get_1 rfl rfl ?_
  refine GO.getI h_x fl_RX8_15_k32 rfl rfl dX8_get_2 (fun l1 u2 => ?_)
  refine GO.imul dX8_get_5 ?_
  refine GO.norm (fun z3 r4 hn5 => ?_)
  refine GO.iload_n dX8_get_6 rfl rfl ?_
  refine GO.iadd dX8_get_7 ?_
  refine GO.norm (fun z6 r7 hn8 => ?_)
  refine GO.istore_n (ls1 := [some (.ref x), some (ti p0), some (ti p1), some (ti z6), none]) dX8_get_8 rfl rfl rfl ?_
  refine GO.iload_n dX8_get_9 rfl rfl ?_
  refine GO.if_lt (tgt := 37) dX8_get_10 (by decide) r_p0 (fun c9 => ?_) (fun c9 => ?_)
  ·
    refine GO.iconst dX8_get_37 ?_
    refine GO.istore (ls1 := [some (.ref x), some (ti p0), some (ti p1), some (ti z6), some (ti 0)]) dX8_get_38 rfl rfl ?_
    refine GO.iload dX8_get_40 rfl ?_
    refine GO.if_eq (tgt := 67) dX8_get_42 (by decide) (ir_c rfl) (fun c10 => ?_) (fun h => by exfalso; omega)
    refine GO.iconst dX8_get_67 ?_
    exact GO.reti rfl rfl dX8_get_68 ⟨rfl, rfl, _, rfl, (ir_c rfl), ⟨(by first | exact trivial | omega), (by first | exact TG.in (by assumption) (by assumption) ⟨by omega, by omega, by omega, by omega⟩ | exact TG.out (by omega) rfl | exact TG.neg (by assumption) (by assumption) ⟨by omega, by omega, by omega, by omega⟩ (by omega) | exact TG.bad (by assumption) (by assumption) ⟨by omega, by omega, by omega, by omega⟩ (by assumption) (by omega))⟩⟩
  ·
    refine GO.iload_n dX8_get_13 rfl rfl ?_
    refine GO.aload_n dX8_get_14 rfl rfl ?_
    refine GO.getI h_x fl_RX8_9_k32 rfl rfl dX8_get_15 (fun l11 u12 => ?_)
    refine GO.icmp_ge (tgt := 37) dX8_get_18 (by decide) r_p0 vi_ir (fun c13 => ?_) (fun c13 => ?_)
    ·
      refine GO.iconst dX8_get_37 ?_
      refine GO.istore (ls1 := [some (.ref x), some (ti p0), some (ti p1), some (ti z6), some (ti 0)]) dX8_get_38 rfl rfl ?_
      refine GO.iload dX8_get_40 rfl ?_
      refine GO.if_eq (tgt := 67) dX8_get_42 (by decide) (ir_c rfl) (fun c14 => ?_) (fun h => by exfalso; omega)
      refine GO.iconst dX8_get_67 ?_
      exact GO.reti rfl rfl dX8_get_68 ⟨rfl, rfl, _, rfl, (ir_c rfl), ⟨(by first | exact trivial | omega), (by first | exact TG.in (by assumption) (by assumption) ⟨by omega, by omega, by omega, by omega⟩ | exact TG.out (by omega) rfl | exact TG.neg (by assumption) (by assumption) ⟨by omega, by omega, by omega, by omega⟩ (by omega) | exact TG.bad (by assumption) (by assumption) ⟨by omega, by omega, by omega, by omega⟩ (by assumption) (by omega))⟩⟩
    ·
      refine GO.iload_n dX8_get_21 rfl rfl ?_
      refine GO.if_lt (tgt := 37) dX8_get_22 (by decide) r_p1 (fun c15 => ?_) (fun c15 => ?_)
      ·
        refine GO.iconst dX8_get_37 ?_
        refine GO.istore (ls1 := [some (.ref x), some (ti p0), some (ti p1), some (ti z6), some (ti 0)]) dX8_get_38 rfl rfl ?_
        refine GO.iload dX8_get_40 rfl ?_
        refine GO.if_eq (tgt := 67) dX8_get_42 (by decide) (ir_c rfl) (fun c16 => ?_) (fun h => by exfalso; omega)
        refine GO.iconst dX8_get_67 ?_
        exact GO.reti rfl rfl dX8_get_68 ⟨rfl, rfl, _, rfl, (ir_c rfl), ⟨(by first | exact trivial | omega), (by first | exact TG.in (by assumption) (by assumption) ⟨by omega, by omega, by omega, by omega⟩ | exact TG.out (by omega) rfl | exact TG.neg (by assumption) (by assumption) ⟨by omega, by omega, by omega, by omega⟩ (by omega) | exact TG.bad (by assumption) (by assumption) ⟨by omega, by omega, by omega, by omega⟩ (by assumption) (by omega))⟩⟩
      ·
        refine GO.iload_n dX8_get_25 rfl rfl ?_
        refine GO.aload_n dX8_get_26 rfl rfl ?_
        refine GO.getI h_x fl_RX8_15_k32 rfl rfl dX8_get_27 (fun l17 u18 => ?_)
        refine GO.icmp_ge (tgt := 37) dX8_get_30 (by decide) r_p1 vi_ir (fun c19 => ?_) (fun c19 => ?_)
        ·
          refine GO.iconst dX8_get_37 ?_
          refine GO.istore (ls1 := [some (.ref x), some (ti p0), some (ti p1), some (ti z6), some (ti 0)]) dX8_get_38 rfl rfl ?_
          refine GO.iload dX8_get_40 rfl ?_
          refine GO.if_eq (tgt := 67) dX8_get_42 (by decide) (ir_c rfl) (fun c20 => ?_) (fun h => by exfalso; omega)
          refine GO.iconst dX8_get_67 ?_
          exact GO.reti rfl rfl dX8_get_68 ⟨rfl, rfl, _, rfl, (ir_c rfl), ⟨(by first | exact trivial | omega), (by first | exact TG.in (by assumption) (by assumption) ⟨by omega, by omega, by omega, by omega⟩ | exact TG.out (by omega) rfl | exact TG.neg (by assumption) (by assumption) ⟨by omega, by omega, by omega, by omega⟩ (by omega) | exact TG.bad (by assumption) (by assumption) ⟨by omega, by omega, by omega, by omega⟩ (by assumption) (by omega))⟩⟩
        ·
          refine GO.iconst dX8_get_33 ?_
          refine GO.goto (tgt := 38) dX8_get_34 (by decide) ?_
          refine GO.istore (ls1 := [some (.ref x), some (ti p0), some (ti p1), some (ti z6), some (ti 1)]) dX8_get_38 rfl rfl ?_
          refine GO.iload dX8_get_40 rfl ?_
          refine GO.if_eq (tgt := 67) dX8_get_42 (by decide) (ir_c rfl) (fun h => by exfalso; omega) (fun c21 => ?_)
          refine GO.iload_n dX8_get_45 rfl rfl ?_
          refine GO.if_lt (tgt := 67) dX8_get_46 (by decide) r7 (fun c22 => ?_) (fun c22 => ?_)
          ·
            refine GO.iconst dX8_get_67 ?_
            exact GO.reti rfl rfl dX8_get_68 ⟨rfl, rfl, _, rfl, (ir_c rfl), ⟨(by first | exact trivial | omega), (by first | exact TG.in (by assumption) (by assumption) ⟨by omega, by omega, by omega, by omega⟩ | exact TG.out (by omega) rfl | exact TG.neg (by assumption) (by assumption) ⟨by omega, by omega, by omega, by omega⟩ (by omega) | exact TG.bad (by assumption) (by assumption) ⟨by omega, by omega, by omega, by omega⟩ (by assumption) (by omega))⟩⟩
          ·
            refine GO.iload_n dX8_get_49 rfl rfl ?_
            refine GO.aload_n dX8_get_50 rfl rfl ?_
            refine GO.getA (n := 60) h_x fl_RX8_27_k32 rfl rfl rfl rfl dX8_get_51 (fun hv24 h23 => ?_)
            refine GO.alen h23 dX8_get_54 (fun h25 => ?_)
            refine GO.icmp_ge (tgt := 67) dX8_get_55 (by decide) r7 ⟨by omega, by omega⟩ (fun c26 => ?_) (fun c26 => ?_)
            ·
              refine GO.iconst dX8_get_67 ?_
              exact GO.reti rfl rfl dX8_get_68 ⟨rfl, rfl, _, rfl, (ir_c rfl), ⟨(by first | exact trivial | omega), (by first | exact TG.in (by assumption) (by assumption) ⟨by omega, by omega, by omega, by omega⟩ | exact TG.out (by omega) rfl | exact TG.neg (by assumption) (by assumption) ⟨by omega, by omega, by omega, by omega⟩ (by omega) | exact TG.bad (by assumption) (by assumption) ⟨by omega, by omega, by omega, by omega⟩ (by assumption) (by omega))⟩⟩
            ·
              refine GO.aload_n dX8_get_58 rfl rfl ?_
              refine GO.getRaw h_x fl_RX8_27_k32 hv24 dX8_get_59 ?_
              refine GO.iload_n dX8_get_62 rfl rfl ?_
              have q29 : -2147483648 ≤ z6 ∧ z6 ≤ 2147483647 := r7
              refine GO.iald (t := 154) rfl rfl h23 r7 (by omega) (by omega) dX8_get_63 (fun _ _ => ?_)
              refine GO.goto (tgt := 68) dX8_get_64 (by decide) ?_
              have q30 : -2147483648 ≤ vi V (vq V x 2) (z6).toNat ∧ vi V (vq V x 2) (z6).toNat ≤ 2147483647 := vi_ir
              exact GO.reti rfl rfl dX8_get_68 ⟨rfl, rfl, _, rfl, vi_ir, ⟨(by first | exact trivial | omega), (by first | exact TG.in (by assumption) (by assumption) ⟨by omega, by omega, by omega, by omega⟩ | exact TG.out (by omega) rfl | exact TG.neg (by assumption) (by assumption) ⟨by omega, by omega, by omega, by omega⟩ (by omega) | exact TG.bad (by assumption) (by assumption) ⟨by omega, by omega, by omega, by omega⟩ (by assumption) (by omega))⟩⟩

set_option maxHeartbeats 1000000 in
theorem t_X1_readingOf {K : Kmap} {V : Vmap} {x : Nat} {p0 : Int} {p1 : Int} {p2 : Int} (h_x : K x = some (0, 1)) (r_p0 : ir p0) (r_p1 : ir p1) (r_p2 : ir p2) : MC mX1_readingOf K V [.ref x, ti p0, ti p1, ti p2] (RP K V 8 (True) (fun _ => True)) := by
  refine MC.start 2 (by decide +kernel) rfl rfl rfl (ls0 := [some (.ref x), some (ti p0), some (ti p1), some (ti p2), none, none]) rfl ?_
  refine GO.aload_n dX1_readingOf_0 rfl rfl ?_
  refine GO.getR h_x fl_RX1_26 rfl rfl dX1_readingOf_1 (fun hv2 h1 => ?_)
  refine GO.getI h1 fl_RX1_105_k32 rfl rfl dX1_readingOf_4 (fun l3 u4 => ?_)
  refine GO.iconst dX1_readingOf_7 ?_
  refine GO.isub dX1_readingOf_8 ?_
  refine GO.name (fun z5 hz6 => ?_)
  refine GO.istore (ls1 := [some (.ref x), some (ti p0), some (ti p1), some (ti p2), some (ti z5), none]) dX1_readingOf_9 rfl rfl ?_
  refine GO.loop1 (fun i7 W => (-1) ≤ i7 ∧ i7 ≤ 19 ∧ V = W) (fun i7 => [some (.ref x), some (ti p0), some (ti p1), some (ti p2), some (ti i7), none]) (fun i7 W => (i7 + 2147483648).toNat) z5 ⟨by omega, by omega, rfl⟩ rfl (fun i7 V67 hp69 ih68 => ?_)
  obtain ⟨l_i7, u_i7, rfl⟩ := hp69
  have r_i7 : ir i7 := ⟨by omega, by omega⟩
  show GO mX1_readingOf K V (RP K V 8 (True) (fun _ => True)) K V 0 0 11 [some (.ref x), some (ti p0), some (ti p1), some (ti p2), some (ti i7), none] []
  refine GO.iload dX1_readingOf_11 rfl ?_
  refine GO.if_lt (tgt := 94) dX1_readingOf_13 (by decide) r_i7 (fun c70 => ?_) (fun c70 => ?_)
  ·
    refine GO.null dX1_readingOf_94 ?_
    exact GO.reta rfl rfl (Or.inl ⟨_, rfl⟩) dX1_readingOf_95 (Or.inl rfl) ⟨rfl, rfl, Or.inl ⟨rfl, trivial⟩⟩
  ·
    refine GO.aload_n dX1_readingOf_16 rfl rfl ?_
    refine GO.getRaw h_x fl_RX1_26 hv2 dX1_readingOf_17 ?_
    refine GO.iload dX1_readingOf_20 rfl ?_
    refine GO.iconst dX1_readingOf_22 ?_
    refine GO.callV (ci := 32) (N := mX8_get_k32) dX1_readingOf_23 (RX8, TX8, 4) rfl gV_RX1_116 h1 (t_X8_get_k32 h1 r_i7 (ir_c rfl)) rfl [] rfl rfl (Nat.le_of_ble_eq_true rfl) rfl (k_ip fun X73 r74 h75 => ?_)
    have raw_get := h75.2
    have rw23 := h75.2
    refine GO.iload_n dX1_readingOf_26 rfl rfl ?_
    have hj90 : ∀ (z89 : Int), ∀ (l91 : 0 ≤ z89), ∀ (u92 : z89 ≤ 1), GO mX1_readingOf K V (RP K V 8 (True) (fun _ => True)) K V 0 0 63 [some (.ref x), some (ti p0), some (ti p1), some (ti p2), some (ti i7), none] [ti z89] := by
      intro z89 l91 u92
      have r93 : ir z89 := ⟨by omega, by omega⟩
      refine GO.istore (ls1 := [some (.ref x), some (ti p0), some (ti p1), some (ti p2), some (ti i7), some (ti z89)]) dX1_readingOf_63 rfl rfl ?_
      refine GO.iload dX1_readingOf_65 rfl ?_
      refine GO.if_eq (tgt := 88) dX1_readingOf_67 (by decide) r93 (fun c94 => ?_) (fun c94 => ?_)
      ·
        refine GO.iinc (X := i7) (n := (-1)) (Y := i7 + (-1)) (ls1 := [some (.ref x), some (ti p0), some (ti p1), some (ti p2), some (ti (i7 + (-1))), some (ti z89)]) dX1_readingOf_88 rfl rfl rfl rfl ?_
        refine GO.goto (tgt := 11) dX1_readingOf_91 (by decide) ?_
        refine GO.drop [true, true, true, true, true, false] rfl ?_
        exact ih68 (i7 + (-1)) V ⟨by omega, by omega, rfl⟩ (by show ((i7 + (-1)) + 2147483648).toNat < (i7 + 2147483648).toNat; omega)
      ·
        refine GO.iload dX1_readingOf_70 rfl ?_
        refine GO.aload_n dX1_readingOf_72 rfl rfl ?_
        refine GO.getA (n := 20) h_x fl_RX1_30 rfl rfl rfl rfl dX1_readingOf_73 (fun hv96 h95 => ?_)
        refine GO.alen h95 dX1_readingOf_76 (fun h97 => ?_)
        refine GO.icmp_ge (tgt := 88) dX1_readingOf_77 (by decide) r_i7 ⟨by omega, by omega⟩ (fun h => by exfalso; omega) (fun c98 => ?_)
        refine GO.aload_n dX1_readingOf_80 rfl rfl ?_
        refine GO.getRaw h_x fl_RX1_30 hv96 dX1_readingOf_81 ?_
        refine GO.iload dX1_readingOf_84 rfl ?_
        refine GO.aald (t := 157) rfl rfl h95 r_i7 (by omega) (by omega) dX1_readingOf_86 (fun _ => ?_) (fun _ h101 => ?_)
        ·
          exact GO.reta rfl rfl (Or.inl ⟨_, rfl⟩) dX1_readingOf_87 (Or.inl rfl) ⟨rfl, rfl, Or.inl ⟨rfl, trivial⟩⟩
        ·
          exact GO.reta rfl rfl (Or.inl ⟨_, rfl⟩) dX1_readingOf_87 (Or.inr ⟨_, rfl⟩) ⟨rfl, rfl, Or.inr ⟨_, rfl, h101, trivial⟩⟩
    have hj115 : GO mX1_readingOf K V (RP K V 8 (True) (fun _ => True)) K V 0 0 62 [some (.ref x), some (ti p0), some (ti p1), some (ti p2), some (ti i7), none] [] := by
      skip
      refine GO.iconst dX1_readingOf_62 ?_
      exact hj90 0 (by omega) (by omega)
    refine GO.icmp_ne (tgt := 62) dX1_readingOf_27 (by decide) r74 r_p0 (fun c116 => ?_) (fun c116 => ?_)
    ·
      exact hj115 
    ·
      refine GO.aload_n dX1_readingOf_30 rfl rfl ?_
      refine GO.getRaw h_x fl_RX1_26 hv2 dX1_readingOf_31 ?_
      refine GO.iload dX1_readingOf_34 rfl ?_
      refine GO.iconst dX1_readingOf_36 ?_
      refine GO.callV (ci := 32) (N := mX8_get_k32) dX1_readingOf_37 (RX8, TX8, 4) rfl gV_RX1_116 h1 (t_X8_get_k32 h1 r_i7 (ir_c rfl)) rfl [] rfl rfl (Nat.le_of_ble_eq_true rfl) rfl (k_ip fun X119 r120 h121 => ?_)
      have raw_get := h121.2
      have rw37 := h121.2
      refine GO.iload_n dX1_readingOf_40 rfl rfl ?_
      refine GO.icmp_ne (tgt := 62) dX1_readingOf_41 (by decide) r120 r_p1 (fun c122 => ?_) (fun c122 => ?_)
      ·
        exact hj115 
      ·
        refine GO.aload_n dX1_readingOf_44 rfl rfl ?_
        refine GO.getRaw h_x fl_RX1_26 hv2 dX1_readingOf_45 ?_
        refine GO.iload dX1_readingOf_48 rfl ?_
        refine GO.iconst dX1_readingOf_50 ?_
        refine GO.callV (ci := 32) (N := mX8_get_k32) dX1_readingOf_51 (RX8, TX8, 4) rfl gV_RX1_116 h1 (t_X8_get_k32 h1 r_i7 (ir_c rfl)) rfl [] rfl rfl (Nat.le_of_ble_eq_true rfl) rfl (k_ip fun X125 r126 h127 => ?_)
        have raw_get := h127.2
        have rw51 := h127.2
        refine GO.iload_n dX1_readingOf_54 rfl rfl ?_
        refine GO.icmp_ne (tgt := 62) dX1_readingOf_55 (by decide) r126 r_p2 (fun c128 => ?_) (fun c128 => ?_)
        ·
          exact hj115 
        ·
          refine GO.iconst dX1_readingOf_58 ?_
          refine GO.goto (tgt := 63) dX1_readingOf_59 (by decide) ?_
          exact hj90 1 (by omega) (by omega)
