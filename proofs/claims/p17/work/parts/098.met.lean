def mX11_over : MRec := (RX11, cX11_over, 4, (some .int), yX11_over, 6, 151, 0, 0, 123947994148171612303484120256144569967825878055802728615871649113951085856808377342222976957446615908923352254691881254912)
def mX11_isDoubtful : MRec := (RX11, cX11_isDoubtful, 6, (some .boolean), yX11_isDoubtful, 1, 24, 0, 0, 0)
def mX11_doubt : MRec := (RX11, cX11_doubt, 4, (some .int), yX11_doubt, 2, 49, 0, 0, 0)
def mX8_isFull_k25 : MRec := (RX8, cX8_isFull, 1, (some .boolean), yX8_isFull, 0, 0, 0, 0, 0)
def mX8_put_k25 : MRec := (RX8, cX8_put, 6, (none : Option Jvm.ClassFile.FieldType), yX8_put, 0, 0, 0, 0, 676921312041214565326761275425557544784286395355423968547480366360991530225982818124993751490268451683933401113623918903558144)
def mX8_append_k25 : MRec := (RX8, cX8_append, 7, (some .int), yX8_append, 1, 25, 0, 0, 583992399055640987986069965529637289586333248927815671114136642291107898324022746687322166609898964729210999911815439559736701684702417055306566631742568409847745586769797847011721520526468841472)
def mX11_word : MRec := (RX11, cX11_word, 2, (some .int), yX11_word, 2, 51, 0, 0, 583992399055640987986069965529637289586333248927815671114136642291107898324022746687322166609898964729210999911815439559736701684702417055306566631742568409847745586769797847011721520526468841472)
def mX8_has_k25 : MRec := (RX8, cX8_has, 2, (some .boolean), yX8_has, 0, 0, 0, 0, 0)
def mX4_put_t124 : MRec := (RX4, cX4_put, 3, (none : Option Jvm.ClassFile.FieldType), yX4_put, 0, 0, 0, 0, 80695308690215893426747474125094121072803306025913234775958104891895238188026287332176417290004307232371974124148359168)
def mX11_asks : MRec := (RX11, cX11_asks, 7, (some .boolean), yX11_asks, 1, 22, 0, 0, 80695308690215893426747474125094121072803306025913234775958104891895238188026287332176417290004307232371974124416794624)
def mX11_blockers : MRec := (RX11, cX11_blockers, 5, (some .int), yX11_blockers, 2, 43, 0, 0, 0)
def mX11_blocks : MRec := (RX11, cX11_blocks, 2, (some .int), yX11_blocks, 3, 67, 0, 0, 0)
set_option maxHeartbeats 1000000 in
theorem t_X11_over {K : Kmap} {V : Vmap} {x : Nat} (h_x : K x = some (0, 10)) (w_0 : CWI K V x) : MC mX11_over K V [.ref x] (IS K (fun X V1 => (True) ∧ (CWI K V1 x))) := by
  refine MC.start 3 (by decide +kernel) rfl rfl rfl (ls0 := [some (.ref x), none, none, none]) rfl ?_
  refine GO.useWT (fun hW_0 => ?_)
  refine GO.iconst dX11_over_0 ?_
  refine GO.istore_n (ls1 := [some (.ref x), some (ti (-1)), none, none]) dX11_over_1 rfl rfl rfl ?_
  refine GO.iconst dX11_over_2 ?_
  refine GO.istore_n (ls1 := [some (.ref x), some (ti (-1)), some (ti 0), none]) dX11_over_3 rfl rfl rfl ?_
  refine GO.loop2 (fun i1 i2 W => (-1) ≤ i1 ∧ i1 ≤ 199 ∧ 0 ≤ i2 ∧ i2 ≤ 200 ∧ (CWI K W x) ∧ True) (fun i1 i2 => [some (.ref x), some (ti i1), some (ti i2), none]) (fun i1 i2 W => (2147483647 - i2).toNat) (-1) 0 ⟨by omega, by omega, by omega, by omega, (by first | exact w_0), trivial⟩ rfl (fun i1 i2 Wi1 hp273 ih272 => ?_)
  obtain ⟨l_i1, u_i1, l_i2, u_i2, hcl, -⟩ := hp273
  have r_i1 : ir i1 := ⟨by omega, by omega⟩
  have r_i2 : ir i2 := ⟨by omega, by omega⟩
  show GO mX11_over K V (IS K (fun X V1 => (True) ∧ (CWI K V1 x))) K Wi1 0 0 4 [some (.ref x), some (ti i1), some (ti i2), none] []
  refine GO.iload_n dX11_over_4 rfl rfl ?_
  refine GO.aload_n dX11_over_5 rfl rfl ?_
  refine GO.getR h_x fl_RX11_82 rfl rfl dX11_over_6 (fun hv275 h274 => ?_)
  refine GO.getI h274 fl_RX11_199_k26 rfl rfl dX11_over_9 (fun l276 u277 => ?_)
  refine GO.icmp_ge (tgt := 67) dX11_over_12 (by decide) r_i2 vi_ir (fun c278 => ?_) (fun c278 => ?_)
  ·
    refine GO.iload_n dX11_over_67 rfl rfl ?_
    exact GO.reti rfl rfl dX11_over_68 ⟨rfl, _, rfl, r_i1, ⟨(by first | exact trivial | omega), (by first | exact w_0 | exact hcl)⟩⟩
  ·
    refine GO.iload_n dX11_over_15 rfl rfl ?_
    refine GO.iconst dX11_over_16 ?_
    refine GO.icmp_eq (tgt := 41) dX11_over_17 (by decide) r_i1 (ir_c rfl) (fun c279 => ?_) (fun c279 => ?_)
    ·
      refine GO.iconst dX11_over_41 ?_
      refine GO.goto (tgt := 46) dX11_over_42 (by decide) ?_
      refine GO.istore_n (ls1 := [some (.ref x), some (ti i1), some (ti i2), some (ti 1)]) dX11_over_46 rfl rfl rfl ?_
      refine GO.iload_n dX11_over_47 rfl rfl ?_
      refine GO.if_eq (tgt := 61) dX11_over_48 (by decide) (ir_c rfl) (fun h => by exfalso; omega) (fun c280 => ?_)
      refine GO.aload_n dX11_over_51 rfl rfl ?_
      refine GO.iload_n dX11_over_52 rfl rfl ?_
      refine GO.callV (ci := 10) (N := mX11_isOver) dX11_over_53 (RX11, TX11, 20) rfl gV_RX11_562 h_x (t_X11_isOver h_x r_i2 (hcl)) rfl [] rfl rfl (Nat.le_of_ble_eq_true rfl) rfl (k_is fun X281 V285 r282 h283 hF284 => ?_)
      have raw_isOver := h283.2.2.2
      have rw53 := h283.2.2.2
      refine GO.if_eq (tgt := 61) dX11_over_56 (by decide) r282 (fun c286 => ?_) (fun c286 => ?_)
      ·
        refine GO.iinc (X := i2) (n := 1) (Y := i2 + 1) (ls1 := [some (.ref x), some (ti i1), some (ti (i2 + 1)), some (ti 1)]) dX11_over_61 rfl rfl rfl rfl ?_
        refine GO.goto (tgt := 4) dX11_over_64 (by decide) ?_
        refine GO.drop [true, true, true, false] rfl ?_
        exact ih272 i1 (i2 + 1) V285 ⟨by omega, by omega, by omega, by omega, (by first | exact w_0 | exact hcl | exact rw53), trivial⟩ (by show (2147483647 - (i2 + 1)).toNat < (2147483647 - i2).toNat; omega)
      ·
        refine GO.iload_n dX11_over_59 rfl rfl ?_
        refine GO.istore_n (ls1 := [some (.ref x), some (ti i2), some (ti i2), some (ti 1)]) dX11_over_60 rfl rfl rfl ?_
        refine GO.iinc (X := i2) (n := 1) (Y := i2 + 1) (ls1 := [some (.ref x), some (ti i2), some (ti (i2 + 1)), some (ti 1)]) dX11_over_61 rfl rfl rfl rfl ?_
        refine GO.goto (tgt := 4) dX11_over_64 (by decide) ?_
        refine GO.drop [true, true, true, false] rfl ?_
        exact ih272 i2 (i2 + 1) V285 ⟨by omega, by omega, by omega, by omega, (by first | exact w_0 | exact hcl | exact rw53), trivial⟩ (by show (2147483647 - (i2 + 1)).toNat < (2147483647 - i2).toNat; omega)
    ·
      refine GO.aload_n dX11_over_20 rfl rfl ?_
      refine GO.getRaw h_x fl_RX11_82 hv275 dX11_over_21 ?_
      refine GO.iload_n dX11_over_24 rfl rfl ?_
      refine GO.iconst dX11_over_25 ?_
      refine GO.callV (ci := 26) (N := mX8_get_k26) dX11_over_26 (RX8, TX8, 4) rfl gV_RX11_209 h274 (t_X8_get_k26 h274 r_i2 (ir_c rfl)) rfl [] rfl rfl (Nat.le_of_ble_eq_true rfl) rfl (k_ip fun X289 r290 h291 => ?_)
      refine GO.aload_n dX11_over_29 rfl rfl ?_
      refine GO.getRaw h_x fl_RX11_82 hv275 dX11_over_30 ?_
      refine GO.iload_n dX11_over_33 rfl rfl ?_
      refine GO.iconst dX11_over_34 ?_
      refine GO.callV (ci := 26) (N := mX8_get_k26) dX11_over_35 (RX8, TX8, 4) rfl gV_RX11_209 h274 (t_X8_get_k26 h274 r_i1 (ir_c rfl)) rfl [ti X289] rfl rfl (Nat.le_of_ble_eq_true rfl) rfl (k_ip fun X294 r295 h296 => ?_)
      refine GO.icmp_ge (tgt := 45) dX11_over_38 (by decide) r290 r295 (fun c297 => ?_) (fun c297 => ?_)
      ·
        refine GO.iconst dX11_over_45 ?_
        refine GO.istore_n (ls1 := [some (.ref x), some (ti i1), some (ti i2), some (ti 0)]) dX11_over_46 rfl rfl rfl ?_
        refine GO.iload_n dX11_over_47 rfl rfl ?_
        refine GO.if_eq (tgt := 61) dX11_over_48 (by decide) (ir_c rfl) (fun c298 => ?_) (fun h => by exfalso; omega)
        refine GO.iinc (X := i2) (n := 1) (Y := i2 + 1) (ls1 := [some (.ref x), some (ti i1), some (ti (i2 + 1)), some (ti 0)]) dX11_over_61 rfl rfl rfl rfl ?_
        refine GO.goto (tgt := 4) dX11_over_64 (by decide) ?_
        refine GO.drop [true, true, true, false] rfl ?_
        exact ih272 i1 (i2 + 1) Wi1 ⟨by omega, by omega, by omega, by omega, (by first | exact w_0 | exact hcl), trivial⟩ (by show (2147483647 - (i2 + 1)).toNat < (2147483647 - i2).toNat; omega)
      ·
        refine GO.iconst dX11_over_41 ?_
        refine GO.goto (tgt := 46) dX11_over_42 (by decide) ?_
        refine GO.istore_n (ls1 := [some (.ref x), some (ti i1), some (ti i2), some (ti 1)]) dX11_over_46 rfl rfl rfl ?_
        refine GO.iload_n dX11_over_47 rfl rfl ?_
        refine GO.if_eq (tgt := 61) dX11_over_48 (by decide) (ir_c rfl) (fun h => by exfalso; omega) (fun c299 => ?_)
        refine GO.aload_n dX11_over_51 rfl rfl ?_
        refine GO.iload_n dX11_over_52 rfl rfl ?_
        refine GO.callV (ci := 10) (N := mX11_isOver) dX11_over_53 (RX11, TX11, 20) rfl gV_RX11_562 h_x (t_X11_isOver h_x r_i2 (hcl)) rfl [] rfl rfl (Nat.le_of_ble_eq_true rfl) rfl (k_is fun X300 V304 r301 h302 hF303 => ?_)
        have raw_isOver := h302.2.2.2
        have rw53 := h302.2.2.2
        refine GO.if_eq (tgt := 61) dX11_over_56 (by decide) r301 (fun c305 => ?_) (fun c305 => ?_)
        ·
          refine GO.iinc (X := i2) (n := 1) (Y := i2 + 1) (ls1 := [some (.ref x), some (ti i1), some (ti (i2 + 1)), some (ti 1)]) dX11_over_61 rfl rfl rfl rfl ?_
          refine GO.goto (tgt := 4) dX11_over_64 (by decide) ?_
          refine GO.drop [true, true, true, false] rfl ?_
          exact ih272 i1 (i2 + 1) V304 ⟨by omega, by omega, by omega, by omega, (by first | exact w_0 | exact hcl | exact rw53), trivial⟩ (by show (2147483647 - (i2 + 1)).toNat < (2147483647 - i2).toNat; omega)
        ·
          refine GO.iload_n dX11_over_59 rfl rfl ?_
          refine GO.istore_n (ls1 := [some (.ref x), some (ti i2), some (ti i2), some (ti 1)]) dX11_over_60 rfl rfl rfl ?_
          refine GO.iinc (X := i2) (n := 1) (Y := i2 + 1) (ls1 := [some (.ref x), some (ti i2), some (ti (i2 + 1)), some (ti 1)]) dX11_over_61 rfl rfl rfl rfl ?_
          refine GO.goto (tgt := 4) dX11_over_64 (by decide) ?_
          refine GO.drop [true, true, true, false] rfl ?_
          exact ih272 i2 (i2 + 1) V304 ⟨by omega, by omega, by omega, by omega, (by first | exact w_0 | exact hcl | exact rw53), trivial⟩ (by show (2147483647 - (i2 + 1)).toNat < (2147483647 - i2).toNat; omega)

set_option maxHeartbeats 1000000 in
theorem t_X11_isDoubtful {K : Kmap} {V : Vmap} {x : Nat} {p0 : Int} {p1 : Int} (h_x : K x = some (0, 10)) (r_p0 : ir p0) (r_p1 : ir p1) : MC mX11_isDoubtful K V [.ref x, ti p0, ti p1] (IP K V (fun X => (X = 0 ∨ X = 1) ∧ (X ≠ 0 → True) ∧ (X = 0 → True))) := by
  refine MC.start 3 (by decide +kernel) rfl rfl rfl (ls0 := [some (.ref x), some (ti p0), some (ti p1), none, none, none]) rfl ?_
  refine GO.aload_n dX11_isDoubtful_0 rfl rfl ?_
  refine GO.getR h_x fl_RX11_82 rfl rfl dX11_isDoubtful_1 (fun hv2 h1 => ?_)
  refine GO.iload_n dX11_isDoubtful_4 rfl rfl ?_
  refine GO.iconst dX11_isDoubtful_5 ?_
  refine GO.callV (ci := 26) (N := mX8_get_k26) dX11_isDoubtful_6 (RX8, TX8, 4) rfl gV_RX11_209 h1 (t_X8_get_k26 h1 r_p0 (ir_c rfl)) rfl [] rfl rfl (Nat.le_of_ble_eq_true rfl) rfl (k_ip fun X3 r4 h5 => ?_)
  refine GO.istore_n (ls1 := [some (.ref x), some (ti p0), some (ti p1), some (ti X3), none, none]) dX11_isDoubtful_9 rfl rfl rfl ?_
  refine GO.aload_n dX11_isDoubtful_10 rfl rfl ?_
  refine GO.getRaw h_x fl_RX11_82 hv2 dX11_isDoubtful_11 ?_
  refine GO.iload_n dX11_isDoubtful_14 rfl rfl ?_
  refine GO.iconst dX11_isDoubtful_15 ?_
  refine GO.callV (ci := 26) (N := mX8_get_k26) dX11_isDoubtful_16 (RX8, TX8, 4) rfl gV_RX11_209 h1 (t_X8_get_k26 h1 r_p1 (ir_c rfl)) rfl [] rfl rfl (Nat.le_of_ble_eq_true rfl) rfl (k_ip fun X8 r9 h10 => ?_)
  refine GO.istore (ls1 := [some (.ref x), some (ti p0), some (ti p1), some (ti X3), some (ti X8), none]) dX11_isDoubtful_19 rfl rfl ?_
  refine GO.aload_n dX11_isDoubtful_21 rfl rfl ?_
  refine GO.getRaw h_x fl_RX11_82 hv2 dX11_isDoubtful_22 ?_
  refine GO.iload_n dX11_isDoubtful_25 rfl rfl ?_
  refine GO.iconst dX11_isDoubtful_26 ?_
  refine GO.callV (ci := 26) (N := mX8_get_k26) dX11_isDoubtful_27 (RX8, TX8, 4) rfl gV_RX11_209 h1 (t_X8_get_k26 h1 r_p0 (ir_c rfl)) rfl [] rfl rfl (Nat.le_of_ble_eq_true rfl) rfl (k_ip fun X13 r14 h15 => ?_)
  refine GO.aload_n dX11_isDoubtful_30 rfl rfl ?_
  refine GO.getRaw h_x fl_RX11_82 hv2 dX11_isDoubtful_31 ?_
  refine GO.iload_n dX11_isDoubtful_34 rfl rfl ?_
  refine GO.iconst dX11_isDoubtful_35 ?_
  refine GO.callV (ci := 26) (N := mX8_get_k26) dX11_isDoubtful_36 (RX8, TX8, 4) rfl gV_RX11_209 h1 (t_X8_get_k26 h1 r_p1 (ir_c rfl)) rfl [ti X13] rfl rfl (Nat.le_of_ble_eq_true rfl) rfl (k_ip fun X18 r19 h20 => ?_)
  refine GO.icmp_ne (tgt := 48) dX11_isDoubtful_39 (by decide) r14 r19 (fun c21 => ?_) (fun c21 => ?_)
  ·
    refine GO.iconst dX11_isDoubtful_48 ?_
    exact GO.retz rfl rfl dX11_isDoubtful_49 (Or.inl rfl) ⟨rfl, rfl, _, rfl, (ir_c rfl), ⟨Or.inl rfl, fun _ => trivial, fun _ => trivial⟩⟩
  ·
    refine GO.iload_n dX11_isDoubtful_42 rfl rfl ?_
    refine GO.iload dX11_isDoubtful_43 rfl ?_
    refine GO.icmp_ne (tgt := 50) dX11_isDoubtful_45 (by decide) r4 r9 (fun c22 => ?_) (fun c22 => ?_)
    ·
      refine GO.aload_n dX11_isDoubtful_50 rfl rfl ?_
      refine GO.getRaw h_x fl_RX11_82 hv2 dX11_isDoubtful_51 ?_
      refine GO.iload_n dX11_isDoubtful_54 rfl rfl ?_
      refine GO.iconst dX11_isDoubtful_55 ?_
      refine GO.callV (ci := 26) (N := mX8_get_k26) dX11_isDoubtful_56 (RX8, TX8, 4) rfl gV_RX11_209 h1 (t_X8_get_k26 h1 r_p0 (ir_c rfl)) rfl [] rfl rfl (Nat.le_of_ble_eq_true rfl) rfl (k_ip fun X25 r26 h27 => ?_)
      refine GO.aload_n dX11_isDoubtful_59 rfl rfl ?_
      refine GO.getRaw h_x fl_RX11_82 hv2 dX11_isDoubtful_60 ?_
      refine GO.iload_n dX11_isDoubtful_63 rfl rfl ?_
      refine GO.iconst dX11_isDoubtful_64 ?_
      refine GO.callV (ci := 26) (N := mX8_get_k26) dX11_isDoubtful_65 (RX8, TX8, 4) rfl gV_RX11_209 h1 (t_X8_get_k26 h1 r_p1 (ir_c rfl)) rfl [ti X25] rfl rfl (Nat.le_of_ble_eq_true rfl) rfl (k_ip fun X30 r31 h32 => ?_)
      refine GO.isub dX11_isDoubtful_68 ?_
      refine GO.norm (fun z33 r34 hn35 => ?_)
      refine GO.callS (N := mJ9_abs_0f7a4) dX11_isDoubtful_69 gS_RX11_572 (t_J9_abs_0f7a4 r34) rfl [] rfl rfl (Nat.le_of_ble_eq_true rfl) rfl (k_ip fun X36 r37 h38 => ?_)
      refine GO.istore (ls1 := [some (.ref x), some (ti p0), some (ti p1), some (ti X3), some (ti X8), some (ti X36)]) dX11_isDoubtful_72 rfl rfl ?_
      refine GO.iload dX11_isDoubtful_74 rfl ?_
      refine GO.aload_n dX11_isDoubtful_76 rfl rfl ?_
      refine GO.getR h_x fl_RX11_12 rfl rfl dX11_isDoubtful_77 (fun hv40 h39 => ?_)
      refine GO.getA (n := 4) h39 fl_RX11_400 rfl rfl rfl rfl dX11_isDoubtful_80 (fun hv42 h41 => ?_)
      refine GO.iload_n dX11_isDoubtful_83 rfl rfl ?_
      refine GO.callS (N := mX4_get) dX11_isDoubtful_84 gS_RX11_253 (t_X4_get rfl h41 r4) rfl [ti X36] rfl rfl (Nat.le_of_ble_eq_true rfl) rfl (k_ip fun X43 r44 h45 => ?_)
      have raw_get := h45.2
      have rw84 := h45.2
      refine GO.aload_n dX11_isDoubtful_87 rfl rfl ?_
      refine GO.getRaw h_x fl_RX11_12 hv40 dX11_isDoubtful_88 ?_
      refine GO.getRaw h39 fl_RX11_400 hv42 dX11_isDoubtful_91 ?_
      refine GO.iload dX11_isDoubtful_94 rfl ?_
      refine GO.callS (N := mX4_get) dX11_isDoubtful_96 gS_RX11_253 (t_X4_get rfl h41 r9) rfl [ti X43, ti X36] rfl rfl (Nat.le_of_ble_eq_true rfl) rfl (k_ip fun X50 r51 h52 => ?_)
      have raw_get := h52.2
      have rw96 := h52.2
      refine GO.iadd dX11_isDoubtful_99 ?_
      refine GO.norm (fun z53 r54 hn55 => ?_)
      refine GO.iconst dX11_isDoubtful_100 ?_
      refine GO.idiv dX11_isDoubtful_101 (ir_c rfl) (by omega) ?_
      refine GO.icmp_ge (tgt := 109) dX11_isDoubtful_102 (by decide) r37 wdiv_ir (fun c56 => ?_) (fun c56 => ?_)
      ·
        refine GO.iconst dX11_isDoubtful_109 ?_
        exact GO.retz rfl rfl dX11_isDoubtful_110 (Or.inl rfl) ⟨rfl, rfl, _, rfl, (ir_c rfl), ⟨Or.inl rfl, fun _ => trivial, fun _ => trivial⟩⟩
      ·
        refine GO.iconst dX11_isDoubtful_105 ?_
        refine GO.goto (tgt := 110) dX11_isDoubtful_106 (by decide) ?_
        exact GO.retz rfl rfl dX11_isDoubtful_110 (Or.inr rfl) ⟨rfl, rfl, _, rfl, (ir_c rfl), ⟨Or.inr rfl, fun _ => trivial, fun _ => trivial⟩⟩
    ·
      refine GO.iconst dX11_isDoubtful_48 ?_
      exact GO.retz rfl rfl dX11_isDoubtful_49 (Or.inl rfl) ⟨rfl, rfl, _, rfl, (ir_c rfl), ⟨Or.inl rfl, fun _ => trivial, fun _ => trivial⟩⟩

set_option maxHeartbeats 1000000 in
theorem t_X11_doubt {K : Kmap} {V : Vmap} {x : Nat} {p0 : Int} (h_x : K x = some (0, 10)) (r_p0 : ir p0) : MC mX11_doubt K V [.ref x, ti p0] (IP K V (fun X => True)) := by
  refine MC.start 2 (by decide +kernel) rfl rfl rfl (ls0 := [some (.ref x), some (ti p0), none, none]) rfl ?_
  refine GO.iload_n dX11_doubt_0 rfl rfl ?_
  refine GO.iconst dX11_doubt_1 ?_
  refine GO.iconst dX11_doubt_2 ?_
  refine GO.callS (N := mX11_between) dX11_doubt_3 gS_RX11_112 (t_X11_between r_p0 (ir_c rfl) (ir_c rfl)) rfl [] rfl rfl (Nat.le_of_ble_eq_true rfl) rfl (k_ip fun X1 r2 h3 => ?_)
  refine GO.if_ne (tgt := 11) dX11_doubt_6 (by decide) r2 (fun c4 => ?_) (fun c4 => ?_)
  ·
    have q5 := h3.2.1 (by omega)
    refine GO.iconst dX11_doubt_11 ?_
    refine GO.istore_n (ls1 := [some (.ref x), some (ti p0), some (ti 0), none]) dX11_doubt_12 rfl rfl rfl ?_
    refine GO.loop1 (fun i6 W => 0 ≤ i6 ∧ i6 ≤ 200 ∧ V = W) (fun i6 => [some (.ref x), some (ti p0), some (ti i6), none]) (fun i6 W => (2147483647 - i6).toNat) 0 ⟨by omega, by omega, rfl⟩ rfl (fun i6 V846 hp848 ih847 => ?_)
    obtain ⟨l_i6, u_i6, rfl⟩ := hp848
    have r_i6 : ir i6 := ⟨by omega, by omega⟩
    show GO mX11_doubt K V (IP K V (fun X => True)) K V 0 0 13 [some (.ref x), some (ti p0), some (ti i6), none] []
    refine GO.iload_n dX11_doubt_13 rfl rfl ?_
    refine GO.aload_n dX11_doubt_14 rfl rfl ?_
    refine GO.getR h_x fl_RX11_82 rfl rfl dX11_doubt_15 (fun hv850 h849 => ?_)
    refine GO.getI h849 fl_RX11_199_k26 rfl rfl dX11_doubt_18 (fun l851 u852 => ?_)
    refine GO.icmp_ge (tgt := 70) dX11_doubt_21 (by decide) r_i6 vi_ir (fun c853 => ?_) (fun c853 => ?_)
    ·
      refine GO.iconst dX11_doubt_70 ?_
      exact GO.reti rfl rfl dX11_doubt_71 ⟨rfl, rfl, _, rfl, (ir_c rfl), trivial⟩
    ·
      refine GO.iload_n dX11_doubt_24 rfl rfl ?_
      refine GO.iconst dX11_doubt_25 ?_
      refine GO.iadd dX11_doubt_26 ?_
      refine GO.name (fun z854 hz855 => ?_)
      refine GO.istore_n (ls1 := [some (.ref x), some (ti p0), some (ti i6), some (ti z854)]) dX11_doubt_27 rfl rfl rfl ?_
      refine GO.loop1 (fun i856 W => 1 ≤ i856 ∧ i856 ≤ 200 ∧ V = W) (fun i856 => [some (.ref x), some (ti p0), some (ti i6), some (ti i856)]) (fun i856 W => (2147483647 - i856).toNat) z854 ⟨by omega, by omega, rfl⟩ rfl (fun i856 V867 hp869 ih868 => ?_)
      obtain ⟨l_i856, u_i856, rfl⟩ := hp869
      have r_i856 : ir i856 := ⟨by omega, by omega⟩
      show GO mX11_doubt K V (IP K V (fun X => True)) K V 0 0 28 [some (.ref x), some (ti p0), some (ti i6), some (ti i856)] []
      refine GO.iload_n dX11_doubt_28 rfl rfl ?_
      refine GO.aload_n dX11_doubt_29 rfl rfl ?_
      refine GO.getRaw h_x fl_RX11_82 hv850 dX11_doubt_30 ?_
      refine GO.getI h849 fl_RX11_199_k26 rfl rfl dX11_doubt_33 (fun l872 u873 => ?_)
      refine GO.icmp_ge (tgt := 64) dX11_doubt_36 (by decide) r_i856 vi_ir (fun c874 => ?_) (fun c874 => ?_)
      ·
        refine GO.iinc (X := i6) (n := 1) (Y := i6 + 1) (ls1 := [some (.ref x), some (ti p0), some (ti (i6 + 1)), some (ti i856)]) dX11_doubt_64 rfl rfl rfl rfl ?_
        refine GO.goto (tgt := 13) dX11_doubt_67 (by decide) ?_
        refine GO.drop [true, true, true, false] rfl ?_
        exact ih847 (i6 + 1) V ⟨by omega, by omega, rfl⟩ (by show (2147483647 - (i6 + 1)).toNat < (2147483647 - i6).toNat; omega)
      ·
        refine GO.aload_n dX11_doubt_39 rfl rfl ?_
        refine GO.iload_n dX11_doubt_40 rfl rfl ?_
        refine GO.iload_n dX11_doubt_41 rfl rfl ?_
        refine GO.callV (ci := 10) (N := mX11_isDoubtful) dX11_doubt_42 (RX11, TX11, 20) rfl gV_RX11_569 h_x (t_X11_isDoubtful h_x r_i6 r_i856) rfl [] rfl rfl (Nat.le_of_ble_eq_true rfl) rfl (k_ip fun X875 r876 h877 => ?_)
        refine GO.if_eq (tgt := 58) dX11_doubt_45 (by decide) r876 (fun c878 => ?_) (fun c878 => ?_)
        ·
          refine GO.iinc (X := i856) (n := 1) (Y := i856 + 1) (ls1 := [some (.ref x), some (ti p0), some (ti i6), some (ti (i856 + 1))]) dX11_doubt_58 rfl rfl rfl rfl ?_
          refine GO.goto (tgt := 28) dX11_doubt_61 (by decide) ?_
          exact ih868 (i856 + 1) V ⟨by omega, by omega, rfl⟩ (by show (2147483647 - (i856 + 1)).toNat < (2147483647 - i856).toNat; omega)
        ·
          refine GO.iload_n dX11_doubt_48 rfl rfl ?_
          refine GO.if_ne (tgt := 56) dX11_doubt_49 (by decide) r_p0 (fun c879 => ?_) (fun c879 => ?_)
          ·
            refine GO.iload_n dX11_doubt_56 rfl rfl ?_
            exact GO.reti rfl rfl dX11_doubt_57 ⟨rfl, rfl, _, rfl, r_i856, trivial⟩
          ·
            refine GO.iload_n dX11_doubt_52 rfl rfl ?_
            refine GO.goto (tgt := 57) dX11_doubt_53 (by decide) ?_
            exact GO.reti rfl rfl dX11_doubt_57 ⟨rfl, rfl, _, rfl, r_i6, trivial⟩
  ·
    have q880 := h3.2.2 (by omega)
    refine GO.iconst dX11_doubt_9 ?_
    exact GO.reti rfl rfl dX11_doubt_10 ⟨rfl, rfl, _, rfl, (ir_c rfl), trivial⟩

set_option maxHeartbeats 1000000 in
theorem t_X8_isFull_k25 {K : Kmap} {V : Vmap} {x : Nat} (h_x : K x = some (0, 25)) : MC mX8_isFull_k25 K V [.ref x] (IP K V (fun X => (X = 0 ∨ X = 1) ∧ (X ≠ 0 → vi V x 3 ≥ 7) ∧ (X = 0 → vi V x 3 ≤ 6))) := by
  refine MC.start 0 (by decide +kernel) rfl rfl rfl (ls0 := [some (.ref x)]) rfl ?_
  refine GO.aload_n dX8_isFull_0 rfl rfl ?_
  refine GO.getI h_x fl_RX8_9_k25 rfl rfl dX8_isFull_1 (fun l1 u2 => ?_)
  refine GO.aload_n dX8_isFull_4 rfl rfl ?_
  refine GO.getI h_x fl_RX8_18_k25 rfl rfl dX8_isFull_5 (fun l3 u4 => ?_)
  refine GO.icmp_lt (tgt := 15) dX8_isFull_8 (by decide) vi_ir vi_ir (fun c5 => ?_) (fun c5 => ?_)
  ·
    refine GO.iconst dX8_isFull_15 ?_
    exact GO.retz rfl rfl dX8_isFull_16 (Or.inl rfl) ⟨rfl, rfl, _, rfl, (ir_c rfl), ⟨Or.inl rfl, fun h => absurd rfl h, fun h => by omega⟩⟩
  ·
    refine GO.iconst dX8_isFull_11 ?_
    refine GO.goto (tgt := 16) dX8_isFull_12 (by decide) ?_
    exact GO.retz rfl rfl dX8_isFull_16 (Or.inr rfl) ⟨rfl, rfl, _, rfl, (ir_c rfl), ⟨Or.inr rfl, fun h => by omega, fun h => absurd h (by decide)⟩⟩

set_option maxHeartbeats 1000000 in
theorem t_X8_put_k25 {K : Kmap} {V : Vmap} {x : Nat} {p0 : Int} {p1 : Int} {p2 : Int} (h_x : K x = some (0, 25)) (r_p0 : ir p0) (r_p1 : ir p1) (r_p2 : ir p2) : MC mX8_put_k25 K V [.ref x, ti p0, ti p1, ti p2] (VS K (fun V1 => (True))) := by
  refine MC.start 2 (by decide +kernel) rfl rfl rfl (ls0 := [some (.ref x), some (ti p0), some (ti p1), some (ti p2), none, none]) rfl ?_
  refine GO.iload_n dX8_put_0 rfl rfl ?_
  refine GO.aload_n dX8_put_1 rfl rfl ?_
  refine GO.getI h_x fl_RX8_15_k25 rfl rfl dX8_put_2 (fun l1 u2 => ?_)
  refine GO.imul dX8_put_5 ?_
  refine GO.norm (fun z3 r4 hn5 => ?_)
  refine GO.iload_n dX8_put_6 rfl rfl ?_
  refine GO.iadd dX8_put_7 ?_
  refine GO.norm (fun z6 r7 hn8 => ?_)
  refine GO.istore (ls1 := [some (.ref x), some (ti p0), some (ti p1), some (ti p2), some (ti z6), none]) dX8_put_8 rfl rfl ?_
  refine GO.iload_n dX8_put_10 rfl rfl ?_
  have hj18 : ∀ (z17 : Int), ∀ (l19 : 0 ≤ z17), ∀ (u20 : z17 ≤ 1), GO mX8_put_k25 K V (VS K (fun V1 => (True))) K V 0 0 39 [some (.ref x), some (ti p0), some (ti p1), some (ti p2), some (ti z6), none] [ti z17] := by
    intro z17 l19 u20
    have r21 : ir z17 := ⟨by omega, by omega⟩
    refine GO.istore (ls1 := [some (.ref x), some (ti p0), some (ti p1), some (ti p2), some (ti z6), some (ti z17)]) dX8_put_39 rfl rfl ?_
    refine GO.iload dX8_put_41 rfl ?_
    refine GO.if_eq (tgt := 69) dX8_put_43 (by decide) r21 (fun c22 => ?_) (fun c22 => ?_)
    ·
      exact GO.retv rfl rfl dX8_put_69 ⟨rfl, rfl, trivial⟩
    ·
      refine GO.iload dX8_put_46 rfl ?_
      refine GO.if_lt (tgt := 69) dX8_put_48 (by decide) r7 (fun c23 => ?_) (fun c23 => ?_)
      ·
        exact GO.retv rfl rfl dX8_put_69 ⟨rfl, rfl, trivial⟩
      ·
        refine GO.iload dX8_put_51 rfl ?_
        refine GO.aload_n dX8_put_53 rfl rfl ?_
        refine GO.getA (n := 7) h_x fl_RX8_27_k25 rfl rfl rfl rfl dX8_put_54 (fun hv25 h24 => ?_)
        refine GO.alen h24 dX8_put_57 (fun h26 => ?_)
        refine GO.icmp_ge (tgt := 69) dX8_put_58 (by decide) r7 ⟨by omega, by omega⟩ (fun c27 => ?_) (fun c27 => ?_)
        ·
          exact GO.retv rfl rfl dX8_put_69 ⟨rfl, rfl, trivial⟩
        ·
          refine GO.aload_n dX8_put_61 rfl rfl ?_
          refine GO.getRaw h_x fl_RX8_27_k25 hv25 dX8_put_62 ?_
          refine GO.iload dX8_put_65 rfl ?_
          refine GO.iload_n dX8_put_67 rfl rfl ?_
          have q30 : -2147483648 ≤ z6 ∧ z6 ≤ 2147483647 := r7
          refine GO.iast (t := 147) rfl rfl (by decide +kernel) h24 r7 (by omega) (by omega) r_p2 (r_p2).1 (r_p2).2 dX8_put_68 (fun V32 e31 => ?_)
          exact GO.retv rfl rfl dX8_put_69 ⟨rfl, rfl, trivial⟩
  have hj41 : GO mX8_put_k25 K V (VS K (fun V1 => (True))) K V 0 0 38 [some (.ref x), some (ti p0), some (ti p1), some (ti p2), some (ti z6), none] [] := by
    skip
    refine GO.iconst dX8_put_38 ?_
    exact hj18 0 (by omega) (by omega)
  refine GO.if_lt (tgt := 38) dX8_put_11 (by decide) r_p0 (fun c42 => ?_) (fun c42 => ?_)
  ·
    exact hj41 
  ·
    refine GO.iload_n dX8_put_14 rfl rfl ?_
    refine GO.aload_n dX8_put_15 rfl rfl ?_
    refine GO.getI h_x fl_RX8_9_k25 rfl rfl dX8_put_16 (fun l43 u44 => ?_)
    refine GO.icmp_ge (tgt := 38) dX8_put_19 (by decide) r_p0 vi_ir (fun c45 => ?_) (fun c45 => ?_)
    ·
      exact hj41 
    ·
      refine GO.iload_n dX8_put_22 rfl rfl ?_
      refine GO.if_lt (tgt := 38) dX8_put_23 (by decide) r_p1 (fun c46 => ?_) (fun c46 => ?_)
      ·
        exact hj41 
      ·
        refine GO.iload_n dX8_put_26 rfl rfl ?_
        refine GO.aload_n dX8_put_27 rfl rfl ?_
        refine GO.getI h_x fl_RX8_15_k25 rfl rfl dX8_put_28 (fun l47 u48 => ?_)
        refine GO.icmp_ge (tgt := 38) dX8_put_31 (by decide) r_p1 vi_ir (fun c49 => ?_) (fun c49 => ?_)
        ·
          exact hj41 
        ·
          refine GO.iconst dX8_put_34 ?_
          refine GO.goto (tgt := 39) dX8_put_35 (by decide) ?_
          exact hj18 1 (by omega) (by omega)

set_option maxHeartbeats 1000000 in
theorem t_X8_append_k25 {K : Kmap} {V : Vmap} {x : Nat} {p0 : Int} {p1 : Int} {p2 : Int} {p3 : Int} {p4 : Int} (h_x : K x = some (0, 25)) (r_p0 : ir p0) (r_p1 : ir p1) (r_p2 : ir p2) (r_p3 : ir p3) (r_p4 : ir p4) : MC mX8_append_k25 K V [.ref x, ti p0, ti p1, ti p2, ti p3, ti p4] (IS K (fun X V1 => ((X = (-1) ∧ vi V1 x 3 = vi V x 3 ∧ vi V x 3 ≥ 7) ∨ (X = vi V x 3 ∧ vi V1 x 3 = (vi V x 3 + 1) ∧ vi V x 3 < 7)))) := by
  refine MC.start 1 (by decide +kernel) rfl rfl rfl (ls0 := [some (.ref x), some (ti p0), some (ti p1), some (ti p2), some (ti p3), some (ti p4), none]) rfl ?_
  refine GO.aload_n dX8_append_0 rfl rfl ?_
  refine GO.callV (ci := 25) (N := mX8_isFull_k25) dX8_append_1 (RX8, TX8, 4) rfl gV_RX8_31 h_x (t_X8_isFull_k25 h_x) rfl [] rfl rfl (Nat.le_of_ble_eq_true rfl) rfl (k_ip fun X1 r2 h3 => ?_)
  refine GO.if_eq (tgt := 9) dX8_append_4 (by decide) r2 (fun c4 => ?_) (fun c4 => ?_)
  ·
    have q5 := h3.2.2 (by omega)
    refine GO.aload_n dX8_append_9 rfl rfl ?_
    refine GO.getI h_x fl_RX8_9_k25 rfl rfl dX8_append_10 (fun l6 u7 => ?_)
    refine GO.name (fun z8 hz9 => ?_)
    have r10 : ir z8 := hz9 ▸ vi_ir
    refine GO.istore (ls1 := [some (.ref x), some (ti p0), some (ti p1), some (ti p2), some (ti p3), some (ti p4), some (ti z8)]) dX8_append_13 rfl rfl ?_
    refine GO.aload_n dX8_append_15 rfl rfl ?_
    refine GO.dup dX8_append_16 rfl ?_
    refine GO.getI h_x fl_RX8_9_k25 rfl rfl dX8_append_17 (fun l11 u12 => ?_)
    refine GO.iconst dX8_append_20 ?_
    refine GO.iadd dX8_append_21 ?_
    have q14 : -2147483648 ≤ vi V x 3 ∧ vi V x 3 ≤ 2147483647 := vi_ir
    have q15 : -2147483648 ≤ z8 ∧ z8 ≤ 2147483647 := r10
    refine GO.putI h_x fp_RX8_9_k25 rfl (by decide +kernel) ⟨by omega, by omega⟩ (by omega) (by omega) dX8_append_22 (fun V16 e13 => ?_)
    refine GO.aload_n dX8_append_25 rfl rfl ?_
    refine GO.iload dX8_append_26 rfl ?_
    refine GO.iconst dX8_append_28 ?_
    refine GO.iload_n dX8_append_29 rfl rfl ?_
    refine GO.callV (ci := 25) (N := mX8_put_k25) dX8_append_30 (RX8, TX8, 4) rfl gV_RX8_35 h_x (t_X8_put_k25 h_x r10 (ir_c rfl) r_p0) rfl [] rfl rfl (Nat.le_of_ble_eq_true rfl) rfl (k_vs fun V19 h18 hF17 => ?_)
    refine GO.aload_n dX8_append_33 rfl rfl ?_
    refine GO.iload dX8_append_34 rfl ?_
    refine GO.iconst dX8_append_36 ?_
    refine GO.iload_n dX8_append_37 rfl rfl ?_
    refine GO.callV (ci := 25) (N := mX8_put_k25) dX8_append_38 (RX8, TX8, 4) rfl gV_RX8_35 h_x (t_X8_put_k25 h_x r10 (ir_c rfl) r_p1) rfl [] rfl rfl (Nat.le_of_ble_eq_true rfl) rfl (k_vs fun V22 h21 hF20 => ?_)
    refine GO.aload_n dX8_append_41 rfl rfl ?_
    refine GO.iload dX8_append_42 rfl ?_
    refine GO.iconst dX8_append_44 ?_
    refine GO.iload_n dX8_append_45 rfl rfl ?_
    refine GO.callV (ci := 25) (N := mX8_put_k25) dX8_append_46 (RX8, TX8, 4) rfl gV_RX8_35 h_x (t_X8_put_k25 h_x r10 (ir_c rfl) r_p2) rfl [] rfl rfl (Nat.le_of_ble_eq_true rfl) rfl (k_vs fun V25 h24 hF23 => ?_)
    refine GO.aload_n dX8_append_49 rfl rfl ?_
    refine GO.iload dX8_append_50 rfl ?_
    refine GO.iconst dX8_append_52 ?_
    refine GO.iload dX8_append_53 rfl ?_
    refine GO.callV (ci := 25) (N := mX8_put_k25) dX8_append_55 (RX8, TX8, 4) rfl gV_RX8_35 h_x (t_X8_put_k25 h_x r10 (ir_c rfl) r_p3) rfl [] rfl rfl (Nat.le_of_ble_eq_true rfl) rfl (k_vs fun V28 h27 hF26 => ?_)
    refine GO.aload_n dX8_append_58 rfl rfl ?_
    refine GO.iload dX8_append_59 rfl ?_
    refine GO.iconst dX8_append_61 ?_
    refine GO.iload dX8_append_62 rfl ?_
    refine GO.callV (ci := 25) (N := mX8_put_k25) dX8_append_64 (RX8, TX8, 4) rfl gV_RX8_35 h_x (t_X8_put_k25 h_x r10 (ir_c rfl) r_p4) rfl [] rfl rfl (Nat.le_of_ble_eq_true rfl) rfl (k_vs fun V31 h30 hF29 => ?_)
    refine GO.iload dX8_append_67 rfl ?_
    have e37 : vi V16 x 3 = (vi V x 3) + 1 := upd2_int e13 ⟨by omega, by omega⟩
    have e36 : vi V19 x 3 = vi V16 x 3 := vi_fr hF17 h_x h_x (by decide +kernel)
    have e35 : vi V22 x 3 = vi V19 x 3 := vi_fr hF20 h_x h_x (by decide +kernel)
    have e34 : vi V25 x 3 = vi V22 x 3 := vi_fr hF23 h_x h_x (by decide +kernel)
    have e33 : vi V28 x 3 = vi V25 x 3 := vi_fr hF26 h_x h_x (by decide +kernel)
    have e32 : vi V31 x 3 = vi V28 x 3 := vi_fr hF29 h_x h_x (by decide +kernel)
    exact GO.reti rfl rfl dX8_append_69 ⟨rfl, _, rfl, r10, by omega⟩
  ·
    have q38 := h3.2.1 (by omega)
    refine GO.iconst dX8_append_7 ?_
    have q39 : -2147483648 ≤ vi V x 3 ∧ vi V x 3 ≤ 2147483647 := vi_ir
    exact GO.reti rfl rfl dX8_append_8 ⟨rfl, _, rfl, (ir_c rfl), by omega⟩

set_option maxHeartbeats 1000000 in
theorem t_X11_word {K : Kmap} {V : Vmap} {x : Nat} {p0 : Int} (h_x : K x = some (0, 10)) (r_p0 : ir p0) : MC mX11_word K V [.ref x, ti p0] (IS K (fun X V1 => (X ≥ (-2147483648) ∧ X ≤ 2147483647) ∧ (WDC V V1 x p0 X))) := by
  refine MC.start 0 (by decide +kernel) rfl rfl rfl (ls0 := [some (.ref x), some (ti p0)]) rfl ?_
  refine GO.iload_n dX11_word_0 rfl rfl ?_
  refine GO.iconst dX11_word_1 ?_
  refine GO.sipush dX11_word_2 rfl ?_
  refine GO.callS (N := mX11_between) dX11_word_5 gS_RX11_112 (t_X11_between r_p0 (ir_c rfl) (ir_c rfl)) rfl [] rfl rfl (Nat.le_of_ble_eq_true rfl) rfl (k_ip fun X1 r2 h3 => ?_)
  refine GO.if_eq (tgt := 26) dX11_word_8 (by decide) r2 (fun c4 => ?_) (fun c4 => ?_)
  ·
    have q5 := h3.2.2 (by omega)
    refine GO.iconst dX11_word_26 ?_
    exact GO.reti rfl rfl dX11_word_27 ⟨rfl, _, rfl, (ir_c rfl), ⟨(by first | exact trivial | omega), (by first | exact wdc_0 (by omega) | exact wdc_1 (by assumption) h_x (by decide +kernel) (by omega) (by omega) (by assumption))⟩⟩
  ·
    have q6 := h3.2.1 (by omega)
    refine GO.aload_n dX11_word_11 rfl rfl ?_
    refine GO.getR h_x fl_RX11_88 rfl rfl dX11_word_12 (fun hv8 h7 => ?_)
    refine GO.iload_n dX11_word_15 rfl rfl ?_
    refine GO.iconst dX11_word_16 ?_
    refine GO.iconst dX11_word_17 ?_
    refine GO.iconst dX11_word_18 ?_
    refine GO.iconst dX11_word_19 ?_
    refine GO.callV (ci := 25) (N := mX8_append_k25) dX11_word_20 (RX8, TX8, 4) rfl gV_RX11_205 h7 (t_X8_append_k25 h7 r_p0 (ir_c rfl) (ir_c rfl) (ir_c rfl) (ir_c rfl)) rfl [] rfl rfl (Nat.le_of_ble_eq_true rfl) rfl (k_is fun X9 V13 r10 h11 hF12 => ?_)
    refine GO.goto (tgt := 27) dX11_word_23 (by decide) ?_
    have q15 : -2147483648 ≤ X9 ∧ X9 ≤ 2147483647 := r10
    exact GO.reti rfl rfl dX11_word_27 ⟨rfl, _, rfl, r10, ⟨(by first | exact trivial | omega), (by first | exact wdc_0 (by omega) | exact wdc_1 (by assumption) h_x (by decide +kernel) (by omega) (by omega) (by assumption))⟩⟩

set_option maxHeartbeats 1000000 in
theorem t_X8_has_k25 {K : Kmap} {V : Vmap} {x : Nat} {p0 : Int} (h_x : K x = some (0, 25)) (r_p0 : ir p0) : MC mX8_has_k25 K V [.ref x, ti p0] (IP K V (fun X => (X = 0 ∨ X = 1) ∧ (X ≠ 0 → p0 ≥ 0 ∧ p0 < vi V x 3) ∧ (X = 0 → (p0 < 0 ∨ p0 ≥ vi V x 3)))) := by
  refine MC.start 0 (by decide +kernel) rfl rfl rfl (ls0 := [some (.ref x), some (ti p0)]) rfl ?_
  refine GO.iload_n dX8_has_0 rfl rfl ?_
  refine GO.if_lt (tgt := 16) dX8_has_1 (by decide) r_p0 (fun c1 => ?_) (fun c1 => ?_)
  ·
    refine GO.iconst dX8_has_16 ?_
    have q2 : -2147483648 ≤ vi V x 3 ∧ vi V x 3 ≤ 2147483647 := vi_ir
    exact GO.retz rfl rfl dX8_has_17 (Or.inl rfl) ⟨rfl, rfl, _, rfl, (ir_c rfl), ⟨Or.inl rfl, fun h => absurd rfl h, fun h => by omega⟩⟩
  ·
    refine GO.iload_n dX8_has_4 rfl rfl ?_
    refine GO.aload_n dX8_has_5 rfl rfl ?_
    refine GO.getI h_x fl_RX8_9_k25 rfl rfl dX8_has_6 (fun l3 u4 => ?_)
    refine GO.icmp_ge (tgt := 16) dX8_has_9 (by decide) r_p0 vi_ir (fun c5 => ?_) (fun c5 => ?_)
    ·
      refine GO.iconst dX8_has_16 ?_
      have q6 : -2147483648 ≤ p0 ∧ p0 ≤ 2147483647 := r_p0
      exact GO.retz rfl rfl dX8_has_17 (Or.inl rfl) ⟨rfl, rfl, _, rfl, (ir_c rfl), ⟨Or.inl rfl, fun h => absurd rfl h, fun h => by omega⟩⟩
    ·
      refine GO.iconst dX8_has_12 ?_
      refine GO.goto (tgt := 17) dX8_has_13 (by decide) ?_
      have q7 : -2147483648 ≤ p0 ∧ p0 ≤ 2147483647 := r_p0
      exact GO.retz rfl rfl dX8_has_17 (Or.inr rfl) ⟨rfl, rfl, _, rfl, (ir_c rfl), ⟨Or.inr rfl, fun h => by omega, fun h => absurd h (by decide)⟩⟩

set_option maxHeartbeats 1000000 in
theorem t_X4_put_t124 {K : Kmap} {V : Vmap} {p0 n_p0 : Nat} {p1 : Int} {p2 : Int} (h_p0 : K p0 = some (125, n_p0)) (r_p1 : ir p1) (r_p2 : ir p2) : MC mX4_put_t124 K V [.ref p0, ti p1, ti p2] (VS K (fun V1 => (True) ∧ (V1 = rpv V p0 n_p0 p1 p2))) := by
  refine MC.start 0 (by decide +kernel) rfl rfl rfl (ls0 := [some (.ref p0), some (ti p1), some (ti p2)]) rfl ?_
  refine GO.aload_n dX4_put_0 rfl rfl ?_
  refine GO.ifnull dX4_put_1 ?_
  refine GO.iload_n dX4_put_4 rfl rfl ?_
  refine GO.if_lt (tgt := 18) dX4_put_5 (by decide) r_p1 (fun c1 => ?_) (fun c1 => ?_)
  ·
    exact GO.retv rfl rfl dX4_put_18 ⟨rfl, rfl, ⟨trivial, (by first | exact rpv_in (by assumption) (by omega) (by omega) | exact rpv_out (by omega))⟩⟩
  ·
    refine GO.iload_n dX4_put_8 rfl rfl ?_
    refine GO.aload_n dX4_put_9 rfl rfl ?_
    refine GO.alen h_p0 dX4_put_10 (fun h2 => ?_)
    refine GO.icmp_ge (tgt := 18) dX4_put_11 (by decide) r_p1 ⟨by omega, by omega⟩ (fun c3 => ?_) (fun c3 => ?_)
    ·
      exact GO.retv rfl rfl dX4_put_18 ⟨rfl, rfl, ⟨trivial, (by first | exact rpv_in (by assumption) (by omega) (by omega) | exact rpv_out (by omega))⟩⟩
    ·
      refine GO.aload_n dX4_put_14 rfl rfl ?_
      refine GO.iload_n dX4_put_15 rfl rfl ?_
      refine GO.iload_n dX4_put_16 rfl rfl ?_
      have q4 : -2147483648 ≤ p1 ∧ p1 ≤ 2147483647 := r_p1
      refine GO.iast (t := 124) rfl rfl (by decide +kernel) h_p0 r_p1 (by omega) (by omega) r_p2 (r_p2).1 (r_p2).2 dX4_put_17 (fun V6 e5 => ?_)
      exact GO.retv rfl rfl dX4_put_18 ⟨rfl, rfl, ⟨trivial, (by first | exact rpv_in (by assumption) (by omega) (by omega) | exact rpv_out (by omega))⟩⟩

set_option maxHeartbeats 1000000 in
theorem t_X11_asks {K : Kmap} {V : Vmap} {x : Nat} {p0 : Int} {p1 : Int} {p2 : Int} (h_x : K x = some (0, 10)) (r_p0 : ir p0) (r_p1 : ir p1) (r_p2 : ir p2) (w_0 : PN V x) : MC mX11_asks K V [.ref x, ti p0, ti p1, ti p2] (IS K (fun X V1 => (X = 0 ∨ X = 1) ∧ (X ≠ 0 → True) ∧ (X = 0 → True) ∧ (ASC V V1 x p0 p1 p2 X))) := by
  refine MC.start 3 (by decide +kernel) rfl rfl rfl (ls0 := [some (.ref x), some (ti p0), some (ti p1), some (ti p2), none, none, none]) rfl ?_
  refine GO.useWT (fun hW_0 => ?_)
  have hz7 := (hW_0.int (show K (vq V x 16) = some (0, 25) from (hW_0.ref h_x (j := 16) (Nat.le_of_ble_eq_true rfl) rfl).2) (j := 3) (Nat.le_of_ble_eq_true rfl) rfl).2
  refine GO.aload_n dX11_asks_0 rfl rfl ?_
  refine GO.iload_n dX11_asks_1 rfl rfl ?_
  refine GO.callV (ci := 10) (N := mX11_partyOf) dX11_asks_2 (RX11, TX11, 20) rfl gV_RX11_151 h_x (t_X11_partyOf h_x r_p0) rfl [] rfl rfl (Nat.le_of_ble_eq_true rfl) rfl (k_rp (fun h3 => ?_) (fun o1 h2 h3 => ?_))
  ·
    have rwn2 := h3.2
    have hn4 : PN V x → p0 < 0 ∨ vi V x 4 ≤ p0 := h3.2
    have hnn5 := hn4 w_0
    refine GO.astoreN (ls1 := [some (.ref x), some (ti p0), some (ti p1), some (ti p2), some (.null), none, none]) dX11_asks_5 rfl rfl ?_
    refine GO.aloadN dX11_asks_7 rfl ?_
    refine GO.ifnullN (tgt := 44) dX11_asks_9 (by decide) ?_
    refine GO.iconst dX11_asks_44 ?_
    exact GO.retz rfl rfl dX11_asks_45 (Or.inl rfl) ⟨rfl, _, rfl, (ir_c rfl), ⟨Or.inl rfl, fun _ => trivial, fun _ => trivial, (by first | exact ASC.bar (by assumption) (by assumption) (by assumption) (by omega) (by omega) (by first | exact Or.inl ⟨rfl, cc64⟩ | exact Or.inr ⟨rfl, cc64⟩) | exact ASC.no (by omega))⟩⟩
  ·
    have hp6 : p0 ≥ 0 ∧ p0 < vi V x 4 := h3.1
    have rwp2 := h3.2
    have hq7 : o1 = vq V (vq V x 3) (p0).toNat := h3.2
    refine GO.astore (ls1 := [some (.ref x), some (ti p0), some (ti p1), some (ti p2), some (.ref o1), none, none]) dX11_asks_5 rfl rfl ?_
    refine GO.aload dX11_asks_7 rfl ?_
    refine GO.ifnull dX11_asks_9 ?_
    refine GO.aload_n dX11_asks_12 rfl rfl ?_
    refine GO.getR h_x fl_RX11_88 rfl rfl dX11_asks_13 (fun hv9 h8 => ?_)
    refine GO.iload_n dX11_asks_16 rfl rfl ?_
    refine GO.callV (ci := 25) (N := mX8_has_k25) dX11_asks_17 (RX8, TX8, 4) rfl gV_RX11_431 h8 (t_X8_has_k25 h8 r_p1) rfl [] rfl rfl (Nat.le_of_ble_eq_true rfl) rfl (k_ip fun X10 r11 h12 => ?_)
    refine GO.if_eq (tgt := 44) dX11_asks_20 (by decide) r11 (fun c13 => ?_) (fun c13 => ?_)
    ·
      have cc20 := c13
      have q14 := h12.2.2 (by omega)
      refine GO.iconst dX11_asks_44 ?_
      exact GO.retz rfl rfl dX11_asks_45 (Or.inl rfl) ⟨rfl, _, rfl, (ir_c rfl), ⟨Or.inl rfl, fun _ => trivial, fun _ => trivial, (by first | exact ASC.bar (by assumption) (by assumption) (by assumption) (by omega) (by omega) (by first | exact Or.inl ⟨rfl, cc64⟩ | exact Or.inr ⟨rfl, cc64⟩) | exact ASC.no (by omega))⟩⟩
    ·
      have cc20 := c13
      have q15 := h12.2.1 (by omega)
      refine GO.iload_n dX11_asks_23 rfl rfl ?_
      refine GO.iload_n dX11_asks_24 rfl rfl ?_
      refine GO.icmp_eq (tgt := 44) dX11_asks_25 (by decide) r_p2 r_p1 (fun c16 => ?_) (fun c16 => ?_)
      ·
        have cc25 := c16
        refine GO.iconst dX11_asks_44 ?_
        exact GO.retz rfl rfl dX11_asks_45 (Or.inl rfl) ⟨rfl, _, rfl, (ir_c rfl), ⟨Or.inl rfl, fun _ => trivial, fun _ => trivial, (by first | exact ASC.bar (by assumption) (by assumption) (by assumption) (by omega) (by omega) (by first | exact Or.inl ⟨rfl, cc64⟩ | exact Or.inr ⟨rfl, cc64⟩) | exact ASC.no (by omega))⟩⟩
      ·
        have cc25 := c16
        refine GO.iload_n dX11_asks_28 rfl rfl ?_
        refine GO.iconst dX11_asks_29 ?_
        refine GO.icmp_eq (tgt := 46) dX11_asks_30 (by decide) r_p2 (ir_c rfl) (fun c17 => ?_) (fun c17 => ?_)
        ·
          have cc30 := c17
          refine GO.iconst dX11_asks_46 ?_
          refine GO.iload_n dX11_asks_47 rfl rfl ?_
          refine GO.ishl dX11_asks_48 ?_
          refine GO.name (fun z18 hz19 => ?_)
          have r20 : ir z18 := hz19 ▸ wshl_ir
          refine GO.istore (ls1 := [some (.ref x), some (ti p0), some (ti p1), some (ti p2), some (.ref o1), some (ti z18), none]) dX11_asks_49 rfl rfl ?_
          refine GO.iload_n dX11_asks_51 rfl rfl ?_
          refine GO.iconst dX11_asks_52 ?_
          have q22 : -2147483648 ≤ p2 ∧ p2 ≤ 2147483647 := r_p2
          refine GO.icmp_ne (tgt := 89) dX11_asks_53 (by decide) r_p2 (ir_c rfl) (fun h => by exfalso; omega) (fun c21 => ?_)
          have cc53 := c21
          refine GO.aload dX11_asks_56 rfl ?_
          refine GO.getI h2 fl_RX11_575 rfl rfl dX11_asks_58 (fun _ _ => ?_)
          refine GO.iload dX11_asks_61 rfl ?_
          refine GO.iand dX11_asks_63 ?_
          refine GO.if_ne (tgt := 71) dX11_asks_64 (by decide) wand_ir (fun c23 => ?_) (fun c23 => ?_)
          ·
            have cc64 := c23
            refine GO.iconst dX11_asks_71 ?_
            refine GO.istore (ls1 := [some (.ref x), some (ti p0), some (ti p1), some (ti p2), some (.ref o1), some (ti z18), some (ti 0)]) dX11_asks_72 rfl rfl ?_
            refine GO.aload dX11_asks_74 rfl ?_
            refine GO.dup dX11_asks_76 rfl ?_
            refine GO.getI h2 fl_RX11_575 rfl rfl dX11_asks_77 (fun _ _ => ?_)
            refine GO.iload dX11_asks_80 rfl ?_
            refine GO.ior dX11_asks_82 ?_
            refine GO.putI h2 fp_RX11_575 rfl (by decide +kernel) wor_ir (wor_ir).1 (wor_ir).2 dX11_asks_83 (fun V25 e24 => ?_)
            refine GO.iload dX11_asks_86 rfl ?_
            exact GO.retz rfl rfl dX11_asks_88 (Or.inl rfl) ⟨rfl, _, rfl, (ir_c rfl), ⟨Or.inl rfl, fun _ => trivial, fun _ => trivial, (by first | exact ASC.bar (by assumption) (by assumption) (by assumption) (by omega) (by omega) (by first | exact Or.inl ⟨rfl, cc64⟩ | exact Or.inr ⟨rfl, cc64⟩) | exact ASC.no (by omega))⟩⟩
          ·
            have cc64 := c23
            refine GO.iconst dX11_asks_67 ?_
            refine GO.goto (tgt := 72) dX11_asks_68 (by decide) ?_
            refine GO.istore (ls1 := [some (.ref x), some (ti p0), some (ti p1), some (ti p2), some (.ref o1), some (ti z18), some (ti 1)]) dX11_asks_72 rfl rfl ?_
            refine GO.aload dX11_asks_74 rfl ?_
            refine GO.dup dX11_asks_76 rfl ?_
            refine GO.getI h2 fl_RX11_575 rfl rfl dX11_asks_77 (fun _ _ => ?_)
            refine GO.iload dX11_asks_80 rfl ?_
            refine GO.ior dX11_asks_82 ?_
            refine GO.putI h2 fp_RX11_575 rfl (by decide +kernel) wor_ir (wor_ir).1 (wor_ir).2 dX11_asks_83 (fun V27 e26 => ?_)
            refine GO.iload dX11_asks_86 rfl ?_
            exact GO.retz rfl rfl dX11_asks_88 (Or.inr rfl) ⟨rfl, _, rfl, (ir_c rfl), ⟨Or.inr rfl, fun _ => trivial, fun _ => trivial, (by first | exact ASC.bar (by assumption) (by assumption) (by assumption) (by omega) (by omega) (by first | exact Or.inl ⟨rfl, cc64⟩ | exact Or.inr ⟨rfl, cc64⟩) | exact ASC.no (by omega))⟩⟩
        ·
          have cc30 := c17
          refine GO.aload_n dX11_asks_33 rfl rfl ?_
          refine GO.getRaw h_x fl_RX11_88 hv9 dX11_asks_34 ?_
          refine GO.iload_n dX11_asks_37 rfl rfl ?_
          refine GO.callV (ci := 25) (N := mX8_has_k25) dX11_asks_38 (RX8, TX8, 4) rfl gV_RX11_431 h8 (t_X8_has_k25 h8 r_p2) rfl [] rfl rfl (Nat.le_of_ble_eq_true rfl) rfl (k_ip fun X30 r31 h32 => ?_)
          refine GO.if_ne (tgt := 46) dX11_asks_41 (by decide) r31 (fun c33 => ?_) (fun c33 => ?_)
          ·
            have cc41 := c33
            have q34 := h32.2.1 (by omega)
            refine GO.iconst dX11_asks_46 ?_
            refine GO.iload_n dX11_asks_47 rfl rfl ?_
            refine GO.ishl dX11_asks_48 ?_
            refine GO.name (fun z35 hz36 => ?_)
            have r37 : ir z35 := hz36 ▸ wshl_ir
            refine GO.istore (ls1 := [some (.ref x), some (ti p0), some (ti p1), some (ti p2), some (.ref o1), some (ti z35), none]) dX11_asks_49 rfl rfl ?_
            refine GO.iload_n dX11_asks_51 rfl rfl ?_
            refine GO.iconst dX11_asks_52 ?_
            have q39 : -2147483648 ≤ p2 ∧ p2 ≤ 2147483647 := r_p2
            have q40 : -2147483648 ≤ vi V (vq V x 16) 3 ∧ vi V (vq V x 16) 3 ≤ 2147483647 := vi_ir
            have q41 : -2147483648 ≤ p1 ∧ p1 ≤ 2147483647 := r_p1
            refine GO.icmp_ne (tgt := 89) dX11_asks_53 (by decide) r_p2 (ir_c rfl) (fun c38 => ?_) (fun h => by exfalso; omega)
            have cc53 := c38
            refine GO.aload dX11_asks_89 rfl ?_
            refine GO.getA (n := 7) h2 fl_RX11_578 rfl rfl rfl rfl dX11_asks_91 (fun hv43 h42 => ?_)
            refine GO.iload_n dX11_asks_94 rfl rfl ?_
            refine GO.callS (N := mX4_get) dX11_asks_95 gS_RX11_253 (t_X4_get rfl h42 r_p2) rfl [] rfl rfl (Nat.le_of_ble_eq_true rfl) rfl (k_ip fun X44 r45 h46 => ?_)
            have raw_get := h46.2
            have rw95 := h46.2
            refine GO.istore (ls1 := [some (.ref x), some (ti p0), some (ti p1), some (ti p2), some (.ref o1), some (ti z35), some (ti X44)]) dX11_asks_98 rfl rfl ?_
            refine GO.aload dX11_asks_100 rfl ?_
            refine GO.getRaw h2 fl_RX11_578 hv43 dX11_asks_102 ?_
            refine GO.iload_n dX11_asks_105 rfl rfl ?_
            refine GO.iload dX11_asks_106 rfl ?_
            refine GO.iload dX11_asks_108 rfl ?_
            refine GO.ior dX11_asks_110 ?_
            refine GO.callS (N := mX4_put_t124) dX11_asks_111 gS_RX11_108 (t_X4_put_t124 h42 r_p2 wor_ir) rfl [] rfl rfl (Nat.le_of_ble_eq_true rfl) rfl (k_vs fun V51 h50 hF49 => ?_)
            have raw_put := h50.2
            have rw111 := h50.2
            refine GO.iload dX11_asks_114 rfl ?_
            refine GO.iload dX11_asks_116 rfl ?_
            refine GO.iand dX11_asks_118 ?_
            refine GO.if_ne (tgt := 126) dX11_asks_119 (by decide) wand_ir (fun c52 => ?_) (fun c52 => ?_)
            ·
              have cc119 := c52
              refine GO.iconst dX11_asks_126 ?_
              exact GO.retz rfl rfl dX11_asks_127 (Or.inl rfl) ⟨rfl, _, rfl, (ir_c rfl), ⟨Or.inl rfl, fun _ => trivial, fun _ => trivial, (by first | exact ASC.wnt (by assumption) (by assumption) rw95 rw111 (by omega) (by omega) (by first | exact Or.inl ⟨rfl, cc119⟩ | exact Or.inr ⟨rfl, cc119⟩) | exact ASC.bar (by assumption) (by assumption) (by assumption) (by omega) (by omega) (by first | exact Or.inl ⟨rfl, cc64⟩ | exact Or.inr ⟨rfl, cc64⟩) | exact ASC.no (by omega))⟩⟩
            ·
              have cc119 := c52
              refine GO.iconst dX11_asks_122 ?_
              refine GO.goto (tgt := 127) dX11_asks_123 (by decide) ?_
              exact GO.retz rfl rfl dX11_asks_127 (Or.inr rfl) ⟨rfl, _, rfl, (ir_c rfl), ⟨Or.inr rfl, fun _ => trivial, fun _ => trivial, (by first | exact ASC.wnt (by assumption) (by assumption) rw95 rw111 (by omega) (by omega) (by first | exact Or.inl ⟨rfl, cc119⟩ | exact Or.inr ⟨rfl, cc119⟩) | exact ASC.bar (by assumption) (by assumption) (by assumption) (by omega) (by omega) (by first | exact Or.inl ⟨rfl, cc64⟩ | exact Or.inr ⟨rfl, cc64⟩) | exact ASC.no (by omega))⟩⟩
          ·
            have cc41 := c33
            have q53 := h32.2.2 (by omega)
            refine GO.iconst dX11_asks_44 ?_
            exact GO.retz rfl rfl dX11_asks_45 (Or.inl rfl) ⟨rfl, _, rfl, (ir_c rfl), ⟨Or.inl rfl, fun _ => trivial, fun _ => trivial, (by first | exact ASC.bar (by assumption) (by assumption) (by assumption) (by omega) (by omega) (by first | exact Or.inl ⟨rfl, cc64⟩ | exact Or.inr ⟨rfl, cc64⟩) | exact ASC.no (by omega))⟩⟩

set_option maxHeartbeats 1000000 in
theorem t_X11_blockers {K : Kmap} {V : Vmap} {x : Nat} {p0 : Int} (h_x : K x = some (0, 10)) (r_p0 : ir p0) (w_0 : PN V x) : MC mX11_blockers K V [.ref x, ti p0] (IP K V (fun X => (X ≥ (-2147483648) ∧ X ≤ 2147483647) ∧ (X = blk V x p0 (vi V x 4).toNat))) := by
  refine MC.start 3 (by decide +kernel) rfl rfl rfl (ls0 := [some (.ref x), some (ti p0), none, none, none]) rfl ?_
  refine GO.useWT (fun hW_0 => ?_)
  have hz4 := (hW_0.int h_x (j := 4) (Nat.le_of_ble_eq_true rfl) rfl).2
  refine GO.iconst dX11_blockers_0 ?_
  refine GO.istore_n (ls1 := [some (.ref x), some (ti p0), some (ti 0), none, none]) dX11_blockers_1 rfl rfl rfl ?_
  refine GO.iconst dX11_blockers_2 ?_
  refine GO.istore_n (ls1 := [some (.ref x), some (ti p0), some (ti 0), some (ti 0), none]) dX11_blockers_3 rfl rfl rfl ?_
  have q3 : -2147483648 ≤ vi V x 4 ∧ vi V x 4 ≤ 2147483647 := vi_ir
  refine GO.loop2 (fun i1 i2 W => (-2147483648) ≤ i1 ∧ i1 ≤ 2147483647 ∧ 0 ≤ i2 ∧ i2 ≤ 9 ∧ (i2 ≤ vi W x 4) ∧ (BKn W x p0 i1 i2) ∧ V = W) (fun i1 i2 => [some (.ref x), some (ti p0), some (ti i1), some (ti i2), none]) (fun i1 i2 W => (2147483647 - i2).toNat) 0 0 ⟨by omega, by omega, by omega, by omega, by omega, (by first | exact (by exfalso; omega) | exact BKn.nil), rfl⟩ rfl (fun i1 i2 V480 hp482 ih481 => ?_)
  obtain ⟨l_i1, u_i1, l_i2, u_i2, n_i1, hbk, rfl⟩ := hp482
  have r_i1 : ir i1 := ⟨by omega, by omega⟩
  have r_i2 : ir i2 := ⟨by omega, by omega⟩
  show GO mX11_blockers K V (IP K V (fun X => (X ≥ (-2147483648) ∧ X ≤ 2147483647) ∧ (X = blk V x p0 (vi V x 4).toNat))) K V 0 0 4 [some (.ref x), some (ti p0), some (ti i1), some (ti i2), none] []
  refine GO.iload_n dX11_blockers_4 rfl rfl ?_
  refine GO.aload_n dX11_blockers_5 rfl rfl ?_
  refine GO.getI h_x fl_RX11_36 rfl rfl dX11_blockers_6 (fun l483 u484 => ?_)
  refine GO.icmp_ge (tgt := 45) dX11_blockers_9 (by decide) r_i2 vi_ir (fun c485 => ?_) (fun c485 => ?_)
  ·
    refine GO.iload_n dX11_blockers_45 rfl rfl ?_
    exact GO.reti rfl rfl dX11_blockers_46 ⟨rfl, rfl, _, rfl, r_i1, ⟨(by first | exact trivial | omega), BKn.end hbk (by omega)⟩⟩
  ·
    refine GO.aload_n dX11_blockers_12 rfl rfl ?_
    refine GO.iload_n dX11_blockers_13 rfl rfl ?_
    refine GO.callV (ci := 10) (N := mX11_partyOf) dX11_blockers_14 (RX11, TX11, 20) rfl gV_RX11_151 h_x (t_X11_partyOf h_x r_i2) rfl [] rfl rfl (Nat.le_of_ble_eq_true rfl) rfl (k_rp (fun h488 => ?_) (fun o486 h487 h488 => ?_))
    ·
      have rwn14 := h488.2
      have hn489 : PN V x → i2 < 0 ∨ vi V x 4 ≤ i2 := h488.2
      have hnn490 := hn489 w_0
      refine GO.astoreN (ls1 := [some (.ref x), some (ti p0), some (ti i1), some (ti i2), some (.null)]) dX11_blockers_17 rfl rfl ?_
      refine GO.aloadN dX11_blockers_19 rfl ?_
      refine GO.ifnullN (tgt := 39) dX11_blockers_21 (by decide) ?_
      refine GO.iinc (X := i2) (n := 1) (Y := i2 + 1) (ls1 := [some (.ref x), some (ti p0), some (ti i1), some (ti (i2 + 1)), some (.null)]) dX11_blockers_39 rfl rfl rfl rfl ?_
      refine GO.goto (tgt := 4) dX11_blockers_42 (by decide) ?_
      refine GO.drop [true, true, true, true, false] rfl ?_
      exact ih481 i1 (i2 + 1) V ⟨by omega, by omega, by omega, by omega, by omega, (by first | exact (by exfalso; omega) | exact BKn.nil), rfl⟩ (by show (2147483647 - (i2 + 1)).toNat < (2147483647 - i2).toNat; omega)
    ·
      have hp491 : i2 ≥ 0 ∧ i2 < vi V x 4 := h488.1
      have rwp14 := h488.2
      have hq492 : o486 = vq V (vq V x 3) (i2).toNat := h488.2
      refine GO.astore (ls1 := [some (.ref x), some (ti p0), some (ti i1), some (ti i2), some (.ref o486)]) dX11_blockers_17 rfl rfl ?_
      refine GO.aload dX11_blockers_19 rfl ?_
      refine GO.ifnull dX11_blockers_21 ?_
      refine GO.aload dX11_blockers_24 rfl ?_
      refine GO.iload_n dX11_blockers_26 rfl rfl ?_
      refine GO.callV (ci := 2) (N := mX2_blocksWords) dX11_blockers_27 (RX2, TX2, 5) rfl gV_RX11_587 h487 (t_X2_blocksWords h487 r_p0) rfl [] rfl rfl (Nat.le_of_ble_eq_true rfl) rfl (k_ip fun X493 r494 h495 => ?_)
      have raw_blocksWords := h495.2.2.2
      have rw27 := h495.2.2.2
      refine GO.if_eq (tgt := 39) dX11_blockers_30 (by decide) r494 (fun c496 => ?_) (fun c496 => ?_)
      ·
        refine GO.iinc (X := i2) (n := 1) (Y := i2 + 1) (ls1 := [some (.ref x), some (ti p0), some (ti i1), some (ti (i2 + 1)), some (.ref o486)]) dX11_blockers_39 rfl rfl rfl rfl ?_
        refine GO.goto (tgt := 4) dX11_blockers_42 (by decide) ?_
        refine GO.drop [true, true, true, true, false] rfl ?_
        exact ih481 i1 (i2 + 1) V ⟨by omega, by omega, by omega, by omega, by omega, (by first | exact BKn.yes hbk rw27 (by omega) (by assumption) (by omega) (by assumption) | exact BKn.no hbk rw27 (by omega) (by omega) (by assumption) | exact (by exfalso; omega) | exact BKn.nil), rfl⟩ (by show (2147483647 - (i2 + 1)).toNat < (2147483647 - i2).toNat; omega)
      ·
        refine GO.iload_n dX11_blockers_33 rfl rfl ?_
        refine GO.iconst dX11_blockers_34 ?_
        refine GO.iload_n dX11_blockers_35 rfl rfl ?_
        refine GO.ishl dX11_blockers_36 ?_
        refine GO.ior dX11_blockers_37 ?_
        refine GO.name (fun z497 hz498 => ?_)
        have r499 : ir z497 := hz498 ▸ wor_ir
        refine GO.istore_n (ls1 := [some (.ref x), some (ti p0), some (ti z497), some (ti i2), some (.ref o486)]) dX11_blockers_38 rfl rfl rfl ?_
        refine GO.iinc (X := i2) (n := 1) (Y := i2 + 1) (ls1 := [some (.ref x), some (ti p0), some (ti z497), some (ti (i2 + 1)), some (.ref o486)]) dX11_blockers_39 rfl rfl rfl rfl ?_
        refine GO.goto (tgt := 4) dX11_blockers_42 (by decide) ?_
        refine GO.drop [true, true, true, true, false] rfl ?_
        have q500 : -2147483648 ≤ z497 ∧ z497 ≤ 2147483647 := r499
        have q501 : -2147483648 ≤ wor i1 (wshl 1 i2) ∧ wor i1 (wshl 1 i2) ≤ 2147483647 := wor_ir
        exact ih481 z497 (i2 + 1) V ⟨by omega, by omega, by omega, by omega, by omega, (by first | exact BKn.yes hbk rw27 (by omega) (by assumption) (by omega) (by assumption) | exact BKn.no hbk rw27 (by omega) (by omega) (by assumption) | exact (by exfalso; omega) | exact BKn.nil), rfl⟩ (by show (2147483647 - (i2 + 1)).toNat < (2147483647 - i2).toNat; omega)

set_option maxHeartbeats 1000000 in
theorem t_X11_blocks {K : Kmap} {V : Vmap} {x : Nat} {p0 : Int} (h_x : K x = some (0, 10)) (r_p0 : ir p0) (w_0 : PN V x) : MC mX11_blocks K V [.ref x, ti p0] (IP K V (fun X => (X ≥ (-2147483648) ∧ X ≤ 2147483647) ∧ (BKS V x p0 X))) := by
  refine MC.start 0 (by decide +kernel) rfl rfl rfl (ls0 := [some (.ref x), some (ti p0)]) rfl ?_
  refine GO.iload_n dX11_blocks_0 rfl rfl ?_
  refine GO.iconst dX11_blocks_1 ?_
  refine GO.iconst dX11_blocks_2 ?_
  refine GO.aload_n dX11_blocks_3 rfl rfl ?_
  refine GO.getR h_x fl_RX11_88 rfl rfl dX11_blocks_4 (fun hv2 h1 => ?_)
  refine GO.getI h1 fl_RX11_199_k25 rfl rfl dX11_blocks_7 (fun l3 u4 => ?_)
  refine GO.ishl dX11_blocks_10 ?_
  refine GO.iconst dX11_blocks_11 ?_
  refine GO.isub dX11_blocks_12 ?_
  refine GO.norm (fun z5 r6 hn7 => ?_)
  refine GO.callS (N := mX11_between) dX11_blocks_13 gS_RX11_112 (t_X11_between r_p0 (ir_c rfl) r6) rfl [] rfl rfl (Nat.le_of_ble_eq_true rfl) rfl (k_ip fun X8 r9 h10 => ?_)
  refine GO.if_eq (tgt := 27) dX11_blocks_16 (by decide) r9 (fun c11 => ?_) (fun c11 => ?_)
  ·
    have q12 := h10.2.2 (by omega)
    refine GO.iconst dX11_blocks_27 ?_
    exact GO.reti rfl rfl dX11_blocks_28 ⟨rfl, rfl, _, rfl, (ir_c rfl), ⟨(by first | exact trivial | omega), (by first | exact BKS.out (Y := vi V (vq V x 16) 3) rfl (by omega) (by omega) (by assumption) (by omega))⟩⟩
  ·
    have q13 := h10.2.1 (by omega)
    refine GO.aload_n dX11_blocks_19 rfl rfl ?_
    refine GO.iload_n dX11_blocks_20 rfl rfl ?_
    refine GO.callV (ci := 10) (N := mX11_blockers) dX11_blocks_21 (RX11, TX11, 20) rfl gV_RX11_581 h_x (t_X11_blockers h_x r_p0 (w_0)) rfl [] rfl rfl (Nat.le_of_ble_eq_true rfl) rfl (k_ip fun X14 r15 h16 => ?_)
    have raw_blockers := h16.2
    have rw21 := h16.2
    refine GO.goto (tgt := 28) dX11_blocks_24 (by decide) ?_
    exact GO.reti rfl rfl dX11_blocks_28 ⟨rfl, rfl, _, rfl, r15, ⟨(by first | exact trivial | omega), (by first | exact BKS.in (Y := vi V (vq V x 16) 3) rfl (by omega) (by omega) (by assumption) (by omega) (by omega) rw21 | exact BKS.out (Y := vi V (vq V x 16) 3) rfl (by omega) (by omega) (by assumption) (by omega))⟩⟩
