def mX11_why : MRec := (RX11, cX11_why, 6, (some .int), yX11_why, 6, 151, 0, 0, 619739970740858061517420601280722849839129390279013643079358245569755429284041886711114884787233079544616761273459458703360)
def mX11_whose : MRec := (RX11, cX11_whose, 9, (some .int), yX11_whose, 5, 127, 0, 0, 123947994148171612303484120256144569967825878055802728615871649113951085856808377342222976957446615908923352254691881254912)
def mX11_ship : MRec := (RX11, cX11_ship, 4, (some .int), yX11_ship, 2, 35, 1, 11, 265568996408383549344794103276234313664796558863515961599722069100201779930426121369581251132614643320111887799555518237538766374706080280306469752418823026032334923597334222859141120)
def mX11_isSea : MRec := (RX11, cX11_isSea, 1, (some .boolean), yX11_isSea, 1, 22, 0, 0, 0)
def mX4_put_t131 : MRec := (RX4, cX4_put, 3, (none : Option Jvm.ClassFile.FieldType), yX4_put, 0, 0, 0, 0, 10328999512347634358623676688012047497318823171316894051322637426162590488067364778518581413120551325743612687890989973504)
def mX11_cover : MRec := (RX11, cX11_cover, 4, (some .boolean), yX11_cover, 2, 42, 0, 0, 10328999512347634358623676688012047497318823171316894051322637426162590488067364778518581413120551325743612687890989973504)
def mX4_put_t132 : MRec := (RX4, cX4_put, 3, (none : Option Jvm.ClassFile.FieldType), yX4_put, 0, 0, 0, 0, 20657999024695268717247353376024094994637646342633788102645274852325180976134729557037162826241102651487225375781979947008)
def mX11_sea : MRec := (RX11, cX11_sea, 3, (some .boolean), yX11_sea, 2, 42, 0, 0, 20657999024695268717247353376024094994637646342633788102645274852325180976134729557037162826241102651487225375781979947008)
def mX11_shipOf : MRec := (RX11, cX11_shipOf, 2, (some (.object "IceTreaty$Ship")), yX11_shipOf, 0, 0, 0, 0, 0)
def mX11_voyage : MRec := (RX11, cX11_voyage, 7, (some .boolean), yX11_voyage, 3, 69, 0, 0, 7588550360256754183279148073529370729071901715047420004889927495717263796745535488)
def mX8_isFull_k27 : MRec := (RX8, cX8_isFull, 1, (some .boolean), yX8_isFull, 0, 0, 0, 0, 0)
def mX8_put_k27 : MRec := (RX8, cX8_put, 6, (none : Option Jvm.ClassFile.FieldType), yX8_put, 0, 0, 0, 0, 2707685248164858261307045101702230179137145581421695874189921465443966120903931272499975005961073806735733604454495675614232576)
def mX8_append_k27 : MRec := (RX8, cX8_append, 7, (some .int), yX8_append, 1, 25, 0, 0, 149502054158244092924433911175587146134101311725520811805218980426523451386779188765884012308292727730176730337253122960452521666231495796292864110055930014495647322563243897617920076027212326764544)
set_option maxHeartbeats 1000000 in
theorem t_X11_why {K : Kmap} {V : Vmap} {x : Nat} {p0 : Int} {p1 : Int} {p2 : Int} {p3 : Int} (h_x : K x = some (0, 10)) (r_p0 : ir p0) (r_p1 : ir p1) (r_p2 : ir p2) (z_p2 : p2 = 0 ∨ p2 = 1) (r_p3 : ir p3) (w_0 : CWI K V x) : MC mX11_why K V [.ref x, ti p0, ti p1, ti p2, ti p3] (IS K (fun X V1 => (True) ∧ (CWI K V1 x))) := by
  refine MC.start 1 (by decide +kernel) rfl rfl rfl (ls0 := [some (.ref x), some (ti p0), some (ti p1), some (ti p2), some (ti p3), none]) rfl ?_
  refine GO.useWT (fun hW_0 => ?_)
  refine GO.aload_n dX11_why_0 rfl rfl ?_
  refine GO.iload_n dX11_why_1 rfl rfl ?_
  refine GO.callV (ci := 10) (N := mX11_workOf) dX11_why_2 (RX11, TX11, 20) rfl gV_RX11_309 h_x (t_X11_workOf h_x r_p0) rfl [] rfl rfl (Nat.le_of_ble_eq_true rfl) rfl (k_rp (fun h3 => ?_) (fun o1 h2 h3 => ?_))
  ·
    have rwn2 := h3.2
    have hn4 : NN 8 7 V x → p0 < 0 ∨ vi V x 8 ≤ p0 := h3.2
    refine GO.astoreN (ls1 := [some (.ref x), some (ti p0), some (ti p1), some (ti p2), some (ti p3), some (.null)]) dX11_why_5 rfl rfl ?_
    refine GO.aloadN dX11_why_7 rfl ?_
    refine GO.ifnullN (tgt := 29) dX11_why_9 (by decide) ?_
    refine GO.iconst dX11_why_29 ?_
    exact GO.reti rfl rfl dX11_why_30 ⟨rfl, _, rfl, (ir_c rfl), ⟨(by first | exact trivial | omega), (by first | exact w_0)⟩⟩
  ·
    have hp5 : p0 ≥ 0 ∧ p0 < vi V x 8 := h3.1
    have rwp2 := h3.2
    have hq6 : o1 = wkO V x (p0).toNat ∧ 0 ≤ p0 ∧ p0 < vi V x 8 := h3.2
    refine GO.astore (ls1 := [some (.ref x), some (ti p0), some (ti p1), some (ti p2), some (ti p3), some (.ref o1)]) dX11_why_5 rfl rfl ?_
    refine GO.aload dX11_why_7 rfl ?_
    refine GO.ifnull dX11_why_9 ?_
    refine GO.iload_n dX11_why_12 rfl rfl ?_
    refine GO.callS (N := mX11_isDay) dX11_why_13 gS_RX11_276 (t_X11_isDay r_p1) rfl [] rfl rfl (Nat.le_of_ble_eq_true rfl) rfl (k_ip fun X7 r8 h9 => ?_)
    refine GO.if_eq (tgt := 29) dX11_why_16 (by decide) r8 (fun c10 => ?_) (fun c10 => ?_)
    ·
      have q11 := h9.2.2 (by omega)
      refine GO.iconst dX11_why_29 ?_
      exact GO.reti rfl rfl dX11_why_30 ⟨rfl, _, rfl, (ir_c rfl), ⟨(by first | exact trivial | omega), (by first | exact w_0)⟩⟩
    ·
      have q12 := h9.2.1 (by omega)
      refine GO.iload dX11_why_19 rfl ?_
      refine GO.iconst dX11_why_21 ?_
      refine GO.iconst dX11_why_22 ?_
      refine GO.callS (N := mX11_between) dX11_why_23 gS_RX11_112 (t_X11_between r_p3 (ir_c rfl) (ir_c rfl)) rfl [] rfl rfl (Nat.le_of_ble_eq_true rfl) rfl (k_ip fun X13 r14 h15 => ?_)
      refine GO.if_ne (tgt := 31) dX11_why_26 (by decide) r14 (fun c16 => ?_) (fun c16 => ?_)
      ·
        have q17 := h15.2.1 (by omega)
        refine GO.aload_n dX11_why_31 rfl rfl ?_
        refine GO.aload dX11_why_32 rfl ?_
        refine GO.iload_n dX11_why_34 rfl rfl ?_
        refine GO.iload_n dX11_why_35 rfl rfl ?_
        refine GO.callV (ci := 10) (N := mX11_judge) dX11_why_36 (RX11, TX11, 20) rfl gV_RX11_331 h_x (t_X11_judge h_x h2 r_p1 r_p2 (by omega) (w_0)) rfl [] rfl rfl (Nat.le_of_ble_eq_true rfl) rfl (k_is fun X18 V22 r19 h20 hF21 => ?_)
        have raw_judge := h20.2
        have rw36 := h20.2
        refine GO.pop dX11_why_39 rfl ?_
        refine GO.iload dX11_why_40 rfl ?_
        refine GO.if_ne (tgt := 55) dX11_why_42 (by decide) r_p3 (fun c23 => ?_) (fun c23 => ?_)
        ·
          refine GO.aload_n dX11_why_55 rfl rfl ?_
          refine GO.getR h_x fl_RX11_19 rfl rfl dX11_why_56 (fun hv25 h24 => ?_)
          refine GO.getI h24 fl_RX11_338 rfl rfl dX11_why_59 (fun _ _ => ?_)
          have q26 : -2147483648 ≤ vi V22 (vq V22 x 1) 12 ∧ vi V22 (vq V22 x 1) 12 ≤ 2147483647 := vi_ir
          exact GO.reti rfl rfl dX11_why_62 ⟨rfl, _, rfl, vi_ir, ⟨(by first | exact trivial | omega), (by first | exact w_0 | exact rw36)⟩⟩
        ·
          refine GO.aload_n dX11_why_45 rfl rfl ?_
          refine GO.getR h_x fl_RX11_19 rfl rfl dX11_why_46 (fun hv28 h27 => ?_)
          refine GO.getI h27 fl_RX11_335 rfl rfl dX11_why_49 (fun _ _ => ?_)
          refine GO.goto (tgt := 62) dX11_why_52 (by decide) ?_
          have q29 : -2147483648 ≤ vi V22 (vq V22 x 1) 11 ∧ vi V22 (vq V22 x 1) 11 ≤ 2147483647 := vi_ir
          exact GO.reti rfl rfl dX11_why_62 ⟨rfl, _, rfl, vi_ir, ⟨(by first | exact trivial | omega), (by first | exact w_0 | exact rw36)⟩⟩
      ·
        have q30 := h15.2.2 (by omega)
        refine GO.iconst dX11_why_29 ?_
        exact GO.reti rfl rfl dX11_why_30 ⟨rfl, _, rfl, (ir_c rfl), ⟨(by first | exact trivial | omega), (by first | exact w_0)⟩⟩

set_option maxHeartbeats 1000000 in
theorem t_X11_whose {K : Kmap} {V : Vmap} {x : Nat} {p0 : Int} {p1 : Int} (h_x : K x = some (0, 10)) (r_p0 : ir p0) (r_p1 : ir p1) (w_0 : CWI K V x) : MC mX11_whose K V [.ref x, ti p0, ti p1] (IS K (fun X V1 => (True) ∧ (CWI K V1 x))) := by
  refine MC.start 6 (by decide +kernel) rfl rfl rfl (ls0 := [some (.ref x), some (ti p0), some (ti p1), none, none, none, none, none, none]) rfl ?_
  refine GO.useWT (fun hW_0 => ?_)
  refine GO.aload_n dX11_whose_0 rfl rfl ?_
  refine GO.iload_n dX11_whose_1 rfl rfl ?_
  refine GO.callV (ci := 10) (N := mX11_partyOf) dX11_whose_2 (RX11, TX11, 20) rfl gV_RX11_151 h_x (t_X11_partyOf h_x r_p0) rfl [] rfl rfl (Nat.le_of_ble_eq_true rfl) rfl (k_rp (fun h3 => ?_) (fun o1 h2 h3 => ?_))
  ·
    have rwn2 := h3.2
    have hn4 : PN V x → p0 < 0 ∨ vi V x 4 ≤ p0 := h3.2
    refine GO.astore_nN (ls1 := [some (.ref x), some (ti p0), some (ti p1), some (.null), none, none, none, none, none]) dX11_whose_5 rfl rfl rfl ?_
    refine GO.aload_nN dX11_whose_6 rfl rfl ?_
    refine GO.ifnullN (tgt := 21) dX11_whose_7 (by decide) ?_
    refine GO.iconst dX11_whose_21 ?_
    exact GO.reti rfl rfl dX11_whose_22 ⟨rfl, _, rfl, (ir_c rfl), ⟨(by first | exact trivial | omega), (by first | exact w_0)⟩⟩
  ·
    have hp5 : p0 ≥ 0 ∧ p0 < vi V x 4 := h3.1
    have rwp2 := h3.2
    have hq6 : o1 = vq V (vq V x 3) (p0).toNat := h3.2
    refine GO.astore_n (ls1 := [some (.ref x), some (ti p0), some (ti p1), some (.ref o1), none, none, none, none, none]) dX11_whose_5 rfl rfl rfl ?_
    refine GO.aload_n dX11_whose_6 rfl rfl ?_
    refine GO.ifnull dX11_whose_7 ?_
    refine GO.aload_n dX11_whose_10 rfl rfl ?_
    refine GO.getR h_x fl_RX11_12 rfl rfl dX11_whose_11 (fun hv8 h7 => ?_)
    refine GO.iload_n dX11_whose_14 rfl rfl ?_
    refine GO.callV (ci := 0) (N := mX0_isCell) dX11_whose_15 (RX0, TX0, 13) rfl gV_RX11_119 h7 (t_X0_isCell h7 r_p1) rfl [] rfl rfl (Nat.le_of_ble_eq_true rfl) rfl (k_ip fun X9 r10 h11 => ?_)
    have raw_isCell := h11.2.2.2
    have rw15 := h11.2.2.2
    refine GO.if_ne (tgt := 23) dX11_whose_18 (by decide) r10 (fun c12 => ?_) (fun c12 => ?_)
    ·
      refine GO.aload_n dX11_whose_23 rfl rfl ?_
      refine GO.getR h_x fl_RX11_19 rfl rfl dX11_whose_24 (fun hv14 h13 => ?_)
      refine GO.iload_n dX11_whose_27 rfl rfl ?_
      refine GO.aload_n dX11_whose_28 rfl rfl ?_
      refine GO.aload_n dX11_whose_29 rfl rfl ?_
      refine GO.getRaw h_x fl_RX11_12 hv8 dX11_whose_30 ?_
      refine GO.getI h7 fl_RX11_145 rfl rfl dX11_whose_33 (fun l17 u18 => ?_)
      refine GO.callV (ci := 1) (N := mX1_weigh) dX11_whose_36 (RX1, TX1, 13) rfl gV_RX11_279 h13 (t_X1_weigh h13 r_p0 h2 vi_ir) rfl [] rfl rfl (Nat.le_of_ble_eq_true rfl) rfl (k_vs fun V21 h20 hF19 => ?_)
      have raw_weigh := h20.2
      have rw36 := h20.2
      have hcw := CWI.weigh w_0 rw36 rfl rwp2 ⟨by omega, by omega⟩ hF19 hW_0 h_x (by decide +kernel) (by decide +kernel)
      refine GO.iconst dX11_whose_39 ?_
      refine GO.aload_n dX11_whose_40 rfl rfl ?_
      refine GO.getRaw h_x fl_RX11_19 (Eq.trans (hF19 _ _ _ h_x h_x (by decide +kernel)) hv14) dX11_whose_41 ?_
      refine GO.bipush dX11_whose_44 rfl ?_
      refine GO.iconst dX11_whose_46 ?_
      refine GO.iconst dX11_whose_47 ?_
      refine GO.callV (ci := 1) (N := mX1_numberOf) dX11_whose_48 (RX1, TX1, 13) rfl gV_RX11_292 h13 (t_X1_numberOf h13 (ir_c rfl) (ir_c rfl) (ir_c rfl)) rfl [ti 0] rfl rfl (Nat.le_of_ble_eq_true rfl) rfl (k_ip fun X24 r25 h26 => ?_)
      have raw_numberOf := h26.2
      have rw48 := h26.2
      refine GO.callS (N := mJ9_max_7cf53) dX11_whose_51 gS_RX11_296 (t_J9_max_7cf53 (ir_c rfl) r25) rfl [] rfl rfl (Nat.le_of_ble_eq_true rfl) rfl (k_ip fun X27 r28 h29 => ?_)
      have q30 : -2147483648 ≤ X27 ∧ X27 ≤ 2147483647 := r28
      refine GO.istore (ls1 := [some (.ref x), some (ti p0), some (ti p1), some (.ref o1), some (ti X27), none, none, none, none]) dX11_whose_54 rfl rfl ?_
      refine GO.aload_n dX11_whose_56 rfl rfl ?_
      refine GO.aload_n dX11_whose_57 rfl rfl ?_
      refine GO.getRaw h_x fl_RX11_12 (Eq.trans (hF19 _ _ _ h_x h_x (by decide +kernel)) hv8) dX11_whose_58 ?_
      refine GO.getI h7 fl_RX11_145 rfl rfl dX11_whose_61 (fun l33 u34 => ?_)
      refine GO.callV (ci := 2) (N := mX2_decidesOn) dX11_whose_64 (RX2, TX2, 5) rfl gV_RX11_301 h2 (t_X2_decidesOn h2 vi_ir) rfl [] rfl rfl (Nat.le_of_ble_eq_true rfl) rfl (k_ip fun X35 r36 h37 => ?_)
      refine GO.if_eq (tgt := 87) dX11_whose_67 (by decide) r36 (fun c38 => ?_) (fun c38 => ?_)
      ·
        refine GO.bipush dX11_whose_87 rfl ?_
        exact GO.reti rfl rfl dX11_whose_89 ⟨rfl, _, rfl, (ir_c rfl), ⟨(by first | exact trivial | omega), (by first | exact w_0 | exact hcw.1)⟩⟩
      ·
        refine GO.aload_n dX11_whose_70 rfl rfl ?_
        refine GO.getRaw h_x fl_RX11_12 (Eq.trans (hF19 _ _ _ h_x h_x (by decide +kernel)) hv8) dX11_whose_71 ?_
        refine GO.getI h7 fl_RX11_145 rfl rfl dX11_whose_74 (fun l41 u42 => ?_)
        refine GO.aload_n dX11_whose_77 rfl rfl ?_
        refine GO.getI h2 fl_RX11_341 rfl rfl dX11_whose_78 (fun _ _ => ?_)
        refine GO.isub dX11_whose_81 ?_
        refine GO.norm (fun z43 r44 hn45 => ?_)
        refine GO.iload dX11_whose_82 rfl ?_
        refine GO.icmp_ge (tgt := 90) dX11_whose_84 (by decide) r44 r28 (fun c46 => ?_) (fun c46 => ?_)
        ·
          refine GO.iconst dX11_whose_90 ?_
          refine GO.istore (ls1 := [some (.ref x), some (ti p0), some (ti p1), some (.ref o1), some (ti X27), some (ti (-1)), none, none, none]) dX11_whose_91 rfl rfl ?_
          refine GO.iconst dX11_whose_93 ?_
          refine GO.istore (ls1 := [some (.ref x), some (ti p0), some (ti p1), some (.ref o1), some (ti X27), some (ti (-1)), some (ti (-1)), none, none]) dX11_whose_94 rfl rfl ?_
          refine GO.iconst dX11_whose_96 ?_
          refine GO.istore (ls1 := [some (.ref x), some (ti p0), some (ti p1), some (.ref o1), some (ti X27), some (ti (-1)), some (ti (-1)), some (ti 0), none]) dX11_whose_97 rfl rfl ?_
          refine GO.loop3 (fun i47 i48 i49 W => (-1) ≤ i47 ∧ i47 ≤ 59 ∧ (-1) ≤ i48 ∧ i48 ≤ 2147483647 ∧ 0 ≤ i49 ∧ i49 ≤ 60 ∧ V21 = W) (fun i47 i48 i49 => [some (.ref x), some (ti p0), some (ti p1), some (.ref o1), some (ti X27), some (ti i47), some (ti i48), some (ti i49), none]) (fun i47 i48 i49 W => (2147483647 - i49).toNat) (-1) (-1) 0 ⟨by omega, by omega, by omega, by omega, by omega, by omega, rfl⟩ rfl (fun i47 i48 i49 V610 hp612 ih611 => ?_)
          obtain ⟨l_i47, u_i47, l_i48, u_i48, l_i49, u_i49, rfl⟩ := hp612
          have r_i47 : ir i47 := ⟨by omega, by omega⟩
          have r_i48 : ir i48 := ⟨by omega, by omega⟩
          have r_i49 : ir i49 := ⟨by omega, by omega⟩
          show GO mX11_whose K V (IS K (fun X V1 => (True) ∧ (CWI K V1 x))) K V21 0 0 99 [some (.ref x), some (ti p0), some (ti p1), some (.ref o1), some (ti X27), some (ti i47), some (ti i48), some (ti i49), none] []
          refine GO.iload dX11_whose_99 rfl ?_
          refine GO.aload_n dX11_whose_101 rfl rfl ?_
          refine GO.getI h_x fl_RX11_46 rfl rfl dX11_whose_102 (fun l613 u614 => ?_)
          refine GO.icmp_ge (tgt := 170) dX11_whose_105 (by decide) r_i49 vi_ir (fun c616 => ?_) (fun c616 => ?_)
          ·
            refine GO.iload dX11_whose_170 rfl ?_
            exact GO.reti rfl rfl dX11_whose_172 ⟨rfl, _, rfl, r_i47, ⟨(by first | exact trivial | omega), (by first | exact w_0 | exact hcw.1)⟩⟩
          ·
            refine GO.aload_n dX11_whose_108 rfl rfl ?_
            refine GO.iload dX11_whose_109 rfl ?_
            refine GO.iconst dX11_whose_111 ?_
            refine GO.callV (ci := 10) (N := mX11_placeOf) dX11_whose_112 (RX11, TX11, 20) rfl gV_RX11_169 h_x (t_X11_placeOf h_x r_i49 (ir_c rfl)) rfl [] rfl rfl (Nat.le_of_ble_eq_true rfl) rfl (k_rp (fun h619 => ?_) (fun o617 h618 h619 => ?_))
            ·
              have rwn112 := h619.2
              have hn620 : NN 6 5 V21 x → ¬ PK V21 x i49 0 := h619.2
              refine GO.astoreN (ls1 := [some (.ref x), some (ti p0), some (ti p1), some (.ref o1), some (ti X27), some (ti i47), some (ti i48), some (ti i49), some (.null)]) dX11_whose_115 rfl rfl ?_
              refine GO.aloadN dX11_whose_117 rfl ?_
              refine GO.ifnullN (tgt := 164) dX11_whose_119 (by decide) ?_
              refine GO.iinc (X := i49) (n := 1) (Y := i49 + 1) (ls1 := [some (.ref x), some (ti p0), some (ti p1), some (.ref o1), some (ti X27), some (ti i47), some (ti i48), some (ti (i49 + 1)), some (.null)]) dX11_whose_164 rfl rfl rfl rfl ?_
              refine GO.goto (tgt := 99) dX11_whose_167 (by decide) ?_
              refine GO.drop [true, true, true, true, true, true, true, true, false] rfl ?_
              exact ih611 i47 i48 (i49 + 1) V21 ⟨by omega, by omega, by omega, by omega, by omega, by omega, rfl⟩ (by show (2147483647 - (i49 + 1)).toNat < (2147483647 - i49).toNat; omega)
            ·
              have hp621 : i49 ≥ 0 ∧ i49 < vi V21 x 6 := h619.1
              have rwp112 := h619.2
              have hq622 : o617 = plO V21 x (i49).toNat ∧ PK V21 x i49 0 := h619.2
              refine GO.astore (ls1 := [some (.ref x), some (ti p0), some (ti p1), some (.ref o1), some (ti X27), some (ti i47), some (ti i48), some (ti i49), some (.ref o617)]) dX11_whose_115 rfl rfl ?_
              refine GO.aload dX11_whose_117 rfl ?_
              refine GO.ifnull dX11_whose_119 ?_
              refine GO.aload dX11_whose_122 rfl ?_
              refine GO.getI h618 fl_RX11_176 rfl rfl dX11_whose_124 (fun _ _ => ?_)
              refine GO.iload dX11_whose_127 rfl ?_
              refine GO.icmp_le (tgt := 164) dX11_whose_129 (by decide) vi_ir r_i48 (fun c623 => ?_) (fun c623 => ?_)
              ·
                refine GO.iinc (X := i49) (n := 1) (Y := i49 + 1) (ls1 := [some (.ref x), some (ti p0), some (ti p1), some (.ref o1), some (ti X27), some (ti i47), some (ti i48), some (ti (i49 + 1)), some (.ref o617)]) dX11_whose_164 rfl rfl rfl rfl ?_
                refine GO.goto (tgt := 99) dX11_whose_167 (by decide) ?_
                refine GO.drop [true, true, true, true, true, true, true, true, false] rfl ?_
                have q624 : -2147483648 ≤ vi V21 o617 4 ∧ vi V21 o617 4 ≤ 2147483647 := vi_ir
                exact ih611 i47 i48 (i49 + 1) V21 ⟨by omega, by omega, by omega, by omega, by omega, by omega, rfl⟩ (by show (2147483647 - (i49 + 1)).toNat < (2147483647 - i49).toNat; omega)
              ·
                refine GO.aload_n dX11_whose_132 rfl rfl ?_
                refine GO.getRaw h_x fl_RX11_12 (Eq.trans (hF19 _ _ _ h_x h_x (by decide +kernel)) hv8) dX11_whose_133 ?_
                refine GO.iload_n dX11_whose_136 rfl rfl ?_
                refine GO.aload dX11_whose_137 rfl ?_
                refine GO.getI h618 fl_RX11_344 rfl rfl dX11_whose_139 (fun _ _ => ?_)
                refine GO.aload dX11_whose_142 rfl ?_
                refine GO.getI h618 fl_RX11_347 rfl rfl dX11_whose_144 (fun _ _ => ?_)
                refine GO.callV (ci := 0) (N := mX0_isWithin) dX11_whose_147 (RX0, TX0, 13) rfl gV_RX11_350 h7 (t_X0_isWithin h7 r_p1 vi_ir vi_ir) rfl [] rfl rfl (Nat.le_of_ble_eq_true rfl) rfl (k_ip fun X627 r628 h629 => ?_)
                refine GO.if_eq (tgt := 164) dX11_whose_150 (by decide) r628 (fun c630 => ?_) (fun c630 => ?_)
                ·
                  refine GO.iinc (X := i49) (n := 1) (Y := i49 + 1) (ls1 := [some (.ref x), some (ti p0), some (ti p1), some (.ref o1), some (ti X27), some (ti i47), some (ti i48), some (ti (i49 + 1)), some (.ref o617)]) dX11_whose_164 rfl rfl rfl rfl ?_
                  refine GO.goto (tgt := 99) dX11_whose_167 (by decide) ?_
                  refine GO.drop [true, true, true, true, true, true, true, true, false] rfl ?_
                  have q631 : -2147483648 ≤ vi V21 o617 4 ∧ vi V21 o617 4 ≤ 2147483647 := vi_ir
                  exact ih611 i47 i48 (i49 + 1) V21 ⟨by omega, by omega, by omega, by omega, by omega, by omega, rfl⟩ (by show (2147483647 - (i49 + 1)).toNat < (2147483647 - i49).toNat; omega)
                ·
                  refine GO.iload dX11_whose_153 rfl ?_
                  refine GO.istore (ls1 := [some (.ref x), some (ti p0), some (ti p1), some (.ref o1), some (ti X27), some (ti i49), some (ti i48), some (ti i49), some (.ref o617)]) dX11_whose_155 rfl rfl ?_
                  refine GO.aload dX11_whose_157 rfl ?_
                  refine GO.getI h618 fl_RX11_176 rfl rfl dX11_whose_159 (fun _ _ => ?_)
                  refine GO.name (fun z632 hz633 => ?_)
                  have r634 : ir z632 := hz633 ▸ vi_ir
                  refine GO.istore (ls1 := [some (.ref x), some (ti p0), some (ti p1), some (.ref o1), some (ti X27), some (ti i49), some (ti z632), some (ti i49), some (.ref o617)]) dX11_whose_162 rfl rfl ?_
                  refine GO.iinc (X := i49) (n := 1) (Y := i49 + 1) (ls1 := [some (.ref x), some (ti p0), some (ti p1), some (.ref o1), some (ti X27), some (ti i49), some (ti z632), some (ti (i49 + 1)), some (.ref o617)]) dX11_whose_164 rfl rfl rfl rfl ?_
                  refine GO.goto (tgt := 99) dX11_whose_167 (by decide) ?_
                  refine GO.drop [true, true, true, true, true, true, true, true, false] rfl ?_
                  have q635 : -2147483648 ≤ z632 ∧ z632 ≤ 2147483647 := r634
                  have q636 : -2147483648 ≤ vi V21 o617 4 ∧ vi V21 o617 4 ≤ 2147483647 := vi_ir
                  exact ih611 i49 z632 (i49 + 1) V21 ⟨by omega, by omega, by omega, by omega, by omega, by omega, rfl⟩ (by show (2147483647 - (i49 + 1)).toNat < (2147483647 - i49).toNat; omega)
        ·
          refine GO.bipush dX11_whose_87 rfl ?_
          exact GO.reti rfl rfl dX11_whose_89 ⟨rfl, _, rfl, (ir_c rfl), ⟨(by first | exact trivial | omega), (by first | exact w_0 | exact hcw.1)⟩⟩
    ·
      refine GO.iconst dX11_whose_21 ?_
      exact GO.reti rfl rfl dX11_whose_22 ⟨rfl, _, rfl, (ir_c rfl), ⟨(by first | exact trivial | omega), (by first | exact w_0)⟩⟩

set_option maxHeartbeats 1000000 in
theorem t_X11_ship {K : Kmap} {V : Vmap} {x : Nat} {p0 : Int} {p1 : Int} {p2 : Int} (h_x : K x = some (0, 10)) (r_p0 : ir p0) (r_p1 : ir p1) (r_p2 : ir p2) (w_0 : PN V x) (w_1 : SN V x) : MC mX11_ship K V [.ref x, ti p0, ti p1, ti p2] (IX (fun X _ V1 => (((X = (-1) ∧ vi V1 x 10 = vi V x 10 ∧ (vi V x 10 ≥ 10 ∨ p1 < 1 ∨ p1 > 10000 ∨ p2 < 0 ∨ p2 > 100 ∨ p0 < 0 ∨ p0 ≥ vi V x 4)) ∨ (X = vi V x 10 ∧ vi V1 x 10 = (vi V x 10 + 1) ∧ vi V x 10 < 10 ∧ p1 ≥ 1 ∧ p1 ≤ 10000 ∧ p2 ≥ 0 ∧ p2 ≤ 100 ∧ p0 ≥ 0 ∧ p0 < vi V x 4))) ∧ (SN V1 x))) := by
  refine MC.start 0 (by decide +kernel) rfl rfl rfl (ls0 := [some (.ref x), some (ti p0), some (ti p1), some (ti p2)]) rfl ?_
  refine GO.aload_n dX11_ship_0 rfl rfl ?_
  refine GO.iload_n dX11_ship_1 rfl rfl ?_
  refine GO.callV (ci := 10) (N := mX11_partyOf) dX11_ship_2 (RX11, TX11, 20) rfl gV_RX11_151 h_x (t_X11_partyOf h_x r_p0) rfl [] rfl rfl (Nat.le_of_ble_eq_true rfl) rfl (k_rp (fun h3 => ?_) (fun o1 h2 h3 => ?_))
  ·
    have rwn2 := h3.2
    have hn4 : PN V x → p0 < 0 ∨ vi V x 4 ≤ p0 := h3.2
    have hnn5 := hn4 w_0
    refine GO.ifnullN (tgt := 29) dX11_ship_5 (by decide) ?_
    refine GO.iconst dX11_ship_29 ?_
    have q6 : -2147483648 ≤ vi V x 10 ∧ vi V x 10 ≤ 2147483647 := vi_ir
    have q7 : -2147483648 ≤ vi V x 4 ∧ vi V x 4 ≤ 2147483647 := vi_ir
    exact GO.reti rfl rfl dX11_ship_30 ⟨_, rfl, (ir_c rfl), ⟨(by first | exact trivial | omega), (by first | exact w_1 | exact NN.push (t := 7) (by decide) w_1 h_x (by assumption) (by assumption) (by assumption) (by assumption) (by assumption) (by assumption) (by assumption) (by assumption) (by decide +kernel) (by assumption) (by assumption) (by omega) (by omega) ⟨by omega, by omega⟩)⟩⟩
  ·
    have hp8 : p0 ≥ 0 ∧ p0 < vi V x 4 := h3.1
    have rwp2 := h3.2
    have hq9 : o1 = vq V (vq V x 3) (p0).toNat := h3.2
    refine GO.ifnull dX11_ship_5 ?_
    refine GO.iload_n dX11_ship_8 rfl rfl ?_
    refine GO.iconst dX11_ship_9 ?_
    refine GO.sipush dX11_ship_10 rfl ?_
    refine GO.callS (N := mX11_between) dX11_ship_13 gS_RX11_112 (t_X11_between r_p1 (ir_c rfl) (ir_c rfl)) rfl [] rfl rfl (Nat.le_of_ble_eq_true rfl) rfl (k_ip fun X10 r11 h12 => ?_)
    refine GO.if_eq (tgt := 29) dX11_ship_16 (by decide) r11 (fun c13 => ?_) (fun c13 => ?_)
    ·
      have q14 := h12.2.2 (by omega)
      refine GO.iconst dX11_ship_29 ?_
      have q15 : -2147483648 ≤ vi V x 10 ∧ vi V x 10 ≤ 2147483647 := vi_ir
      have q16 : -2147483648 ≤ vi V x 4 ∧ vi V x 4 ≤ 2147483647 := vi_ir
      have q17 : -2147483648 ≤ p0 ∧ p0 ≤ 2147483647 := r_p0
      exact GO.reti rfl rfl dX11_ship_30 ⟨_, rfl, (ir_c rfl), ⟨(by first | exact trivial | omega), (by first | exact w_1 | exact NN.push (t := 7) (by decide) w_1 h_x (by assumption) (by assumption) (by assumption) (by assumption) (by assumption) (by assumption) (by assumption) (by assumption) (by decide +kernel) (by assumption) (by assumption) (by omega) (by omega) ⟨by omega, by omega⟩)⟩⟩
    ·
      have q18 := h12.2.1 (by omega)
      refine GO.iload_n dX11_ship_19 rfl rfl ?_
      refine GO.iconst dX11_ship_20 ?_
      refine GO.bipush dX11_ship_21 rfl ?_
      refine GO.callS (N := mX11_between) dX11_ship_23 gS_RX11_112 (t_X11_between r_p2 (ir_c rfl) (ir_c rfl)) rfl [] rfl rfl (Nat.le_of_ble_eq_true rfl) rfl (k_ip fun X19 r20 h21 => ?_)
      refine GO.if_ne (tgt := 31) dX11_ship_26 (by decide) r20 (fun c22 => ?_) (fun c22 => ?_)
      ·
        have q23 := h21.2.1 (by omega)
        refine GO.aload_n dX11_ship_31 rfl rfl ?_
        refine GO.getI h_x fl_RX11_64 rfl rfl dX11_ship_32 (fun l24 u25 => ?_)
        refine GO.aload_n dX11_ship_35 rfl rfl ?_
        refine GO.getA (n := 10) h_x fl_RX11_60 rfl rfl rfl rfl dX11_ship_36 (fun hv27 h26 => ?_)
        refine GO.alen h26 dX11_ship_39 (fun h28 => ?_)
        refine GO.icmp_lt (tgt := 45) dX11_ship_40 (by decide) vi_ir ⟨by omega, by omega⟩ (fun c29 => ?_) (fun c29 => ?_)
        ·
          refine GO.aload_n dX11_ship_45 rfl rfl ?_
          refine GO.getRaw h_x fl_RX11_60 hv27 dX11_ship_46 ?_
          refine GO.aload_n dX11_ship_49 rfl rfl ?_
          refine GO.getI h_x fl_RX11_64 rfl rfl dX11_ship_50 (fun l32 u33 => ?_)
          refine GO.new (ci := 18) (RX7, TX7, 11) tyX7 rfl rfl lays_6 tyX7_ok gw_225 gw_1045 gw_20 rfl rfl dX11_ship_53 (fun o34 K35 V41 hq36 hK37 hE38 h39 _ hV40 => ?_)
          have h42 := hE38.obj (by decide) h_x
          have h43 := hE38.arr h26
          refine GO.dup dX11_ship_56 rfl ?_
          refine GO.iload_n dX11_ship_57 rfl rfl ?_
          refine GO.iload_n dX11_ship_58 rfl rfl ?_
          refine GO.iload_n dX11_ship_59 rfl rfl ?_
          refine GO.callI (N := mX7_init) dX11_ship_60 gI_RX11_391 rfl (t_X7_init h39 r_p0 r_p1 r_p2) rfl [.ref o34, ti (vi V x 10), .ref (vq V x 9)] rfl rfl (Nat.le_of_ble_eq_true rfl) rfl (k_vx fun K46 V48 h47 hE45 hF44 => ?_)
          have h49 := hE45.obj (by decide) h42
          have h50 := hE45.arr h43
          have h51 := h47.1
          refine GO.aast (t := 7) (by decide) (RX7, TX7, 11) rfl rfl rfl (by decide +kernel) h50 h51 vi_ir (by omega) (by omega) dX11_ship_63 (fun V53 e52 => ?_)
          refine GO.aload_n dX11_ship_64 rfl rfl ?_
          refine GO.dup dX11_ship_65 rfl ?_
          refine GO.getI h49 fl_RX11_64 rfl rfl dX11_ship_66 (fun l54 u55 => ?_)
          have e58 : vi V41 x 10 = vi V x 10 := vi_nw hV40 (K_old h_x hq36)
          have e57 : vi V48 x 10 = vi V41 x 10 := vi_fr hF44 h42 h49 (by decide +kernel)
          have e56 : vi V53 x 10 = vi V48 x 10 := vi_up e52 (Or.inl (K_ne h49 h50 (by decide)))
          refine GO.dup_x1 dX11_ship_69 rfl rfl ?_
          refine GO.iconst dX11_ship_70 ?_
          refine GO.iadd dX11_ship_71 ?_
          refine GO.putI h49 fp_RX11_64 rfl (by decide +kernel) ⟨by omega, by omega⟩ (by omega) (by omega) dX11_ship_72 (fun V60 e59 => ?_)
          have e61 : vi V60 x 10 = (vi V53 x 10) + 1 := upd2_int e59 ⟨by omega, by omega⟩
          have q62 : -2147483648 ≤ vi V x 4 ∧ vi V x 4 ≤ 2147483647 := vi_ir
          have q63 : -2147483648 ≤ p0 ∧ p0 ≤ 2147483647 := r_p0
          exact GO.reti rfl rfl dX11_ship_75 ⟨_, rfl, vi_ir, ⟨(by first | exact trivial | omega), (by first | exact w_1 | exact NN.push (t := 7) (by decide) w_1 h_x (by assumption) (by assumption) (by assumption) (by assumption) (by assumption) (by assumption) (by assumption) (by assumption) (by decide +kernel) (by assumption) (by assumption) (by omega) (by omega) ⟨by omega, by omega⟩)⟩⟩
        ·
          refine GO.iconst dX11_ship_43 ?_
          have q64 : -2147483648 ≤ vi V x 4 ∧ vi V x 4 ≤ 2147483647 := vi_ir
          have q65 : -2147483648 ≤ p0 ∧ p0 ≤ 2147483647 := r_p0
          exact GO.reti rfl rfl dX11_ship_44 ⟨_, rfl, (ir_c rfl), ⟨(by first | exact trivial | omega), (by first | exact w_1 | exact NN.push (t := 7) (by decide) w_1 h_x (by assumption) (by assumption) (by assumption) (by assumption) (by assumption) (by assumption) (by assumption) (by assumption) (by decide +kernel) (by assumption) (by assumption) (by omega) (by omega) ⟨by omega, by omega⟩)⟩⟩
      ·
        have q66 := h21.2.2 (by omega)
        refine GO.iconst dX11_ship_29 ?_
        have q67 : -2147483648 ≤ vi V x 10 ∧ vi V x 10 ≤ 2147483647 := vi_ir
        have q68 : -2147483648 ≤ vi V x 4 ∧ vi V x 4 ≤ 2147483647 := vi_ir
        have q69 : -2147483648 ≤ p0 ∧ p0 ≤ 2147483647 := r_p0
        exact GO.reti rfl rfl dX11_ship_30 ⟨_, rfl, (ir_c rfl), ⟨(by first | exact trivial | omega), (by first | exact w_1 | exact NN.push (t := 7) (by decide) w_1 h_x (by assumption) (by assumption) (by assumption) (by assumption) (by assumption) (by assumption) (by assumption) (by assumption) (by decide +kernel) (by assumption) (by assumption) (by omega) (by omega) ⟨by omega, by omega⟩)⟩⟩

set_option maxHeartbeats 1000000 in
theorem t_X11_isSea {K : Kmap} {V : Vmap} {p0 : Int} (r_p0 : ir p0) : MC mX11_isSea K V [ti p0] (IP K V (fun X => (X = 0 ∨ X = 1) ∧ (X ≠ 0 → p0 ≥ 0 ∧ p0 ≤ 3) ∧ (X = 0 → (p0 < 0 ∨ p0 > 3)))) := by
  refine MC.start 0 (by decide +kernel) rfl rfl rfl (ls0 := [some (ti p0)]) rfl ?_
  refine GO.iload_n dX11_isSea_0 rfl rfl ?_
  refine GO.iconst dX11_isSea_1 ?_
  refine GO.iconst dX11_isSea_2 ?_
  refine GO.callS (N := mX11_between) dX11_isSea_3 gS_RX11_112 (t_X11_between r_p0 (ir_c rfl) (ir_c rfl)) rfl [] rfl rfl (Nat.le_of_ble_eq_true rfl) rfl (k_ip fun X1 r2 h3 => ?_)
  exact GO.retz rfl rfl dX11_isSea_6 (by omega) ⟨rfl, rfl, _, rfl, r2, ⟨by omega, fun h => by omega, fun h => by omega⟩⟩

set_option maxHeartbeats 1000000 in
theorem t_X4_put_t131 {K : Kmap} {V : Vmap} {p0 n_p0 : Nat} {p1 : Int} {p2 : Int} (h_p0 : K p0 = some (132, n_p0)) (r_p1 : ir p1) (r_p2 : ir p2) : MC mX4_put_t131 K V [.ref p0, ti p1, ti p2] (VS K (fun V1 => (True) ∧ (V1 = rpv V p0 n_p0 p1 p2))) := by
  refine MC.start 0 (by decide +kernel) rfl rfl rfl (ls0 := [some (.ref p0), some (ti p1), some (ti p2)]) rfl ?_
  refine GO.aload_n dX4_put_0 rfl rfl ?_
  refine GO.ifnull dX4_put_1 ?_
  refine GO.iload_n dX4_put_4 rfl rfl ?_
  refine GO.if_lt (tgt := 18) dX4_put_5 (by decide) r_p1 (fun c1 => ?_) (fun c1 => ?_)
  ·
    exact GO.retv rfl rfl dX4_put_18 ⟨rfl, rfl, ⟨trivial, (by first | exact rpv_in (by assumption) (by omega) (by omega) | exact rpv_out (by omega))⟩⟩
  ·
    refine GO.iload_n dX4_put_8 rfl rfl ?_
    refine GO.aload_n dX4_put_9 rfl rfl ?_
    refine GO.alen h_p0 dX4_put_10 (fun h2 => ?_)
    refine GO.icmp_ge (tgt := 18) dX4_put_11 (by decide) r_p1 ⟨by omega, by omega⟩ (fun c3 => ?_) (fun c3 => ?_)
    ·
      exact GO.retv rfl rfl dX4_put_18 ⟨rfl, rfl, ⟨trivial, (by first | exact rpv_in (by assumption) (by omega) (by omega) | exact rpv_out (by omega))⟩⟩
    ·
      refine GO.aload_n dX4_put_14 rfl rfl ?_
      refine GO.iload_n dX4_put_15 rfl rfl ?_
      refine GO.iload_n dX4_put_16 rfl rfl ?_
      have q4 : -2147483648 ≤ p1 ∧ p1 ≤ 2147483647 := r_p1
      refine GO.iast (t := 131) rfl rfl (by decide +kernel) h_p0 r_p1 (by omega) (by omega) r_p2 (r_p2).1 (r_p2).2 dX4_put_17 (fun V6 e5 => ?_)
      exact GO.retv rfl rfl dX4_put_18 ⟨rfl, rfl, ⟨trivial, (by first | exact rpv_in (by assumption) (by omega) (by omega) | exact rpv_out (by omega))⟩⟩

set_option maxHeartbeats 1000000 in
theorem t_X11_cover {K : Kmap} {V : Vmap} {x : Nat} {p0 : Int} {p1 : Int} {p2 : Int} (h_x : K x = some (0, 10)) (r_p0 : ir p0) (r_p1 : ir p1) (r_p2 : ir p2) : MC mX11_cover K V [.ref x, ti p0, ti p1, ti p2] (IS K (fun X V1 => (X = 0 ∨ X = 1) ∧ (X ≠ 0 → p0 ≥ 0 ∧ p0 ≤ 3 ∧ p1 ≥ 0 ∧ p1 ≤ 11 ∧ p2 ≥ 0 ∧ p2 ≤ 100) ∧ (X = 0 → (p0 < 0 ∨ p0 > 3 ∨ p1 < 0 ∨ p1 > 11 ∨ p2 < 0 ∨ p2 > 100)))) := by
  refine MC.start 0 (by decide +kernel) rfl rfl rfl (ls0 := [some (.ref x), some (ti p0), some (ti p1), some (ti p2)]) rfl ?_
  refine GO.iload_n dX11_cover_0 rfl rfl ?_
  refine GO.callS (N := mX11_isSea) dX11_cover_1 gS_RX11_394 (t_X11_isSea r_p0) rfl [] rfl rfl (Nat.le_of_ble_eq_true rfl) rfl (k_ip fun X1 r2 h3 => ?_)
  refine GO.if_eq (tgt := 27) dX11_cover_4 (by decide) r2 (fun c4 => ?_) (fun c4 => ?_)
  ·
    have q5 := h3.2.2 (by omega)
    refine GO.iconst dX11_cover_27 ?_
    exact GO.retz rfl rfl dX11_cover_28 (Or.inl rfl) ⟨rfl, _, rfl, (ir_c rfl), ⟨Or.inl rfl, fun h => absurd rfl h, fun h => by omega⟩⟩
  ·
    have q6 := h3.2.1 (by omega)
    refine GO.iload_n dX11_cover_7 rfl rfl ?_
    refine GO.iconst dX11_cover_8 ?_
    refine GO.bipush dX11_cover_9 rfl ?_
    refine GO.callS (N := mX11_between) dX11_cover_11 gS_RX11_112 (t_X11_between r_p1 (ir_c rfl) (ir_c rfl)) rfl [] rfl rfl (Nat.le_of_ble_eq_true rfl) rfl (k_ip fun X7 r8 h9 => ?_)
    refine GO.if_eq (tgt := 27) dX11_cover_14 (by decide) r8 (fun c10 => ?_) (fun c10 => ?_)
    ·
      have q11 := h9.2.2 (by omega)
      refine GO.iconst dX11_cover_27 ?_
      exact GO.retz rfl rfl dX11_cover_28 (Or.inl rfl) ⟨rfl, _, rfl, (ir_c rfl), ⟨Or.inl rfl, fun h => absurd rfl h, fun h => by omega⟩⟩
    ·
      have q12 := h9.2.1 (by omega)
      refine GO.iload_n dX11_cover_17 rfl rfl ?_
      refine GO.iconst dX11_cover_18 ?_
      refine GO.bipush dX11_cover_19 rfl ?_
      refine GO.callS (N := mX11_between) dX11_cover_21 gS_RX11_112 (t_X11_between r_p2 (ir_c rfl) (ir_c rfl)) rfl [] rfl rfl (Nat.le_of_ble_eq_true rfl) rfl (k_ip fun X13 r14 h15 => ?_)
      refine GO.if_ne (tgt := 29) dX11_cover_24 (by decide) r14 (fun c16 => ?_) (fun c16 => ?_)
      ·
        have q17 := h15.2.1 (by omega)
        refine GO.aload_n dX11_cover_29 rfl rfl ?_
        refine GO.getR h_x fl_RX11_12 rfl rfl dX11_cover_30 (fun hv19 h18 => ?_)
        refine GO.getA (n := 48) h18 fl_RX11_397 rfl rfl rfl rfl dX11_cover_33 (fun hv21 h20 => ?_)
        refine GO.iload_n dX11_cover_36 rfl rfl ?_
        refine GO.bipush dX11_cover_37 rfl ?_
        refine GO.imul dX11_cover_39 ?_
        refine GO.iload_n dX11_cover_40 rfl rfl ?_
        refine GO.iadd dX11_cover_41 ?_
        refine GO.iload_n dX11_cover_42 rfl rfl ?_
        have q22 : -2147483648 ≤ p1 ∧ p1 ≤ 2147483647 := r_p1
        have q23 : -2147483648 ≤ p0 ∧ p0 ≤ 2147483647 := r_p0
        refine GO.callS (N := mX4_put_t131) dX11_cover_43 gS_RX11_108 (t_X4_put_t131 h20 ⟨by omega, by omega⟩ r_p2) rfl [] rfl rfl (Nat.le_of_ble_eq_true rfl) rfl (k_vs fun V26 h25 hF24 => ?_)
        have raw_put := h25.2
        have rw43 := h25.2
        refine GO.iconst dX11_cover_46 ?_
        exact GO.retz rfl rfl dX11_cover_47 (Or.inr rfl) ⟨rfl, _, rfl, (ir_c rfl), ⟨Or.inr rfl, fun h => by omega, fun h => absurd h (by decide)⟩⟩
      ·
        have q27 := h15.2.2 (by omega)
        refine GO.iconst dX11_cover_27 ?_
        exact GO.retz rfl rfl dX11_cover_28 (Or.inl rfl) ⟨rfl, _, rfl, (ir_c rfl), ⟨Or.inl rfl, fun h => absurd rfl h, fun h => by omega⟩⟩

set_option maxHeartbeats 1000000 in
theorem t_X4_put_t132 {K : Kmap} {V : Vmap} {p0 n_p0 : Nat} {p1 : Int} {p2 : Int} (h_p0 : K p0 = some (133, n_p0)) (r_p1 : ir p1) (r_p2 : ir p2) (q_0 : p2 ≥ 0) (q_1 : p2 ≤ 90) : MC mX4_put_t132 K V [.ref p0, ti p1, ti p2] (VS K (fun V1 => (True) ∧ (V1 = rpv V p0 n_p0 p1 p2))) := by
  refine MC.start 0 (by decide +kernel) rfl rfl rfl (ls0 := [some (.ref p0), some (ti p1), some (ti p2)]) rfl ?_
  refine GO.aload_n dX4_put_0 rfl rfl ?_
  refine GO.ifnull dX4_put_1 ?_
  refine GO.iload_n dX4_put_4 rfl rfl ?_
  refine GO.if_lt (tgt := 18) dX4_put_5 (by decide) r_p1 (fun c1 => ?_) (fun c1 => ?_)
  ·
    exact GO.retv rfl rfl dX4_put_18 ⟨rfl, rfl, ⟨trivial, (by first | exact rpv_in (by assumption) (by omega) (by omega) | exact rpv_out (by omega))⟩⟩
  ·
    refine GO.iload_n dX4_put_8 rfl rfl ?_
    refine GO.aload_n dX4_put_9 rfl rfl ?_
    refine GO.alen h_p0 dX4_put_10 (fun h2 => ?_)
    refine GO.icmp_ge (tgt := 18) dX4_put_11 (by decide) r_p1 ⟨by omega, by omega⟩ (fun c3 => ?_) (fun c3 => ?_)
    ·
      exact GO.retv rfl rfl dX4_put_18 ⟨rfl, rfl, ⟨trivial, (by first | exact rpv_in (by assumption) (by omega) (by omega) | exact rpv_out (by omega))⟩⟩
    ·
      refine GO.aload_n dX4_put_14 rfl rfl ?_
      refine GO.iload_n dX4_put_15 rfl rfl ?_
      refine GO.iload_n dX4_put_16 rfl rfl ?_
      have q4 : -2147483648 ≤ p1 ∧ p1 ≤ 2147483647 := r_p1
      have q6 : -2147483648 ≤ p2 ∧ p2 ≤ 2147483647 := r_p2
      refine GO.iast (t := 132) rfl rfl (by decide +kernel) h_p0 r_p1 (by omega) (by omega) r_p2 (by omega) (by omega) dX4_put_17 (fun V7 e5 => ?_)
      exact GO.retv rfl rfl dX4_put_18 ⟨rfl, rfl, ⟨trivial, (by first | exact rpv_in (by assumption) (by omega) (by omega) | exact rpv_out (by omega))⟩⟩

set_option maxHeartbeats 1000000 in
theorem t_X11_sea {K : Kmap} {V : Vmap} {x : Nat} {p0 : Int} {p1 : Int} (h_x : K x = some (0, 10)) (r_p0 : ir p0) (r_p1 : ir p1) : MC mX11_sea K V [.ref x, ti p0, ti p1] (IS K (fun X V1 => (X = 0 ∨ X = 1) ∧ (X ≠ 0 → p0 ≥ 0 ∧ p0 ≤ 3 ∧ p1 ≥ 1 ∧ p1 ≤ 90) ∧ (X = 0 → (p0 < 0 ∨ p0 > 3 ∨ p1 < 1 ∨ p1 > 90)))) := by
  refine MC.start 0 (by decide +kernel) rfl rfl rfl (ls0 := [some (.ref x), some (ti p0), some (ti p1)]) rfl ?_
  refine GO.iload_n dX11_sea_0 rfl rfl ?_
  refine GO.callS (N := mX11_isSea) dX11_sea_1 gS_RX11_394 (t_X11_isSea r_p0) rfl [] rfl rfl (Nat.le_of_ble_eq_true rfl) rfl (k_ip fun X1 r2 h3 => ?_)
  refine GO.if_eq (tgt := 17) dX11_sea_4 (by decide) r2 (fun c4 => ?_) (fun c4 => ?_)
  ·
    have q5 := h3.2.2 (by omega)
    refine GO.iconst dX11_sea_17 ?_
    exact GO.retz rfl rfl dX11_sea_18 (Or.inl rfl) ⟨rfl, _, rfl, (ir_c rfl), ⟨Or.inl rfl, fun h => absurd rfl h, fun h => by omega⟩⟩
  ·
    have q6 := h3.2.1 (by omega)
    refine GO.iload_n dX11_sea_7 rfl rfl ?_
    refine GO.iconst dX11_sea_8 ?_
    refine GO.bipush dX11_sea_9 rfl ?_
    refine GO.callS (N := mX11_between) dX11_sea_11 gS_RX11_112 (t_X11_between r_p1 (ir_c rfl) (ir_c rfl)) rfl [] rfl rfl (Nat.le_of_ble_eq_true rfl) rfl (k_ip fun X7 r8 h9 => ?_)
    refine GO.if_ne (tgt := 19) dX11_sea_14 (by decide) r8 (fun c10 => ?_) (fun c10 => ?_)
    ·
      have q11 := h9.2.1 (by omega)
      refine GO.aload_n dX11_sea_19 rfl rfl ?_
      refine GO.getR h_x fl_RX11_12 rfl rfl dX11_sea_20 (fun hv13 h12 => ?_)
      refine GO.getA (n := 4) h12 fl_RX11_400 rfl rfl rfl rfl dX11_sea_23 (fun hv15 h14 => ?_)
      refine GO.iload_n dX11_sea_26 rfl rfl ?_
      refine GO.iload_n dX11_sea_27 rfl rfl ?_
      have q16 : -2147483648 ≤ p1 ∧ p1 ≤ 2147483647 := r_p1
      refine GO.callS (N := mX4_put_t132) dX11_sea_28 gS_RX11_108 (t_X4_put_t132 h14 r_p0 r_p1 (by omega) (by omega)) rfl [] rfl rfl (Nat.le_of_ble_eq_true rfl) rfl (k_vs fun V19 h18 hF17 => ?_)
      have raw_put := h18.2
      have rw28 := h18.2
      refine GO.iconst dX11_sea_31 ?_
      exact GO.retz rfl rfl dX11_sea_32 (Or.inr rfl) ⟨rfl, _, rfl, (ir_c rfl), ⟨Or.inr rfl, fun h => by omega, fun h => absurd h (by decide)⟩⟩
    ·
      have q20 := h9.2.2 (by omega)
      refine GO.iconst dX11_sea_17 ?_
      exact GO.retz rfl rfl dX11_sea_18 (Or.inl rfl) ⟨rfl, _, rfl, (ir_c rfl), ⟨Or.inl rfl, fun h => absurd rfl h, fun h => by omega⟩⟩

set_option maxHeartbeats 1000000 in
theorem t_X11_shipOf {K : Kmap} {V : Vmap} {x : Nat} {p0 : Int} (h_x : K x = some (0, 10)) (r_p0 : ir p0) : MC mX11_shipOf K V [.ref x, ti p0] (RP K V 6 ((True) ∧ (SN V x → p0 < 0 ∨ vi V x 10 ≤ p0)) (fun q => (p0 ≥ 0 ∧ p0 < vi V x 10) ∧ (q = vq V (vq V x 9) (p0).toNat))) := by
  refine MC.start 0 (by decide +kernel) rfl rfl rfl (ls0 := [some (.ref x), some (ti p0)]) rfl ?_
  refine GO.iload_n dX11_shipOf_0 rfl rfl ?_
  refine GO.if_lt (tgt := 30) dX11_shipOf_1 (by decide) r_p0 (fun c1 => ?_) (fun c1 => ?_)
  ·
    refine GO.null dX11_shipOf_30 ?_
    exact GO.reta rfl rfl (Or.inl ⟨_, rfl⟩) dX11_shipOf_31 (Or.inl rfl) ⟨rfl, rfl, Or.inl ⟨rfl, ⟨trivial, (by first | exact fun _ => (by omega))⟩⟩⟩
  ·
    refine GO.iload_n dX11_shipOf_4 rfl rfl ?_
    refine GO.aload_n dX11_shipOf_5 rfl rfl ?_
    refine GO.getI h_x fl_RX11_64 rfl rfl dX11_shipOf_6 (fun l2 u3 => ?_)
    refine GO.icmp_ge (tgt := 30) dX11_shipOf_9 (by decide) r_p0 vi_ir (fun c4 => ?_) (fun c4 => ?_)
    ·
      refine GO.null dX11_shipOf_30 ?_
      exact GO.reta rfl rfl (Or.inl ⟨_, rfl⟩) dX11_shipOf_31 (Or.inl rfl) ⟨rfl, rfl, Or.inl ⟨rfl, ⟨trivial, (by first | exact fun _ => (by omega))⟩⟩⟩
    ·
      refine GO.iload_n dX11_shipOf_12 rfl rfl ?_
      refine GO.aload_n dX11_shipOf_13 rfl rfl ?_
      refine GO.getA (n := 10) h_x fl_RX11_60 rfl rfl rfl rfl dX11_shipOf_14 (fun hv6 h5 => ?_)
      refine GO.alen h5 dX11_shipOf_17 (fun h7 => ?_)
      have q9 : -2147483648 ≤ p0 ∧ p0 ≤ 2147483647 := r_p0
      refine GO.icmp_ge (tgt := 30) dX11_shipOf_18 (by decide) r_p0 ⟨by omega, by omega⟩ (fun h => by exfalso; omega) (fun c8 => ?_)
      refine GO.aload_n dX11_shipOf_21 rfl rfl ?_
      refine GO.getRaw h_x fl_RX11_60 hv6 dX11_shipOf_22 ?_
      refine GO.iload_n dX11_shipOf_25 rfl rfl ?_
      refine GO.aald (t := 7) rfl rfl h5 r_p0 (by omega) (by omega) dX11_shipOf_26 (fun hnul => ?_) (fun _ h12 => ?_)
      ·
        refine GO.goto (tgt := 31) dX11_shipOf_27 (by decide) ?_
        exact GO.reta rfl rfl (Or.inl ⟨_, rfl⟩) dX11_shipOf_31 (Or.inl rfl) ⟨rfl, rfl, Or.inl ⟨rfl, ⟨trivial, (by first | exact fun _ => (by omega) | exact fun hpn => absurd hnul (hpn p0.toNat (by omega)))⟩⟩⟩
      ·
        refine GO.goto (tgt := 31) dX11_shipOf_27 (by decide) ?_
        exact GO.reta rfl rfl (Or.inl ⟨_, rfl⟩) dX11_shipOf_31 (Or.inr ⟨_, rfl⟩) ⟨rfl, rfl, Or.inr ⟨_, rfl, h12, ⟨by omega, rfl⟩⟩⟩

set_option maxHeartbeats 1000000 in
theorem t_X11_voyage {K : Kmap} {V : Vmap} {x : Nat} {p0 : Int} {p1 : Int} {p2 : Int} {p3 : Int} (h_x : K x = some (0, 10)) (r_p0 : ir p0) (r_p1 : ir p1) (r_p2 : ir p2) (r_p3 : ir p3) : MC mX11_voyage K V [.ref x, ti p0, ti p1, ti p2, ti p3] (IS K (fun X V1 => (X = 0 ∨ X = 1) ∧ (X ≠ 0 → True) ∧ (X = 0 → True))) := by
  refine MC.start 2 (by decide +kernel) rfl rfl rfl (ls0 := [some (.ref x), some (ti p0), some (ti p1), some (ti p2), some (ti p3), none, none]) rfl ?_
  refine GO.aload_n dX11_voyage_0 rfl rfl ?_
  refine GO.iload_n dX11_voyage_1 rfl rfl ?_
  refine GO.callV (ci := 10) (N := mX11_shipOf) dX11_voyage_2 (RX11, TX11, 20) rfl gV_RX11_403 h_x (t_X11_shipOf h_x r_p0) rfl [] rfl rfl (Nat.le_of_ble_eq_true rfl) rfl (k_rp (fun h3 => ?_) (fun o1 h2 h3 => ?_))
  ·
    have rwn2 := h3.2
    have hn4 : SN V x → p0 < 0 ∨ vi V x 10 ≤ p0 := h3.2
    refine GO.astoreN (ls1 := [some (.ref x), some (ti p0), some (ti p1), some (ti p2), some (ti p3), some (.null), none]) dX11_voyage_5 rfl rfl ?_
    refine GO.aload_n dX11_voyage_7 rfl rfl ?_
    refine GO.iload_n dX11_voyage_8 rfl rfl ?_
    refine GO.callV (ci := 10) (N := mX11_standingStation) dX11_voyage_9 (RX11, TX11, 20) rfl gV_RX11_195 h_x (t_X11_standingStation h_x r_p2) rfl [] rfl rfl (Nat.le_of_ble_eq_true rfl) rfl (k_rp (fun h7 => ?_) (fun o5 h6 h7 => ?_))
    ·
      have rwn9 := h7.2
      have hn8 : NN 6 5 V x → ¬ STN V x p2 := h7.2
      refine GO.astoreN (ls1 := [some (.ref x), some (ti p0), some (ti p1), some (ti p2), some (ti p3), some (.null), some (.null)]) dX11_voyage_12 rfl rfl ?_
      refine GO.aloadN dX11_voyage_14 rfl ?_
      refine GO.ifnullN (tgt := 45) dX11_voyage_16 (by decide) ?_
      refine GO.iconst dX11_voyage_45 ?_
      exact GO.retz rfl rfl dX11_voyage_46 (Or.inl rfl) ⟨rfl, _, rfl, (ir_c rfl), ⟨Or.inl rfl, fun _ => trivial, fun _ => trivial⟩⟩
    ·
      have hp9 : p2 ≥ 0 ∧ p2 < vi V x 6 := h7.1
      have rwp9 := h7.2
      have hq10 : o5 = plO V x (p2).toNat ∧ STN V x p2 := h7.2
      refine GO.astore (ls1 := [some (.ref x), some (ti p0), some (ti p1), some (ti p2), some (ti p3), some (.null), some (.ref o5)]) dX11_voyage_12 rfl rfl ?_
      refine GO.aloadN dX11_voyage_14 rfl ?_
      refine GO.ifnullN (tgt := 45) dX11_voyage_16 (by decide) ?_
      refine GO.iconst dX11_voyage_45 ?_
      exact GO.retz rfl rfl dX11_voyage_46 (Or.inl rfl) ⟨rfl, _, rfl, (ir_c rfl), ⟨Or.inl rfl, fun _ => trivial, fun _ => trivial⟩⟩
  ·
    have hp11 : p0 ≥ 0 ∧ p0 < vi V x 10 := h3.1
    have rwp2 := h3.2
    have hq12 : o1 = vq V (vq V x 9) (p0).toNat := h3.2
    refine GO.astore (ls1 := [some (.ref x), some (ti p0), some (ti p1), some (ti p2), some (ti p3), some (.ref o1), none]) dX11_voyage_5 rfl rfl ?_
    refine GO.aload_n dX11_voyage_7 rfl rfl ?_
    refine GO.iload_n dX11_voyage_8 rfl rfl ?_
    refine GO.callV (ci := 10) (N := mX11_standingStation) dX11_voyage_9 (RX11, TX11, 20) rfl gV_RX11_195 h_x (t_X11_standingStation h_x r_p2) rfl [] rfl rfl (Nat.le_of_ble_eq_true rfl) rfl (k_rp (fun h15 => ?_) (fun o13 h14 h15 => ?_))
    ·
      have rwn9 := h15.2
      have hn16 : NN 6 5 V x → ¬ STN V x p2 := h15.2
      refine GO.astoreN (ls1 := [some (.ref x), some (ti p0), some (ti p1), some (ti p2), some (ti p3), some (.ref o1), some (.null)]) dX11_voyage_12 rfl rfl ?_
      refine GO.aload dX11_voyage_14 rfl ?_
      refine GO.ifnull dX11_voyage_16 ?_
      refine GO.iload_n dX11_voyage_19 rfl rfl ?_
      refine GO.callS (N := mX11_isSea) dX11_voyage_20 gS_RX11_394 (t_X11_isSea r_p1) rfl [] rfl rfl (Nat.le_of_ble_eq_true rfl) rfl (k_ip fun X17 r18 h19 => ?_)
      refine GO.if_eq (tgt := 45) dX11_voyage_23 (by decide) r18 (fun c20 => ?_) (fun c20 => ?_)
      ·
        have q21 := h19.2.2 (by omega)
        refine GO.iconst dX11_voyage_45 ?_
        exact GO.retz rfl rfl dX11_voyage_46 (Or.inl rfl) ⟨rfl, _, rfl, (ir_c rfl), ⟨Or.inl rfl, fun _ => trivial, fun _ => trivial⟩⟩
      ·
        have q22 := h19.2.1 (by omega)
        refine GO.aloadN dX11_voyage_26 rfl ?_
        refine GO.ifnullN (tgt := 45) dX11_voyage_28 (by decide) ?_
        refine GO.iconst dX11_voyage_45 ?_
        exact GO.retz rfl rfl dX11_voyage_46 (Or.inl rfl) ⟨rfl, _, rfl, (ir_c rfl), ⟨Or.inl rfl, fun _ => trivial, fun _ => trivial⟩⟩
    ·
      have hp23 : p2 ≥ 0 ∧ p2 < vi V x 6 := h15.1
      have rwp9 := h15.2
      have hq24 : o13 = plO V x (p2).toNat ∧ STN V x p2 := h15.2
      refine GO.astore (ls1 := [some (.ref x), some (ti p0), some (ti p1), some (ti p2), some (ti p3), some (.ref o1), some (.ref o13)]) dX11_voyage_12 rfl rfl ?_
      refine GO.aload dX11_voyage_14 rfl ?_
      refine GO.ifnull dX11_voyage_16 ?_
      refine GO.iload_n dX11_voyage_19 rfl rfl ?_
      refine GO.callS (N := mX11_isSea) dX11_voyage_20 gS_RX11_394 (t_X11_isSea r_p1) rfl [] rfl rfl (Nat.le_of_ble_eq_true rfl) rfl (k_ip fun X25 r26 h27 => ?_)
      refine GO.if_eq (tgt := 45) dX11_voyage_23 (by decide) r26 (fun c28 => ?_) (fun c28 => ?_)
      ·
        have q29 := h27.2.2 (by omega)
        refine GO.iconst dX11_voyage_45 ?_
        exact GO.retz rfl rfl dX11_voyage_46 (Or.inl rfl) ⟨rfl, _, rfl, (ir_c rfl), ⟨Or.inl rfl, fun _ => trivial, fun _ => trivial⟩⟩
      ·
        have q30 := h27.2.1 (by omega)
        refine GO.aload dX11_voyage_26 rfl ?_
        refine GO.ifnull dX11_voyage_28 ?_
        refine GO.iload dX11_voyage_31 rfl ?_
        refine GO.iconst dX11_voyage_33 ?_
        refine GO.aload dX11_voyage_34 rfl ?_
        refine GO.getI h2 fl_RX11_407 rfl rfl dX11_voyage_36 (fun _ _ => ?_)
        refine GO.callS (N := mX11_between) dX11_voyage_39 gS_RX11_112 (t_X11_between r_p3 (ir_c rfl) vi_ir) rfl [] rfl rfl (Nat.le_of_ble_eq_true rfl) rfl (k_ip fun X31 r32 h33 => ?_)
        refine GO.if_ne (tgt := 47) dX11_voyage_42 (by decide) r32 (fun c34 => ?_) (fun c34 => ?_)
        ·
          have q35 := h33.2.1 (by omega)
          refine GO.aload dX11_voyage_47 rfl ?_
          refine GO.getI h2 fl_RX11_410 rfl rfl dX11_voyage_49 (fun _ _ => ?_)
          refine GO.if_ne (tgt := 70) dX11_voyage_52 (by decide) vi_ir (fun c36 => ?_) (fun c36 => ?_)
          ·
            refine GO.iconst dX11_voyage_70 ?_
            exact GO.retz rfl rfl dX11_voyage_71 (Or.inl rfl) ⟨rfl, _, rfl, (ir_c rfl), ⟨Or.inl rfl, fun _ => trivial, fun _ => trivial⟩⟩
          ·
            refine GO.aload_n dX11_voyage_55 rfl rfl ?_
            refine GO.getR h_x fl_RX11_12 rfl rfl dX11_voyage_56 (fun hv38 h37 => ?_)
            refine GO.aload dX11_voyage_59 rfl ?_
            refine GO.getI h14 fl_RX11_344 rfl rfl dX11_voyage_61 (fun _ _ => ?_)
            refine GO.callV (ci := 0) (N := mX0_isNearSea) dX11_voyage_64 (RX0, TX0, 13) rfl gV_RX11_413 h37 (t_X0_isNearSea h37 vi_ir) rfl [] rfl rfl (Nat.le_of_ble_eq_true rfl) rfl (k_ip fun X39 r40 h41 => ?_)
            refine GO.if_ne (tgt := 72) dX11_voyage_67 (by decide) r40 (fun c42 => ?_) (fun c42 => ?_)
            ·
              refine GO.aload dX11_voyage_72 rfl ?_
              refine GO.iload_n dX11_voyage_74 rfl rfl ?_
              refine GO.iload_n dX11_voyage_75 rfl rfl ?_
              refine GO.iload dX11_voyage_76 rfl ?_
              refine GO.aload_n dX11_voyage_78 rfl rfl ?_
              refine GO.getRaw h_x fl_RX11_12 hv38 dX11_voyage_79 ?_
              refine GO.getI h37 fl_RX11_145 rfl rfl dX11_voyage_82 (fun l45 u46 => ?_)
              refine GO.aload_n dX11_voyage_85 rfl rfl ?_
              refine GO.getRaw h_x fl_RX11_12 hv38 dX11_voyage_86 ?_
              refine GO.getA (n := 4) h37 fl_RX11_400 rfl rfl rfl rfl dX11_voyage_89 (fun hv50 h49 => ?_)
              refine GO.iload_n dX11_voyage_92 rfl rfl ?_
              refine GO.callS (N := mX4_get) dX11_voyage_93 gS_RX11_253 (t_X4_get rfl h49 r_p1) rfl [ti (vi V (vq V x 0) 0), ti p3, ti p2, ti p1, .ref o1] rfl rfl (Nat.le_of_ble_eq_true rfl) rfl (k_ip fun X51 r52 h53 => ?_)
              have raw_get := h53.2
              have rw93 := h53.2
              refine GO.callV (ci := 6) (N := mX7_leave) dX11_voyage_96 (RX7, TX7, 11) rfl gV_RX11_416 h2 (t_X7_leave h2 r_p1 r_p2 r_p3 vi_ir r52) rfl [] rfl rfl (Nat.le_of_ble_eq_true rfl) rfl (k_vs fun V56 h55 hF54 => ?_)
              refine GO.aload_n dX11_voyage_99 rfl rfl ?_
              refine GO.iconst dX11_voyage_100 ?_
              refine GO.iload dX11_voyage_101 rfl ?_
              refine GO.callV (ci := 10) (N := mX11_tally) dX11_voyage_103 (RX11, TX11, 20) rfl gV_RX11_192 h_x (t_X11_tally h_x (ir_c rfl) r_p3) rfl [] rfl rfl (Nat.le_of_ble_eq_true rfl) rfl (k_vs fun V59 h58 hF57 => ?_)
              refine GO.iconst dX11_voyage_106 ?_
              exact GO.retz rfl rfl dX11_voyage_107 (Or.inr rfl) ⟨rfl, _, rfl, (ir_c rfl), ⟨Or.inr rfl, fun _ => trivial, fun _ => trivial⟩⟩
            ·
              refine GO.iconst dX11_voyage_70 ?_
              exact GO.retz rfl rfl dX11_voyage_71 (Or.inl rfl) ⟨rfl, _, rfl, (ir_c rfl), ⟨Or.inl rfl, fun _ => trivial, fun _ => trivial⟩⟩
        ·
          have q60 := h33.2.2 (by omega)
          refine GO.iconst dX11_voyage_45 ?_
          exact GO.retz rfl rfl dX11_voyage_46 (Or.inl rfl) ⟨rfl, _, rfl, (ir_c rfl), ⟨Or.inl rfl, fun _ => trivial, fun _ => trivial⟩⟩

set_option maxHeartbeats 1000000 in
theorem t_X8_isFull_k27 {K : Kmap} {V : Vmap} {x : Nat} (h_x : K x = some (0, 27)) : MC mX8_isFull_k27 K V [.ref x] (IP K V (fun X => (X = 0 ∨ X = 1) ∧ (X ≠ 0 → vi V x 3 ≥ 40) ∧ (X = 0 → vi V x 3 ≤ 39))) := by
  refine MC.start 0 (by decide +kernel) rfl rfl rfl (ls0 := [some (.ref x)]) rfl ?_
  refine GO.aload_n dX8_isFull_0 rfl rfl ?_
  refine GO.getI h_x fl_RX8_9_k27 rfl rfl dX8_isFull_1 (fun l1 u2 => ?_)
  refine GO.aload_n dX8_isFull_4 rfl rfl ?_
  refine GO.getI h_x fl_RX8_18_k27 rfl rfl dX8_isFull_5 (fun l3 u4 => ?_)
  refine GO.icmp_lt (tgt := 15) dX8_isFull_8 (by decide) vi_ir vi_ir (fun c5 => ?_) (fun c5 => ?_)
  ·
    refine GO.iconst dX8_isFull_15 ?_
    exact GO.retz rfl rfl dX8_isFull_16 (Or.inl rfl) ⟨rfl, rfl, _, rfl, (ir_c rfl), ⟨Or.inl rfl, fun h => absurd rfl h, fun h => by omega⟩⟩
  ·
    refine GO.iconst dX8_isFull_11 ?_
    refine GO.goto (tgt := 16) dX8_isFull_12 (by decide) ?_
    exact GO.retz rfl rfl dX8_isFull_16 (Or.inr rfl) ⟨rfl, rfl, _, rfl, (ir_c rfl), ⟨Or.inr rfl, fun h => by omega, fun h => absurd h (by decide)⟩⟩

set_option maxHeartbeats 1000000 in
theorem t_X8_put_k27 {K : Kmap} {V : Vmap} {x : Nat} {p0 : Int} {p1 : Int} {p2 : Int} (h_x : K x = some (0, 27)) (r_p0 : ir p0) (r_p1 : ir p1) (r_p2 : ir p2) : MC mX8_put_k27 K V [.ref x, ti p0, ti p1, ti p2] (VS K (fun V1 => (True))) := by
  refine MC.start 2 (by decide +kernel) rfl rfl rfl (ls0 := [some (.ref x), some (ti p0), some (ti p1), some (ti p2), none, none]) rfl ?_
  refine GO.iload_n dX8_put_0 rfl rfl ?_
  refine GO.aload_n dX8_put_1 rfl rfl ?_
  refine GO.getI h_x fl_RX8_15_k27 rfl rfl dX8_put_2 (fun l1 u2 => ?_)
  refine GO.imul dX8_put_5 ?_
  refine GO.norm (fun z3 r4 hn5 => ?_)
  refine GO.iload_n dX8_put_6 rfl rfl ?_
  refine GO.iadd dX8_put_7 ?_
  refine GO.norm (fun z6 r7 hn8 => ?_)
  refine GO.istore (ls1 := [some (.ref x), some (ti p0), some (ti p1), some (ti p2), some (ti z6), none]) dX8_put_8 rfl rfl ?_
  refine GO.iload_n dX8_put_10 rfl rfl ?_
  have hj18 : ∀ (z17 : Int), ∀ (l19 : 0 ≤ z17), ∀ (u20 : z17 ≤ 1), GO mX8_put_k27 K V (VS K (fun V1 => (True))) K V 0 0 39 [some (.ref x), some (ti p0), some (ti p1), some (ti p2), some (ti z6), none] [ti z17] := by
    intro z17 l19 u20
    have r21 : ir z17 := ⟨by omega, by omega⟩
    refine GO.istore (ls1 := [some (.ref x), some (ti p0), some (ti p1), some (ti p2), some (ti z6), some (ti z17)]) dX8_put_39 rfl rfl ?_
    refine GO.iload dX8_put_41 rfl ?_
    refine GO.if_eq (tgt := 69) dX8_put_43 (by decide) r21 (fun c22 => ?_) (fun c22 => ?_)
    ·
      exact GO.retv rfl rfl dX8_put_69 ⟨rfl, rfl, trivial⟩
    ·
      refine GO.iload dX8_put_46 rfl ?_
      refine GO.if_lt (tgt := 69) dX8_put_48 (by decide) r7 (fun c23 => ?_) (fun c23 => ?_)
      ·
        exact GO.retv rfl rfl dX8_put_69 ⟨rfl, rfl, trivial⟩
      ·
        refine GO.iload dX8_put_51 rfl ?_
        refine GO.aload_n dX8_put_53 rfl rfl ?_
        refine GO.getA (n := 200) h_x fl_RX8_27_k27 rfl rfl rfl rfl dX8_put_54 (fun hv25 h24 => ?_)
        refine GO.alen h24 dX8_put_57 (fun h26 => ?_)
        refine GO.icmp_ge (tgt := 69) dX8_put_58 (by decide) r7 ⟨by omega, by omega⟩ (fun c27 => ?_) (fun c27 => ?_)
        ·
          exact GO.retv rfl rfl dX8_put_69 ⟨rfl, rfl, trivial⟩
        ·
          refine GO.aload_n dX8_put_61 rfl rfl ?_
          refine GO.getRaw h_x fl_RX8_27_k27 hv25 dX8_put_62 ?_
          refine GO.iload dX8_put_65 rfl ?_
          refine GO.iload_n dX8_put_67 rfl rfl ?_
          have q30 : -2147483648 ≤ z6 ∧ z6 ≤ 2147483647 := r7
          refine GO.iast (t := 149) rfl rfl (by decide +kernel) h24 r7 (by omega) (by omega) r_p2 (r_p2).1 (r_p2).2 dX8_put_68 (fun V32 e31 => ?_)
          exact GO.retv rfl rfl dX8_put_69 ⟨rfl, rfl, trivial⟩
  have hj41 : GO mX8_put_k27 K V (VS K (fun V1 => (True))) K V 0 0 38 [some (.ref x), some (ti p0), some (ti p1), some (ti p2), some (ti z6), none] [] := by
    skip
    refine GO.iconst dX8_put_38 ?_
    exact hj18 0 (by omega) (by omega)
  refine GO.if_lt (tgt := 38) dX8_put_11 (by decide) r_p0 (fun c42 => ?_) (fun c42 => ?_)
  ·
    exact hj41 
  ·
    refine GO.iload_n dX8_put_14 rfl rfl ?_
    refine GO.aload_n dX8_put_15 rfl rfl ?_
    refine GO.getI h_x fl_RX8_9_k27 rfl rfl dX8_put_16 (fun l43 u44 => ?_)
    refine GO.icmp_ge (tgt := 38) dX8_put_19 (by decide) r_p0 vi_ir (fun c45 => ?_) (fun c45 => ?_)
    ·
      exact hj41 
    ·
      refine GO.iload_n dX8_put_22 rfl rfl ?_
      refine GO.if_lt (tgt := 38) dX8_put_23 (by decide) r_p1 (fun c46 => ?_) (fun c46 => ?_)
      ·
        exact hj41 
      ·
        refine GO.iload_n dX8_put_26 rfl rfl ?_
        refine GO.aload_n dX8_put_27 rfl rfl ?_
        refine GO.getI h_x fl_RX8_15_k27 rfl rfl dX8_put_28 (fun l47 u48 => ?_)
        refine GO.icmp_ge (tgt := 38) dX8_put_31 (by decide) r_p1 vi_ir (fun c49 => ?_) (fun c49 => ?_)
        ·
          exact hj41 
        ·
          refine GO.iconst dX8_put_34 ?_
          refine GO.goto (tgt := 39) dX8_put_35 (by decide) ?_
          exact hj18 1 (by omega) (by omega)

set_option maxHeartbeats 1000000 in
theorem t_X8_append_k27 {K : Kmap} {V : Vmap} {x : Nat} {p0 : Int} {p1 : Int} {p2 : Int} {p3 : Int} {p4 : Int} (h_x : K x = some (0, 27)) (r_p0 : ir p0) (r_p1 : ir p1) (r_p2 : ir p2) (r_p3 : ir p3) (r_p4 : ir p4) : MC mX8_append_k27 K V [.ref x, ti p0, ti p1, ti p2, ti p3, ti p4] (IS K (fun X V1 => True)) := by
  refine MC.start 1 (by decide +kernel) rfl rfl rfl (ls0 := [some (.ref x), some (ti p0), some (ti p1), some (ti p2), some (ti p3), some (ti p4), none]) rfl ?_
  refine GO.aload_n dX8_append_0 rfl rfl ?_
  refine GO.callV (ci := 27) (N := mX8_isFull_k27) dX8_append_1 (RX8, TX8, 4) rfl gV_RX8_31 h_x (t_X8_isFull_k27 h_x) rfl [] rfl rfl (Nat.le_of_ble_eq_true rfl) rfl (k_ip fun X1 r2 h3 => ?_)
  refine GO.if_eq (tgt := 9) dX8_append_4 (by decide) r2 (fun c4 => ?_) (fun c4 => ?_)
  ·
    have q5 := h3.2.2 (by omega)
    refine GO.aload_n dX8_append_9 rfl rfl ?_
    refine GO.getI h_x fl_RX8_9_k27 rfl rfl dX8_append_10 (fun l6 u7 => ?_)
    refine GO.name (fun z8 hz9 => ?_)
    have r10 : ir z8 := hz9 ▸ vi_ir
    refine GO.istore (ls1 := [some (.ref x), some (ti p0), some (ti p1), some (ti p2), some (ti p3), some (ti p4), some (ti z8)]) dX8_append_13 rfl rfl ?_
    refine GO.aload_n dX8_append_15 rfl rfl ?_
    refine GO.dup dX8_append_16 rfl ?_
    refine GO.getI h_x fl_RX8_9_k27 rfl rfl dX8_append_17 (fun l11 u12 => ?_)
    refine GO.iconst dX8_append_20 ?_
    refine GO.iadd dX8_append_21 ?_
    have q14 : -2147483648 ≤ vi V x 3 ∧ vi V x 3 ≤ 2147483647 := vi_ir
    have q15 : -2147483648 ≤ z8 ∧ z8 ≤ 2147483647 := r10
    refine GO.putI h_x fp_RX8_9_k27 rfl (by decide +kernel) ⟨by omega, by omega⟩ (by omega) (by omega) dX8_append_22 (fun V16 e13 => ?_)
    refine GO.aload_n dX8_append_25 rfl rfl ?_
    refine GO.iload dX8_append_26 rfl ?_
    refine GO.iconst dX8_append_28 ?_
    refine GO.iload_n dX8_append_29 rfl rfl ?_
    refine GO.callV (ci := 27) (N := mX8_put_k27) dX8_append_30 (RX8, TX8, 4) rfl gV_RX8_35 h_x (t_X8_put_k27 h_x r10 (ir_c rfl) r_p0) rfl [] rfl rfl (Nat.le_of_ble_eq_true rfl) rfl (k_vs fun V19 h18 hF17 => ?_)
    refine GO.aload_n dX8_append_33 rfl rfl ?_
    refine GO.iload dX8_append_34 rfl ?_
    refine GO.iconst dX8_append_36 ?_
    refine GO.iload_n dX8_append_37 rfl rfl ?_
    refine GO.callV (ci := 27) (N := mX8_put_k27) dX8_append_38 (RX8, TX8, 4) rfl gV_RX8_35 h_x (t_X8_put_k27 h_x r10 (ir_c rfl) r_p1) rfl [] rfl rfl (Nat.le_of_ble_eq_true rfl) rfl (k_vs fun V22 h21 hF20 => ?_)
    refine GO.aload_n dX8_append_41 rfl rfl ?_
    refine GO.iload dX8_append_42 rfl ?_
    refine GO.iconst dX8_append_44 ?_
    refine GO.iload_n dX8_append_45 rfl rfl ?_
    refine GO.callV (ci := 27) (N := mX8_put_k27) dX8_append_46 (RX8, TX8, 4) rfl gV_RX8_35 h_x (t_X8_put_k27 h_x r10 (ir_c rfl) r_p2) rfl [] rfl rfl (Nat.le_of_ble_eq_true rfl) rfl (k_vs fun V25 h24 hF23 => ?_)
    refine GO.aload_n dX8_append_49 rfl rfl ?_
    refine GO.iload dX8_append_50 rfl ?_
    refine GO.iconst dX8_append_52 ?_
    refine GO.iload dX8_append_53 rfl ?_
    refine GO.callV (ci := 27) (N := mX8_put_k27) dX8_append_55 (RX8, TX8, 4) rfl gV_RX8_35 h_x (t_X8_put_k27 h_x r10 (ir_c rfl) r_p3) rfl [] rfl rfl (Nat.le_of_ble_eq_true rfl) rfl (k_vs fun V28 h27 hF26 => ?_)
    refine GO.aload_n dX8_append_58 rfl rfl ?_
    refine GO.iload dX8_append_59 rfl ?_
    refine GO.iconst dX8_append_61 ?_
    refine GO.iload dX8_append_62 rfl ?_
    refine GO.callV (ci := 27) (N := mX8_put_k27) dX8_append_64 (RX8, TX8, 4) rfl gV_RX8_35 h_x (t_X8_put_k27 h_x r10 (ir_c rfl) r_p4) rfl [] rfl rfl (Nat.le_of_ble_eq_true rfl) rfl (k_vs fun V31 h30 hF29 => ?_)
    refine GO.iload dX8_append_67 rfl ?_
    exact GO.reti rfl rfl dX8_append_69 ⟨rfl, _, rfl, r10, trivial⟩
  ·
    have q32 := h3.2.1 (by omega)
    refine GO.iconst dX8_append_7 ?_
    exact GO.reti rfl rfl dX8_append_8 ⟨rfl, _, rfl, (ir_c rfl), trivial⟩
