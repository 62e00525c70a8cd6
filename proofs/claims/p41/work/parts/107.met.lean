def mX4_add_n : MRec := (RX4, cX4_add, 3, (none : Option Jvm.ClassFile.FieldType), yX4_add, 1, 22, 0, 0, 0)
def mX11_disturbNests : MRec := (RX11, cX11_disturbNests, 6, (none : Option Jvm.ClassFile.FieldType), yX11_disturbNests, 2, 44, 0, 0, 3794275180128377091639574036764685364535950857523710002444946112771297432041422848)
def mX8_get_k29 : MRec := (RX8, cX8_get, 5, (some .int), yX8_get, 0, 0, 0, 0, 0)
def mX8_put_k29 : MRec := (RX8, cX8_put, 6, (none : Option Jvm.ClassFile.FieldType), yX8_put, 0, 0, 0, 0, 10830740992659433045228180406808920716548582325686783496759685861775864483615725089999900023844295226942934417817982702456930304)
def mX11_goDown : MRec := (RX11, cX11_goDown, 7, (none : Option Jvm.ClassFile.FieldType), yX11_goDown, 2, 48, 0, 0, 10830740992659433045228180406808920716548582325686783496759685861775864483615725089999900023844295226942934417817982702456930304)
def mX11_passWork : MRec := (RX11, cX11_passWork, 5, (none : Option Jvm.ClassFile.FieldType), yX11_passWork, 6, 151, 0, 0, 10831360732630173903289697827410201439398421458871337690531142311661008275809694496422561996252792469895065383062835243486019584)
def mX11_admitParties : MRec := (RX11, cX11_admitParties, 4, (none : Option Jvm.ClassFile.FieldType), yX11_admitParties, 5, 127, 0, 0, 123947994148171612303484120256144569967825878055802728615871649113951085856808377342222976957446615908923352254691948363776)
def mX11_sendPeopleHome : MRec := (RX11, cX11_sendPeopleHome, 2, (none : Option Jvm.ClassFile.FieldType), yX11_sendPeopleHome, 1, 22, 0, 0, 7588550360256754183279148073529370729071901715047420004889892225542595001521799168)
set_option maxHeartbeats 1000000 in
theorem t_X4_add_n {K : Kmap} {V : Vmap} {p1 : Int} {p2 : Int} (r_p1 : ir p1) (r_p2 : ir p2) : MC mX4_add_n K V [.null, ti p1, ti p2] (VS K (fun V1 => (True))) := by
  refine MC.start 0 (by decide +kernel) rfl rfl rfl (ls0 := [some (.null), some (ti p1), some (ti p2)]) rfl ?_
  refine GO.aload_nN dX4_add_0 rfl rfl ?_
  refine GO.iload_n dX4_add_1 rfl rfl ?_
  refine GO.aload_nN dX4_add_2 rfl rfl ?_
  refine GO.iload_n dX4_add_3 rfl rfl ?_
  refine GO.callS (N := mX4_get_n) dX4_add_4 gS_RX4_7 (t_X4_get_n r_p1) rfl [ti p1, .null] rfl rfl (Nat.le_of_ble_eq_true rfl) rfl (k_ip fun X1 r2 h3 => ?_)
  refine GO.iload_n dX4_add_7 rfl rfl ?_
  refine GO.iadd dX4_add_8 ?_
  have q4 : -2147483648 ≤ p2 ∧ p2 ≤ 2147483647 := r_p2
  have q5 : -2147483648 ≤ X1 ∧ X1 ≤ 2147483647 := r2
  refine GO.callS (N := mX4_put_n) dX4_add_9 gS_RX4_13 (t_X4_put_n r_p1 ⟨by omega, by omega⟩) rfl [] rfl rfl (Nat.le_of_ble_eq_true rfl) rfl (k_vs fun V8 h7 hF6 => ?_)
  exact GO.retv rfl rfl dX4_add_12 ⟨rfl, rfl, trivial⟩

set_option maxHeartbeats 1000000 in
theorem t_X11_disturbNests {K : Kmap} {V : Vmap} {x : Nat} {p0 : Nat} (h_x : K x = some (0, 10)) (h_p0 : K p0 = some (0, 9)) : MC mX11_disturbNests K V [.ref x, .ref p0] (VS K (fun V1 => (True))) := by
  refine MC.start 4 (by decide +kernel) rfl rfl rfl (ls0 := [some (.ref x), some (.ref p0), none, none, none, none]) rfl ?_
  refine GO.aload_n dX11_disturbNests_0 rfl rfl ?_
  refine GO.getR h_x fl_RX11_12 rfl rfl dX11_disturbNests_1 (fun hv2 h1 => ?_)
  refine GO.getI h1 fl_RX11_145 rfl rfl dX11_disturbNests_4 (fun l3 u4 => ?_)
  refine GO.sipush dX11_disturbNests_7 rfl ?_
  refine GO.idivP dX11_disturbNests_10 vi_ir (ir_c rfl) (by omega) (by omega) ?_
  refine GO.name (fun z5 hz6 => ?_)
  refine GO.istore_n (ls1 := [some (.ref x), some (.ref p0), some (ti z5), none, none, none]) dX11_disturbNests_11 rfl rfl rfl ?_
  refine GO.iconst dX11_disturbNests_12 ?_
  refine GO.istore_n (ls1 := [some (.ref x), some (.ref p0), some (ti z5), some (ti 0), none, none]) dX11_disturbNests_13 rfl rfl rfl ?_
  refine GO.loop1 (fun i7 W => 0 ≤ i7 ∧ i7 ≤ 60 ∧ True) (fun i7 => [some (.ref x), some (.ref p0), some (ti z5), some (ti i7), none, none]) (fun i7 W => (2147483647 - i7).toNat) 0 ⟨by omega, by omega, trivial⟩ rfl (fun i7 Wi7 hp261 ih260 => ?_)
  obtain ⟨l_i7, u_i7, -⟩ := hp261
  have r_i7 : ir i7 := ⟨by omega, by omega⟩
  show GO mX11_disturbNests K V (VS K (fun V1 => (True))) K Wi7 0 0 14 [some (.ref x), some (.ref p0), some (ti z5), some (ti i7), none, none] []
  refine GO.iload_n dX11_disturbNests_14 rfl rfl ?_
  refine GO.aload_n dX11_disturbNests_15 rfl rfl ?_
  refine GO.getI h_x fl_RX11_46 rfl rfl dX11_disturbNests_16 (fun l262 u263 => ?_)
  refine GO.icmp_ge (tgt := 91) dX11_disturbNests_19 (by decide) r_i7 vi_ir (fun c264 => ?_) (fun c264 => ?_)
  ·
    exact GO.retv rfl rfl dX11_disturbNests_91 ⟨rfl, rfl, trivial⟩
  ·
    refine GO.aload_n dX11_disturbNests_22 rfl rfl ?_
    refine GO.iload_n dX11_disturbNests_23 rfl rfl ?_
    refine GO.iconst dX11_disturbNests_24 ?_
    refine GO.callV (ci := 10) (N := mX11_placeOf) dX11_disturbNests_25 (RX11, TX11, 20) rfl gV_RX11_169 h_x (t_X11_placeOf h_x r_i7 (ir_c rfl)) rfl [] rfl rfl (Nat.le_of_ble_eq_true rfl) rfl (k_rp (fun h267 => ?_) (fun o265 h266 h267 => ?_))
    ·
      have rwn25 := h267.2
      have hn268 : NN 6 5 Wi7 x → ¬ PK Wi7 x i7 5 := h267.2
      refine GO.astoreN (ls1 := [some (.ref x), some (.ref p0), some (ti z5), some (ti i7), some (.null), none]) dX11_disturbNests_28 rfl rfl ?_
      refine GO.aloadN dX11_disturbNests_30 rfl ?_
      refine GO.ifnonnullN dX11_disturbNests_32 ?_
      refine GO.goto (tgt := 85) dX11_disturbNests_35 (by decide) ?_
      refine GO.iinc (X := i7) (n := 1) (Y := i7 + 1) (ls1 := [some (.ref x), some (.ref p0), some (ti z5), some (ti (i7 + 1)), some (.null), none]) dX11_disturbNests_85 rfl rfl rfl rfl ?_
      refine GO.goto (tgt := 14) dX11_disturbNests_88 (by decide) ?_
      refine GO.drop [true, true, true, true, false, true] rfl ?_
      exact ih260 (i7 + 1) Wi7 ⟨by omega, by omega, trivial⟩ (by show (2147483647 - (i7 + 1)).toNat < (2147483647 - i7).toNat; omega)
    ·
      have hp269 : i7 ≥ 0 ∧ i7 < vi Wi7 x 6 := h267.1
      have rwp25 := h267.2
      have hq270 : o265 = plO Wi7 x (i7).toNat ∧ PK Wi7 x i7 5 := h267.2
      refine GO.astore (ls1 := [some (.ref x), some (.ref p0), some (ti z5), some (ti i7), some (.ref o265), none]) dX11_disturbNests_28 rfl rfl ?_
      refine GO.aload dX11_disturbNests_30 rfl ?_
      refine GO.ifnonnull (tgt := 38) dX11_disturbNests_32 (by decide) ?_
      refine GO.aload_n dX11_disturbNests_38 rfl rfl ?_
      refine GO.getR h_x fl_RX11_12 rfl rfl dX11_disturbNests_39 (fun hv272 h271 => ?_)
      refine GO.aload_n dX11_disturbNests_42 rfl rfl ?_
      refine GO.getI h_p0 fl_RX11_378 rfl rfl dX11_disturbNests_43 (fun _ _ => ?_)
      refine GO.aload dX11_disturbNests_46 rfl ?_
      refine GO.getI h266 fl_RX11_344 rfl rfl dX11_disturbNests_48 (fun _ _ => ?_)
      refine GO.callV (ci := 0) (N := mX0_far) dX11_disturbNests_51 (RX0, TX0, 13) rfl gV_RX11_388 h271 (t_X0_far h271 vi_ir vi_ir) rfl [] rfl rfl (Nat.le_of_ble_eq_true rfl) rfl (k_ip fun X273 r274 h275 => ?_)
      refine GO.istore (ls1 := [some (.ref x), some (.ref p0), some (ti z5), some (ti i7), some (.ref o265), some (ti X273)]) dX11_disturbNests_54 rfl rfl ?_
      refine GO.iload dX11_disturbNests_56 rfl ?_
      refine GO.if_lt (tgt := 85) dX11_disturbNests_58 (by decide) r274 (fun c276 => ?_) (fun c276 => ?_)
      ·
        refine GO.iinc (X := i7) (n := 1) (Y := i7 + 1) (ls1 := [some (.ref x), some (.ref p0), some (ti z5), some (ti (i7 + 1)), some (.ref o265), some (ti X273)]) dX11_disturbNests_85 rfl rfl rfl rfl ?_
        refine GO.goto (tgt := 14) dX11_disturbNests_88 (by decide) ?_
        refine GO.drop [true, true, true, true, false, false] rfl ?_
        exact ih260 (i7 + 1) Wi7 ⟨by omega, by omega, trivial⟩ (by show (2147483647 - (i7 + 1)).toNat < (2147483647 - i7).toNat; omega)
      ·
        refine GO.iload dX11_disturbNests_61 rfl ?_
        refine GO.iconst dX11_disturbNests_63 ?_
        refine GO.icmp_gt (tgt := 85) dX11_disturbNests_64 (by decide) r274 (ir_c rfl) (fun c277 => ?_) (fun c277 => ?_)
        ·
          refine GO.iinc (X := i7) (n := 1) (Y := i7 + 1) (ls1 := [some (.ref x), some (.ref p0), some (ti z5), some (ti (i7 + 1)), some (.ref o265), some (ti X273)]) dX11_disturbNests_85 rfl rfl rfl rfl ?_
          refine GO.goto (tgt := 14) dX11_disturbNests_88 (by decide) ?_
          refine GO.drop [true, true, true, true, false, false] rfl ?_
          exact ih260 (i7 + 1) Wi7 ⟨by omega, by omega, trivial⟩ (by show (2147483647 - (i7 + 1)).toNat < (2147483647 - i7).toNat; omega)
        ·
          refine GO.aload dX11_disturbNests_67 rfl ?_
          refine GO.getNB h266 fl_RX11_473 rfl rfl dX11_disturbNests_69 (fun hv279 => ?_) (fun n280 hv279 h278 b281 => ?_)
          ·
            refine GO.iload_n dX11_disturbNests_72 rfl rfl ?_
            refine GO.aload_n dX11_disturbNests_73 rfl rfl ?_
            refine GO.getI h_p0 fl_RX11_306 rfl rfl dX11_disturbNests_74 (fun _ _ => ?_)
            refine GO.iload dX11_disturbNests_77 rfl ?_
            refine GO.iconst dX11_disturbNests_79 ?_
            refine GO.iadd dX11_disturbNests_80 ?_
            have q282 : -2147483648 ≤ X273 ∧ X273 ≤ 2147483647 := r274
            refine GO.idiv dX11_disturbNests_81 ⟨by omega, by omega⟩ (by omega) ?_
            refine GO.callS (N := mX4_add_n) dX11_disturbNests_82 gS_RX11_476 (t_X4_add_n ⟨by omega, by omega⟩ wdiv_ir) rfl [] rfl rfl (Nat.le_of_ble_eq_true rfl) rfl (k_vs fun V285 h284 hF283 => ?_)
            refine GO.iinc (X := i7) (n := 1) (Y := i7 + 1) (ls1 := [some (.ref x), some (.ref p0), some (ti z5), some (ti (i7 + 1)), some (.ref o265), some (ti X273)]) dX11_disturbNests_85 rfl rfl rfl rfl ?_
            refine GO.goto (tgt := 14) dX11_disturbNests_88 (by decide) ?_
            refine GO.drop [true, true, true, true, false, false] rfl ?_
            exact ih260 (i7 + 1) V285 ⟨by omega, by omega, trivial⟩ (by show (2147483647 - (i7 + 1)).toNat < (2147483647 - i7).toNat; omega)
          ·
            refine GO.iload_n dX11_disturbNests_72 rfl rfl ?_
            refine GO.aload_n dX11_disturbNests_73 rfl rfl ?_
            refine GO.getI h_p0 fl_RX11_306 rfl rfl dX11_disturbNests_74 (fun _ _ => ?_)
            refine GO.iload dX11_disturbNests_77 rfl ?_
            refine GO.iconst dX11_disturbNests_79 ?_
            refine GO.iadd dX11_disturbNests_80 ?_
            have q286 : -2147483648 ≤ X273 ∧ X273 ≤ 2147483647 := r274
            refine GO.idiv dX11_disturbNests_81 ⟨by omega, by omega⟩ (by omega) ?_
            refine GO.callS (N := mX4_add) dX11_disturbNests_82 gS_RX11_476 (t_X4_add h278 ⟨by omega, by omega⟩ wdiv_ir) rfl [] rfl rfl (Nat.le_of_ble_eq_true rfl) rfl (k_vs fun V289 h288 hF287 => ?_)
            refine GO.iinc (X := i7) (n := 1) (Y := i7 + 1) (ls1 := [some (.ref x), some (.ref p0), some (ti z5), some (ti (i7 + 1)), some (.ref o265), some (ti X273)]) dX11_disturbNests_85 rfl rfl rfl rfl ?_
            refine GO.goto (tgt := 14) dX11_disturbNests_88 (by decide) ?_
            refine GO.drop [true, true, true, true, false, false] rfl ?_
            exact ih260 (i7 + 1) V289 ⟨by omega, by omega, trivial⟩ (by show (2147483647 - (i7 + 1)).toNat < (2147483647 - i7).toNat; omega)

set_option maxHeartbeats 1000000 in
theorem t_X8_get_k29 {K : Kmap} {V : Vmap} {x : Nat} {p0 : Int} {p1 : Int} (h_x : K x = some (0, 29)) (r_p0 : ir p0) (r_p1 : ir p1) : MC mX8_get_k29 K V [.ref x, ti p0, ti p1] (IP K V (fun X => True)) := by
  refine MC.start 2 (by decide +kernel) rfl rfl rfl (ls0 := [some (.ref x), some (ti p0), some (ti p1), none, none]) rfl ?_
  refine GO.iload_n dX8_get_0 rfl rfl ?_
  refine GO.aload_n dX8_get_1 rfl rfl ?_
  refine GO.getI h_x fl_RX8_15_k29 rfl rfl dX8_get_2 (fun l1 u2 => ?_)
  refine GO.imul dX8_get_5 ?_
  refine GO.norm (fun z3 r4 hn5 => ?_)
  refine GO.iload_n dX8_get_6 rfl rfl ?_
  refine GO.iadd dX8_get_7 ?_
  refine GO.norm (fun z6 r7 hn8 => ?_)
  refine GO.istore_n (ls1 := [some (.ref x), some (ti p0), some (ti p1), some (ti z6), none]) dX8_get_8 rfl rfl rfl ?_
  refine GO.iload_n dX8_get_9 rfl rfl ?_
  have hj18 : ∀ (z17 : Int), ∀ (l19 : 0 ≤ z17), ∀ (u20 : z17 ≤ 1), GO mX8_get_k29 K V (IP K V (fun X => True)) K V 0 0 38 [some (.ref x), some (ti p0), some (ti p1), some (ti z6), none] [ti z17] := by
    intro z17 l19 u20
    have r21 : ir z17 := ⟨by omega, by omega⟩
    refine GO.istore (ls1 := [some (.ref x), some (ti p0), some (ti p1), some (ti z6), some (ti z17)]) dX8_get_38 rfl rfl ?_
    refine GO.iload dX8_get_40 rfl ?_
    refine GO.if_eq (tgt := 67) dX8_get_42 (by decide) r21 (fun c22 => ?_) (fun c22 => ?_)
    ·
      refine GO.iconst dX8_get_67 ?_
      exact GO.reti rfl rfl dX8_get_68 ⟨rfl, rfl, _, rfl, (ir_c rfl), trivial⟩
    ·
      refine GO.iload_n dX8_get_45 rfl rfl ?_
      refine GO.if_lt (tgt := 67) dX8_get_46 (by decide) r7 (fun c23 => ?_) (fun c23 => ?_)
      ·
        refine GO.iconst dX8_get_67 ?_
        exact GO.reti rfl rfl dX8_get_68 ⟨rfl, rfl, _, rfl, (ir_c rfl), trivial⟩
      ·
        refine GO.iload_n dX8_get_49 rfl rfl ?_
        refine GO.aload_n dX8_get_50 rfl rfl ?_
        refine GO.getA (n := 30) h_x fl_RX8_27_k29 rfl rfl rfl rfl dX8_get_51 (fun hv25 h24 => ?_)
        refine GO.alen h24 dX8_get_54 (fun h26 => ?_)
        refine GO.icmp_ge (tgt := 67) dX8_get_55 (by decide) r7 ⟨by omega, by omega⟩ (fun c27 => ?_) (fun c27 => ?_)
        ·
          refine GO.iconst dX8_get_67 ?_
          exact GO.reti rfl rfl dX8_get_68 ⟨rfl, rfl, _, rfl, (ir_c rfl), trivial⟩
        ·
          refine GO.aload_n dX8_get_58 rfl rfl ?_
          refine GO.getRaw h_x fl_RX8_27_k29 hv25 dX8_get_59 ?_
          refine GO.iload_n dX8_get_62 rfl rfl ?_
          have q30 : -2147483648 ≤ z6 ∧ z6 ≤ 2147483647 := r7
          refine GO.iald (t := 151) rfl rfl h24 r7 (by omega) (by omega) dX8_get_63 (fun _ _ => ?_)
          refine GO.goto (tgt := 68) dX8_get_64 (by decide) ?_
          have q31 : -2147483648 ≤ vi V (vq V x 2) (z6).toNat ∧ vi V (vq V x 2) (z6).toNat ≤ 2147483647 := vi_ir
          exact GO.reti rfl rfl dX8_get_68 ⟨rfl, rfl, _, rfl, vi_ir, trivial⟩
  have hj40 : GO mX8_get_k29 K V (IP K V (fun X => True)) K V 0 0 37 [some (.ref x), some (ti p0), some (ti p1), some (ti z6), none] [] := by
    skip
    refine GO.iconst dX8_get_37 ?_
    exact hj18 0 (by omega) (by omega)
  refine GO.if_lt (tgt := 37) dX8_get_10 (by decide) r_p0 (fun c41 => ?_) (fun c41 => ?_)
  ·
    exact hj40 
  ·
    refine GO.iload_n dX8_get_13 rfl rfl ?_
    refine GO.aload_n dX8_get_14 rfl rfl ?_
    refine GO.getI h_x fl_RX8_9_k29 rfl rfl dX8_get_15 (fun l42 u43 => ?_)
    refine GO.icmp_ge (tgt := 37) dX8_get_18 (by decide) r_p0 vi_ir (fun c44 => ?_) (fun c44 => ?_)
    ·
      exact hj40 
    ·
      refine GO.iload_n dX8_get_21 rfl rfl ?_
      refine GO.if_lt (tgt := 37) dX8_get_22 (by decide) r_p1 (fun c45 => ?_) (fun c45 => ?_)
      ·
        exact hj40 
      ·
        refine GO.iload_n dX8_get_25 rfl rfl ?_
        refine GO.aload_n dX8_get_26 rfl rfl ?_
        refine GO.getI h_x fl_RX8_15_k29 rfl rfl dX8_get_27 (fun l46 u47 => ?_)
        refine GO.icmp_ge (tgt := 37) dX8_get_30 (by decide) r_p1 vi_ir (fun c48 => ?_) (fun c48 => ?_)
        ·
          exact hj40 
        ·
          refine GO.iconst dX8_get_33 ?_
          refine GO.goto (tgt := 38) dX8_get_34 (by decide) ?_
          exact hj18 1 (by omega) (by omega)

set_option maxHeartbeats 1000000 in
theorem t_X8_put_k29 {K : Kmap} {V : Vmap} {x : Nat} {p0 : Int} {p1 : Int} {p2 : Int} (h_x : K x = some (0, 29)) (r_p0 : ir p0) (r_p1 : ir p1) (r_p2 : ir p2) : MC mX8_put_k29 K V [.ref x, ti p0, ti p1, ti p2] (VS K (fun V1 => (True))) := by
  refine MC.start 2 (by decide +kernel) rfl rfl rfl (ls0 := [some (.ref x), some (ti p0), some (ti p1), some (ti p2), none, none]) rfl ?_
  refine GO.iload_n dX8_put_0 rfl rfl ?_
  refine GO.aload_n dX8_put_1 rfl rfl ?_
  refine GO.getI h_x fl_RX8_15_k29 rfl rfl dX8_put_2 (fun l1 u2 => ?_)
  refine GO.imul dX8_put_5 ?_
  refine GO.norm (fun z3 r4 hn5 => ?_)
  refine GO.iload_n dX8_put_6 rfl rfl ?_
  refine GO.iadd dX8_put_7 ?_
  refine GO.norm (fun z6 r7 hn8 => ?_)
  refine GO.istore (ls1 := [some (.ref x), some (ti p0), some (ti p1), some (ti p2), some (ti z6), none]) dX8_put_8 rfl rfl ?_
  refine GO.iload_n dX8_put_10 rfl rfl ?_
  have hj18 : ∀ (z17 : Int), ∀ (l19 : 0 ≤ z17), ∀ (u20 : z17 ≤ 1), GO mX8_put_k29 K V (VS K (fun V1 => (True))) K V 0 0 39 [some (.ref x), some (ti p0), some (ti p1), some (ti p2), some (ti z6), none] [ti z17] := by
    intro z17 l19 u20
    have r21 : ir z17 := ⟨by omega, by omega⟩
    refine GO.istore (ls1 := [some (.ref x), some (ti p0), some (ti p1), some (ti p2), some (ti z6), some (ti z17)]) dX8_put_39 rfl rfl ?_
    refine GO.iload dX8_put_41 rfl ?_
    refine GO.if_eq (tgt := 69) dX8_put_43 (by decide) r21 (fun c22 => ?_) (fun c22 => ?_)
    ·
      exact GO.retv rfl rfl dX8_put_69 ⟨rfl, rfl, trivial⟩
    ·
      refine GO.iload dX8_put_46 rfl ?_
      refine GO.if_lt (tgt := 69) dX8_put_48 (by decide) r7 (fun c23 => ?_) (fun c23 => ?_)
      ·
        exact GO.retv rfl rfl dX8_put_69 ⟨rfl, rfl, trivial⟩
      ·
        refine GO.iload dX8_put_51 rfl ?_
        refine GO.aload_n dX8_put_53 rfl rfl ?_
        refine GO.getA (n := 30) h_x fl_RX8_27_k29 rfl rfl rfl rfl dX8_put_54 (fun hv25 h24 => ?_)
        refine GO.alen h24 dX8_put_57 (fun h26 => ?_)
        refine GO.icmp_ge (tgt := 69) dX8_put_58 (by decide) r7 ⟨by omega, by omega⟩ (fun c27 => ?_) (fun c27 => ?_)
        ·
          exact GO.retv rfl rfl dX8_put_69 ⟨rfl, rfl, trivial⟩
        ·
          refine GO.aload_n dX8_put_61 rfl rfl ?_
          refine GO.getRaw h_x fl_RX8_27_k29 hv25 dX8_put_62 ?_
          refine GO.iload dX8_put_65 rfl ?_
          refine GO.iload_n dX8_put_67 rfl rfl ?_
          have q30 : -2147483648 ≤ z6 ∧ z6 ≤ 2147483647 := r7
          refine GO.iast (t := 151) rfl rfl (by decide +kernel) h24 r7 (by omega) (by omega) r_p2 (r_p2).1 (r_p2).2 dX8_put_68 (fun V32 e31 => ?_)
          exact GO.retv rfl rfl dX8_put_69 ⟨rfl, rfl, trivial⟩
  have hj41 : GO mX8_put_k29 K V (VS K (fun V1 => (True))) K V 0 0 38 [some (.ref x), some (ti p0), some (ti p1), some (ti p2), some (ti z6), none] [] := by
    skip
    refine GO.iconst dX8_put_38 ?_
    exact hj18 0 (by omega) (by omega)
  refine GO.if_lt (tgt := 38) dX8_put_11 (by decide) r_p0 (fun c42 => ?_) (fun c42 => ?_)
  ·
    exact hj41 
  ·
    refine GO.iload_n dX8_put_14 rfl rfl ?_
    refine GO.aload_n dX8_put_15 rfl rfl ?_
    refine GO.getI h_x fl_RX8_9_k29 rfl rfl dX8_put_16 (fun l43 u44 => ?_)
    refine GO.icmp_ge (tgt := 38) dX8_put_19 (by decide) r_p0 vi_ir (fun c45 => ?_) (fun c45 => ?_)
    ·
      exact hj41 
    ·
      refine GO.iload_n dX8_put_22 rfl rfl ?_
      refine GO.if_lt (tgt := 38) dX8_put_23 (by decide) r_p1 (fun c46 => ?_) (fun c46 => ?_)
      ·
        exact hj41 
      ·
        refine GO.iload_n dX8_put_26 rfl rfl ?_
        refine GO.aload_n dX8_put_27 rfl rfl ?_
        refine GO.getI h_x fl_RX8_15_k29 rfl rfl dX8_put_28 (fun l47 u48 => ?_)
        refine GO.icmp_ge (tgt := 38) dX8_put_31 (by decide) r_p1 vi_ir (fun c49 => ?_) (fun c49 => ?_)
        ·
          exact hj41 
        ·
          refine GO.iconst dX8_put_34 ?_
          refine GO.goto (tgt := 39) dX8_put_35 (by decide) ?_
          exact hj18 1 (by omega) (by omega)

set_option maxHeartbeats 1000000 in
theorem t_X11_goDown {K : Kmap} {V : Vmap} {x : Nat} {p0 : Int} (h_x : K x = some (0, 10)) (r_p0 : ir p0) : MC mX11_goDown K V [.ref x, ti p0] (VS K (fun V1 => (True))) := by
  refine MC.start 5 (by decide +kernel) rfl rfl rfl (ls0 := [some (.ref x), some (ti p0), none, none, none, none, none]) rfl ?_
  refine GO.aload_n dX11_goDown_0 rfl rfl ?_
  refine GO.aload_n dX11_goDown_1 rfl rfl ?_
  refine GO.getR h_x fl_RX11_79 rfl rfl dX11_goDown_2 (fun hv2 h1 => ?_)
  refine GO.iload_n dX11_goDown_5 rfl rfl ?_
  refine GO.iconst dX11_goDown_6 ?_
  refine GO.callV (ci := 29) (N := mX8_get_k29) dX11_goDown_7 (RX8, TX8, 4) rfl gV_RX11_209 h1 (t_X8_get_k29 h1 r_p0 (ir_c rfl)) rfl [.ref x] rfl rfl (Nat.le_of_ble_eq_true rfl) rfl (k_ip fun X3 r4 h5 => ?_)
  refine GO.iconst dX11_goDown_10 ?_
  refine GO.callV (ci := 10) (N := mX11_placeOf) dX11_goDown_11 (RX11, TX11, 20) rfl gV_RX11_169 h_x (t_X11_placeOf h_x r4 (ir_c rfl)) rfl [] rfl rfl (Nat.le_of_ble_eq_true rfl) rfl (k_rp (fun h8 => ?_) (fun o6 h7 h8 => ?_))
  ·
    have rwn11 := h8.2
    have hn9 : NN 6 5 V x → ¬ PK V x X3 4 := h8.2
    refine GO.astore_nN (ls1 := [some (.ref x), some (ti p0), some (.null), none, none, none, none]) dX11_goDown_14 rfl rfl rfl ?_
    refine GO.aload_nN dX11_goDown_15 rfl rfl ?_
    refine GO.ifnonnullN dX11_goDown_16 ?_
    exact GO.retv rfl rfl dX11_goDown_19 ⟨rfl, rfl, trivial⟩
  ·
    have hp10 : X3 ≥ 0 ∧ X3 < vi V x 6 := h8.1
    have rwp11 := h8.2
    have hq11 : o6 = plO V x (X3).toNat ∧ PK V x X3 4 := h8.2
    refine GO.astore_n (ls1 := [some (.ref x), some (ti p0), some (.ref o6), none, none, none, none]) dX11_goDown_14 rfl rfl rfl ?_
    refine GO.aload_n dX11_goDown_15 rfl rfl ?_
    refine GO.ifnonnull (tgt := 20) dX11_goDown_16 (by decide) ?_
    refine GO.aload_n dX11_goDown_20 rfl rfl ?_
    refine GO.getRaw h_x fl_RX11_79 hv2 dX11_goDown_21 ?_
    refine GO.iload_n dX11_goDown_24 rfl rfl ?_
    refine GO.iconst dX11_goDown_25 ?_
    refine GO.callV (ci := 29) (N := mX8_get_k29) dX11_goDown_26 (RX8, TX8, 4) rfl gV_RX11_209 h1 (t_X8_get_k29 h1 r_p0 (ir_c rfl)) rfl [] rfl rfl (Nat.le_of_ble_eq_true rfl) rfl (k_ip fun X14 r15 h16 => ?_)
    refine GO.istore_n (ls1 := [some (.ref x), some (ti p0), some (.ref o6), some (ti X14), none, none, none]) dX11_goDown_29 rfl rfl rfl ?_
    refine GO.iload_n dX11_goDown_30 rfl rfl ?_
    refine GO.sipush dX11_goDown_31 rfl ?_
    refine GO.idiv dX11_goDown_34 (ir_c rfl) (by omega) ?_
    refine GO.bipush dX11_goDown_35 rfl ?_
    refine GO.callS (N := mJ9_min_7cf53) dX11_goDown_37 gS_RX11_479 (t_J9_min_7cf53 wdiv_ir (ir_c rfl)) rfl [] rfl rfl (Nat.le_of_ble_eq_true rfl) rfl (k_ip fun X17 r18 h19 => ?_)
    have q20 : -2147483648 ≤ wdiv X14 500 ∧ wdiv X14 500 ≤ 2147483647 := wdiv_ir
    have q21 : -2147483648 ≤ X17 ∧ X17 ≤ 2147483647 := r18
    refine GO.istore (ls1 := [some (.ref x), some (ti p0), some (.ref o6), some (ti X14), some (ti X17), none, none]) dX11_goDown_40 rfl rfl ?_
    refine GO.aload_n dX11_goDown_42 rfl rfl ?_
    refine GO.callV (ci := 3) (N := mX3_sureDepth) dX11_goDown_43 (RX3, TX3, 16) rfl gV_RX11_482 h7 (t_X3_sureDepth h7) rfl [] rfl rfl (Nat.le_of_ble_eq_true rfl) rfl (k_ip fun X22 r23 h24 => ?_)
    refine GO.aload_n dX11_goDown_46 rfl rfl ?_
    refine GO.getA (n := 11) h_x fl_RX11_94 rfl rfl rfl rfl dX11_goDown_47 (fun hv26 h25 => ?_)
    refine GO.bipush dX11_goDown_50 rfl ?_
    refine GO.callS (N := mX4_get) dX11_goDown_52 gS_RX11_253 (t_X4_get rfl h25 (ir_c rfl)) rfl [ti X22] rfl rfl (Nat.le_of_ble_eq_true rfl) rfl (k_ip fun X27 r28 h29 => ?_)
    have raw_get := h29.2
    have rw52 := h29.2
    refine GO.isub dX11_goDown_55 ?_
    refine GO.norm (fun z30 r31 hn32 => ?_)
    refine GO.istore (ls1 := [some (.ref x), some (ti p0), some (.ref o6), some (ti X14), some (ti X17), some (ti z30), none]) dX11_goDown_56 rfl rfl ?_
    refine GO.iload_n dX11_goDown_58 rfl rfl ?_
    refine GO.aload_n dX11_goDown_59 rfl rfl ?_
    refine GO.getRaw h_x fl_RX11_94 hv26 dX11_goDown_60 ?_
    refine GO.iload dX11_goDown_63 rfl ?_
    refine GO.callS (N := mX4_get) dX11_goDown_65 gS_RX11_253 (t_X4_get rfl h25 r18) rfl [ti X14] rfl rfl (Nat.le_of_ble_eq_true rfl) rfl (k_ip fun X35 r36 h37 => ?_)
    have raw_get := h37.2
    have rw65 := h37.2
    refine GO.iadd dX11_goDown_68 ?_
    refine GO.norm (fun z38 r39 hn40 => ?_)
    refine GO.iload dX11_goDown_69 rfl ?_
    refine GO.callS (N := mJ9_min_7cf53) dX11_goDown_71 gS_RX11_479 (t_J9_min_7cf53 r39 r31) rfl [] rfl rfl (Nat.le_of_ble_eq_true rfl) rfl (k_ip fun X41 r42 h43 => ?_)
    have q44 : -2147483648 ≤ z30 ∧ z30 ≤ 2147483647 := r31
    have q45 : -2147483648 ≤ X41 ∧ X41 ≤ 2147483647 := r42
    have q46 : -2147483648 ≤ z38 ∧ z38 ≤ 2147483647 := r39
    refine GO.istore (ls1 := [some (.ref x), some (ti p0), some (.ref o6), some (ti X14), some (ti X17), some (ti z30), some (ti X41)]) dX11_goDown_74 rfl rfl ?_
    refine GO.aload_n dX11_goDown_76 rfl rfl ?_
    refine GO.getRaw h_x fl_RX11_79 hv2 dX11_goDown_77 ?_
    refine GO.iload_n dX11_goDown_80 rfl rfl ?_
    refine GO.iconst dX11_goDown_81 ?_
    refine GO.iload_n dX11_goDown_82 rfl rfl ?_
    refine GO.iload dX11_goDown_83 rfl ?_
    refine GO.callS (N := mJ9_max_7cf53) dX11_goDown_85 gS_RX11_296 (t_J9_max_7cf53 r15 r42) rfl [ti 2, ti p0, .ref (vq V x 13)] rfl rfl (Nat.le_of_ble_eq_true rfl) rfl (k_ip fun X49 r50 h51 => ?_)
    have q52 : -2147483648 ≤ X49 ∧ X49 ≤ 2147483647 := r50
    have q53 : -2147483648 ≤ X14 ∧ X14 ≤ 2147483647 := r15
    refine GO.callV (ci := 29) (N := mX8_put_k29) dX11_goDown_88 (RX8, TX8, 4) rfl gV_RX11_485 h1 (t_X8_put_k29 h1 r_p0 (ir_c rfl) r50) rfl [] rfl rfl (Nat.le_of_ble_eq_true rfl) rfl (k_vs fun V56 h55 hF54 => ?_)
    exact GO.retv rfl rfl dX11_goDown_91 ⟨rfl, rfl, trivial⟩

set_option maxHeartbeats 1000000 in
theorem t_X11_passWork {K : Kmap} {V : Vmap} {x : Nat} {p0 : Int} (h_x : K x = some (0, 10)) (r_p0 : ir p0) (w_0 : CWI K V x) : MC mX11_passWork K V [.ref x, ti p0] (VS K (fun V1 => (True) ∧ (CWI K V1 x))) := by
  refine MC.start 3 (by decide +kernel) rfl rfl rfl (ls0 := [some (.ref x), some (ti p0), none, none, none]) rfl ?_
  refine GO.useWT (fun hW_0 => ?_)
  refine GO.aload_n dX11_passWork_0 rfl rfl ?_
  refine GO.iload_n dX11_passWork_1 rfl rfl ?_
  refine GO.callV (ci := 10) (N := mX11_workOf) dX11_passWork_2 (RX11, TX11, 20) rfl gV_RX11_309 h_x (t_X11_workOf h_x r_p0) rfl [] rfl rfl (Nat.le_of_ble_eq_true rfl) rfl (k_rp (fun h3 => ?_) (fun o1 h2 h3 => ?_))
  ·
    have rwn2 := h3.2
    have hn4 : NN 8 7 V x → p0 < 0 ∨ vi V x 8 ≤ p0 := h3.2
    refine GO.astore_nN (ls1 := [some (.ref x), some (ti p0), some (.null), none, none]) dX11_passWork_5 rfl rfl rfl ?_
    refine GO.aload_nN dX11_passWork_6 rfl rfl ?_
    refine GO.ifnullN (tgt := 38) dX11_passWork_7 (by decide) ?_
    exact GO.retv rfl rfl dX11_passWork_38 ⟨rfl, rfl, ⟨trivial, (by first | exact w_0)⟩⟩
  ·
    have hp5 : p0 ≥ 0 ∧ p0 < vi V x 8 := h3.1
    have rwp2 := h3.2
    have hq6 : o1 = wkO V x (p0).toNat ∧ 0 ≤ p0 ∧ p0 < vi V x 8 := h3.2
    refine GO.astore_n (ls1 := [some (.ref x), some (ti p0), some (.ref o1), none, none]) dX11_passWork_5 rfl rfl rfl ?_
    refine GO.aload_n dX11_passWork_6 rfl rfl ?_
    refine GO.ifnull dX11_passWork_7 ?_
    refine GO.aload_n dX11_passWork_10 rfl rfl ?_
    refine GO.getR h_x fl_RX11_12 rfl rfl dX11_passWork_11 (fun hv8 h7 => ?_)
    refine GO.getI h7 fl_RX11_145 rfl rfl dX11_passWork_14 (fun l9 u10 => ?_)
    refine GO.aload_n dX11_passWork_17 rfl rfl ?_
    refine GO.getI h2 fl_RX11_452 rfl rfl dX11_passWork_18 (fun _ _ => ?_)
    refine GO.icmp_lt (tgt := 38) dX11_passWork_21 (by decide) vi_ir vi_ir (fun c11 => ?_) (fun c11 => ?_)
    ·
      exact GO.retv rfl rfl dX11_passWork_38 ⟨rfl, rfl, ⟨trivial, (by first | exact w_0)⟩⟩
    ·
      refine GO.aload_n dX11_passWork_24 rfl rfl ?_
      refine GO.getRaw h_x fl_RX11_12 hv8 dX11_passWork_25 ?_
      refine GO.getI h7 fl_RX11_145 rfl rfl dX11_passWork_28 (fun l14 u15 => ?_)
      refine GO.aload_n dX11_passWork_31 rfl rfl ?_
      refine GO.getI h2 fl_RX11_455 rfl rfl dX11_passWork_32 (fun _ _ => ?_)
      refine GO.icmp_le (tgt := 39) dX11_passWork_35 (by decide) vi_ir vi_ir (fun c16 => ?_) (fun c16 => ?_)
      ·
        refine GO.aload_n dX11_passWork_39 rfl rfl ?_
        refine GO.aload_n dX11_passWork_40 rfl rfl ?_
        refine GO.aload_n dX11_passWork_41 rfl rfl ?_
        refine GO.getRaw h_x fl_RX11_12 hv8 dX11_passWork_42 ?_
        refine GO.getI h7 fl_RX11_145 rfl rfl dX11_passWork_45 (fun l19 u20 => ?_)
        refine GO.iconst dX11_passWork_48 ?_
        refine GO.callV (ci := 10) (N := mX11_judge) dX11_passWork_49 (RX11, TX11, 20) rfl gV_RX11_331 h_x (t_X11_judge h_x h2 vi_ir (ir_c rfl) (by omega) (w_0)) rfl [] rfl rfl (Nat.le_of_ble_eq_true rfl) rfl (k_is fun X21 V25 r22 h23 hF24 => ?_)
        have raw_judge := h23.2
        have rw49 := h23.2
        refine GO.useWT (fun hWj => ?_)
        refine GO.if_eq (tgt := 66) dX11_passWork_52 (by decide) r22 (fun c26 => ?_) (fun c26 => ?_)
        ·
          refine GO.aload_n dX11_passWork_66 rfl rfl ?_
          refine GO.dup dX11_passWork_67 rfl ?_
          refine GO.getI h2 fl_RX11_461 rfl rfl dX11_passWork_68 (fun _ _ => ?_)
          refine GO.iconst dX11_passWork_71 ?_
          refine GO.iadd dX11_passWork_72 ?_
          refine GO.norm (fun z27 r28 hn29 => ?_)
          refine GO.putI h2 fp_RX11_461 rfl (by decide +kernel) r28 (r28).1 (r28).2 dX11_passWork_73 (fun V31 e30 => ?_)
          have hc1 := CWI.put (kd := (0, 9)) (j := 7) rw49 (by assumption) e30 hWj h_x (by decide +kernel) (by decide +kernel) (by decide +kernel) (by decide +kernel)
          refine GO.useWT (fun hWp => ?_)
          refine GO.aload_n dX11_passWork_76 rfl rfl ?_
          refine GO.aload_n dX11_passWork_77 rfl rfl ?_
          refine GO.getI h2 fl_RX11_353 rfl rfl dX11_passWork_78 (fun _ _ => ?_)
          refine GO.callV (ci := 10) (N := mX11_partyOf) dX11_passWork_81 (RX11, TX11, 20) rfl gV_RX11_151 h_x (t_X11_partyOf h_x vi_ir) rfl [] rfl rfl (Nat.le_of_ble_eq_true rfl) rfl (k_rp (fun h34 => ?_) (fun o32 h33 h34 => ?_))
          ·
            have rwn81 := h34.2
            have hn35 : PN V31 x → (vi V31 o1 1) < 0 ∨ vi V31 x 4 ≤ (vi V31 o1 1) := h34.2
            refine GO.astore_nN (ls1 := [some (.ref x), some (ti p0), some (.ref o1), some (.null), none]) dX11_passWork_84 rfl rfl rfl ?_
            refine GO.aload_n dX11_passWork_85 rfl rfl ?_
            refine GO.getI h2 fl_RX11_375 rfl rfl dX11_passWork_86 (fun _ _ => ?_)
            refine GO.if_ne (tgt := 106) dX11_passWork_89 (by decide) vi_ir (fun c36 => ?_) (fun c36 => ?_)
            ·
              have hc2 : CWI K V31 x := by first | exact hc1 | exact CWI.put (kd := (0, 2)) (j := 1) hc1 (by assumption) (by assumption) hWp h_x (by decide +kernel) (by decide +kernel) (by decide +kernel) (by decide +kernel)
              refine GO.useWT (fun hWq => ?_)
              refine GO.aload_n dX11_passWork_106 rfl rfl ?_
              refine GO.aload_n dX11_passWork_107 rfl rfl ?_
              refine GO.callV (ci := 10) (N := mX11_disturbNests) dX11_passWork_108 (RX11, TX11, 20) rfl gV_RX11_467 h_x (t_X11_disturbNests h_x h2) rfl [] rfl rfl (Nat.le_of_ble_eq_true rfl) rfl (k_vs fun V39 h38 hF37 => ?_)
              have hc3 := CWI.fr hc2 hF37 ext.rf hWq h_x (by decide +kernel) (by decide +kernel) (by decide +kernel)
              refine GO.iconst dX11_passWork_111 ?_
              refine GO.istore (ls1 := [some (.ref x), some (ti p0), some (.ref o1), some (.null), some (ti 0)]) dX11_passWork_112 rfl rfl ?_
              refine GO.loop1 (fun i40 W => 0 ≤ i40 ∧ i40 ≤ 10 ∧ (CWI K W x) ∧ True) (fun i40 => [some (.ref x), some (ti p0), some (.ref o1), some (.null), some (ti i40)]) (fun i40 W => (2147483647 - i40).toNat) 0 ⟨by omega, by omega, (by first | exact w_0 | exact hc3 | exact CWI.put (kd := (0, 9)) (j := 8) rw49 (by assumption) (by assumption) hWj h_x (by decide +kernel) (by decide +kernel) (by decide +kernel) (by decide +kernel)), trivial⟩ rfl (fun i40 Wi40 hp140 ih139 => ?_)
              obtain ⟨l_i40, u_i40, hcl, -⟩ := hp140
              have r_i40 : ir i40 := ⟨by omega, by omega⟩
              show GO mX11_passWork K V (VS K (fun V1 => (True) ∧ (CWI K V1 x))) K Wi40 0 0 114 [some (.ref x), some (ti p0), some (.ref o1), some (.null), some (ti i40)] []
              refine GO.useWT (fun hWl => ?_)
              refine GO.iload dX11_passWork_114 rfl ?_
              refine GO.aload_n dX11_passWork_116 rfl rfl ?_
              refine GO.getR h_x fl_RX11_79 rfl rfl dX11_passWork_117 (fun hv142 h141 => ?_)
              refine GO.getI h141 fl_RX11_199_k29 rfl rfl dX11_passWork_120 (fun l143 u144 => ?_)
              refine GO.icmp_ge (tgt := 152) dX11_passWork_123 (by decide) r_i40 vi_ir (fun c145 => ?_) (fun c145 => ?_)
              ·
                exact GO.retv rfl rfl dX11_passWork_152 ⟨rfl, rfl, ⟨trivial, (by first | exact w_0 | exact hc3 | exact hcl | exact CWI.fr hcl (by assumption) ext.rf hWl h_x (by decide +kernel) (by decide +kernel) (by decide +kernel) | exact CWI.put (kd := (0, 9)) (j := 8) rw49 (by assumption) (by assumption) hWj h_x (by decide +kernel) (by decide +kernel) (by decide +kernel) (by decide +kernel))⟩⟩
              ·
                refine GO.aload_n dX11_passWork_126 rfl rfl ?_
                refine GO.getRaw h_x fl_RX11_79 hv142 dX11_passWork_127 ?_
                refine GO.iload dX11_passWork_130 rfl ?_
                refine GO.iconst dX11_passWork_132 ?_
                refine GO.callV (ci := 29) (N := mX8_get_k29) dX11_passWork_133 (RX8, TX8, 4) rfl gV_RX11_209 h141 (t_X8_get_k29 h141 r_i40 (ir_c rfl)) rfl [] rfl rfl (Nat.le_of_ble_eq_true rfl) rfl (k_ip fun X148 r149 h150 => ?_)
                refine GO.iload_n dX11_passWork_136 rfl rfl ?_
                refine GO.icmp_ne (tgt := 146) dX11_passWork_137 (by decide) r149 r_p0 (fun c151 => ?_) (fun c151 => ?_)
                ·
                  refine GO.iinc (X := i40) (n := 1) (Y := i40 + 1) (ls1 := [some (.ref x), some (ti p0), some (.ref o1), some (.null), some (ti (i40 + 1))]) dX11_passWork_146 rfl rfl rfl rfl ?_
                  refine GO.goto (tgt := 114) dX11_passWork_149 (by decide) ?_
                  exact ih139 (i40 + 1) Wi40 ⟨by omega, by omega, (by first | exact w_0 | exact hc3 | exact hcl | exact CWI.fr hcl (by assumption) ext.rf hWl h_x (by decide +kernel) (by decide +kernel) (by decide +kernel) | exact CWI.put (kd := (0, 9)) (j := 8) rw49 (by assumption) (by assumption) hWj h_x (by decide +kernel) (by decide +kernel) (by decide +kernel) (by decide +kernel)), trivial⟩ (by show (2147483647 - (i40 + 1)).toNat < (2147483647 - i40).toNat; omega)
                ·
                  refine GO.aload_n dX11_passWork_140 rfl rfl ?_
                  refine GO.iload dX11_passWork_141 rfl ?_
                  refine GO.callV (ci := 10) (N := mX11_goDown) dX11_passWork_143 (RX11, TX11, 20) rfl gV_RX11_470 h_x (t_X11_goDown h_x r_i40) rfl [] rfl rfl (Nat.le_of_ble_eq_true rfl) rfl (k_vs fun V154 h153 hF152 => ?_)
                  refine GO.iinc (X := i40) (n := 1) (Y := i40 + 1) (ls1 := [some (.ref x), some (ti p0), some (.ref o1), some (.null), some (ti (i40 + 1))]) dX11_passWork_146 rfl rfl rfl rfl ?_
                  refine GO.goto (tgt := 114) dX11_passWork_149 (by decide) ?_
                  exact ih139 (i40 + 1) V154 ⟨by omega, by omega, (by first | exact w_0 | exact hc3 | exact hcl | exact CWI.fr hcl hF152 ext.rf hWl h_x (by decide +kernel) (by decide +kernel) (by decide +kernel) | exact CWI.put (kd := (0, 9)) (j := 8) rw49 (by assumption) (by assumption) hWj h_x (by decide +kernel) (by decide +kernel) (by decide +kernel) (by decide +kernel)), trivial⟩ (by show (2147483647 - (i40 + 1)).toNat < (2147483647 - i40).toNat; omega)
            ·
              refine GO.aload_nN dX11_passWork_92 rfl rfl ?_
              refine GO.ifnullN (tgt := 106) dX11_passWork_93 (by decide) ?_
              have hc2 : CWI K V31 x := by first | exact hc1 | exact CWI.put (kd := (0, 2)) (j := 1) hc1 (by assumption) (by assumption) hWp h_x (by decide +kernel) (by decide +kernel) (by decide +kernel) (by decide +kernel)
              refine GO.useWT (fun hWq => ?_)
              refine GO.aload_n dX11_passWork_106 rfl rfl ?_
              refine GO.aload_n dX11_passWork_107 rfl rfl ?_
              refine GO.callV (ci := 10) (N := mX11_disturbNests) dX11_passWork_108 (RX11, TX11, 20) rfl gV_RX11_467 h_x (t_X11_disturbNests h_x h2) rfl [] rfl rfl (Nat.le_of_ble_eq_true rfl) rfl (k_vs fun V157 h156 hF155 => ?_)
              have hc3 := CWI.fr hc2 hF155 ext.rf hWq h_x (by decide +kernel) (by decide +kernel) (by decide +kernel)
              refine GO.iconst dX11_passWork_111 ?_
              refine GO.istore (ls1 := [some (.ref x), some (ti p0), some (.ref o1), some (.null), some (ti 0)]) dX11_passWork_112 rfl rfl ?_
              refine GO.loop1 (fun i158 W => 0 ≤ i158 ∧ i158 ≤ 10 ∧ (CWI K W x) ∧ True) (fun i158 => [some (.ref x), some (ti p0), some (.ref o1), some (.null), some (ti i158)]) (fun i158 W => (2147483647 - i158).toNat) 0 ⟨by omega, by omega, (by first | exact w_0 | exact hc3 | exact CWI.put (kd := (0, 9)) (j := 8) rw49 (by assumption) (by assumption) hWj h_x (by decide +kernel) (by decide +kernel) (by decide +kernel) (by decide +kernel)), trivial⟩ rfl (fun i158 Wi158 hp258 ih257 => ?_)
              obtain ⟨l_i158, u_i158, hcl, -⟩ := hp258
              have r_i158 : ir i158 := ⟨by omega, by omega⟩
              show GO mX11_passWork K V (VS K (fun V1 => (True) ∧ (CWI K V1 x))) K Wi158 0 0 114 [some (.ref x), some (ti p0), some (.ref o1), some (.null), some (ti i158)] []
              refine GO.useWT (fun hWl => ?_)
              refine GO.iload dX11_passWork_114 rfl ?_
              refine GO.aload_n dX11_passWork_116 rfl rfl ?_
              refine GO.getR h_x fl_RX11_79 rfl rfl dX11_passWork_117 (fun hv260 h259 => ?_)
              refine GO.getI h259 fl_RX11_199_k29 rfl rfl dX11_passWork_120 (fun l261 u262 => ?_)
              refine GO.icmp_ge (tgt := 152) dX11_passWork_123 (by decide) r_i158 vi_ir (fun c263 => ?_) (fun c263 => ?_)
              ·
                exact GO.retv rfl rfl dX11_passWork_152 ⟨rfl, rfl, ⟨trivial, (by first | exact w_0 | exact hc3 | exact hcl | exact CWI.fr hcl (by assumption) ext.rf hWl h_x (by decide +kernel) (by decide +kernel) (by decide +kernel) | exact CWI.put (kd := (0, 9)) (j := 8) rw49 (by assumption) (by assumption) hWj h_x (by decide +kernel) (by decide +kernel) (by decide +kernel) (by decide +kernel))⟩⟩
              ·
                refine GO.aload_n dX11_passWork_126 rfl rfl ?_
                refine GO.getRaw h_x fl_RX11_79 hv260 dX11_passWork_127 ?_
                refine GO.iload dX11_passWork_130 rfl ?_
                refine GO.iconst dX11_passWork_132 ?_
                refine GO.callV (ci := 29) (N := mX8_get_k29) dX11_passWork_133 (RX8, TX8, 4) rfl gV_RX11_209 h259 (t_X8_get_k29 h259 r_i158 (ir_c rfl)) rfl [] rfl rfl (Nat.le_of_ble_eq_true rfl) rfl (k_ip fun X266 r267 h268 => ?_)
                refine GO.iload_n dX11_passWork_136 rfl rfl ?_
                refine GO.icmp_ne (tgt := 146) dX11_passWork_137 (by decide) r267 r_p0 (fun c269 => ?_) (fun c269 => ?_)
                ·
                  refine GO.iinc (X := i158) (n := 1) (Y := i158 + 1) (ls1 := [some (.ref x), some (ti p0), some (.ref o1), some (.null), some (ti (i158 + 1))]) dX11_passWork_146 rfl rfl rfl rfl ?_
                  refine GO.goto (tgt := 114) dX11_passWork_149 (by decide) ?_
                  exact ih257 (i158 + 1) Wi158 ⟨by omega, by omega, (by first | exact w_0 | exact hc3 | exact hcl | exact CWI.fr hcl (by assumption) ext.rf hWl h_x (by decide +kernel) (by decide +kernel) (by decide +kernel) | exact CWI.put (kd := (0, 9)) (j := 8) rw49 (by assumption) (by assumption) hWj h_x (by decide +kernel) (by decide +kernel) (by decide +kernel) (by decide +kernel)), trivial⟩ (by show (2147483647 - (i158 + 1)).toNat < (2147483647 - i158).toNat; omega)
                ·
                  refine GO.aload_n dX11_passWork_140 rfl rfl ?_
                  refine GO.iload dX11_passWork_141 rfl ?_
                  refine GO.callV (ci := 10) (N := mX11_goDown) dX11_passWork_143 (RX11, TX11, 20) rfl gV_RX11_470 h_x (t_X11_goDown h_x r_i158) rfl [] rfl rfl (Nat.le_of_ble_eq_true rfl) rfl (k_vs fun V272 h271 hF270 => ?_)
                  refine GO.iinc (X := i158) (n := 1) (Y := i158 + 1) (ls1 := [some (.ref x), some (ti p0), some (.ref o1), some (.null), some (ti (i158 + 1))]) dX11_passWork_146 rfl rfl rfl rfl ?_
                  refine GO.goto (tgt := 114) dX11_passWork_149 (by decide) ?_
                  exact ih257 (i158 + 1) V272 ⟨by omega, by omega, (by first | exact w_0 | exact hc3 | exact hcl | exact CWI.fr hcl hF270 ext.rf hWl h_x (by decide +kernel) (by decide +kernel) (by decide +kernel) | exact CWI.put (kd := (0, 9)) (j := 8) rw49 (by assumption) (by assumption) hWj h_x (by decide +kernel) (by decide +kernel) (by decide +kernel) (by decide +kernel)), trivial⟩ (by show (2147483647 - (i158 + 1)).toNat < (2147483647 - i158).toNat; omega)
          ·
            have hp273 : (vi V31 o1 1) ≥ 0 ∧ (vi V31 o1 1) < vi V31 x 4 := h34.1
            have rwp81 := h34.2
            have hq274 : o32 = vq V31 (vq V31 x 3) ((vi V31 o1 1)).toNat := h34.2
            refine GO.astore_n (ls1 := [some (.ref x), some (ti p0), some (.ref o1), some (.ref o32), none]) dX11_passWork_84 rfl rfl rfl ?_
            refine GO.aload_n dX11_passWork_85 rfl rfl ?_
            refine GO.getI h2 fl_RX11_375 rfl rfl dX11_passWork_86 (fun _ _ => ?_)
            refine GO.if_ne (tgt := 106) dX11_passWork_89 (by decide) vi_ir (fun c275 => ?_) (fun c275 => ?_)
            ·
              have hc2 : CWI K V31 x := by first | exact hc1 | exact CWI.put (kd := (0, 2)) (j := 1) hc1 (by assumption) (by assumption) hWp h_x (by decide +kernel) (by decide +kernel) (by decide +kernel) (by decide +kernel)
              refine GO.useWT (fun hWq => ?_)
              refine GO.aload_n dX11_passWork_106 rfl rfl ?_
              refine GO.aload_n dX11_passWork_107 rfl rfl ?_
              refine GO.callV (ci := 10) (N := mX11_disturbNests) dX11_passWork_108 (RX11, TX11, 20) rfl gV_RX11_467 h_x (t_X11_disturbNests h_x h2) rfl [] rfl rfl (Nat.le_of_ble_eq_true rfl) rfl (k_vs fun V278 h277 hF276 => ?_)
              have hc3 := CWI.fr hc2 hF276 ext.rf hWq h_x (by decide +kernel) (by decide +kernel) (by decide +kernel)
              refine GO.iconst dX11_passWork_111 ?_
              refine GO.istore (ls1 := [some (.ref x), some (ti p0), some (.ref o1), some (.ref o32), some (ti 0)]) dX11_passWork_112 rfl rfl ?_
              refine GO.loop1 (fun i279 W => 0 ≤ i279 ∧ i279 ≤ 10 ∧ (CWI K W x) ∧ True) (fun i279 => [some (.ref x), some (ti p0), some (.ref o1), some (.ref o32), some (ti i279)]) (fun i279 W => (2147483647 - i279).toNat) 0 ⟨by omega, by omega, (by first | exact w_0 | exact hc3 | exact CWI.put (kd := (0, 9)) (j := 8) rw49 (by assumption) (by assumption) hWj h_x (by decide +kernel) (by decide +kernel) (by decide +kernel) (by decide +kernel)), trivial⟩ rfl (fun i279 Wi279 hp379 ih378 => ?_)
              obtain ⟨l_i279, u_i279, hcl, -⟩ := hp379
              have r_i279 : ir i279 := ⟨by omega, by omega⟩
              show GO mX11_passWork K V (VS K (fun V1 => (True) ∧ (CWI K V1 x))) K Wi279 0 0 114 [some (.ref x), some (ti p0), some (.ref o1), some (.ref o32), some (ti i279)] []
              refine GO.useWT (fun hWl => ?_)
              refine GO.iload dX11_passWork_114 rfl ?_
              refine GO.aload_n dX11_passWork_116 rfl rfl ?_
              refine GO.getR h_x fl_RX11_79 rfl rfl dX11_passWork_117 (fun hv381 h380 => ?_)
              refine GO.getI h380 fl_RX11_199_k29 rfl rfl dX11_passWork_120 (fun l382 u383 => ?_)
              refine GO.icmp_ge (tgt := 152) dX11_passWork_123 (by decide) r_i279 vi_ir (fun c384 => ?_) (fun c384 => ?_)
              ·
                exact GO.retv rfl rfl dX11_passWork_152 ⟨rfl, rfl, ⟨trivial, (by first | exact w_0 | exact hc3 | exact hcl | exact CWI.fr hcl (by assumption) ext.rf hWl h_x (by decide +kernel) (by decide +kernel) (by decide +kernel) | exact CWI.put (kd := (0, 9)) (j := 8) rw49 (by assumption) (by assumption) hWj h_x (by decide +kernel) (by decide +kernel) (by decide +kernel) (by decide +kernel))⟩⟩
              ·
                refine GO.aload_n dX11_passWork_126 rfl rfl ?_
                refine GO.getRaw h_x fl_RX11_79 hv381 dX11_passWork_127 ?_
                refine GO.iload dX11_passWork_130 rfl ?_
                refine GO.iconst dX11_passWork_132 ?_
                refine GO.callV (ci := 29) (N := mX8_get_k29) dX11_passWork_133 (RX8, TX8, 4) rfl gV_RX11_209 h380 (t_X8_get_k29 h380 r_i279 (ir_c rfl)) rfl [] rfl rfl (Nat.le_of_ble_eq_true rfl) rfl (k_ip fun X387 r388 h389 => ?_)
                refine GO.iload_n dX11_passWork_136 rfl rfl ?_
                refine GO.icmp_ne (tgt := 146) dX11_passWork_137 (by decide) r388 r_p0 (fun c390 => ?_) (fun c390 => ?_)
                ·
                  refine GO.iinc (X := i279) (n := 1) (Y := i279 + 1) (ls1 := [some (.ref x), some (ti p0), some (.ref o1), some (.ref o32), some (ti (i279 + 1))]) dX11_passWork_146 rfl rfl rfl rfl ?_
                  refine GO.goto (tgt := 114) dX11_passWork_149 (by decide) ?_
                  exact ih378 (i279 + 1) Wi279 ⟨by omega, by omega, (by first | exact w_0 | exact hc3 | exact hcl | exact CWI.fr hcl (by assumption) ext.rf hWl h_x (by decide +kernel) (by decide +kernel) (by decide +kernel) | exact CWI.put (kd := (0, 9)) (j := 8) rw49 (by assumption) (by assumption) hWj h_x (by decide +kernel) (by decide +kernel) (by decide +kernel) (by decide +kernel)), trivial⟩ (by show (2147483647 - (i279 + 1)).toNat < (2147483647 - i279).toNat; omega)
                ·
                  refine GO.aload_n dX11_passWork_140 rfl rfl ?_
                  refine GO.iload dX11_passWork_141 rfl ?_
                  refine GO.callV (ci := 10) (N := mX11_goDown) dX11_passWork_143 (RX11, TX11, 20) rfl gV_RX11_470 h_x (t_X11_goDown h_x r_i279) rfl [] rfl rfl (Nat.le_of_ble_eq_true rfl) rfl (k_vs fun V393 h392 hF391 => ?_)
                  refine GO.iinc (X := i279) (n := 1) (Y := i279 + 1) (ls1 := [some (.ref x), some (ti p0), some (.ref o1), some (.ref o32), some (ti (i279 + 1))]) dX11_passWork_146 rfl rfl rfl rfl ?_
                  refine GO.goto (tgt := 114) dX11_passWork_149 (by decide) ?_
                  exact ih378 (i279 + 1) V393 ⟨by omega, by omega, (by first | exact w_0 | exact hc3 | exact hcl | exact CWI.fr hcl hF391 ext.rf hWl h_x (by decide +kernel) (by decide +kernel) (by decide +kernel) | exact CWI.put (kd := (0, 9)) (j := 8) rw49 (by assumption) (by assumption) hWj h_x (by decide +kernel) (by decide +kernel) (by decide +kernel) (by decide +kernel)), trivial⟩ (by show (2147483647 - (i279 + 1)).toNat < (2147483647 - i279).toNat; omega)
            ·
              refine GO.aload_n dX11_passWork_92 rfl rfl ?_
              refine GO.ifnull dX11_passWork_93 ?_
              refine GO.aload_n dX11_passWork_96 rfl rfl ?_
              refine GO.dup dX11_passWork_97 rfl ?_
              refine GO.getI h33 fl_RX11_464 rfl rfl dX11_passWork_98 (fun _ _ => ?_)
              refine GO.iconst dX11_passWork_101 ?_
              refine GO.iadd dX11_passWork_102 ?_
              refine GO.norm (fun z394 r395 hn396 => ?_)
              refine GO.putI h33 fp_RX11_464 rfl (by decide +kernel) r395 (r395).1 (r395).2 dX11_passWork_103 (fun V398 e397 => ?_)
              have hc2 : CWI K V398 x := by first | exact hc1 | exact CWI.put (kd := (0, 2)) (j := 1) hc1 (by assumption) e397 hWp h_x (by decide +kernel) (by decide +kernel) (by decide +kernel) (by decide +kernel)
              refine GO.useWT (fun hWq => ?_)
              refine GO.aload_n dX11_passWork_106 rfl rfl ?_
              refine GO.aload_n dX11_passWork_107 rfl rfl ?_
              refine GO.callV (ci := 10) (N := mX11_disturbNests) dX11_passWork_108 (RX11, TX11, 20) rfl gV_RX11_467 h_x (t_X11_disturbNests h_x h2) rfl [] rfl rfl (Nat.le_of_ble_eq_true rfl) rfl (k_vs fun V401 h400 hF399 => ?_)
              have hc3 := CWI.fr hc2 hF399 ext.rf hWq h_x (by decide +kernel) (by decide +kernel) (by decide +kernel)
              refine GO.iconst dX11_passWork_111 ?_
              refine GO.istore (ls1 := [some (.ref x), some (ti p0), some (.ref o1), some (.ref o32), some (ti 0)]) dX11_passWork_112 rfl rfl ?_
              refine GO.loop1 (fun i402 W => 0 ≤ i402 ∧ i402 ≤ 10 ∧ (CWI K W x) ∧ True) (fun i402 => [some (.ref x), some (ti p0), some (.ref o1), some (.ref o32), some (ti i402)]) (fun i402 W => (2147483647 - i402).toNat) 0 ⟨by omega, by omega, (by first | exact w_0 | exact hc3 | exact CWI.put (kd := (0, 9)) (j := 8) rw49 (by assumption) (by assumption) hWj h_x (by decide +kernel) (by decide +kernel) (by decide +kernel) (by decide +kernel)), trivial⟩ rfl (fun i402 Wi402 hp502 ih501 => ?_)
              obtain ⟨l_i402, u_i402, hcl, -⟩ := hp502
              have r_i402 : ir i402 := ⟨by omega, by omega⟩
              show GO mX11_passWork K V (VS K (fun V1 => (True) ∧ (CWI K V1 x))) K Wi402 0 0 114 [some (.ref x), some (ti p0), some (.ref o1), some (.ref o32), some (ti i402)] []
              refine GO.useWT (fun hWl => ?_)
              refine GO.iload dX11_passWork_114 rfl ?_
              refine GO.aload_n dX11_passWork_116 rfl rfl ?_
              refine GO.getR h_x fl_RX11_79 rfl rfl dX11_passWork_117 (fun hv504 h503 => ?_)
              refine GO.getI h503 fl_RX11_199_k29 rfl rfl dX11_passWork_120 (fun l505 u506 => ?_)
              refine GO.icmp_ge (tgt := 152) dX11_passWork_123 (by decide) r_i402 vi_ir (fun c507 => ?_) (fun c507 => ?_)
              ·
                exact GO.retv rfl rfl dX11_passWork_152 ⟨rfl, rfl, ⟨trivial, (by first | exact w_0 | exact hc3 | exact hcl | exact CWI.fr hcl (by assumption) ext.rf hWl h_x (by decide +kernel) (by decide +kernel) (by decide +kernel) | exact CWI.put (kd := (0, 9)) (j := 8) rw49 (by assumption) (by assumption) hWj h_x (by decide +kernel) (by decide +kernel) (by decide +kernel) (by decide +kernel))⟩⟩
              ·
                refine GO.aload_n dX11_passWork_126 rfl rfl ?_
                refine GO.getRaw h_x fl_RX11_79 hv504 dX11_passWork_127 ?_
                refine GO.iload dX11_passWork_130 rfl ?_
                refine GO.iconst dX11_passWork_132 ?_
                refine GO.callV (ci := 29) (N := mX8_get_k29) dX11_passWork_133 (RX8, TX8, 4) rfl gV_RX11_209 h503 (t_X8_get_k29 h503 r_i402 (ir_c rfl)) rfl [] rfl rfl (Nat.le_of_ble_eq_true rfl) rfl (k_ip fun X510 r511 h512 => ?_)
                refine GO.iload_n dX11_passWork_136 rfl rfl ?_
                refine GO.icmp_ne (tgt := 146) dX11_passWork_137 (by decide) r511 r_p0 (fun c513 => ?_) (fun c513 => ?_)
                ·
                  refine GO.iinc (X := i402) (n := 1) (Y := i402 + 1) (ls1 := [some (.ref x), some (ti p0), some (.ref o1), some (.ref o32), some (ti (i402 + 1))]) dX11_passWork_146 rfl rfl rfl rfl ?_
                  refine GO.goto (tgt := 114) dX11_passWork_149 (by decide) ?_
                  exact ih501 (i402 + 1) Wi402 ⟨by omega, by omega, (by first | exact w_0 | exact hc3 | exact hcl | exact CWI.fr hcl (by assumption) ext.rf hWl h_x (by decide +kernel) (by decide +kernel) (by decide +kernel) | exact CWI.put (kd := (0, 9)) (j := 8) rw49 (by assumption) (by assumption) hWj h_x (by decide +kernel) (by decide +kernel) (by decide +kernel) (by decide +kernel)), trivial⟩ (by show (2147483647 - (i402 + 1)).toNat < (2147483647 - i402).toNat; omega)
                ·
                  refine GO.aload_n dX11_passWork_140 rfl rfl ?_
                  refine GO.iload dX11_passWork_141 rfl ?_
                  refine GO.callV (ci := 10) (N := mX11_goDown) dX11_passWork_143 (RX11, TX11, 20) rfl gV_RX11_470 h_x (t_X11_goDown h_x r_i402) rfl [] rfl rfl (Nat.le_of_ble_eq_true rfl) rfl (k_vs fun V516 h515 hF514 => ?_)
                  refine GO.iinc (X := i402) (n := 1) (Y := i402 + 1) (ls1 := [some (.ref x), some (ti p0), some (.ref o1), some (.ref o32), some (ti (i402 + 1))]) dX11_passWork_146 rfl rfl rfl rfl ?_
                  refine GO.goto (tgt := 114) dX11_passWork_149 (by decide) ?_
                  exact ih501 (i402 + 1) V516 ⟨by omega, by omega, (by first | exact w_0 | exact hc3 | exact hcl | exact CWI.fr hcl hF514 ext.rf hWl h_x (by decide +kernel) (by decide +kernel) (by decide +kernel) | exact CWI.put (kd := (0, 9)) (j := 8) rw49 (by assumption) (by assumption) hWj h_x (by decide +kernel) (by decide +kernel) (by decide +kernel) (by decide +kernel)), trivial⟩ (by show (2147483647 - (i402 + 1)).toNat < (2147483647 - i402).toNat; omega)
        ·
          refine GO.aload_n dX11_passWork_55 rfl rfl ?_
          refine GO.dup dX11_passWork_56 rfl ?_
          refine GO.getI h2 fl_RX11_458 rfl rfl dX11_passWork_57 (fun _ _ => ?_)
          refine GO.iconst dX11_passWork_60 ?_
          refine GO.iadd dX11_passWork_61 ?_
          refine GO.norm (fun z517 r518 hn519 => ?_)
          refine GO.putI h2 fp_RX11_458 rfl (by decide +kernel) r518 (r518).1 (r518).2 dX11_passWork_62 (fun V521 e520 => ?_)
          exact GO.retv rfl rfl dX11_passWork_65 ⟨rfl, rfl, ⟨trivial, (by first | exact w_0 | exact CWI.put (kd := (0, 9)) (j := 8) rw49 (by assumption) e520 hWj h_x (by decide +kernel) (by decide +kernel) (by decide +kernel) (by decide +kernel))⟩⟩
      ·
        exact GO.retv rfl rfl dX11_passWork_38 ⟨rfl, rfl, ⟨trivial, (by first | exact w_0)⟩⟩

set_option maxHeartbeats 1000000 in
theorem t_X11_admitParties {K : Kmap} {V : Vmap} {x : Nat} (h_x : K x = some (0, 10)) (w_0 : CWI K V x) : MC mX11_admitParties K V [.ref x] (VS K (fun V1 => (True) ∧ (CWI K V1 x))) := by
  refine MC.start 3 (by decide +kernel) rfl rfl rfl (ls0 := [some (.ref x), none, none, none]) rfl ?_
  refine GO.useWT (fun hW_0 => ?_)
  refine GO.iconst dX11_admitParties_0 ?_
  refine GO.istore_n (ls1 := [some (.ref x), some (ti 0), none, none]) dX11_admitParties_1 rfl rfl rfl ?_
  refine GO.loop1 (fun i1 W => 0 ≤ i1 ∧ i1 ≤ 9 ∧ (CWI K W x) ∧ True) (fun i1 => [some (.ref x), some (ti i1), none, none]) (fun i1 W => (2147483647 - i1).toNat) 0 ⟨by omega, by omega, (by first | exact w_0), trivial⟩ rfl (fun i1 Wi1 hp195 ih194 => ?_)
  obtain ⟨l_i1, u_i1, hcl, -⟩ := hp195
  have r_i1 : ir i1 := ⟨by omega, by omega⟩
  show GO mX11_admitParties K V (VS K (fun V1 => (True) ∧ (CWI K V1 x))) K Wi1 0 0 2 [some (.ref x), some (ti i1), none, none] []
  refine GO.useWT (fun hWl => ?_)
  refine GO.iload_n dX11_admitParties_2 rfl rfl ?_
  refine GO.aload_n dX11_admitParties_3 rfl rfl ?_
  refine GO.getI h_x fl_RX11_36 rfl rfl dX11_admitParties_4 (fun l196 u197 => ?_)
  refine GO.icmp_ge (tgt := 89) dX11_admitParties_7 (by decide) r_i1 vi_ir (fun c198 => ?_) (fun c198 => ?_)
  ·
    exact GO.retv rfl rfl dX11_admitParties_89 ⟨rfl, rfl, ⟨trivial, (by first | exact w_0 | exact hcl)⟩⟩
  ·
    refine GO.aload_n dX11_admitParties_10 rfl rfl ?_
    refine GO.iload_n dX11_admitParties_11 rfl rfl ?_
    refine GO.callV (ci := 10) (N := mX11_partyOf) dX11_admitParties_12 (RX11, TX11, 20) rfl gV_RX11_151 h_x (t_X11_partyOf h_x r_i1) rfl [] rfl rfl (Nat.le_of_ble_eq_true rfl) rfl (k_rp (fun h201 => ?_) (fun o199 h200 h201 => ?_))
    ·
      have rwn12 := h201.2
      have hn202 : PN Wi1 x → i1 < 0 ∨ vi Wi1 x 4 ≤ i1 := h201.2
      refine GO.astore_nN (ls1 := [some (.ref x), some (ti i1), some (.null), none]) dX11_admitParties_15 rfl rfl rfl ?_
      refine GO.aload_nN dX11_admitParties_16 rfl rfl ?_
      refine GO.ifnullN (tgt := 83) dX11_admitParties_17 (by decide) ?_
      refine GO.iinc (X := i1) (n := 1) (Y := i1 + 1) (ls1 := [some (.ref x), some (ti (i1 + 1)), some (.null), none]) dX11_admitParties_83 rfl rfl rfl rfl ?_
      refine GO.goto (tgt := 2) dX11_admitParties_86 (by decide) ?_
      refine GO.drop [true, true, false, true] rfl ?_
      exact ih194 (i1 + 1) Wi1 ⟨by omega, by omega, (by first | exact w_0 | exact hcl), trivial⟩ (by show (2147483647 - (i1 + 1)).toNat < (2147483647 - i1).toNat; omega)
    ·
      have hp203 : i1 ≥ 0 ∧ i1 < vi Wi1 x 4 := h201.1
      have rwp12 := h201.2
      have hq204 : o199 = vq Wi1 (vq Wi1 x 3) (i1).toNat := h201.2
      refine GO.astore_n (ls1 := [some (.ref x), some (ti i1), some (.ref o199), none]) dX11_admitParties_15 rfl rfl rfl ?_
      refine GO.aload_n dX11_admitParties_16 rfl rfl ?_
      refine GO.ifnull dX11_admitParties_17 ?_
      refine GO.aload_n dX11_admitParties_20 rfl rfl ?_
      refine GO.getI h200 fl_RX11_341 rfl rfl dX11_admitParties_21 (fun _ _ => ?_)
      refine GO.iconst dX11_admitParties_24 ?_
      refine GO.icmp_eq (tgt := 31) dX11_admitParties_25 (by decide) vi_ir (ir_c rfl) (fun c205 => ?_) (fun c205 => ?_)
      ·
        refine GO.aload_n dX11_admitParties_31 rfl rfl ?_
        refine GO.getR h_x fl_RX11_19 rfl rfl dX11_admitParties_32 (fun hv207 h206 => ?_)
        refine GO.iload_n dX11_admitParties_35 rfl rfl ?_
        refine GO.aload_n dX11_admitParties_36 rfl rfl ?_
        refine GO.aload_n dX11_admitParties_37 rfl rfl ?_
        refine GO.getR h_x fl_RX11_12 rfl rfl dX11_admitParties_38 (fun hv209 h208 => ?_)
        refine GO.getI h208 fl_RX11_145 rfl rfl dX11_admitParties_41 (fun l210 u211 => ?_)
        refine GO.callV (ci := 1) (N := mX1_weigh) dX11_admitParties_44 (RX1, TX1, 13) rfl gV_RX11_279 h206 (t_X1_weigh h206 r_i1 h200 vi_ir) rfl [] rfl rfl (Nat.le_of_ble_eq_true rfl) rfl (k_vs fun V214 h213 hF212 => ?_)
        have raw_weigh := h213.2
        have rw44 := h213.2
        have hcw := CWI.weigh hcl rw44 rfl rwp12 ⟨by omega, by omega⟩ hF212 hWl h_x (by decide +kernel) (by decide +kernel)
        refine GO.useWT (fun hWw => ?_)
        refine GO.aload_n dX11_admitParties_47 rfl rfl ?_
        refine GO.getRaw h_x fl_RX11_19 (Eq.trans (hF212 _ _ _ h_x h_x (by decide +kernel)) hv207) dX11_admitParties_48 ?_
        refine GO.bipush dX11_admitParties_51 rfl ?_
        refine GO.iconst dX11_admitParties_53 ?_
        refine GO.iconst dX11_admitParties_54 ?_
        refine GO.callV (ci := 1) (N := mX1_numberOf) dX11_admitParties_55 (RX1, TX1, 13) rfl gV_RX11_292 h206 (t_X1_numberOf h206 (ir_c rfl) (ir_c rfl) (ir_c rfl)) rfl [] rfl rfl (Nat.le_of_ble_eq_true rfl) rfl (k_ip fun X217 r218 h219 => ?_)
        have raw_numberOf := h219.2
        have rw55 := h219.2
        refine GO.istore_n (ls1 := [some (.ref x), some (ti i1), some (.ref o199), some (ti X217)]) dX11_admitParties_58 rfl rfl rfl ?_
        refine GO.iload_n dX11_admitParties_59 rfl rfl ?_
        refine GO.iconst dX11_admitParties_60 ?_
        refine GO.icmp_eq (tgt := 83) dX11_admitParties_61 (by decide) r218 (ir_c rfl) (fun c220 => ?_) (fun c220 => ?_)
        ·
          refine GO.iinc (X := i1) (n := 1) (Y := i1 + 1) (ls1 := [some (.ref x), some (ti (i1 + 1)), some (.ref o199), some (ti X217)]) dX11_admitParties_83 rfl rfl rfl rfl ?_
          refine GO.goto (tgt := 2) dX11_admitParties_86 (by decide) ?_
          refine GO.drop [true, true, false, false] rfl ?_
          exact ih194 (i1 + 1) V214 ⟨by omega, by omega, (by first | exact w_0 | exact hcl | exact hcw.1 | exact CWI.put (kd := (0, 2)) (j := 0) hcw.1 (by assumption) (by assumption) hWw h_x (by decide +kernel) (by decide +kernel) (by decide +kernel) (by decide +kernel)), trivial⟩ (by show (2147483647 - (i1 + 1)).toNat < (2147483647 - i1).toNat; omega)
        ·
          refine GO.aload_n dX11_admitParties_64 rfl rfl ?_
          refine GO.getI h200 fl_RX11_464 rfl rfl dX11_admitParties_65 (fun _ _ => ?_)
          refine GO.iload_n dX11_admitParties_68 rfl rfl ?_
          refine GO.icmp_lt (tgt := 83) dX11_admitParties_69 (by decide) vi_ir r218 (fun c221 => ?_) (fun c221 => ?_)
          ·
            refine GO.iinc (X := i1) (n := 1) (Y := i1 + 1) (ls1 := [some (.ref x), some (ti (i1 + 1)), some (.ref o199), some (ti X217)]) dX11_admitParties_83 rfl rfl rfl rfl ?_
            refine GO.goto (tgt := 2) dX11_admitParties_86 (by decide) ?_
            refine GO.drop [true, true, false, false] rfl ?_
            exact ih194 (i1 + 1) V214 ⟨by omega, by omega, (by first | exact w_0 | exact hcl | exact hcw.1 | exact CWI.put (kd := (0, 2)) (j := 0) hcw.1 (by assumption) (by assumption) hWw h_x (by decide +kernel) (by decide +kernel) (by decide +kernel) (by decide +kernel)), trivial⟩ (by show (2147483647 - (i1 + 1)).toNat < (2147483647 - i1).toNat; omega)
          ·
            refine GO.aload_n dX11_admitParties_72 rfl rfl ?_
            refine GO.aload_n dX11_admitParties_73 rfl rfl ?_
            refine GO.getRaw h_x fl_RX11_12 (Eq.trans (hF212 _ _ _ h_x h_x (by decide +kernel)) hv209) dX11_admitParties_74 ?_
            refine GO.getI h208 fl_RX11_145 rfl rfl dX11_admitParties_77 (fun l224 u225 => ?_)
            refine GO.putI h200 fp_RX11_341 rfl (by decide +kernel) vi_ir (vi_ir).1 (vi_ir).2 dX11_admitParties_80 (fun V227 e226 => ?_)
            refine GO.iinc (X := i1) (n := 1) (Y := i1 + 1) (ls1 := [some (.ref x), some (ti (i1 + 1)), some (.ref o199), some (ti X217)]) dX11_admitParties_83 rfl rfl rfl rfl ?_
            refine GO.goto (tgt := 2) dX11_admitParties_86 (by decide) ?_
            refine GO.drop [true, true, false, false] rfl ?_
            exact ih194 (i1 + 1) V227 ⟨by omega, by omega, (by first | exact w_0 | exact hcl | exact hcw.1 | exact CWI.put (kd := (0, 2)) (j := 0) hcw.1 (by assumption) e226 hWw h_x (by decide +kernel) (by decide +kernel) (by decide +kernel) (by decide +kernel)), trivial⟩ (by show (2147483647 - (i1 + 1)).toNat < (2147483647 - i1).toNat; omega)
      ·
        refine GO.goto (tgt := 83) dX11_admitParties_28 (by decide) ?_
        refine GO.iinc (X := i1) (n := 1) (Y := i1 + 1) (ls1 := [some (.ref x), some (ti (i1 + 1)), some (.ref o199), none]) dX11_admitParties_83 rfl rfl rfl rfl ?_
        refine GO.goto (tgt := 2) dX11_admitParties_86 (by decide) ?_
        refine GO.drop [true, true, false, true] rfl ?_
        exact ih194 (i1 + 1) Wi1 ⟨by omega, by omega, (by first | exact w_0 | exact hcl), trivial⟩ (by show (2147483647 - (i1 + 1)).toNat < (2147483647 - i1).toNat; omega)

set_option maxHeartbeats 1000000 in
theorem t_X11_sendPeopleHome {K : Kmap} {V : Vmap} {x : Nat} {p0 : Nat} (h_x : K x = some (0, 10)) (h_p0 : K p0 = some (0, 3)) : MC mX11_sendPeopleHome K V [.ref x, .ref p0] (VS K (fun V1 => (True))) := by
  refine MC.start 0 (by decide +kernel) rfl rfl rfl (ls0 := [some (.ref x), some (.ref p0)]) rfl ?_
  refine GO.aload_n dX11_sendPeopleHome_0 rfl rfl ?_
  refine GO.bipush dX11_sendPeopleHome_1 rfl ?_
  refine GO.aload_n dX11_sendPeopleHome_3 rfl rfl ?_
  refine GO.getI h_p0 fl_RX11_183 rfl rfl dX11_sendPeopleHome_4 (fun _ _ => ?_)
  refine GO.callV (ci := 10) (N := mX11_tally) dX11_sendPeopleHome_7 (RX11, TX11, 20) rfl gV_RX11_192 h_x (t_X11_tally h_x (ir_c rfl) vi_ir) rfl [] rfl rfl (Nat.le_of_ble_eq_true rfl) rfl (k_vs fun V3 h2 hF1 => ?_)
  refine GO.aload_n dX11_sendPeopleHome_10 rfl rfl ?_
  refine GO.iconst dX11_sendPeopleHome_11 ?_
  refine GO.putI h_p0 fp_RX11_183 rfl (by decide +kernel) (ir_c rfl) (by decide) (by decide) dX11_sendPeopleHome_12 (fun V5 e4 => ?_)
  exact GO.retv rfl rfl dX11_sendPeopleHome_15 ⟨rfl, rfl, trivial⟩
