def mX11_seen : MRec := (RX11, cX11_seen, 3, (some .int), yX11_seen, 1, 24, 0, 0, 0)
def mX4_get_n : MRec := (RX4, cX4_get, 2, (some .int), yX4_get, 0, 0, 0, 0, 0)
def mX4_put_n : MRec := (RX4, cX4_put, 3, (none : Option Jvm.ClassFile.FieldType), yX4_put, 0, 0, 0, 0, 0)
def mX4_add_n : MRec := (RX4, cX4_add, 3, (none : Option Jvm.ClassFile.FieldType), yX4_add, 1, 22, 0, 0, 0)
def mX11_disturbNests : MRec := (RX11, cX11_disturbNests, 6, (none : Option Jvm.ClassFile.FieldType), yX11_disturbNests, 2, 44, 0, 0, 3794275180128377091639574036764685364535950857523710002444946112771297432041422848)
def mX8_get_k29 : MRec := (RX8, cX8_get, 5, (some .int), yX8_get, 0, 0, 0, 0, 0)
def mX8_put_k29 : MRec := (RX8, cX8_put, 6, (none : Option Jvm.ClassFile.FieldType), yX8_put, 0, 0, 0, 0, 10830740992659433045228180406808920716548582325686783496759685861775864483615725089999900023844295226942934417817982702456930304)
def mX11_goDown : MRec := (RX11, cX11_goDown, 7, (none : Option Jvm.ClassFile.FieldType), yX11_goDown, 2, 48, 0, 0, 10830740992659433045228180406808920716548582325686783496759685861775864483615725089999900023844295226942934417817982702456930304)
def mX11_passWork : MRec := (RX11, cX11_passWork, 5, (none : Option Jvm.ClassFile.FieldType), yX11_passWork, 6, 151, 0, 0, 10831360732630173903289697827410201439398421458871337690531142311661008275809694496422561996252792469895065383062835243486019584)
def mX11_admitParties : MRec := (RX11, cX11_admitParties, 4, (none : Option Jvm.ClassFile.FieldType), yX11_admitParties, 5, 127, 0, 0, 123947994148171612303484120256144569967825878055802728615871649113951085856808377342222976957446615908923352254691948363776)
def mX11_sendPeopleHome : MRec := (RX11, cX11_sendPeopleHome, 2, (none : Option Jvm.ClassFile.FieldType), yX11_sendPeopleHome, 1, 22, 0, 0, 7588550360256754183279148073529370729071901715047420004889892225542595001521799168)
def mX11_burn : MRec := (RX11, cX11_burn, 4, (none : Option Jvm.ClassFile.FieldType), yX11_burn, 2, 43, 0, 0, 7588550360256754183279148073529370729071901715047420004889892225542596375911333888)
set_option maxHeartbeats 1000000 in
theorem t_X11_seen {K : Kmap} {V : Vmap} {x : Nat} {p0 : Int} {p1 : Int} (h_x : K x = some (0, 10)) (r_p0 : ir p0) (r_p1 : ir p1) : MC mX11_seen K V [.ref x, ti p0, ti p1] (IP K V (fun X => True)) := by
  refine MC.start 0 (by decide +kernel) rfl rfl rfl (ls0 := [some (.ref x), some (ti p0), some (ti p1)]) rfl ?_
  refine GO.aload_n dX11_seen_0 rfl rfl ?_
  refine GO.getR h_x fl_RX11_76 rfl rfl dX11_seen_1 (fun hv2 h1 => ?_)
  refine GO.iload_n dX11_seen_4 rfl rfl ?_
  refine GO.callV (ci := 28) (N := mX8_has_k28) dX11_seen_5 (RX8, TX8, 4) rfl gV_RX11_431 h1 (t_X8_has_k28 h1 r_p0) rfl [] rfl rfl (Nat.le_of_ble_eq_true rfl) rfl (k_ip fun X3 r4 h5 => ?_)
  refine GO.if_eq (tgt := 20) dX11_seen_8 (by decide) r4 (fun c6 => ?_) (fun c6 => ?_)
  ·
    refine GO.ldcw (X := (-1000000)) dX11_seen_20 gw_1169 rfl ?_
    exact GO.reti rfl rfl dX11_seen_23 ⟨rfl, rfl, _, rfl, (ir_c rfl), trivial⟩
  ·
    refine GO.iload_n dX11_seen_11 rfl rfl ?_
    refine GO.iconst dX11_seen_12 ?_
    refine GO.iconst dX11_seen_13 ?_
    refine GO.callS (N := mX11_between) dX11_seen_14 gS_RX11_112 (t_X11_between r_p1 (ir_c rfl) (ir_c rfl)) rfl [] rfl rfl (Nat.le_of_ble_eq_true rfl) rfl (k_ip fun X7 r8 h9 => ?_)
    refine GO.if_ne (tgt := 24) dX11_seen_17 (by decide) r8 (fun c10 => ?_) (fun c10 => ?_)
    ·
      have q11 := h9.2.1 (by omega)
      refine GO.aload_n dX11_seen_24 rfl rfl ?_
      refine GO.getRaw h_x fl_RX11_76 hv2 dX11_seen_25 ?_
      refine GO.iload_n dX11_seen_28 rfl rfl ?_
      refine GO.iload_n dX11_seen_29 rfl rfl ?_
      refine GO.callV (ci := 28) (N := mX8_get_k28) dX11_seen_30 (RX8, TX8, 4) rfl gV_RX11_209 h1 (t_X8_get_k28 h1 r_p0 r_p1) rfl [] rfl rfl (Nat.le_of_ble_eq_true rfl) rfl (k_ip fun X14 r15 h16 => ?_)
      have q17 : -2147483648 ≤ X14 ∧ X14 ≤ 2147483647 := r15
      exact GO.reti rfl rfl dX11_seen_33 ⟨rfl, rfl, _, rfl, r15, trivial⟩
    ·
      have q18 := h9.2.2 (by omega)
      refine GO.ldcw (X := (-1000000)) dX11_seen_20 gw_1169 rfl ?_
      exact GO.reti rfl rfl dX11_seen_23 ⟨rfl, rfl, _, rfl, (ir_c rfl), trivial⟩

set_option maxHeartbeats 1000000 in
theorem t_X4_get_n {K : Kmap} {V : Vmap} {p1 : Int} (r_p1 : ir p1) : MC mX4_get_n K V [.null, ti p1] (IP K V (fun X => X = 0)) := by
  refine MC.start 0 (by decide +kernel) rfl rfl rfl (ls0 := [some (.null), some (ti p1)]) rfl ?_
  refine GO.aload_nN dX4_get_0 rfl rfl ?_
  refine GO.ifnullN (tgt := 20) dX4_get_1 (by decide) ?_
  refine GO.iconst dX4_get_20 ?_
  exact GO.reti rfl rfl dX4_get_21 ⟨rfl, rfl, _, rfl, (ir_c rfl), by omega⟩

set_option maxHeartbeats 1000000 in
theorem t_X4_put_n {K : Kmap} {V : Vmap} {p1 : Int} {p2 : Int} (r_p1 : ir p1) (r_p2 : ir p2) : MC mX4_put_n K V [.null, ti p1, ti p2] (VS K (fun V1 => (True))) := by
  refine MC.start 0 (by decide +kernel) rfl rfl rfl (ls0 := [some (.null), some (ti p1), some (ti p2)]) rfl ?_
  refine GO.aload_nN dX4_put_0 rfl rfl ?_
  refine GO.ifnullN (tgt := 18) dX4_put_1 (by decide) ?_
  exact GO.retv rfl rfl dX4_put_18 ⟨rfl, rfl, trivial⟩

set_option maxHeartbeats 1000000 in
theorem t_X4_add_n {K : Kmap} {V : Vmap} {p1 : Int} {p2 : Int} (r_p1 : ir p1) (r_p2 : ir p2) : MC mX4_add_n K V [.null, ti p1, ti p2] (VS K (fun V1 => (True))) := by
  refine MC.start 0 (by decide +kernel) rfl rfl rfl (ls0 := [some (.null), some (ti p1), some (ti p2)]) rfl ?_
  refine GO.aload_nN dX4_add_0 rfl rfl ?_
  refine GO.iload_n dX4_add_1 rfl rfl ?_
  refine GO.aload_nN dX4_add_2 rfl rfl ?_
  refine GO.iload_n dX4_add_3 rfl rfl ?_
  refine GO.callS (N := mX4_get_n) dX4_add_4 gS_RX4_7 (t_X4_get_n r_p1) rfl [ti p1, .null] rfl rfl (Nat.le_of_ble_eq_true rfl) rfl (k_ip fun X1 r2 h3 => ?_)
  refine GO.iload_n dX4_add_7 rfl rfl ?_
  refine GO.iadd dX4_add_8 ?_
  have q4 : -2147483648 ≤ p2 ∧ p2 ≤ 2147483647 := r_p2
  have q5 : -2147483648 ≤ X1 ∧ X1 ≤ 2147483647 := r2
  refine GO.callS (N := mX4_put_n) dX4_add_9 gS_RX4_13 (t_X4_put_n r_p1 ⟨by omega, by omega⟩) rfl [] rfl rfl (Nat.le_of_ble_eq_true rfl) rfl (k_vs fun V8 h7 hF6 => ?_)
  exact GO.retv rfl rfl dX4_add_12 ⟨rfl, rfl, trivial⟩

set_option maxHeartbeats 1000000 in
theorem t_X11_disturbNests {K : Kmap} {V : Vmap} {x : Nat} {p0 : Nat} (h_x : K x = some (0, 10)) (h_p0 : K p0 = some (0, 9)) : MC mX11_disturbNests K V [.ref x, .ref p0] (VS K (fun V1 => (True))) := by
  refine MC.start 4 (by decide +kernel) rfl rfl rfl (ls0 := [some (.ref x), some (.ref p0), none, none, none, none]) rfl ?_
  refine GO.aload_n dX11_disturbNests_0 rfl rfl ?_
  refine GO.getR h_x fl_RX11_12 rfl rfl dX11_disturbNests_1 (fun hv2 h1 => ?_)
  refine GO.getI h1 fl_RX11_145 rfl rfl dX11_disturbNests_4 (fun l3 u4 => ?_)
  refine GO.sipush dX11_disturbNests_7 rfl ?_
  refine GO.idivP dX11_disturbNests_10 vi_ir (ir_c rfl) (by omega) (by omega) ?_
  refine GO.name (fun z5 hz6 => ?_)
  refine GO.istore_n (ls1 := [some (.ref x), some (.ref p0), some (ti z5), none, none, none]) dX11_disturbNests_11 rfl rfl rfl ?_
  refine GO.iconst dX11_disturbNests_12 ?_
  refine GO.istore_n (ls1 := [some (.ref x), some (.ref p0), some (ti z5), some (ti 0), none, none]) dX11_disturbNests_13 rfl rfl rfl ?_
  refine GO.loop1 (fun i7 W => 0 ≤ i7 ∧ i7 ≤ 60 ∧ True) (fun i7 => [some (.ref x), some (.ref p0), some (ti z5), some (ti i7), none, none]) (fun i7 W => (2147483647 - i7).toNat) 0 ⟨by omega, by omega, trivial⟩ rfl (fun i7 Wi7 hp234 ih233 => ?_)
  obtain ⟨l_i7, u_i7, -⟩ := hp234
  have r_i7 : ir i7 := ⟨by omega, by omega⟩
  show GO mX11_disturbNests K V (VS K (fun V1 => (True))) K Wi7 0 0 14 [some (.ref x), some (.ref p0), some (ti z5), some (ti i7), none, none] []
  refine GO.iload_n dX11_disturbNests_14 rfl rfl ?_
  refine GO.aload_n dX11_disturbNests_15 rfl rfl ?_
  refine GO.getI h_x fl_RX11_46 rfl rfl dX11_disturbNests_16 (fun l235 u236 => ?_)
  refine GO.icmp_ge (tgt := 91) dX11_disturbNests_19 (by decide) r_i7 vi_ir (fun c237 => ?_) (fun c237 => ?_)
  ·
    exact GO.retv rfl rfl dX11_disturbNests_91 ⟨rfl, rfl, trivial⟩
  ·
    refine GO.aload_n dX11_disturbNests_22 rfl rfl ?_
    refine GO.iload_n dX11_disturbNests_23 rfl rfl ?_
    refine GO.iconst dX11_disturbNests_24 ?_
    refine GO.callV (ci := 10) (N := mX11_placeOf) dX11_disturbNests_25 (RX11, TX11, 20) rfl gV_RX11_169 h_x (t_X11_placeOf h_x r_i7 (ir_c rfl)) rfl [] rfl rfl (Nat.le_of_ble_eq_true rfl) rfl (k_rp (fun h240 => ?_) (fun o238 h239 h240 => ?_))
    ·
      refine GO.astoreN (ls1 := [some (.ref x), some (.ref p0), some (ti z5), some (ti i7), some (.null), none]) dX11_disturbNests_28 rfl rfl ?_
      refine GO.aloadN dX11_disturbNests_30 rfl ?_
      refine GO.ifnonnullN dX11_disturbNests_32 ?_
      refine GO.goto (tgt := 85) dX11_disturbNests_35 (by decide) ?_
      refine GO.iinc (X := i7) (n := 1) (Y := i7 + 1) (ls1 := [some (.ref x), some (.ref p0), some (ti z5), some (ti (i7 + 1)), some (.null), none]) dX11_disturbNests_85 rfl rfl rfl rfl ?_
      refine GO.goto (tgt := 14) dX11_disturbNests_88 (by decide) ?_
      refine GO.drop [true, true, true, true, false, true] rfl ?_
      exact ih233 (i7 + 1) Wi7 ⟨by omega, by omega, trivial⟩ (by show (2147483647 - (i7 + 1)).toNat < (2147483647 - i7).toNat; omega)
    ·
      refine GO.astore (ls1 := [some (.ref x), some (.ref p0), some (ti z5), some (ti i7), some (.ref o238), none]) dX11_disturbNests_28 rfl rfl ?_
      refine GO.aload dX11_disturbNests_30 rfl ?_
      refine GO.ifnonnull (tgt := 38) dX11_disturbNests_32 (by decide) ?_
      refine GO.aload_n dX11_disturbNests_38 rfl rfl ?_
      refine GO.getR h_x fl_RX11_12 rfl rfl dX11_disturbNests_39 (fun hv242 h241 => ?_)
      refine GO.aload_n dX11_disturbNests_42 rfl rfl ?_
      refine GO.getI h_p0 fl_RX11_378 rfl rfl dX11_disturbNests_43 (fun _ _ => ?_)
      refine GO.aload dX11_disturbNests_46 rfl ?_
      refine GO.getI h239 fl_RX11_344 rfl rfl dX11_disturbNests_48 (fun _ _ => ?_)
      refine GO.callV (ci := 0) (N := mX0_far) dX11_disturbNests_51 (RX0, TX0, 13) rfl gV_RX11_388 h241 (t_X0_far h241 vi_ir vi_ir) rfl [] rfl rfl (Nat.le_of_ble_eq_true rfl) rfl (k_ip fun X243 r244 h245 => ?_)
      refine GO.istore (ls1 := [some (.ref x), some (.ref p0), some (ti z5), some (ti i7), some (.ref o238), some (ti X243)]) dX11_disturbNests_54 rfl rfl ?_
      refine GO.iload dX11_disturbNests_56 rfl ?_
      refine GO.if_lt (tgt := 85) dX11_disturbNests_58 (by decide) r244 (fun c246 => ?_) (fun c246 => ?_)
      ·
        refine GO.iinc (X := i7) (n := 1) (Y := i7 + 1) (ls1 := [some (.ref x), some (.ref p0), some (ti z5), some (ti (i7 + 1)), some (.ref o238), some (ti X243)]) dX11_disturbNests_85 rfl rfl rfl rfl ?_
        refine GO.goto (tgt := 14) dX11_disturbNests_88 (by decide) ?_
        refine GO.drop [true, true, true, true, false, false] rfl ?_
        exact ih233 (i7 + 1) Wi7 ⟨by omega, by omega, trivial⟩ (by show (2147483647 - (i7 + 1)).toNat < (2147483647 - i7).toNat; omega)
      ·
        refine GO.iload dX11_disturbNests_61 rfl ?_
        refine GO.iconst dX11_disturbNests_63 ?_
        refine GO.icmp_gt (tgt := 85) dX11_disturbNests_64 (by decide) r244 (ir_c rfl) (fun c247 => ?_) (fun c247 => ?_)
        ·
          refine GO.iinc (X := i7) (n := 1) (Y := i7 + 1) (ls1 := [some (.ref x), some (.ref p0), some (ti z5), some (ti (i7 + 1)), some (.ref o238), some (ti X243)]) dX11_disturbNests_85 rfl rfl rfl rfl ?_
          refine GO.goto (tgt := 14) dX11_disturbNests_88 (by decide) ?_
          refine GO.drop [true, true, true, true, false, false] rfl ?_
          exact ih233 (i7 + 1) Wi7 ⟨by omega, by omega, trivial⟩ (by show (2147483647 - (i7 + 1)).toNat < (2147483647 - i7).toNat; omega)
        ·
          refine GO.aload dX11_disturbNests_67 rfl ?_
          refine GO.getNB h239 fl_RX11_473 rfl rfl dX11_disturbNests_69 (fun hv249 => ?_) (fun n250 hv249 h248 b251 => ?_)
          ·
            refine GO.iload_n dX11_disturbNests_72 rfl rfl ?_
            refine GO.aload_n dX11_disturbNests_73 rfl rfl ?_
            refine GO.getI h_p0 fl_RX11_306 rfl rfl dX11_disturbNests_74 (fun _ _ => ?_)
            refine GO.iload dX11_disturbNests_77 rfl ?_
            refine GO.iconst dX11_disturbNests_79 ?_
            refine GO.iadd dX11_disturbNests_80 ?_
            have q252 : -2147483648 ≤ X243 ∧ X243 ≤ 2147483647 := r244
            refine GO.idiv dX11_disturbNests_81 ⟨by omega, by omega⟩ (by omega) ?_
            refine GO.callS (N := mX4_add_n) dX11_disturbNests_82 gS_RX11_476 (t_X4_add_n ⟨by omega, by omega⟩ wdiv_ir) rfl [] rfl rfl (Nat.le_of_ble_eq_true rfl) rfl (k_vs fun V255 h254 hF253 => ?_)
            refine GO.iinc (X := i7) (n := 1) (Y := i7 + 1) (ls1 := [some (.ref x), some (.ref p0), some (ti z5), some (ti (i7 + 1)), some (.ref o238), some (ti X243)]) dX11_disturbNests_85 rfl rfl rfl rfl ?_
            refine GO.goto (tgt := 14) dX11_disturbNests_88 (by decide) ?_
            refine GO.drop [true, true, true, true, false, false] rfl ?_
            exact ih233 (i7 + 1) V255 ⟨by omega, by omega, trivial⟩ (by show (2147483647 - (i7 + 1)).toNat < (2147483647 - i7).toNat; omega)
          ·
            refine GO.iload_n dX11_disturbNests_72 rfl rfl ?_
            refine GO.aload_n dX11_disturbNests_73 rfl rfl ?_
            refine GO.getI h_p0 fl_RX11_306 rfl rfl dX11_disturbNests_74 (fun _ _ => ?_)
            refine GO.iload dX11_disturbNests_77 rfl ?_
            refine GO.iconst dX11_disturbNests_79 ?_
            refine GO.iadd dX11_disturbNests_80 ?_
            have q256 : -2147483648 ≤ X243 ∧ X243 ≤ 2147483647 := r244
            refine GO.idiv dX11_disturbNests_81 ⟨by omega, by omega⟩ (by omega) ?_
            refine GO.callS (N := mX4_add) dX11_disturbNests_82 gS_RX11_476 (t_X4_add h248 ⟨by omega, by omega⟩ wdiv_ir) rfl [] rfl rfl (Nat.le_of_ble_eq_true rfl) rfl (k_vs fun V259 h258 hF257 => ?_)
            refine GO.iinc (X := i7) (n := 1) (Y := i7 + 1) (ls1 := [some (.ref x), some (.ref p0), some (ti z5), some (ti (i7 + 1)), some (.ref o238), some (ti X243)]) dX11_disturbNests_85 rfl rfl rfl rfl ?_
            refine GO.goto (tgt := 14) dX11_disturbNests_88 (by decide) ?_
            refine GO.drop [true, true, true, true, false, false] rfl ?_
            exact ih233 (i7 + 1) V259 ⟨by omega, by omega, trivial⟩ (by show (2147483647 - (i7 + 1)).toNat < (2147483647 - i7).toNat; omega)

set_option maxHeartbeats 1000000 in
theorem t_X8_get_k29 {K : Kmap} {V : Vmap} {x : Nat} {p0 : Int} {p1 : Int} (h_x : K x = some (0, 29)) (r_p0 : ir p0) (r_p1 : ir p1) : MC mX8_get_k29 K V [.ref x, ti p0, ti p1] (IP K V (fun X => True)) := by
  refine MC.start 2 (by decide +kernel) rfl rfl rfl (ls0 := [some (.ref x), some (ti p0), some (ti p1), none, none]) rfl ?_
  refine GO.iload_n dX8_get_0 rfl rfl ?_
  refine GO.aload_n dX8_get_1 rfl rfl ?_
  refine GO.getI h_x fl_RX8_15_k29 rfl rfl dX8_get_2 (fun l1 u2 => ?_)
  refine GO.imul dX8_get_5 ?_
  refine GO.norm (fun z3 r4 hn5 => ?_)
  refine GO.iload_n dX8_get_6 rfl rfl ?_
  refine GO.iadd dX8_get_7 ?_
  refine GO.norm (fun z6 r7 hn8 => ?_)
  refine GO.istore_n (ls1 := [some (.ref x), some (ti p0), some (ti p1), some (ti z6), none]) dX8_get_8 rfl rfl rfl ?_
  refine GO.iload_n dX8_get_9 rfl rfl ?_
  have hj18 : ∀ (z17 : Int), ∀ (l19 : 0 ≤ z17), ∀ (u20 : z17 ≤ 1), GO mX8_get_k29 K V (IP K V (fun X => True)) K V 0 0 38 [some (.ref x), some (ti p0), some (ti p1), some (ti z6), none] [ti z17] := by
    intro z17 l19 u20
    have r21 : ir z17 := ⟨by omega, by omega⟩
    refine GO.istore (ls1 := [some (.ref x), some (ti p0), some (ti p1), some (ti z6), some (ti z17)]) dX8_get_38 rfl rfl ?_
    refine GO.iload dX8_get_40 rfl ?_
    refine GO.if_eq (tgt := 67) dX8_get_42 (by decide) r21 (fun c22 => ?_) (fun c22 => ?_)
    ·
      refine GO.iconst dX8_get_67 ?_
      exact GO.reti rfl rfl dX8_get_68 ⟨rfl, rfl, _, rfl, (ir_c rfl), trivial⟩
    ·
      refine GO.iload_n dX8_get_45 rfl rfl ?_
      refine GO.if_lt (tgt := 67) dX8_get_46 (by decide) r7 (fun c23 => ?_) (fun c23 => ?_)
      ·
        refine GO.iconst dX8_get_67 ?_
        exact GO.reti rfl rfl dX8_get_68 ⟨rfl, rfl, _, rfl, (ir_c rfl), trivial⟩
      ·
        refine GO.iload_n dX8_get_49 rfl rfl ?_
        refine GO.aload_n dX8_get_50 rfl rfl ?_
        refine GO.getA (n := 30) h_x fl_RX8_27_k29 rfl rfl rfl rfl dX8_get_51 (fun hv25 h24 => ?_)
        refine GO.alen h24 dX8_get_54 (fun h26 => ?_)
        refine GO.icmp_ge (tgt := 67) dX8_get_55 (by decide) r7 ⟨by omega, by omega⟩ (fun c27 => ?_) (fun c27 => ?_)
        ·
          refine GO.iconst dX8_get_67 ?_
          exact GO.reti rfl rfl dX8_get_68 ⟨rfl, rfl, _, rfl, (ir_c rfl), trivial⟩
        ·
          refine GO.aload_n dX8_get_58 rfl rfl ?_
          refine GO.getRaw h_x fl_RX8_27_k29 hv25 dX8_get_59 ?_
          refine GO.iload_n dX8_get_62 rfl rfl ?_
          have q30 : -2147483648 ≤ z6 ∧ z6 ≤ 2147483647 := r7
          refine GO.iald (t := 151) rfl rfl h24 r7 (by omega) (by omega) dX8_get_63 (fun _ _ => ?_)
          refine GO.goto (tgt := 68) dX8_get_64 (by decide) ?_
          have q31 : -2147483648 ≤ vi V (vq V x 2) (z6).toNat ∧ vi V (vq V x 2) (z6).toNat ≤ 2147483647 := vi_ir
          exact GO.reti rfl rfl dX8_get_68 ⟨rfl, rfl, _, rfl, vi_ir, trivial⟩
  have hj40 : GO mX8_get_k29 K V (IP K V (fun X => True)) K V 0 0 37 [some (.ref x), some (ti p0), some (ti p1), some (ti z6), none] [] := by
    skip
    refine GO.iconst dX8_get_37 ?_
    exact hj18 0 (by omega) (by omega)
  refine GO.if_lt (tgt := 37) dX8_get_10 (by decide) r_p0 (fun c41 => ?_) (fun c41 => ?_)
  ·
    exact hj40 
  ·
    refine GO.iload_n dX8_get_13 rfl rfl ?_
    refine GO.aload_n dX8_get_14 rfl rfl ?_
    refine GO.getI h_x fl_RX8_9_k29 rfl rfl dX8_get_15 (fun l42 u43 => ?_)
    refine GO.icmp_ge (tgt := 37) dX8_get_18 (by decide) r_p0 vi_ir (fun c44 => ?_) (fun c44 => ?_)
    ·
      exact hj40 
    ·
      refine GO.iload_n dX8_get_21 rfl rfl ?_
      refine GO.if_lt (tgt := 37) dX8_get_22 (by decide) r_p1 (fun c45 => ?_) (fun c45 => ?_)
      ·
        exact hj40 
      ·
        refine GO.iload_n dX8_get_25 rfl rfl ?_
        refine GO.aload_n dX8_get_26 rfl rfl ?_
        refine GO.getI h_x fl_RX8_15_k29 rfl rfl dX8_get_27 (fun l46 u47 => ?_)
        refine GO.icmp_ge (tgt := 37) dX8_get_30 (by decide) r_p1 vi_ir (fun c48 => ?_) (fun c48 => ?_)
        ·
          exact hj40 
        ·
          refine GO.iconst dX8_get_33 ?_
          refine GO.goto (tgt := 38) dX8_get_34 (by decide) ?_
          exact hj18 1 (by omega) (by omega)

set_option maxHeartbeats 1000000 in
theorem t_X8_put_k29 {K : Kmap} {V : Vmap} {x : Nat} {p0 : Int} {p1 : Int} {p2 : Int} (h_x : K x = some (0, 29)) (r_p0 : ir p0) (r_p1 : ir p1) (r_p2 : ir p2) : MC mX8_put_k29 K V [.ref x, ti p0, ti p1, ti p2] (VS K (fun V1 => (True))) := by
  refine MC.start 2 (by decide +kernel) rfl rfl rfl (ls0 := [some (.ref x), some (ti p0), some (ti p1), some (ti p2), none, none]) rfl ?_
  refine GO.iload_n dX8_put_0 rfl rfl ?_
  refine GO.aload_n dX8_put_1 rfl rfl ?_
  refine GO.getI h_x fl_RX8_15_k29 rfl rfl dX8_put_2 (fun l1 u2 => ?_)
  refine GO.imul dX8_put_5 ?_
  refine GO.norm (fun z3 r4 hn5 => ?_)
  refine GO.iload_n dX8_put_6 rfl rfl ?_
  refine GO.iadd dX8_put_7 ?_
  refine GO.norm (fun z6 r7 hn8 => ?_)
  refine GO.istore (ls1 := [some (.ref x), some (ti p0), some (ti p1), some (ti p2), some (ti z6), none]) dX8_put_8 rfl rfl ?_
  refine GO.iload_n dX8_put_10 rfl rfl ?_
  have hj18 : ∀ (z17 : Int), ∀ (l19 : 0 ≤ z17), ∀ (u20 : z17 ≤ 1), GO mX8_put_k29 K V (VS K (fun V1 => (True))) K V 0 0 39 [some (.ref x), some (ti p0), some (ti p1), some (ti p2), some (ti z6), none] [ti z17] := by
    intro z17 l19 u20
    have r21 : ir z17 := ⟨by omega, by omega⟩
    refine GO.istore (ls1 := [some (.ref x), some (ti p0), some (ti p1), some (ti p2), some (ti z6), some (ti z17)]) dX8_put_39 rfl rfl ?_
    refine GO.iload dX8_put_41 rfl ?_
    refine GO.if_eq (tgt := 69) dX8_put_43 (by decide) r21 (fun c22 => ?_) (fun c22 => ?_)
    ·
      exact GO.retv rfl rfl dX8_put_69 ⟨rfl, rfl, trivial⟩
    ·
      refine GO.iload dX8_put_46 rfl ?_
      refine GO.if_lt (tgt := 69) dX8_put_48 (by decide) r7 (fun c23 => ?_) (fun c23 => ?_)
      ·
        exact GO.retv rfl rfl dX8_put_69 ⟨rfl, rfl, trivial⟩
      ·
        refine GO.iload dX8_put_51 rfl ?_
        refine GO.aload_n dX8_put_53 rfl rfl ?_
        refine GO.getA (n := 30) h_x fl_RX8_27_k29 rfl rfl rfl rfl dX8_put_54 (fun hv25 h24 => ?_)
        refine GO.alen h24 dX8_put_57 (fun h26 => ?_)
        refine GO.icmp_ge (tgt := 69) dX8_put_58 (by decide) r7 ⟨by omega, by omega⟩ (fun c27 => ?_) (fun c27 => ?_)
        ·
          exact GO.retv rfl rfl dX8_put_69 ⟨rfl, rfl, trivial⟩
        ·
          refine GO.aload_n dX8_put_61 rfl rfl ?_
          refine GO.getRaw h_x fl_RX8_27_k29 hv25 dX8_put_62 ?_
          refine GO.iload dX8_put_65 rfl ?_
          refine GO.iload_n dX8_put_67 rfl rfl ?_
          have q30 : -2147483648 ≤ z6 ∧ z6 ≤ 2147483647 := r7
          refine GO.iast (t := 151) rfl rfl (by decide +kernel) h24 r7 (by omega) (by omega) r_p2 (r_p2).1 (r_p2).2 dX8_put_68 (fun V32 e31 => ?_)
          exact GO.retv rfl rfl dX8_put_69 ⟨rfl, rfl, trivial⟩
  have hj41 : GO mX8_put_k29 K V (VS K (fun V1 => (True))) K V 0 0 38 [some (.ref x), some (ti p0), some (ti p1), some (ti p2), some (ti z6), none] [] := by
    skip
    refine GO.iconst dX8_put_38 ?_
    exact hj18 0 (by omega) (by omega)
  refine GO.if_lt (tgt := 38) dX8_put_11 (by decide) r_p0 (fun c42 => ?_) (fun c42 => ?_)
  ·
    exact hj41 
  ·
    refine GO.iload_n dX8_put_14 rfl rfl ?_
    refine GO.aload_n dX8_put_15 rfl rfl ?_
    refine GO.getI h_x fl_RX8_9_k29 rfl rfl dX8_put_16 (fun l43 u44 => ?_)
    refine GO.icmp_ge (tgt := 38) dX8_put_19 (by decide) r_p0 vi_ir (fun c45 => ?_) (fun c45 => ?_)
    ·
      exact hj41 
    ·
      refine GO.iload_n dX8_put_22 rfl rfl ?_
      refine GO.if_lt (tgt := 38) dX8_put_23 (by decide) r_p1 (fun c46 => ?_) (fun c46 => ?_)
      ·
        exact hj41 
      ·
        refine GO.iload_n dX8_put_26 rfl rfl ?_
        refine GO.aload_n dX8_put_27 rfl rfl ?_
        refine GO.getI h_x fl_RX8_15_k29 rfl rfl dX8_put_28 (fun l47 u48 => ?_)
        refine GO.icmp_ge (tgt := 38) dX8_put_31 (by decide) r_p1 vi_ir (fun c49 => ?_) (fun c49 => ?_)
        ·
          exact hj41 
        ·
          refine GO.iconst dX8_put_34 ?_
          refine GO.goto (tgt := 39) dX8_put_35 (by decide) ?_
          exact hj18 1 (by omega) (by omega)

set_option maxHeartbeats 1000000 in
theorem t_X11_goDown {K : Kmap} {V : Vmap} {x : Nat} {p0 : Int} (h_x : K x = some (0, 10)) (r_p0 : ir p0) : MC mX11_goDown K V [.ref x, ti p0] (VS K (fun V1 => (True))) := by
  refine MC.start 5 (by decide +kernel) rfl rfl rfl (ls0 := [some (.ref x), some (ti p0), none, none, none, none, none]) rfl ?_
  refine GO.aload_n dX11_goDown_0 rfl rfl ?_
  refine GO.aload_n dX11_goDown_1 rfl rfl ?_
  refine GO.getR h_x fl_RX11_79 rfl rfl dX11_goDown_2 (fun hv2 h1 => ?_)
  refine GO.iload_n dX11_goDown_5 rfl rfl ?_
  refine GO.iconst dX11_goDown_6 ?_
  refine GO.callV (ci := 29) (N := mX8_get_k29) dX11_goDown_7 (RX8, TX8, 4) rfl gV_RX11_209 h1 (t_X8_get_k29 h1 r_p0 (ir_c rfl)) rfl [.ref x] rfl rfl (Nat.le_of_ble_eq_true rfl) rfl (k_ip fun X3 r4 h5 => ?_)
  refine GO.iconst dX11_goDown_10 ?_
  refine GO.callV (ci := 10) (N := mX11_placeOf) dX11_goDown_11 (RX11, TX11, 20) rfl gV_RX11_169 h_x (t_X11_placeOf h_x r4 (ir_c rfl)) rfl [] rfl rfl (Nat.le_of_ble_eq_true rfl) rfl (k_rp (fun h8 => ?_) (fun o6 h7 h8 => ?_))
  ·
    refine GO.astore_nN (ls1 := [some (.ref x), some (ti p0), some (.null), none, none, none, none]) dX11_goDown_14 rfl rfl rfl ?_
    refine GO.aload_nN dX11_goDown_15 rfl rfl ?_
    refine GO.ifnonnullN dX11_goDown_16 ?_
    exact GO.retv rfl rfl dX11_goDown_19 ⟨rfl, rfl, trivial⟩
  ·
    refine GO.astore_n (ls1 := [some (.ref x), some (ti p0), some (.ref o6), none, none, none, none]) dX11_goDown_14 rfl rfl rfl ?_
    refine GO.aload_n dX11_goDown_15 rfl rfl ?_
    refine GO.ifnonnull (tgt := 20) dX11_goDown_16 (by decide) ?_
    refine GO.aload_n dX11_goDown_20 rfl rfl ?_
    refine GO.getRaw h_x fl_RX11_79 hv2 dX11_goDown_21 ?_
    refine GO.iload_n dX11_goDown_24 rfl rfl ?_
    refine GO.iconst dX11_goDown_25 ?_
    refine GO.callV (ci := 29) (N := mX8_get_k29) dX11_goDown_26 (RX8, TX8, 4) rfl gV_RX11_209 h1 (t_X8_get_k29 h1 r_p0 (ir_c rfl)) rfl [] rfl rfl (Nat.le_of_ble_eq_true rfl) rfl (k_ip fun X11 r12 h13 => ?_)
    refine GO.istore_n (ls1 := [some (.ref x), some (ti p0), some (.ref o6), some (ti X11), none, none, none]) dX11_goDown_29 rfl rfl rfl ?_
    refine GO.iload_n dX11_goDown_30 rfl rfl ?_
    refine GO.sipush dX11_goDown_31 rfl ?_
    refine GO.idiv dX11_goDown_34 (ir_c rfl) (by omega) ?_
    refine GO.bipush dX11_goDown_35 rfl ?_
    refine GO.callS (N := mJ9_min_7cf53) dX11_goDown_37 gS_RX11_479 (t_J9_min_7cf53 wdiv_ir (ir_c rfl)) rfl [] rfl rfl (Nat.le_of_ble_eq_true rfl) rfl (k_ip fun X14 r15 h16 => ?_)
    have q17 : -2147483648 ≤ wdiv X11 500 ∧ wdiv X11 500 ≤ 2147483647 := wdiv_ir
    have q18 : -2147483648 ≤ X14 ∧ X14 ≤ 2147483647 := r15
    refine GO.istore (ls1 := [some (.ref x), some (ti p0), some (.ref o6), some (ti X11), some (ti X14), none, none]) dX11_goDown_40 rfl rfl ?_
    refine GO.aload_n dX11_goDown_42 rfl rfl ?_
    refine GO.callV (ci := 3) (N := mX3_sureDepth) dX11_goDown_43 (RX3, TX3, 16) rfl gV_RX11_482 h7 (t_X3_sureDepth h7) rfl [] rfl rfl (Nat.le_of_ble_eq_true rfl) rfl (k_ip fun X19 r20 h21 => ?_)
    refine GO.aload_n dX11_goDown_46 rfl rfl ?_
    refine GO.getA (n := 11) h_x fl_RX11_94 rfl rfl rfl rfl dX11_goDown_47 (fun hv23 h22 => ?_)
    refine GO.bipush dX11_goDown_50 rfl ?_
    refine GO.callS (N := mX4_get) dX11_goDown_52 gS_RX11_253 (t_X4_get rfl h22 (ir_c rfl)) rfl [ti X19] rfl rfl (Nat.le_of_ble_eq_true rfl) rfl (k_ip fun X24 r25 h26 => ?_)
    have raw_get := h26.2
    have rw52 := h26.2
    refine GO.isub dX11_goDown_55 ?_
    refine GO.norm (fun z27 r28 hn29 => ?_)
    refine GO.istore (ls1 := [some (.ref x), some (ti p0), some (.ref o6), some (ti X11), some (ti X14), some (ti z27), none]) dX11_goDown_56 rfl rfl ?_
    refine GO.iload_n dX11_goDown_58 rfl rfl ?_
    refine GO.aload_n dX11_goDown_59 rfl rfl ?_
    refine GO.getRaw h_x fl_RX11_94 hv23 dX11_goDown_60 ?_
    refine GO.iload dX11_goDown_63 rfl ?_
    refine GO.callS (N := mX4_get) dX11_goDown_65 gS_RX11_253 (t_X4_get rfl h22 r15) rfl [ti X11] rfl rfl (Nat.le_of_ble_eq_true rfl) rfl (k_ip fun X32 r33 h34 => ?_)
    have raw_get := h34.2
    have rw65 := h34.2
    refine GO.iadd dX11_goDown_68 ?_
    refine GO.norm (fun z35 r36 hn37 => ?_)
    refine GO.iload dX11_goDown_69 rfl ?_
    refine GO.callS (N := mJ9_min_7cf53) dX11_goDown_71 gS_RX11_479 (t_J9_min_7cf53 r36 r28) rfl [] rfl rfl (Nat.le_of_ble_eq_true rfl) rfl (k_ip fun X38 r39 h40 => ?_)
    have q41 : -2147483648 ≤ z27 ∧ z27 ≤ 2147483647 := r28
    have q42 : -2147483648 ≤ X38 ∧ X38 ≤ 2147483647 := r39
    have q43 : -2147483648 ≤ z35 ∧ z35 ≤ 2147483647 := r36
    refine GO.istore (ls1 := [some (.ref x), some (ti p0), some (.ref o6), some (ti X11), some (ti X14), some (ti z27), some (ti X38)]) dX11_goDown_74 rfl rfl ?_
    refine GO.aload_n dX11_goDown_76 rfl rfl ?_
    refine GO.getRaw h_x fl_RX11_79 hv2 dX11_goDown_77 ?_
    refine GO.iload_n dX11_goDown_80 rfl rfl ?_
    refine GO.iconst dX11_goDown_81 ?_
    refine GO.iload_n dX11_goDown_82 rfl rfl ?_
    refine GO.iload dX11_goDown_83 rfl ?_
    refine GO.callS (N := mJ9_max_7cf53) dX11_goDown_85 gS_RX11_296 (t_J9_max_7cf53 r12 r39) rfl [ti 2, ti p0, .ref (vq V x 13)] rfl rfl (Nat.le_of_ble_eq_true rfl) rfl (k_ip fun X46 r47 h48 => ?_)
    have q49 : -2147483648 ≤ X46 ∧ X46 ≤ 2147483647 := r47
    have q50 : -2147483648 ≤ X11 ∧ X11 ≤ 2147483647 := r12
    refine GO.callV (ci := 29) (N := mX8_put_k29) dX11_goDown_88 (RX8, TX8, 4) rfl gV_RX11_485 h1 (t_X8_put_k29 h1 r_p0 (ir_c rfl) r47) rfl [] rfl rfl (Nat.le_of_ble_eq_true rfl) rfl (k_vs fun V53 h52 hF51 => ?_)
    exact GO.retv rfl rfl dX11_goDown_91 ⟨rfl, rfl, trivial⟩

set_option maxHeartbeats 1000000 in
theorem t_X11_passWork {K : Kmap} {V : Vmap} {x : Nat} {p0 : Int} (h_x : K x = some (0, 10)) (r_p0 : ir p0) : MC mX11_passWork K V [.ref x, ti p0] (VS K (fun V1 => (True))) := by
  refine MC.start 3 (by decide +kernel) rfl rfl rfl (ls0 := [some (.ref x), some (ti p0), none, none, none]) rfl ?_
  refine GO.aload_n dX11_passWork_0 rfl rfl ?_
  refine GO.iload_n dX11_passWork_1 rfl rfl ?_
  refine GO.callV (ci := 10) (N := mX11_workOf) dX11_passWork_2 (RX11, TX11, 20) rfl gV_RX11_309 h_x (t_X11_workOf h_x r_p0) rfl [] rfl rfl (Nat.le_of_ble_eq_true rfl) rfl (k_rp (fun h3 => ?_) (fun o1 h2 h3 => ?_))
  ·
    refine GO.astore_nN (ls1 := [some (.ref x), some (ti p0), some (.null), none, none]) dX11_passWork_5 rfl rfl rfl ?_
    refine GO.aload_nN dX11_passWork_6 rfl rfl ?_
    refine GO.ifnullN (tgt := 38) dX11_passWork_7 (by decide) ?_
    exact GO.retv rfl rfl dX11_passWork_38 ⟨rfl, rfl, trivial⟩
  ·
    refine GO.astore_n (ls1 := [some (.ref x), some (ti p0), some (.ref o1), none, none]) dX11_passWork_5 rfl rfl rfl ?_
    refine GO.aload_n dX11_passWork_6 rfl rfl ?_
    refine GO.ifnull dX11_passWork_7 ?_
    refine GO.aload_n dX11_passWork_10 rfl rfl ?_
    refine GO.getR h_x fl_RX11_12 rfl rfl dX11_passWork_11 (fun hv5 h4 => ?_)
    refine GO.getI h4 fl_RX11_145 rfl rfl dX11_passWork_14 (fun l6 u7 => ?_)
    refine GO.aload_n dX11_passWork_17 rfl rfl ?_
    refine GO.getI h2 fl_RX11_452 rfl rfl dX11_passWork_18 (fun _ _ => ?_)
    refine GO.icmp_lt (tgt := 38) dX11_passWork_21 (by decide) vi_ir vi_ir (fun c8 => ?_) (fun c8 => ?_)
    ·
      exact GO.retv rfl rfl dX11_passWork_38 ⟨rfl, rfl, trivial⟩
    ·
      refine GO.aload_n dX11_passWork_24 rfl rfl ?_
      refine GO.getRaw h_x fl_RX11_12 hv5 dX11_passWork_25 ?_
      refine GO.getI h4 fl_RX11_145 rfl rfl dX11_passWork_28 (fun l11 u12 => ?_)
      refine GO.aload_n dX11_passWork_31 rfl rfl ?_
      refine GO.getI h2 fl_RX11_455 rfl rfl dX11_passWork_32 (fun _ _ => ?_)
      refine GO.icmp_le (tgt := 39) dX11_passWork_35 (by decide) vi_ir vi_ir (fun c13 => ?_) (fun c13 => ?_)
      ·
        refine GO.aload_n dX11_passWork_39 rfl rfl ?_
        refine GO.aload_n dX11_passWork_40 rfl rfl ?_
        refine GO.aload_n dX11_passWork_41 rfl rfl ?_
        refine GO.getRaw h_x fl_RX11_12 hv5 dX11_passWork_42 ?_
        refine GO.getI h4 fl_RX11_145 rfl rfl dX11_passWork_45 (fun l16 u17 => ?_)
        refine GO.iconst dX11_passWork_48 ?_
        refine GO.callV (ci := 10) (N := mX11_judge) dX11_passWork_49 (RX11, TX11, 20) rfl gV_RX11_331 h_x (t_X11_judge h_x h2 vi_ir (ir_c rfl) (by omega)) rfl [] rfl rfl (Nat.le_of_ble_eq_true rfl) rfl (k_is fun X18 V22 r19 h20 hF21 => ?_)
        refine GO.if_eq (tgt := 66) dX11_passWork_52 (by decide) r19 (fun c23 => ?_) (fun c23 => ?_)
        ·
          refine GO.aload_n dX11_passWork_66 rfl rfl ?_
          refine GO.dup dX11_passWork_67 rfl ?_
          refine GO.getI h2 fl_RX11_461 rfl rfl dX11_passWork_68 (fun _ _ => ?_)
          refine GO.iconst dX11_passWork_71 ?_
          refine GO.iadd dX11_passWork_72 ?_
          refine GO.norm (fun z24 r25 hn26 => ?_)
          refine GO.putI h2 fp_RX11_461 rfl (by decide +kernel) r25 (r25).1 (r25).2 dX11_passWork_73 (fun V28 e27 => ?_)
          refine GO.aload_n dX11_passWork_76 rfl rfl ?_
          refine GO.aload_n dX11_passWork_77 rfl rfl ?_
          refine GO.getI h2 fl_RX11_353 rfl rfl dX11_passWork_78 (fun _ _ => ?_)
          refine GO.callV (ci := 10) (N := mX11_partyOf) dX11_passWork_81 (RX11, TX11, 20) rfl gV_RX11_151 h_x (t_X11_partyOf h_x vi_ir) rfl [] rfl rfl (Nat.le_of_ble_eq_true rfl) rfl (k_rp (fun h31 => ?_) (fun o29 h30 h31 => ?_))
          ·
            have rwn81 := h31.2
            have hn32 : PN V28 x → (vi V28 o1 1) < 0 ∨ vi V28 x 4 ≤ (vi V28 o1 1) := h31.2
            refine GO.astore_nN (ls1 := [some (.ref x), some (ti p0), some (.ref o1), some (.null), none]) dX11_passWork_84 rfl rfl rfl ?_
            refine GO.aload_n dX11_passWork_85 rfl rfl ?_
            refine GO.getI h2 fl_RX11_375 rfl rfl dX11_passWork_86 (fun _ _ => ?_)
            have hj34 : GO mX11_passWork K V (VS K (fun V1 => (True))) K V28 0 0 106 [some (.ref x), some (ti p0), some (.ref o1), some (.null), none] [] := by
              skip
              refine GO.aload_n dX11_passWork_106 rfl rfl ?_
              refine GO.aload_n dX11_passWork_107 rfl rfl ?_
              refine GO.callV (ci := 10) (N := mX11_disturbNests) dX11_passWork_108 (RX11, TX11, 20) rfl gV_RX11_467 h_x (t_X11_disturbNests h_x h2) rfl [] rfl rfl (Nat.le_of_ble_eq_true rfl) rfl (k_vs fun V37 h36 hF35 => ?_)
              refine GO.iconst dX11_passWork_111 ?_
              refine GO.istore (ls1 := [some (.ref x), some (ti p0), some (.ref o1), some (.null), some (ti 0)]) dX11_passWork_112 rfl rfl ?_
              refine GO.loop1 (fun i38 W => 0 ≤ i38 ∧ i38 ≤ 10 ∧ True) (fun i38 => [some (.ref x), some (ti p0), some (.ref o1), some (.null), some (ti i38)]) (fun i38 W => (2147483647 - i38).toNat) 0 ⟨by omega, by omega, trivial⟩ rfl (fun i38 Wi38 hp138 ih137 => ?_)
              obtain ⟨l_i38, u_i38, -⟩ := hp138
              have r_i38 : ir i38 := ⟨by omega, by omega⟩
              show GO mX11_passWork K V (VS K (fun V1 => (True))) K Wi38 0 0 114 [some (.ref x), some (ti p0), some (.ref o1), some (.null), some (ti i38)] []
              refine GO.iload dX11_passWork_114 rfl ?_
              refine GO.aload_n dX11_passWork_116 rfl rfl ?_
              refine GO.getR h_x fl_RX11_79 rfl rfl dX11_passWork_117 (fun hv140 h139 => ?_)
              refine GO.getI h139 fl_RX11_199_k29 rfl rfl dX11_passWork_120 (fun l141 u142 => ?_)
              refine GO.icmp_ge (tgt := 152) dX11_passWork_123 (by decide) r_i38 vi_ir (fun c143 => ?_) (fun c143 => ?_)
              ·
                exact GO.retv rfl rfl dX11_passWork_152 ⟨rfl, rfl, trivial⟩
              ·
                refine GO.aload_n dX11_passWork_126 rfl rfl ?_
                refine GO.getRaw h_x fl_RX11_79 hv140 dX11_passWork_127 ?_
                refine GO.iload dX11_passWork_130 rfl ?_
                refine GO.iconst dX11_passWork_132 ?_
                refine GO.callV (ci := 29) (N := mX8_get_k29) dX11_passWork_133 (RX8, TX8, 4) rfl gV_RX11_209 h139 (t_X8_get_k29 h139 r_i38 (ir_c rfl)) rfl [] rfl rfl (Nat.le_of_ble_eq_true rfl) rfl (k_ip fun X146 r147 h148 => ?_)
                refine GO.iload_n dX11_passWork_136 rfl rfl ?_
                refine GO.icmp_ne (tgt := 146) dX11_passWork_137 (by decide) r147 r_p0 (fun c149 => ?_) (fun c149 => ?_)
                ·
                  refine GO.iinc (X := i38) (n := 1) (Y := i38 + 1) (ls1 := [some (.ref x), some (ti p0), some (.ref o1), some (.null), some (ti (i38 + 1))]) dX11_passWork_146 rfl rfl rfl rfl ?_
                  refine GO.goto (tgt := 114) dX11_passWork_149 (by decide) ?_
                  exact ih137 (i38 + 1) Wi38 ⟨by omega, by omega, trivial⟩ (by show (2147483647 - (i38 + 1)).toNat < (2147483647 - i38).toNat; omega)
                ·
                  refine GO.aload_n dX11_passWork_140 rfl rfl ?_
                  refine GO.iload dX11_passWork_141 rfl ?_
                  refine GO.callV (ci := 10) (N := mX11_goDown) dX11_passWork_143 (RX11, TX11, 20) rfl gV_RX11_470 h_x (t_X11_goDown h_x r_i38) rfl [] rfl rfl (Nat.le_of_ble_eq_true rfl) rfl (k_vs fun V152 h151 hF150 => ?_)
                  refine GO.iinc (X := i38) (n := 1) (Y := i38 + 1) (ls1 := [some (.ref x), some (ti p0), some (.ref o1), some (.null), some (ti (i38 + 1))]) dX11_passWork_146 rfl rfl rfl rfl ?_
                  refine GO.goto (tgt := 114) dX11_passWork_149 (by decide) ?_
                  exact ih137 (i38 + 1) V152 ⟨by omega, by omega, trivial⟩ (by show (2147483647 - (i38 + 1)).toNat < (2147483647 - i38).toNat; omega)
            refine GO.if_ne (tgt := 106) dX11_passWork_89 (by decide) vi_ir (fun c153 => ?_) (fun c153 => ?_)
            ·
              exact hj34 
            ·
              refine GO.aload_nN dX11_passWork_92 rfl rfl ?_
              refine GO.ifnullN (tgt := 106) dX11_passWork_93 (by decide) ?_
              exact hj34 
          ·
            have hp154 : (vi V28 o1 1) ≥ 0 ∧ (vi V28 o1 1) < vi V28 x 4 := h31.1
            have rwp81 := h31.2
            have hq155 : o29 = vq V28 (vq V28 x 3) ((vi V28 o1 1)).toNat := h31.2
            refine GO.astore_n (ls1 := [some (.ref x), some (ti p0), some (.ref o1), some (.ref o29), none]) dX11_passWork_84 rfl rfl rfl ?_
            refine GO.aload_n dX11_passWork_85 rfl rfl ?_
            refine GO.getI h2 fl_RX11_375 rfl rfl dX11_passWork_86 (fun _ _ => ?_)
            have hj162 : ∀ (V163 : Vmap), GO mX11_passWork K V (VS K (fun V1 => (True))) K V163 0 0 106 [some (.ref x), some (ti p0), some (.ref o1), some (.ref o29), none] [] := by
              intro V163
              refine GO.aload_n dX11_passWork_106 rfl rfl ?_
              refine GO.aload_n dX11_passWork_107 rfl rfl ?_
              refine GO.callV (ci := 10) (N := mX11_disturbNests) dX11_passWork_108 (RX11, TX11, 20) rfl gV_RX11_467 h_x (t_X11_disturbNests h_x h2) rfl [] rfl rfl (Nat.le_of_ble_eq_true rfl) rfl (k_vs fun V166 h165 hF164 => ?_)
              refine GO.iconst dX11_passWork_111 ?_
              refine GO.istore (ls1 := [some (.ref x), some (ti p0), some (.ref o1), some (.ref o29), some (ti 0)]) dX11_passWork_112 rfl rfl ?_
              refine GO.loop1 (fun i167 W => 0 ≤ i167 ∧ i167 ≤ 10 ∧ True) (fun i167 => [some (.ref x), some (ti p0), some (.ref o1), some (.ref o29), some (ti i167)]) (fun i167 W => (2147483647 - i167).toNat) 0 ⟨by omega, by omega, trivial⟩ rfl (fun i167 Wi167 hp267 ih266 => ?_)
              obtain ⟨l_i167, u_i167, -⟩ := hp267
              have r_i167 : ir i167 := ⟨by omega, by omega⟩
              show GO mX11_passWork K V (VS K (fun V1 => (True))) K Wi167 0 0 114 [some (.ref x), some (ti p0), some (.ref o1), some (.ref o29), some (ti i167)] []
              refine GO.iload dX11_passWork_114 rfl ?_
              refine GO.aload_n dX11_passWork_116 rfl rfl ?_
              refine GO.getR h_x fl_RX11_79 rfl rfl dX11_passWork_117 (fun hv269 h268 => ?_)
              refine GO.getI h268 fl_RX11_199_k29 rfl rfl dX11_passWork_120 (fun l270 u271 => ?_)
              refine GO.icmp_ge (tgt := 152) dX11_passWork_123 (by decide) r_i167 vi_ir (fun c272 => ?_) (fun c272 => ?_)
              ·
                exact GO.retv rfl rfl dX11_passWork_152 ⟨rfl, rfl, trivial⟩
              ·
                refine GO.aload_n dX11_passWork_126 rfl rfl ?_
                refine GO.getRaw h_x fl_RX11_79 hv269 dX11_passWork_127 ?_
                refine GO.iload dX11_passWork_130 rfl ?_
                refine GO.iconst dX11_passWork_132 ?_
                refine GO.callV (ci := 29) (N := mX8_get_k29) dX11_passWork_133 (RX8, TX8, 4) rfl gV_RX11_209 h268 (t_X8_get_k29 h268 r_i167 (ir_c rfl)) rfl [] rfl rfl (Nat.le_of_ble_eq_true rfl) rfl (k_ip fun X275 r276 h277 => ?_)
                refine GO.iload_n dX11_passWork_136 rfl rfl ?_
                refine GO.icmp_ne (tgt := 146) dX11_passWork_137 (by decide) r276 r_p0 (fun c278 => ?_) (fun c278 => ?_)
                ·
                  refine GO.iinc (X := i167) (n := 1) (Y := i167 + 1) (ls1 := [some (.ref x), some (ti p0), some (.ref o1), some (.ref o29), some (ti (i167 + 1))]) dX11_passWork_146 rfl rfl rfl rfl ?_
                  refine GO.goto (tgt := 114) dX11_passWork_149 (by decide) ?_
                  exact ih266 (i167 + 1) Wi167 ⟨by omega, by omega, trivial⟩ (by show (2147483647 - (i167 + 1)).toNat < (2147483647 - i167).toNat; omega)
                ·
                  refine GO.aload_n dX11_passWork_140 rfl rfl ?_
                  refine GO.iload dX11_passWork_141 rfl ?_
                  refine GO.callV (ci := 10) (N := mX11_goDown) dX11_passWork_143 (RX11, TX11, 20) rfl gV_RX11_470 h_x (t_X11_goDown h_x r_i167) rfl [] rfl rfl (Nat.le_of_ble_eq_true rfl) rfl (k_vs fun V281 h280 hF279 => ?_)
                  refine GO.iinc (X := i167) (n := 1) (Y := i167 + 1) (ls1 := [some (.ref x), some (ti p0), some (.ref o1), some (.ref o29), some (ti (i167 + 1))]) dX11_passWork_146 rfl rfl rfl rfl ?_
                  refine GO.goto (tgt := 114) dX11_passWork_149 (by decide) ?_
                  exact ih266 (i167 + 1) V281 ⟨by omega, by omega, trivial⟩ (by show (2147483647 - (i167 + 1)).toNat < (2147483647 - i167).toNat; omega)
            refine GO.if_ne (tgt := 106) dX11_passWork_89 (by decide) vi_ir (fun c282 => ?_) (fun c282 => ?_)
            ·
              exact hj162  V28
            ·
              refine GO.aload_n dX11_passWork_92 rfl rfl ?_
              refine GO.ifnull dX11_passWork_93 ?_
              refine GO.aload_n dX11_passWork_96 rfl rfl ?_
              refine GO.dup dX11_passWork_97 rfl ?_
              refine GO.getI h30 fl_RX11_464 rfl rfl dX11_passWork_98 (fun _ _ => ?_)
              refine GO.iconst dX11_passWork_101 ?_
              refine GO.iadd dX11_passWork_102 ?_
              refine GO.norm (fun z283 r284 hn285 => ?_)
              refine GO.putI h30 fp_RX11_464 rfl (by decide +kernel) r284 (r284).1 (r284).2 dX11_passWork_103 (fun V287 e286 => ?_)
              exact hj162  V287
        ·
          refine GO.aload_n dX11_passWork_55 rfl rfl ?_
          refine GO.dup dX11_passWork_56 rfl ?_
          refine GO.getI h2 fl_RX11_458 rfl rfl dX11_passWork_57 (fun _ _ => ?_)
          refine GO.iconst dX11_passWork_60 ?_
          refine GO.iadd dX11_passWork_61 ?_
          refine GO.norm (fun z288 r289 hn290 => ?_)
          refine GO.putI h2 fp_RX11_458 rfl (by decide +kernel) r289 (r289).1 (r289).2 dX11_passWork_62 (fun V292 e291 => ?_)
          exact GO.retv rfl rfl dX11_passWork_65 ⟨rfl, rfl, trivial⟩
      ·
        exact GO.retv rfl rfl dX11_passWork_38 ⟨rfl, rfl, trivial⟩

set_option maxHeartbeats 1000000 in
theorem t_X11_admitParties {K : Kmap} {V : Vmap} {x : Nat} (h_x : K x = some (0, 10)) : MC mX11_admitParties K V [.ref x] (VS K (fun V1 => (True))) := by
  refine MC.start 3 (by decide +kernel) rfl rfl rfl (ls0 := [some (.ref x), none, none, none]) rfl ?_
  refine GO.iconst dX11_admitParties_0 ?_
  refine GO.istore_n (ls1 := [some (.ref x), some (ti 0), none, none]) dX11_admitParties_1 rfl rfl rfl ?_
  refine GO.loop1 (fun i1 W => 0 ≤ i1 ∧ i1 ≤ 9 ∧ True) (fun i1 => [some (.ref x), some (ti i1), none, none]) (fun i1 W => (2147483647 - i1).toNat) 0 ⟨by omega, by omega, trivial⟩ rfl (fun i1 Wi1 hp195 ih194 => ?_)
  obtain ⟨l_i1, u_i1, -⟩ := hp195
  have r_i1 : ir i1 := ⟨by omega, by omega⟩
  show GO mX11_admitParties K V (VS K (fun V1 => (True))) K Wi1 0 0 2 [some (.ref x), some (ti i1), none, none] []
  refine GO.iload_n dX11_admitParties_2 rfl rfl ?_
  refine GO.aload_n dX11_admitParties_3 rfl rfl ?_
  refine GO.getI h_x fl_RX11_36 rfl rfl dX11_admitParties_4 (fun l196 u197 => ?_)
  refine GO.icmp_ge (tgt := 89) dX11_admitParties_7 (by decide) r_i1 vi_ir (fun c198 => ?_) (fun c198 => ?_)
  ·
    exact GO.retv rfl rfl dX11_admitParties_89 ⟨rfl, rfl, trivial⟩
  ·
    refine GO.aload_n dX11_admitParties_10 rfl rfl ?_
    refine GO.iload_n dX11_admitParties_11 rfl rfl ?_
    refine GO.callV (ci := 10) (N := mX11_partyOf) dX11_admitParties_12 (RX11, TX11, 20) rfl gV_RX11_151 h_x (t_X11_partyOf h_x r_i1) rfl [] rfl rfl (Nat.le_of_ble_eq_true rfl) rfl (k_rp (fun h201 => ?_) (fun o199 h200 h201 => ?_))
    ·
      have rwn12 := h201.2
      have hn202 : PN Wi1 x → i1 < 0 ∨ vi Wi1 x 4 ≤ i1 := h201.2
      refine GO.astore_nN (ls1 := [some (.ref x), some (ti i1), some (.null), none]) dX11_admitParties_15 rfl rfl rfl ?_
      refine GO.aload_nN dX11_admitParties_16 rfl rfl ?_
      refine GO.ifnullN (tgt := 83) dX11_admitParties_17 (by decide) ?_
      refine GO.iinc (X := i1) (n := 1) (Y := i1 + 1) (ls1 := [some (.ref x), some (ti (i1 + 1)), some (.null), none]) dX11_admitParties_83 rfl rfl rfl rfl ?_
      refine GO.goto (tgt := 2) dX11_admitParties_86 (by decide) ?_
      refine GO.drop [true, true, false, true] rfl ?_
      exact ih194 (i1 + 1) Wi1 ⟨by omega, by omega, trivial⟩ (by show (2147483647 - (i1 + 1)).toNat < (2147483647 - i1).toNat; omega)
    ·
      have hp203 : i1 ≥ 0 ∧ i1 < vi Wi1 x 4 := h201.1
      have rwp12 := h201.2
      have hq204 : o199 = vq Wi1 (vq Wi1 x 3) (i1).toNat := h201.2
      refine GO.astore_n (ls1 := [some (.ref x), some (ti i1), some (.ref o199), none]) dX11_admitParties_15 rfl rfl rfl ?_
      refine GO.aload_n dX11_admitParties_16 rfl rfl ?_
      refine GO.ifnull dX11_admitParties_17 ?_
      refine GO.aload_n dX11_admitParties_20 rfl rfl ?_
      refine GO.getI h200 fl_RX11_341 rfl rfl dX11_admitParties_21 (fun _ _ => ?_)
      refine GO.iconst dX11_admitParties_24 ?_
      refine GO.icmp_eq (tgt := 31) dX11_admitParties_25 (by decide) vi_ir (ir_c rfl) (fun c205 => ?_) (fun c205 => ?_)
      ·
        refine GO.aload_n dX11_admitParties_31 rfl rfl ?_
        refine GO.getR h_x fl_RX11_19 rfl rfl dX11_admitParties_32 (fun hv207 h206 => ?_)
        refine GO.iload_n dX11_admitParties_35 rfl rfl ?_
        refine GO.aload_n dX11_admitParties_36 rfl rfl ?_
        refine GO.aload_n dX11_admitParties_37 rfl rfl ?_
        refine GO.getR h_x fl_RX11_12 rfl rfl dX11_admitParties_38 (fun hv209 h208 => ?_)
        refine GO.getI h208 fl_RX11_145 rfl rfl dX11_admitParties_41 (fun l210 u211 => ?_)
        refine GO.callV (ci := 1) (N := mX1_weigh) dX11_admitParties_44 (RX1, TX1, 13) rfl gV_RX11_279 h206 (t_X1_weigh h206 r_i1 h200 vi_ir) rfl [] rfl rfl (Nat.le_of_ble_eq_true rfl) rfl (k_vs fun V214 h213 hF212 => ?_)
        refine GO.aload_n dX11_admitParties_47 rfl rfl ?_
        refine GO.getRaw h_x fl_RX11_19 (Eq.trans (hF212 _ _ _ h_x h_x (by decide +kernel)) hv207) dX11_admitParties_48 ?_
        refine GO.bipush dX11_admitParties_51 rfl ?_
        refine GO.iconst dX11_admitParties_53 ?_
        refine GO.iconst dX11_admitParties_54 ?_
        refine GO.callV (ci := 1) (N := mX1_numberOf) dX11_admitParties_55 (RX1, TX1, 13) rfl gV_RX11_292 h206 (t_X1_numberOf h206 (ir_c rfl) (ir_c rfl) (ir_c rfl)) rfl [] rfl rfl (Nat.le_of_ble_eq_true rfl) rfl (k_ip fun X217 r218 h219 => ?_)
        refine GO.istore_n (ls1 := [some (.ref x), some (ti i1), some (.ref o199), some (ti X217)]) dX11_admitParties_58 rfl rfl rfl ?_
        refine GO.iload_n dX11_admitParties_59 rfl rfl ?_
        refine GO.iconst dX11_admitParties_60 ?_
        refine GO.icmp_eq (tgt := 83) dX11_admitParties_61 (by decide) r218 (ir_c rfl) (fun c220 => ?_) (fun c220 => ?_)
        ·
          refine GO.iinc (X := i1) (n := 1) (Y := i1 + 1) (ls1 := [some (.ref x), some (ti (i1 + 1)), some (.ref o199), some (ti X217)]) dX11_admitParties_83 rfl rfl rfl rfl ?_
          refine GO.goto (tgt := 2) dX11_admitParties_86 (by decide) ?_
          refine GO.drop [true, true, false, false] rfl ?_
          exact ih194 (i1 + 1) V214 ⟨by omega, by omega, trivial⟩ (by show (2147483647 - (i1 + 1)).toNat < (2147483647 - i1).toNat; omega)
        ·
          refine GO.aload_n dX11_admitParties_64 rfl rfl ?_
          refine GO.getI h200 fl_RX11_464 rfl rfl dX11_admitParties_65 (fun _ _ => ?_)
          refine GO.iload_n dX11_admitParties_68 rfl rfl ?_
          refine GO.icmp_lt (tgt := 83) dX11_admitParties_69 (by decide) vi_ir r218 (fun c221 => ?_) (fun c221 => ?_)
          ·
            refine GO.iinc (X := i1) (n := 1) (Y := i1 + 1) (ls1 := [some (.ref x), some (ti (i1 + 1)), some (.ref o199), some (ti X217)]) dX11_admitParties_83 rfl rfl rfl rfl ?_
            refine GO.goto (tgt := 2) dX11_admitParties_86 (by decide) ?_
            refine GO.drop [true, true, false, false] rfl ?_
            exact ih194 (i1 + 1) V214 ⟨by omega, by omega, trivial⟩ (by show (2147483647 - (i1 + 1)).toNat < (2147483647 - i1).toNat; omega)
          ·
            refine GO.aload_n dX11_admitParties_72 rfl rfl ?_
            refine GO.aload_n dX11_admitParties_73 rfl rfl ?_
            refine GO.getRaw h_x fl_RX11_12 (Eq.trans (hF212 _ _ _ h_x h_x (by decide +kernel)) hv209) dX11_admitParties_74 ?_
            refine GO.getI h208 fl_RX11_145 rfl rfl dX11_admitParties_77 (fun l224 u225 => ?_)
            refine GO.putI h200 fp_RX11_341 rfl (by decide +kernel) vi_ir (vi_ir).1 (vi_ir).2 dX11_admitParties_80 (fun V227 e226 => ?_)
            refine GO.iinc (X := i1) (n := 1) (Y := i1 + 1) (ls1 := [some (.ref x), some (ti (i1 + 1)), some (.ref o199), some (ti X217)]) dX11_admitParties_83 rfl rfl rfl rfl ?_
            refine GO.goto (tgt := 2) dX11_admitParties_86 (by decide) ?_
            refine GO.drop [true, true, false, false] rfl ?_
            exact ih194 (i1 + 1) V227 ⟨by omega, by omega, trivial⟩ (by show (2147483647 - (i1 + 1)).toNat < (2147483647 - i1).toNat; omega)
      ·
        refine GO.goto (tgt := 83) dX11_admitParties_28 (by decide) ?_
        refine GO.iinc (X := i1) (n := 1) (Y := i1 + 1) (ls1 := [some (.ref x), some (ti (i1 + 1)), some (.ref o199), none]) dX11_admitParties_83 rfl rfl rfl rfl ?_
        refine GO.goto (tgt := 2) dX11_admitParties_86 (by decide) ?_
        refine GO.drop [true, true, false, true] rfl ?_
        exact ih194 (i1 + 1) Wi1 ⟨by omega, by omega, trivial⟩ (by show (2147483647 - (i1 + 1)).toNat < (2147483647 - i1).toNat; omega)

set_option maxHeartbeats 1000000 in
theorem t_X11_sendPeopleHome {K : Kmap} {V : Vmap} {x : Nat} {p0 : Nat} (h_x : K x = some (0, 10)) (h_p0 : K p0 = some (0, 3)) : MC mX11_sendPeopleHome K V [.ref x, .ref p0] (VS K (fun V1 => (True))) := by
  refine MC.start 0 (by decide +kernel) rfl rfl rfl (ls0 := [some (.ref x), some (.ref p0)]) rfl ?_
  refine GO.aload_n dX11_sendPeopleHome_0 rfl rfl ?_
  refine GO.bipush dX11_sendPeopleHome_1 rfl ?_
  refine GO.aload_n dX11_sendPeopleHome_3 rfl rfl ?_
  refine GO.getI h_p0 fl_RX11_183 rfl rfl dX11_sendPeopleHome_4 (fun _ _ => ?_)
  refine GO.callV (ci := 10) (N := mX11_tally) dX11_sendPeopleHome_7 (RX11, TX11, 20) rfl gV_RX11_192 h_x (t_X11_tally h_x (ir_c rfl) vi_ir) rfl [] rfl rfl (Nat.le_of_ble_eq_true rfl) rfl (k_vs fun V3 h2 hF1 => ?_)
  refine GO.aload_n dX11_sendPeopleHome_10 rfl rfl ?_
  refine GO.iconst dX11_sendPeopleHome_11 ?_
  refine GO.putI h_p0 fp_RX11_183 rfl (by decide +kernel) (ir_c rfl) (by decide) (by decide) dX11_sendPeopleHome_12 (fun V5 e4 => ?_)
  exact GO.retv rfl rfl dX11_sendPeopleHome_15 ⟨rfl, rfl, trivial⟩

set_option maxHeartbeats 1000000 in
theorem t_X11_burn {K : Kmap} {V : Vmap} {x : Nat} {p0 : Nat} {p1 : Int} (h_x : K x = some (0, 10)) (h_p0 : K p0 = some (0, 3)) (r_p1 : ir p1) : MC mX11_burn K V [.ref x, .ref p0, ti p1] (VS K (fun V1 => (True))) := by
  refine MC.start 1 (by decide +kernel) rfl rfl rfl (ls0 := [some (.ref x), some (.ref p0), some (ti p1), none]) rfl ?_
  refine GO.iload_n dX11_burn_0 rfl rfl ?_
  refine GO.aload_n dX11_burn_1 rfl rfl ?_
  refine GO.getI h_p0 fl_RX11_186 rfl rfl dX11_burn_2 (fun _ _ => ?_)
  refine GO.callS (N := mJ9_min_7cf53) dX11_burn_5 gS_RX11_479 (t_J9_min_7cf53 r_p1 vi_ir) rfl [] rfl rfl (Nat.le_of_ble_eq_true rfl) rfl (k_ip fun X1 r2 h3 => ?_)
  have q4 : -2147483648 ≤ vi V p0 7 ∧ vi V p0 7 ≤ 2147483647 := vi_ir
  have q5 : -2147483648 ≤ X1 ∧ X1 ≤ 2147483647 := r2
  have q6 : -2147483648 ≤ p1 ∧ p1 ≤ 2147483647 := r_p1
  refine GO.istore_n (ls1 := [some (.ref x), some (.ref p0), some (ti p1), some (ti X1)]) dX11_burn_8 rfl rfl rfl ?_
  refine GO.aload_n dX11_burn_9 rfl rfl ?_
  refine GO.dup dX11_burn_10 rfl ?_
  refine GO.getI h_p0 fl_RX11_186 rfl rfl dX11_burn_11 (fun _ _ => ?_)
  refine GO.iload_n dX11_burn_14 rfl rfl ?_
  refine GO.isub dX11_burn_15 ?_
  refine GO.norm (fun z7 r8 hn9 => ?_)
  refine GO.putI h_p0 fp_RX11_186 rfl (by decide +kernel) r8 (r8).1 (r8).2 dX11_burn_16 (fun V11 e10 => ?_)
  refine GO.aload_n dX11_burn_19 rfl rfl ?_
  refine GO.iconst dX11_burn_20 ?_
  refine GO.iload_n dX11_burn_21 rfl rfl ?_
  refine GO.callV (ci := 10) (N := mX11_tally) dX11_burn_22 (RX11, TX11, 20) rfl gV_RX11_192 h_x (t_X11_tally h_x (ir_c rfl) r2) rfl [] rfl rfl (Nat.le_of_ble_eq_true rfl) rfl (k_vs fun V14 h13 hF12 => ?_)
  refine GO.aload_n dX11_burn_25 rfl rfl ?_
  refine GO.iload_n dX11_burn_26 rfl rfl ?_
  refine GO.iload_n dX11_burn_27 rfl rfl ?_
  refine GO.icmp_ge (tgt := 40) dX11_burn_28 (by decide) r2 r_p1 (fun c15 => ?_) (fun c15 => ?_)
  ·
    refine GO.iconst dX11_burn_40 ?_
    refine GO.putI h_p0 fp_RX11_501 rfl (by decide +kernel) (ir_c rfl) (by decide) (by decide) dX11_burn_41 (fun V17 e16 => ?_)
    refine GO.aload_n dX11_burn_44 rfl rfl ?_
    refine GO.getI h_p0 fl_RX11_501 rfl rfl dX11_burn_45 (fun _ _ => ?_)
    refine GO.bipush dX11_burn_48 rfl ?_
    refine GO.icmp_ne (tgt := 58) dX11_burn_50 (by decide) vi_ir (ir_c rfl) (fun c18 => ?_) (fun c18 => ?_)
    ·
      exact GO.retv rfl rfl dX11_burn_58 ⟨rfl, rfl, trivial⟩
    ·
      refine GO.aload_n dX11_burn_53 rfl rfl ?_
      refine GO.aload_n dX11_burn_54 rfl rfl ?_
      refine GO.callV (ci := 10) (N := mX11_sendPeopleHome) dX11_burn_55 (RX11, TX11, 20) rfl gV_RX11_504 h_x (t_X11_sendPeopleHome h_x h_p0) rfl [] rfl rfl (Nat.le_of_ble_eq_true rfl) rfl (k_vs fun V21 h20 hF19 => ?_)
      exact GO.retv rfl rfl dX11_burn_58 ⟨rfl, rfl, trivial⟩
  ·
    refine GO.aload_n dX11_burn_31 rfl rfl ?_
    refine GO.getI h_p0 fl_RX11_501 rfl rfl dX11_burn_32 (fun _ _ => ?_)
    refine GO.iconst dX11_burn_35 ?_
    refine GO.iadd dX11_burn_36 ?_
    refine GO.norm (fun z22 r23 hn24 => ?_)
    refine GO.goto (tgt := 41) dX11_burn_37 (by decide) ?_
    refine GO.putI h_p0 fp_RX11_501 rfl (by decide +kernel) r23 (r23).1 (r23).2 dX11_burn_41 (fun V26 e25 => ?_)
    refine GO.aload_n dX11_burn_44 rfl rfl ?_
    refine GO.getI h_p0 fl_RX11_501 rfl rfl dX11_burn_45 (fun _ _ => ?_)
    refine GO.bipush dX11_burn_48 rfl ?_
    refine GO.icmp_ne (tgt := 58) dX11_burn_50 (by decide) vi_ir (ir_c rfl) (fun c27 => ?_) (fun c27 => ?_)
    ·
      exact GO.retv rfl rfl dX11_burn_58 ⟨rfl, rfl, trivial⟩
    ·
      refine GO.aload_n dX11_burn_53 rfl rfl ?_
      refine GO.aload_n dX11_burn_54 rfl rfl ?_
      refine GO.callV (ci := 10) (N := mX11_sendPeopleHome) dX11_burn_55 (RX11, TX11, 20) rfl gV_RX11_504 h_x (t_X11_sendPeopleHome h_x h_p0) rfl [] rfl rfl (Nat.le_of_ble_eq_true rfl) rfl (k_vs fun V30 h29 hF28 => ?_)
      exact GO.retv rfl rfl dX11_burn_58 ⟨rfl, rfl, trivial⟩
