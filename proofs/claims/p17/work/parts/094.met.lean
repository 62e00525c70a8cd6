def mX8_isFull_k28 : MRec := (RX8, cX8_isFull, 1, (some .boolean), yX8_isFull, 0, 0, 0, 0, 0)
def mX8_put_k28 : MRec := (RX8, cX8_put, 6, (none : Option Jvm.ClassFile.FieldType), yX8_put, 0, 0, 0, 0, 5415370496329716522614090203404460358274291162843391748379842930887932241807862544999950011922147613471467208908991351228465152)
def mX8_append_k28 : MRec := (RX8, cX8_append, 7, (some .int), yX8_append, 1, 25, 0, 0, 2392032866531905486790942578809394338145620987608332988883503686824375184280873545946128538634052219851605177476011827463498108000803416525160133105857065232280273705978608061616258853495938628976640)
def mX11_visit : MRec := (RX11, cX11_visit, 6, (some .int), yX11_visit, 3, 66, 0, 0, 2392032866531905486790942578809394338145620987608332988883503686824375184280873545946128538634052219851605177476011827463498108000803416525160133105857065232280273705978608061616258853495938628976640)
def mX8_has_k28 : MRec := (RX8, cX8_has, 2, (some .boolean), yX8_has, 0, 0, 0, 0, 0)
def mX8_get_k28 : MRec := (RX8, cX8_get, 5, (some .int), yX8_get, 0, 0, 0, 0, 0)
def mX11_seen : MRec := (RX11, cX11_seen, 3, (some .int), yX11_seen, 1, 24, 0, 0, 0)
def mX4_get_n : MRec := (RX4, cX4_get, 2, (some .int), yX4_get, 0, 0, 0, 0, 0)
def mX4_put_n : MRec := (RX4, cX4_put, 3, (none : Option Jvm.ClassFile.FieldType), yX4_put, 0, 0, 0, 0, 0)
def mX4_add_n : MRec := (RX4, cX4_add, 3, (none : Option Jvm.ClassFile.FieldType), yX4_add, 1, 22, 0, 0, 0)
def mX11_disturbNests : MRec := (RX11, cX11_disturbNests, 6, (none : Option Jvm.ClassFile.FieldType), yX11_disturbNests, 2, 44, 0, 0, 3794275180128377091639574036764685364535950857523710002444946112771297432041422848)
def mX8_get_k29 : MRec := (RX8, cX8_get, 5, (some .int), yX8_get, 0, 0, 0, 0, 0)
def mX8_put_k29 : MRec := (RX8, cX8_put, 6, (none : Option Jvm.ClassFile.FieldType), yX8_put, 0, 0, 0, 0, 10830740992659433045228180406808920716548582325686783496759685861775864483615725089999900023844295226942934417817982702456930304)
def mX11_goDown : MRec := (RX11, cX11_goDown, 7, (none : Option Jvm.ClassFile.FieldType), yX11_goDown, 2, 48, 0, 0, 10830740992659433045228180406808920716548582325686783496759685861775864483615725089999900023844295226942934417817982702456930304)
def mX11_passWork : MRec := (RX11, cX11_passWork, 5, (none : Option Jvm.ClassFile.FieldType), yX11_passWork, 6, 151, 0, 0, 10831360732630173903289697827410201439398421458871337690531142311661008275809694496422561996252792469895065383062835243486019584)
set_option maxHeartbeats 1000000 in
theorem t_X8_isFull_k28 {K : Kmap} {V : Vmap} {x : Nat} (h_x : K x = some (0, 28)) : MC mX8_isFull_k28 K V [.ref x] (IP K V (fun X => (X = 0 ∨ X = 1) ∧ (X ≠ 0 → vi V x 3 ≥ 60) ∧ (X = 0 → vi V x 3 ≤ 59))) := by
  refine MC.start 0 (by decide +kernel) rfl rfl rfl (ls0 := [some (.ref x)]) rfl ?_
  refine GO.aload_n dX8_isFull_0 rfl rfl ?_
  refine GO.getI h_x fl_RX8_9_k28 rfl rfl dX8_isFull_1 (fun l1 u2 => ?_)
  refine GO.aload_n dX8_isFull_4 rfl rfl ?_
  refine GO.getI h_x fl_RX8_18_k28 rfl rfl dX8_isFull_5 (fun l3 u4 => ?_)
  refine GO.icmp_lt (tgt := 15) dX8_isFull_8 (by decide) vi_ir vi_ir (fun c5 => ?_) (fun c5 => ?_)
  ·
    refine GO.iconst dX8_isFull_15 ?_
    exact GO.retz rfl rfl dX8_isFull_16 (Or.inl rfl) ⟨rfl, rfl, _, rfl, (ir_c rfl), ⟨Or.inl rfl, fun h => absurd rfl h, fun h => by omega⟩⟩
  ·
    refine GO.iconst dX8_isFull_11 ?_
    refine GO.goto (tgt := 16) dX8_isFull_12 (by decide) ?_
    exact GO.retz rfl rfl dX8_isFull_16 (Or.inr rfl) ⟨rfl, rfl, _, rfl, (ir_c rfl), ⟨Or.inr rfl, fun h => by omega, fun h => absurd h (by decide)⟩⟩

set_option maxHeartbeats 1000000 in
theorem t_X8_put_k28 {K : Kmap} {V : Vmap} {x : Nat} {p0 : Int} {p1 : Int} {p2 : Int} (h_x : K x = some (0, 28)) (r_p0 : ir p0) (r_p1 : ir p1) (r_p2 : ir p2) : MC mX8_put_k28 K V [.ref x, ti p0, ti p1, ti p2] (VS K (fun V1 => (True))) := by
  refine MC.start 2 (by decide +kernel) rfl rfl rfl (ls0 := [some (.ref x), some (ti p0), some (ti p1), some (ti p2), none, none]) rfl ?_
  refine GO.iload_n dX8_put_0 rfl rfl ?_
  refine GO.aload_n dX8_put_1 rfl rfl ?_
  refine GO.getI h_x fl_RX8_15_k28 rfl rfl dX8_put_2 (fun l1 u2 => ?_)
  refine GO.imul dX8_put_5 ?_
  refine GO.norm (fun z3 r4 hn5 => ?_)
  refine GO.iload_n dX8_put_6 rfl rfl ?_
  refine GO.iadd dX8_put_7 ?_
  refine GO.norm (fun z6 r7 hn8 => ?_)
  refine GO.istore (ls1 := [some (.ref x), some (ti p0), some (ti p1), some (ti p2), some (ti z6), none]) dX8_put_8 rfl rfl ?_
  refine GO.iload_n dX8_put_10 rfl rfl ?_
  have hj18 : ∀ (z17 : Int), ∀ (l19 : 0 ≤ z17), ∀ (u20 : z17 ≤ 1), GO mX8_put_k28 K V (VS K (fun V1 => (True))) K V 0 0 39 [some (.ref x), some (ti p0), some (ti p1), some (ti p2), some (ti z6), none] [ti z17] := by
    intro z17 l19 u20
    have r21 : ir z17 := ⟨by omega, by omega⟩
    refine GO.istore (ls1 := [some (.ref x), some (ti p0), some (ti p1), some (ti p2), some (ti z6), some (ti z17)]) dX8_put_39 rfl rfl ?_
    refine GO.iload dX8_put_41 rfl ?_
    refine GO.if_eq (tgt := 69) dX8_put_43 (by decide) r21 (fun c22 => ?_) (fun c22 => ?_)
    ·
      exact GO.retv rfl rfl dX8_put_69 ⟨rfl, rfl, trivial⟩
    ·
      refine GO.iload dX8_put_46 rfl ?_
      refine GO.if_lt (tgt := 69) dX8_put_48 (by decide) r7 (fun c23 => ?_) (fun c23 => ?_)
      ·
        exact GO.retv rfl rfl dX8_put_69 ⟨rfl, rfl, trivial⟩
      ·
        refine GO.iload dX8_put_51 rfl ?_
        refine GO.aload_n dX8_put_53 rfl rfl ?_
        refine GO.getA (n := 300) h_x fl_RX8_27_k28 rfl rfl rfl rfl dX8_put_54 (fun hv25 h24 => ?_)
        refine GO.alen h24 dX8_put_57 (fun h26 => ?_)
        refine GO.icmp_ge (tgt := 69) dX8_put_58 (by decide) r7 ⟨by omega, by omega⟩ (fun c27 => ?_) (fun c27 => ?_)
        ·
          exact GO.retv rfl rfl dX8_put_69 ⟨rfl, rfl, trivial⟩
        ·
          refine GO.aload_n dX8_put_61 rfl rfl ?_
          refine GO.getRaw h_x fl_RX8_27_k28 hv25 dX8_put_62 ?_
          refine GO.iload dX8_put_65 rfl ?_
          refine GO.iload_n dX8_put_67 rfl rfl ?_
          have q30 : -2147483648 ≤ z6 ∧ z6 ≤ 2147483647 := r7
          refine GO.iast (t := 150) rfl rfl (by decide +kernel) h24 r7 (by omega) (by omega) r_p2 (r_p2).1 (r_p2).2 dX8_put_68 (fun V32 e31 => ?_)
          exact GO.retv rfl rfl dX8_put_69 ⟨rfl, rfl, trivial⟩
  have hj41 : GO mX8_put_k28 K V (VS K (fun V1 => (True))) K V 0 0 38 [some (.ref x), some (ti p0), some (ti p1), some (ti p2), some (ti z6), none] [] := by
    skip
    refine GO.iconst dX8_put_38 ?_
    exact hj18 0 (by omega) (by omega)
  refine GO.if_lt (tgt := 38) dX8_put_11 (by decide) r_p0 (fun c42 => ?_) (fun c42 => ?_)
  ·
    exact hj41 
  ·
    refine GO.iload_n dX8_put_14 rfl rfl ?_
    refine GO.aload_n dX8_put_15 rfl rfl ?_
    refine GO.getI h_x fl_RX8_9_k28 rfl rfl dX8_put_16 (fun l43 u44 => ?_)
    refine GO.icmp_ge (tgt := 38) dX8_put_19 (by decide) r_p0 vi_ir (fun c45 => ?_) (fun c45 => ?_)
    ·
      exact hj41 
    ·
      refine GO.iload_n dX8_put_22 rfl rfl ?_
      refine GO.if_lt (tgt := 38) dX8_put_23 (by decide) r_p1 (fun c46 => ?_) (fun c46 => ?_)
      ·
        exact hj41 
      ·
        refine GO.iload_n dX8_put_26 rfl rfl ?_
        refine GO.aload_n dX8_put_27 rfl rfl ?_
        refine GO.getI h_x fl_RX8_15_k28 rfl rfl dX8_put_28 (fun l47 u48 => ?_)
        refine GO.icmp_ge (tgt := 38) dX8_put_31 (by decide) r_p1 vi_ir (fun c49 => ?_) (fun c49 => ?_)
        ·
          exact hj41 
        ·
          refine GO.iconst dX8_put_34 ?_
          refine GO.goto (tgt := 39) dX8_put_35 (by decide) ?_
          exact hj18 1 (by omega) (by omega)

set_option maxHeartbeats 1000000 in
theorem t_X8_append_k28 {K : Kmap} {V : Vmap} {x : Nat} {p0 : Int} {p1 : Int} {p2 : Int} {p3 : Int} {p4 : Int} (h_x : K x = some (0, 28)) (r_p0 : ir p0) (r_p1 : ir p1) (r_p2 : ir p2) (r_p3 : ir p3) (r_p4 : ir p4) : MC mX8_append_k28 K V [.ref x, ti p0, ti p1, ti p2, ti p3, ti p4] (IS K (fun X V1 => True)) := by
  refine MC.start 1 (by decide +kernel) rfl rfl rfl (ls0 := [some (.ref x), some (ti p0), some (ti p1), some (ti p2), some (ti p3), some (ti p4), none]) rfl ?_
  refine GO.aload_n dX8_append_0 rfl rfl ?_
  refine GO.callV (ci := 28) (N := mX8_isFull_k28) dX8_append_1 (RX8, TX8, 4) rfl gV_RX8_31 h_x (t_X8_isFull_k28 h_x) rfl [] rfl rfl (Nat.le_of_ble_eq_true rfl) rfl (k_ip fun X1 r2 h3 => ?_)
  refine GO.if_eq (tgt := 9) dX8_append_4 (by decide) r2 (fun c4 => ?_) (fun c4 => ?_)
  ·
    have q5 := h3.2.2 (by omega)
    refine GO.aload_n dX8_append_9 rfl rfl ?_
    refine GO.getI h_x fl_RX8_9_k28 rfl rfl dX8_append_10 (fun l6 u7 => ?_)
    refine GO.name (fun z8 hz9 => ?_)
    have r10 : ir z8 := hz9 ▸ vi_ir
    refine GO.istore (ls1 := [some (.ref x), some (ti p0), some (ti p1), some (ti p2), some (ti p3), some (ti p4), some (ti z8)]) dX8_append_13 rfl rfl ?_
    refine GO.aload_n dX8_append_15 rfl rfl ?_
    refine GO.dup dX8_append_16 rfl ?_
    refine GO.getI h_x fl_RX8_9_k28 rfl rfl dX8_append_17 (fun l11 u12 => ?_)
    refine GO.iconst dX8_append_20 ?_
    refine GO.iadd dX8_append_21 ?_
    have q14 : -2147483648 ≤ vi V x 3 ∧ vi V x 3 ≤ 2147483647 := vi_ir
    have q15 : -2147483648 ≤ z8 ∧ z8 ≤ 2147483647 := r10
    refine GO.putI h_x fp_RX8_9_k28 rfl (by decide +kernel) ⟨by omega, by omega⟩ (by omega) (by omega) dX8_append_22 (fun V16 e13 => ?_)
    refine GO.aload_n dX8_append_25 rfl rfl ?_
    refine GO.iload dX8_append_26 rfl ?_
    refine GO.iconst dX8_append_28 ?_
    refine GO.iload_n dX8_append_29 rfl rfl ?_
    refine GO.callV (ci := 28) (N := mX8_put_k28) dX8_append_30 (RX8, TX8, 4) rfl gV_RX8_35 h_x (t_X8_put_k28 h_x r10 (ir_c rfl) r_p0) rfl [] rfl rfl (Nat.le_of_ble_eq_true rfl) rfl (k_vs fun V19 h18 hF17 => ?_)
    refine GO.aload_n dX8_append_33 rfl rfl ?_
    refine GO.iload dX8_append_34 rfl ?_
    refine GO.iconst dX8_append_36 ?_
    refine GO.iload_n dX8_append_37 rfl rfl ?_
    refine GO.callV (ci := 28) (N := mX8_put_k28) dX8_append_38 (RX8, TX8, 4) rfl gV_RX8_35 h_x (t_X8_put_k28 h_x r10 (ir_c rfl) r_p1) rfl [] rfl rfl (Nat.le_of_ble_eq_true rfl) rfl (k_vs fun V22 h21 hF20 => ?_)
    refine GO.aload_n dX8_append_41 rfl rfl ?_
    refine GO.iload dX8_append_42 rfl ?_
    refine GO.iconst dX8_append_44 ?_
    refine GO.iload_n dX8_append_45 rfl rfl ?_
    refine GO.callV (ci := 28) (N := mX8_put_k28) dX8_append_46 (RX8, TX8, 4) rfl gV_RX8_35 h_x (t_X8_put_k28 h_x r10 (ir_c rfl) r_p2) rfl [] rfl rfl (Nat.le_of_ble_eq_true rfl) rfl (k_vs fun V25 h24 hF23 => ?_)
    refine GO.aload_n dX8_append_49 rfl rfl ?_
    refine GO.iload dX8_append_50 rfl ?_
    refine GO.iconst dX8_append_52 ?_
    refine GO.iload dX8_append_53 rfl ?_
    refine GO.callV (ci := 28) (N := mX8_put_k28) dX8_append_55 (RX8, TX8, 4) rfl gV_RX8_35 h_x (t_X8_put_k28 h_x r10 (ir_c rfl) r_p3) rfl [] rfl rfl (Nat.le_of_ble_eq_true rfl) rfl (k_vs fun V28 h27 hF26 => ?_)
    refine GO.aload_n dX8_append_58 rfl rfl ?_
    refine GO.iload dX8_append_59 rfl ?_
    refine GO.iconst dX8_append_61 ?_
    refine GO.iload dX8_append_62 rfl ?_
    refine GO.callV (ci := 28) (N := mX8_put_k28) dX8_append_64 (RX8, TX8, 4) rfl gV_RX8_35 h_x (t_X8_put_k28 h_x r10 (ir_c rfl) r_p4) rfl [] rfl rfl (Nat.le_of_ble_eq_true rfl) rfl (k_vs fun V31 h30 hF29 => ?_)
    refine GO.iload dX8_append_67 rfl ?_
    exact GO.reti rfl rfl dX8_append_69 ⟨rfl, _, rfl, r10, trivial⟩
  ·
    have q32 := h3.2.1 (by omega)
    refine GO.iconst dX8_append_7 ?_
    exact GO.reti rfl rfl dX8_append_8 ⟨rfl, _, rfl, (ir_c rfl), trivial⟩

set_option maxHeartbeats 1000000 in
theorem t_X11_visit {K : Kmap} {V : Vmap} {x : Nat} {p0 : Int} {p1 : Int} (h_x : K x = some (0, 10)) (r_p0 : ir p0) (r_p1 : ir p1) : MC mX11_visit K V [.ref x, ti p0, ti p1] (IS K (fun X V1 => True)) := by
  refine MC.start 3 (by decide +kernel) rfl rfl rfl (ls0 := [some (.ref x), some (ti p0), some (ti p1), none, none, none]) rfl ?_
  refine GO.aload_n dX11_visit_0 rfl rfl ?_
  refine GO.iload_n dX11_visit_1 rfl rfl ?_
  refine GO.callV (ci := 10) (N := mX11_partyOf) dX11_visit_2 (RX11, TX11, 20) rfl gV_RX11_151 h_x (t_X11_partyOf h_x r_p0) rfl [] rfl rfl (Nat.le_of_ble_eq_true rfl) rfl (k_rp (fun h3 => ?_) (fun o1 h2 h3 => ?_))
  ·
    have rwn2 := h3.2
    have hn4 : PN V x → p0 < 0 ∨ vi V x 4 ≤ p0 := h3.2
    refine GO.astore_nN (ls1 := [some (.ref x), some (ti p0), some (ti p1), some (.null), none, none]) dX11_visit_5 rfl rfl rfl ?_
    refine GO.aload_n dX11_visit_6 rfl rfl ?_
    refine GO.iload_n dX11_visit_7 rfl rfl ?_
    refine GO.callV (ci := 10) (N := mX11_standingStation) dX11_visit_8 (RX11, TX11, 20) rfl gV_RX11_195 h_x (t_X11_standingStation h_x r_p1) rfl [] rfl rfl (Nat.le_of_ble_eq_true rfl) rfl (k_rp (fun h7 => ?_) (fun o5 h6 h7 => ?_))
    ·
      refine GO.astoreN (ls1 := [some (.ref x), some (ti p0), some (ti p1), some (.null), some (.null), none]) dX11_visit_11 rfl rfl ?_
      refine GO.aload_nN dX11_visit_13 rfl rfl ?_
      refine GO.ifnullN (tgt := 45) dX11_visit_14 (by decide) ?_
      refine GO.iconst dX11_visit_45 ?_
      exact GO.reti rfl rfl dX11_visit_46 ⟨rfl, _, rfl, (ir_c rfl), trivial⟩
    ·
      refine GO.astore (ls1 := [some (.ref x), some (ti p0), some (ti p1), some (.null), some (.ref o5), none]) dX11_visit_11 rfl rfl ?_
      refine GO.aload_nN dX11_visit_13 rfl rfl ?_
      refine GO.ifnullN (tgt := 45) dX11_visit_14 (by decide) ?_
      refine GO.iconst dX11_visit_45 ?_
      exact GO.reti rfl rfl dX11_visit_46 ⟨rfl, _, rfl, (ir_c rfl), trivial⟩
  ·
    have hp8 : p0 ≥ 0 ∧ p0 < vi V x 4 := h3.1
    have rwp2 := h3.2
    have hq9 : o1 = vq V (vq V x 3) (p0).toNat := h3.2
    refine GO.astore_n (ls1 := [some (.ref x), some (ti p0), some (ti p1), some (.ref o1), none, none]) dX11_visit_5 rfl rfl rfl ?_
    refine GO.aload_n dX11_visit_6 rfl rfl ?_
    refine GO.iload_n dX11_visit_7 rfl rfl ?_
    refine GO.callV (ci := 10) (N := mX11_standingStation) dX11_visit_8 (RX11, TX11, 20) rfl gV_RX11_195 h_x (t_X11_standingStation h_x r_p1) rfl [] rfl rfl (Nat.le_of_ble_eq_true rfl) rfl (k_rp (fun h12 => ?_) (fun o10 h11 h12 => ?_))
    ·
      refine GO.astoreN (ls1 := [some (.ref x), some (ti p0), some (ti p1), some (.ref o1), some (.null), none]) dX11_visit_11 rfl rfl ?_
      refine GO.aload_n dX11_visit_13 rfl rfl ?_
      refine GO.ifnull dX11_visit_14 ?_
      refine GO.aloadN dX11_visit_17 rfl ?_
      refine GO.ifnullN (tgt := 45) dX11_visit_19 (by decide) ?_
      refine GO.iconst dX11_visit_45 ?_
      exact GO.reti rfl rfl dX11_visit_46 ⟨rfl, _, rfl, (ir_c rfl), trivial⟩
    ·
      refine GO.astore (ls1 := [some (.ref x), some (ti p0), some (ti p1), some (.ref o1), some (.ref o10), none]) dX11_visit_11 rfl rfl ?_
      refine GO.aload_n dX11_visit_13 rfl rfl ?_
      refine GO.ifnull dX11_visit_14 ?_
      refine GO.aload dX11_visit_17 rfl ?_
      refine GO.ifnull dX11_visit_19 ?_
      refine GO.aload dX11_visit_22 rfl ?_
      refine GO.getI h11 fl_RX11_173 rfl rfl dX11_visit_24 (fun _ _ => ?_)
      refine GO.iload_n dX11_visit_27 rfl rfl ?_
      refine GO.icmp_eq (tgt := 45) dX11_visit_28 (by decide) vi_ir r_p0 (fun c13 => ?_) (fun c13 => ?_)
      ·
        refine GO.iconst dX11_visit_45 ?_
        exact GO.reti rfl rfl dX11_visit_46 ⟨rfl, _, rfl, (ir_c rfl), trivial⟩
      ·
        refine GO.aload_n dX11_visit_31 rfl rfl ?_
        refine GO.aload_n dX11_visit_32 rfl rfl ?_
        refine GO.getR h_x fl_RX11_12 rfl rfl dX11_visit_33 (fun hv15 h14 => ?_)
        refine GO.getI h14 fl_RX11_145 rfl rfl dX11_visit_36 (fun l16 u17 => ?_)
        refine GO.callV (ci := 2) (N := mX2_decidesOn) dX11_visit_39 (RX2, TX2, 5) rfl gV_RX11_301 h2 (t_X2_decidesOn h2 vi_ir) rfl [] rfl rfl (Nat.le_of_ble_eq_true rfl) rfl (k_ip fun X18 r19 h20 => ?_)
        refine GO.if_ne (tgt := 47) dX11_visit_42 (by decide) r19 (fun c21 => ?_) (fun c21 => ?_)
        ·
          refine GO.aload dX11_visit_47 rfl ?_
          refine GO.getI h11 fl_RX11_183 rfl rfl dX11_visit_49 (fun _ _ => ?_)
          refine GO.aload dX11_visit_52 rfl ?_
          refine GO.getI h11 fl_RX11_425 rfl rfl dX11_visit_54 (fun _ _ => ?_)
          refine GO.isub dX11_visit_57 ?_
          refine GO.norm (fun z22 r23 hn24 => ?_)
          refine GO.istore (ls1 := [some (.ref x), some (ti p0), some (ti p1), some (.ref o1), some (.ref o10), some (ti z22)]) dX11_visit_58 rfl rfl ?_
          refine GO.aload_n dX11_visit_60 rfl rfl ?_
          refine GO.getR h_x fl_RX11_76 rfl rfl dX11_visit_61 (fun hv26 h25 => ?_)
          refine GO.iload_n dX11_visit_64 rfl rfl ?_
          refine GO.iload_n dX11_visit_65 rfl rfl ?_
          refine GO.aload_n dX11_visit_66 rfl rfl ?_
          refine GO.getRaw h_x fl_RX11_12 hv15 dX11_visit_67 ?_
          refine GO.getI h14 fl_RX11_145 rfl rfl dX11_visit_70 (fun l29 u30 => ?_)
          refine GO.iload dX11_visit_73 rfl ?_
          refine GO.aload dX11_visit_75 rfl ?_
          refine GO.getI h11 fl_RX11_186 rfl rfl dX11_visit_77 (fun _ _ => ?_)
          refine GO.aload dX11_visit_80 rfl ?_
          refine GO.getI h11 fl_RX11_428 rfl rfl dX11_visit_82 (fun _ _ => ?_)
          refine GO.isub dX11_visit_85 ?_
          refine GO.norm (fun z31 r32 hn33 => ?_)
          refine GO.callV (ci := 28) (N := mX8_append_k28) dX11_visit_86 (RX8, TX8, 4) rfl gV_RX11_205 h25 (t_X8_append_k28 h25 r_p0 r_p1 vi_ir r23 r32) rfl [] rfl rfl (Nat.le_of_ble_eq_true rfl) rfl (k_is fun X34 V38 r35 h36 hF37 => ?_)
          have q39 : -2147483648 ≤ X34 ∧ X34 ≤ 2147483647 := r35
          exact GO.reti rfl rfl dX11_visit_89 ⟨rfl, _, rfl, r35, trivial⟩
        ·
          refine GO.iconst dX11_visit_45 ?_
          exact GO.reti rfl rfl dX11_visit_46 ⟨rfl, _, rfl, (ir_c rfl), trivial⟩

set_option maxHeartbeats 1000000 in
theorem t_X8_has_k28 {K : Kmap} {V : Vmap} {x : Nat} {p0 : Int} (h_x : K x = some (0, 28)) (r_p0 : ir p0) : MC mX8_has_k28 K V [.ref x, ti p0] (IP K V (fun X => (X = 0 ∨ X = 1) ∧ (X ≠ 0 → True) ∧ (X = 0 → True))) := by
  refine MC.start 0 (by decide +kernel) rfl rfl rfl (ls0 := [some (.ref x), some (ti p0)]) rfl ?_
  refine GO.iload_n dX8_has_0 rfl rfl ?_
  refine GO.if_lt (tgt := 16) dX8_has_1 (by decide) r_p0 (fun c1 => ?_) (fun c1 => ?_)
  ·
    refine GO.iconst dX8_has_16 ?_
    exact GO.retz rfl rfl dX8_has_17 (Or.inl rfl) ⟨rfl, rfl, _, rfl, (ir_c rfl), ⟨Or.inl rfl, fun _ => trivial, fun _ => trivial⟩⟩
  ·
    refine GO.iload_n dX8_has_4 rfl rfl ?_
    refine GO.aload_n dX8_has_5 rfl rfl ?_
    refine GO.getI h_x fl_RX8_9_k28 rfl rfl dX8_has_6 (fun l2 u3 => ?_)
    refine GO.icmp_ge (tgt := 16) dX8_has_9 (by decide) r_p0 vi_ir (fun c4 => ?_) (fun c4 => ?_)
    ·
      refine GO.iconst dX8_has_16 ?_
      exact GO.retz rfl rfl dX8_has_17 (Or.inl rfl) ⟨rfl, rfl, _, rfl, (ir_c rfl), ⟨Or.inl rfl, fun _ => trivial, fun _ => trivial⟩⟩
    ·
      refine GO.iconst dX8_has_12 ?_
      refine GO.goto (tgt := 17) dX8_has_13 (by decide) ?_
      exact GO.retz rfl rfl dX8_has_17 (Or.inr rfl) ⟨rfl, rfl, _, rfl, (ir_c rfl), ⟨Or.inr rfl, fun _ => trivial, fun _ => trivial⟩⟩

set_option maxHeartbeats 1000000 in
theorem t_X8_get_k28 {K : Kmap} {V : Vmap} {x : Nat} {p0 : Int} {p1 : Int} (h_x : K x = some (0, 28)) (r_p0 : ir p0) (r_p1 : ir p1) : MC mX8_get_k28 K V [.ref x, ti p0, ti p1] (IP K V (fun X => True)) := by
  refine MC.start 2 (by decide +kernel) rfl rfl rfl (ls0 := [some (.ref x), some (ti p0), some (ti p1), none, none]) rfl ?_
  refine GO.iload_n dX8_get_0 rfl rfl ?_
  refine GO.aload_n dX8_get_1 rfl rfl ?_
  refine GO.getI h_x fl_RX8_15_k28 rfl rfl dX8_get_2 (fun l1 u2 => ?_)
  refine GO.imul dX8_get_5 ?_
  refine GO.norm (fun z3 r4 hn5 => ?_)
  refine GO.iload_n dX8_get_6 rfl rfl ?_
  refine GO.iadd dX8_get_7 ?_
  refine GO.norm (fun z6 r7 hn8 => ?_)
  refine GO.istore_n (ls1 := [some (.ref x), some (ti p0), some (ti p1), some (ti z6), none]) dX8_get_8 rfl rfl rfl ?_
  refine GO.iload_n dX8_get_9 rfl rfl ?_
  have hj18 : ∀ (z17 : Int), ∀ (l19 : 0 ≤ z17), ∀ (u20 : z17 ≤ 1), GO mX8_get_k28 K V (IP K V (fun X => True)) K V 0 0 38 [some (.ref x), some (ti p0), some (ti p1), some (ti z6), none] [ti z17] := by
    intro z17 l19 u20
    have r21 : ir z17 := ⟨by omega, by omega⟩
    refine GO.istore (ls1 := [some (.ref x), some (ti p0), some (ti p1), some (ti z6), some (ti z17)]) dX8_get_38 rfl rfl ?_
    refine GO.iload dX8_get_40 rfl ?_
    refine GO.if_eq (tgt := 67) dX8_get_42 (by decide) r21 (fun c22 => ?_) (fun c22 => ?_)
    ·
      refine GO.iconst dX8_get_67 ?_
      exact GO.reti rfl rfl dX8_get_68 ⟨rfl, rfl, _, rfl, (ir_c rfl), trivial⟩
    ·
      refine GO.iload_n dX8_get_45 rfl rfl ?_
      refine GO.if_lt (tgt := 67) dX8_get_46 (by decide) r7 (fun c23 => ?_) (fun c23 => ?_)
      ·
        refine GO.iconst dX8_get_67 ?_
        exact GO.reti rfl rfl dX8_get_68 ⟨rfl, rfl, _, rfl, (ir_c rfl), trivial⟩
      ·
        refine GO.iload_n dX8_get_49 rfl rfl ?_
        refine GO.aload_n dX8_get_50 rfl rfl ?_
        refine GO.getA (n := 300) h_x fl_RX8_27_k28 rfl rfl rfl rfl dX8_get_51 (fun hv25 h24 => ?_)
        refine GO.alen h24 dX8_get_54 (fun h26 => ?_)
        refine GO.icmp_ge (tgt := 67) dX8_get_55 (by decide) r7 ⟨by omega, by omega⟩ (fun c27 => ?_) (fun c27 => ?_)
        ·
          refine GO.iconst dX8_get_67 ?_
          exact GO.reti rfl rfl dX8_get_68 ⟨rfl, rfl, _, rfl, (ir_c rfl), trivial⟩
        ·
          refine GO.aload_n dX8_get_58 rfl rfl ?_
          refine GO.getRaw h_x fl_RX8_27_k28 hv25 dX8_get_59 ?_
          refine GO.iload_n dX8_get_62 rfl rfl ?_
          have q30 : -2147483648 ≤ z6 ∧ z6 ≤ 2147483647 := r7
          refine GO.iald (t := 150) rfl rfl h24 r7 (by omega) (by omega) dX8_get_63 (fun _ _ => ?_)
          refine GO.goto (tgt := 68) dX8_get_64 (by decide) ?_
          have q31 : -2147483648 ≤ vi V (vq V x 2) (z6).toNat ∧ vi V (vq V x 2) (z6).toNat ≤ 2147483647 := vi_ir
          exact GO.reti rfl rfl dX8_get_68 ⟨rfl, rfl, _, rfl, vi_ir, trivial⟩
  have hj40 : GO mX8_get_k28 K V (IP K V (fun X => True)) K V 0 0 37 [some (.ref x), some (ti p0), some (ti p1), some (ti z6), none] [] := by
    skip
    refine GO.iconst dX8_get_37 ?_
    exact hj18 0 (by omega) (by omega)
  refine GO.if_lt (tgt := 37) dX8_get_10 (by decide) r_p0 (fun c41 => ?_) (fun c41 => ?_)
  ·
    exact hj40 
  ·
    refine GO.iload_n dX8_get_13 rfl rfl ?_
    refine GO.aload_n dX8_get_14 rfl rfl ?_
    refine GO.getI h_x fl_RX8_9_k28 rfl rfl dX8_get_15 (fun l42 u43 => ?_)
    refine GO.icmp_ge (tgt := 37) dX8_get_18 (by decide) r_p0 vi_ir (fun c44 => ?_) (fun c44 => ?_)
    ·
      exact hj40 
    ·
      refine GO.iload_n dX8_get_21 rfl rfl ?_
      refine GO.if_lt (tgt := 37) dX8_get_22 (by decide) r_p1 (fun c45 => ?_) (fun c45 => ?_)
      ·
        exact hj40 
      ·
        refine GO.iload_n dX8_get_25 rfl rfl ?_
        refine GO.aload_n dX8_get_26 rfl rfl ?_
        refine GO.getI h_x fl_RX8_15_k28 rfl rfl dX8_get_27 (fun l46 u47 => ?_)
        refine GO.icmp_ge (tgt := 37) dX8_get_30 (by decide) r_p1 vi_ir (fun c48 => ?_) (fun c48 => ?_)
        ·
          exact hj40 
        ·
          refine GO.iconst dX8_get_33 ?_
          refine GO.goto (tgt := 38) dX8_get_34 (by decide) ?_
          exact hj18 1 (by omega) (by omega)

set_option maxHeartbeats 1000000 in
theorem t_X11_seen {K : Kmap} {V : Vmap} {x : Nat} {p0 : Int} {p1 : Int} (h_x : K x = some (0, 10)) (r_p0 : ir p0) (r_p1 : ir p1) : MC mX11_seen K V [.ref x, ti p0, ti p1] (IP K V (fun X => True)) := by
  refine MC.start 0 (by decide +kernel) rfl rfl rfl (ls0 := [some (.ref x), some (ti p0), some (ti p1)]) rfl ?_
  refine GO.aload_n dX11_seen_0 rfl rfl ?_
  refine GO.getR h_x fl_RX11_76 rfl rfl dX11_seen_1 (fun hv2 h1 => ?_)
  refine GO.iload_n dX11_seen_4 rfl rfl ?_
  refine GO.callV (ci := 28) (N := mX8_has_k28) dX11_seen_5 (RX8, TX8, 4) rfl gV_RX11_431 h1 (t_X8_has_k28 h1 r_p0) rfl [] rfl rfl (Nat.le_of_ble_eq_true rfl) rfl (k_ip fun X3 r4 h5 => ?_)
  refine GO.if_eq (tgt := 20) dX11_seen_8 (by decide) r4 (fun c6 => ?_) (fun c6 => ?_)
  ·
    refine GO.ldcw (X := (-1000000)) dX11_seen_20 gw_1169 rfl ?_
    exact GO.reti rfl rfl dX11_seen_23 ⟨rfl, rfl, _, rfl, (ir_c rfl), trivial⟩
  ·
    refine GO.iload_n dX11_seen_11 rfl rfl ?_
    refine GO.iconst dX11_seen_12 ?_
    refine GO.iconst dX11_seen_13 ?_
    refine GO.callS (N := mX11_between) dX11_seen_14 gS_RX11_112 (t_X11_between r_p1 (ir_c rfl) (ir_c rfl)) rfl [] rfl rfl (Nat.le_of_ble_eq_true rfl) rfl (k_ip fun X7 r8 h9 => ?_)
    refine GO.if_ne (tgt := 24) dX11_seen_17 (by decide) r8 (fun c10 => ?_) (fun c10 => ?_)
    ·
      have q11 := h9.2.1 (by omega)
      refine GO.aload_n dX11_seen_24 rfl rfl ?_
      refine GO.getRaw h_x fl_RX11_76 hv2 dX11_seen_25 ?_
      refine GO.iload_n dX11_seen_28 rfl rfl ?_
      refine GO.iload_n dX11_seen_29 rfl rfl ?_
      refine GO.callV (ci := 28) (N := mX8_get_k28) dX11_seen_30 (RX8, TX8, 4) rfl gV_RX11_209 h1 (t_X8_get_k28 h1 r_p0 r_p1) rfl [] rfl rfl (Nat.le_of_ble_eq_true rfl) rfl (k_ip fun X14 r15 h16 => ?_)
      have q17 : -2147483648 ≤ X14 ∧ X14 ≤ 2147483647 := r15
      exact GO.reti rfl rfl dX11_seen_33 ⟨rfl, rfl, _, rfl, r15, trivial⟩
    ·
      have q18 := h9.2.2 (by omega)
      refine GO.ldcw (X := (-1000000)) dX11_seen_20 gw_1169 rfl ?_
      exact GO.reti rfl rfl dX11_seen_23 ⟨rfl, rfl, _, rfl, (ir_c rfl), trivial⟩

set_option maxHeartbeats 1000000 in
theorem t_X4_get_n {K : Kmap} {V : Vmap} {p1 : Int} (r_p1 : ir p1) : MC mX4_get_n K V [.null, ti p1] (IP K V (fun X => X = 0)) := by
  refine MC.start 0 (by decide +kernel) rfl rfl rfl (ls0 := [some (.null), some (ti p1)]) rfl ?_
  refine GO.aload_nN dX4_get_0 rfl rfl ?_
  refine GO.ifnullN (tgt := 20) dX4_get_1 (by decide) ?_
  refine GO.iconst dX4_get_20 ?_
  exact GO.reti rfl rfl dX4_get_21 ⟨rfl, rfl, _, rfl, (ir_c rfl), by omega⟩

set_option maxHeartbeats 1000000 in
theorem t_X4_put_n {K : Kmap} {V : Vmap} {p1 : Int} {p2 : Int} (r_p1 : ir p1) (r_p2 : ir p2) : MC mX4_put_n K V [.null, ti p1, ti p2] (VS K (fun V1 => (True))) := by
  refine MC.start 0 (by decide +kernel) rfl rfl rfl (ls0 := [some (.null), some (ti p1), some (ti p2)]) rfl ?_
  refine GO.aload_nN dX4_put_0 rfl rfl ?_
  refine GO.ifnullN (tgt := 18) dX4_put_1 (by decide) ?_
  exact GO.retv rfl rfl dX4_put_18 ⟨rfl, rfl, trivial⟩

set_option maxHeartbeats 1000000 in
theorem t_X4_add_n {K : Kmap} {V : Vmap} {p1 : Int} {p2 : Int} (r_p1 : ir p1) (r_p2 : ir p2) : MC mX4_add_n K V [.null, ti p1, ti p2] (VS K (fun V1 => (True))) := by
  refine MC.start 0 (by decide +kernel) rfl rfl rfl (ls0 := [some (.null), some (ti p1), some (ti p2)]) rfl ?_
  refine GO.aload_nN dX4_add_0 rfl rfl ?_
  refine GO.iload_n dX4_add_1 rfl rfl ?_
  refine GO.aload_nN dX4_add_2 rfl rfl ?_
  refine GO.iload_n dX4_add_3 rfl rfl ?_
  refine GO.callS (N := mX4_get_n) dX4_add_4 gS_RX4_7 (t_X4_get_n r_p1) rfl [ti p1, .null] rfl rfl (Nat.le_of_ble_eq_true rfl) rfl (k_ip fun X1 r2 h3 => ?_)
  refine GO.iload_n dX4_add_7 rfl rfl ?_
  refine GO.iadd dX4_add_8 ?_
  have q4 : -2147483648 ≤ p2 ∧ p2 ≤ 2147483647 := r_p2
  have q5 : -2147483648 ≤ X1 ∧ X1 ≤ 2147483647 := r2
  refine GO.callS (N := mX4_put_n) dX4_add_9 gS_RX4_13 (t_X4_put_n r_p1 ⟨by omega, by omega⟩) rfl [] rfl rfl (Nat.le_of_ble_eq_true rfl) rfl (k_vs fun V8 h7 hF6 => ?_)
  exact GO.retv rfl rfl dX4_add_12 ⟨rfl, rfl, trivial⟩

set_option maxHeartbeats 1000000 in
theorem t_X11_disturbNests {K : Kmap} {V : Vmap} {x : Nat} {p0 : Nat} (h_x : K x = some (0, 10)) (h_p0 : K p0 = some (0, 9)) : MC mX11_disturbNests K V [.ref x, .ref p0] (VS K (fun V1 => (True))) := by
  refine MC.start 4 (by decide +kernel) rfl rfl rfl (ls0 := [some (.ref x), some (.ref p0), none, none, none, none]) rfl ?_
  refine GO.aload_n dX11_disturbNests_0 rfl rfl ?_
  refine GO.getR h_x fl_RX11_12 rfl rfl dX11_disturbNests_1 (fun hv2 h1 => ?_)
  refine GO.getI h1 fl_RX11_145 rfl rfl dX11_disturbNests_4 (fun l3 u4 => ?_)
  refine GO.sipush dX11_disturbNests_7 rfl ?_
  refine GO.idivP dX11_disturbNests_10 vi_ir (ir_c rfl) (by omega) (by omega) ?_
  refine GO.name (fun z5 hz6 => ?_)
  refine GO.istore_n (ls1 := [some (.ref x), some (.ref p0), some (ti z5), none, none, none]) dX11_disturbNests_11 rfl rfl rfl ?_
  refine GO.iconst dX11_disturbNests_12 ?_
  refine GO.istore_n (ls1 := [some (.ref x), some (.ref p0), some (ti z5), some (ti 0), none, none]) dX11_disturbNests_13 rfl rfl rfl ?_
  refine GO.loop1 (fun i7 W => 0 ≤ i7 ∧ i7 ≤ 60 ∧ True) (fun i7 => [some (.ref x), some (.ref p0), some (ti z5), some (ti i7), none, none]) (fun i7 W => (2147483647 - i7).toNat) 0 ⟨by omega, by omega, trivial⟩ rfl (fun i7 Wi7 hp234 ih233 => ?_)
  obtain ⟨l_i7, u_i7, -⟩ := hp234
  have r_i7 : ir i7 := ⟨by omega, by omega⟩
  show GO mX11_disturbNests K V (VS K (fun V1 => (True))) K Wi7 0 0 14 [some (.ref x), some (.ref p0), some (ti z5), some (ti i7), none, none] []
  refine GO.iload_n dX11_disturbNests_14 rfl rfl ?_
  refine GO.aload_n dX11_disturbNests_15 rfl rfl ?_
  refine GO.getI h_x fl_RX11_46 rfl rfl dX11_disturbNests_16 (fun l235 u236 => ?_)
  refine GO.icmp_ge (tgt := 91) dX11_disturbNests_19 (by decide) r_i7 vi_ir (fun c237 => ?_) (fun c237 => ?_)
  ·
    exact GO.retv rfl rfl dX11_disturbNests_91 ⟨rfl, rfl, trivial⟩
  ·
    refine GO.aload_n dX11_disturbNests_22 rfl rfl ?_
    refine GO.iload_n dX11_disturbNests_23 rfl rfl ?_
    refine GO.iconst dX11_disturbNests_24 ?_
    refine GO.callV (ci := 10) (N := mX11_placeOf) dX11_disturbNests_25 (RX11, TX11, 20) rfl gV_RX11_169 h_x (t_X11_placeOf h_x r_i7 (ir_c rfl)) rfl [] rfl rfl (Nat.le_of_ble_eq_true rfl) rfl (k_rp (fun h240 => ?_) (fun o238 h239 h240 => ?_))
    ·
      refine GO.astoreN (ls1 := [some (.ref x), some (.ref p0), some (ti z5), some (ti i7), some (.null), none]) dX11_disturbNests_28 rfl rfl ?_
      refine GO.aloadN dX11_disturbNests_30 rfl ?_
      refine GO.ifnonnullN dX11_disturbNests_32 ?_
      refine GO.goto (tgt := 85) dX11_disturbNests_35 (by decide) ?_
      refine GO.iinc (X := i7) (n := 1) (Y := i7 + 1) (ls1 := [some (.ref x), some (.ref p0), some (ti z5), some (ti (i7 + 1)), some (.null), none]) dX11_disturbNests_85 rfl rfl rfl rfl ?_
      refine GO.goto (tgt := 14) dX11_disturbNests_88 (by decide) ?_
      refine GO.drop [true, true, true, true, false, true] rfl ?_
      exact ih233 (i7 + 1) Wi7 ⟨by omega, by omega, trivial⟩ (by show (2147483647 - (i7 + 1)).toNat < (2147483647 - i7).toNat; omega)
    ·
      refine GO.astore (ls1 := [some (.ref x), some (.ref p0), some (ti z5), some (ti i7), some (.ref o238), none]) dX11_disturbNests_28 rfl rfl ?_
      refine GO.aload dX11_disturbNests_30 rfl ?_
      refine GO.ifnonnull (tgt := 38) dX11_disturbNests_32 (by decide) ?_
      refine GO.aload_n dX11_disturbNests_38 rfl rfl ?_
      refine GO.getR h_x fl_RX11_12 rfl rfl dX11_disturbNests_39 (fun hv242 h241 => ?_)
      refine GO.aload_n dX11_disturbNests_42 rfl rfl ?_
      refine GO.getI h_p0 fl_RX11_378 rfl rfl dX11_disturbNests_43 (fun _ _ => ?_)
      refine GO.aload dX11_disturbNests_46 rfl ?_
      refine GO.getI h239 fl_RX11_344 rfl rfl dX11_disturbNests_48 (fun _ _ => ?_)
      refine GO.callV (ci := 0) (N := mX0_far) dX11_disturbNests_51 (RX0, TX0, 13) rfl gV_RX11_388 h241 (t_X0_far h241 vi_ir vi_ir) rfl [] rfl rfl (Nat.le_of_ble_eq_true rfl) rfl (k_ip fun X243 r244 h245 => ?_)
      refine GO.istore (ls1 := [some (.ref x), some (.ref p0), some (ti z5), some (ti i7), some (.ref o238), some (ti X243)]) dX11_disturbNests_54 rfl rfl ?_
      refine GO.iload dX11_disturbNests_56 rfl ?_
      refine GO.if_lt (tgt := 85) dX11_disturbNests_58 (by decide) r244 (fun c246 => ?_) (fun c246 => ?_)
      ·
        refine GO.iinc (X := i7) (n := 1) (Y := i7 + 1) (ls1 := [some (.ref x), some (.ref p0), some (ti z5), some (ti (i7 + 1)), some (.ref o238), some (ti X243)]) dX11_disturbNests_85 rfl rfl rfl rfl ?_
        refine GO.goto (tgt := 14) dX11_disturbNests_88 (by decide) ?_
        refine GO.drop [true, true, true, true, false, false] rfl ?_
        exact ih233 (i7 + 1) Wi7 ⟨by omega, by omega, trivial⟩ (by show (2147483647 - (i7 + 1)).toNat < (2147483647 - i7).toNat; omega)
      ·
        refine GO.iload dX11_disturbNests_61 rfl ?_
        refine GO.iconst dX11_disturbNests_63 ?_
        refine GO.icmp_gt (tgt := 85) dX11_disturbNests_64 (by decide) r244 (ir_c rfl) (fun c247 => ?_) (fun c247 => ?_)
        ·
          refine GO.iinc (X := i7) (n := 1) (Y := i7 + 1) (ls1 := [some (.ref x), some (.ref p0), some (ti z5), some (ti (i7 + 1)), some (.ref o238), some (ti X243)]) dX11_disturbNests_85 rfl rfl rfl rfl ?_
          refine GO.goto (tgt := 14) dX11_disturbNests_88 (by decide) ?_
          refine GO.drop [true, true, true, true, false, false] rfl ?_
          exact ih233 (i7 + 1) Wi7 ⟨by omega, by omega, trivial⟩ (by show (2147483647 - (i7 + 1)).toNat < (2147483647 - i7).toNat; omega)
        ·
          refine GO.aload dX11_disturbNests_67 rfl ?_
          refine GO.getNB h239 fl_RX11_473 rfl rfl dX11_disturbNests_69 (fun hv249 => ?_) (fun n250 hv249 h248 b251 => ?_)
          ·
            refine GO.iload_n dX11_disturbNests_72 rfl rfl ?_
            refine GO.aload_n dX11_disturbNests_73 rfl rfl ?_
            refine GO.getI h_p0 fl_RX11_306 rfl rfl dX11_disturbNests_74 (fun _ _ => ?_)
            refine GO.iload dX11_disturbNests_77 rfl ?_
            refine GO.iconst dX11_disturbNests_79 ?_
            refine GO.iadd dX11_disturbNests_80 ?_
            have q252 : -2147483648 ≤ X243 ∧ X243 ≤ 2147483647 := r244
            refine GO.idiv dX11_disturbNests_81 ⟨by omega, by omega⟩ (by omega) ?_
            refine GO.callS (N := mX4_add_n) dX11_disturbNests_82 gS_RX11_476 (t_X4_add_n ⟨by omega, by omega⟩ wdiv_ir) rfl [] rfl rfl (Nat.le_of_ble_eq_true rfl) rfl (k_vs fun V255 h254 hF253 => ?_)
            refine GO.iinc (X := i7) (n := 1) (Y := i7 + 1) (ls1 := [some (.ref x), some (.ref p0), some (ti z5), some (ti (i7 + 1)), some (.ref o238), some (ti X243)]) dX11_disturbNests_85 rfl rfl rfl rfl ?_
            refine GO.goto (tgt := 14) dX11_disturbNests_88 (by decide) ?_
            refine GO.drop [true, true, true, true, false, false] rfl ?_
            exact ih233 (i7 + 1) V255 ⟨by omega, by omega, trivial⟩ (by show (2147483647 - (i7 + 1)).toNat < (2147483647 - i7).toNat; omega)
          ·
            refine GO.iload_n dX11_disturbNests_72 rfl rfl ?_
            refine GO.aload_n dX11_disturbNests_73 rfl rfl ?_
            refine GO.getI h_p0 fl_RX11_306 rfl rfl dX11_disturbNests_74 (fun _ _ => ?_)
            refine GO.iload dX11_disturbNests_77 rfl ?_
            refine GO.iconst dX11_disturbNests_79 ?_
            refine GO.iadd dX11_disturbNests_80 ?_
            have q256 : -2147483648 ≤ X243 ∧ X243 ≤ 2147483647 := r244
            refine GO.idiv dX11_disturbNests_81 ⟨by omega, by omega⟩ (by omega) ?_
            refine GO.callS (N := mX4_add) dX11_disturbNests_82 gS_RX11_476 (t_X4_add h248 ⟨by omega, by omega⟩ wdiv_ir) rfl [] rfl rfl (Nat.le_of_ble_eq_true rfl) rfl (k_vs fun V259 h258 hF257 => ?_)
            refine GO.iinc (X := i7) (n := 1) (Y := i7 + 1) (ls1 := [some (.ref x), some (.ref p0), some (ti z5), some (ti (i7 + 1)), some (.ref o238), some (ti X243)]) dX11_disturbNests_85 rfl rfl rfl rfl ?_
            refine GO.goto (tgt := 14) dX11_disturbNests_88 (by decide) ?_
            refine GO.drop [true, true, true, true, false, false] rfl ?_
            exact ih233 (i7 + 1) V259 ⟨by omega, by omega, trivial⟩ (by show (2147483647 - (i7 + 1)).toNat < (2147483647 - i7).toNat; omega)

set_option maxHeartbeats 1000000 in
theorem t_X8_get_k29 {K : Kmap} {V : Vmap} {x : Nat} {p0 : Int} {p1 : Int} (h_x : K x = some (0, 29)) (r_p0 : ir p0) (r_p1 : ir p1) : MC mX8_get_k29 K V [.ref x, ti p0, ti p1] (IP K V (fun X => True)) := by
  refine MC.start 2 (by decide +kernel) rfl rfl rfl (ls0 := [some (.ref x), some (ti p0), some (ti p1), none, none]) rfl ?_
  refine GO.iload_n dX8_get_0 rfl rfl ?_
  refine GO.aload_n dX8_get_1 rfl rfl ?_
  refine GO.getI h_x fl_RX8_15_k29 rfl rfl dX8_get_2 (fun l1 u2 => ?_)
  refine GO.imul dX8_get_5 ?_
  refine GO.norm (fun z3 r4 hn5 => ?_)
  refine GO.iload_n dX8_get_6 rfl rfl ?_
  refine GO.iadd dX8_get_7 ?_
  refine GO.norm (fun z6 r7 hn8 => ?_)
  refine GO.istore_n (ls1 := [some (.ref x), some (ti p0), some (ti p1), some (ti z6), none]) dX8_get_8 rfl rfl rfl ?_
  refine GO.iload_n dX8_get_9 rfl rfl ?_
  have hj18 : ∀ (z17 : Int), ∀ (l19 : 0 ≤ z17), ∀ (u20 : z17 ≤ 1), GO mX8_get_k29 K V (IP K V (fun X => True)) K V 0 0 38 [some (.ref x), some (ti p0), some (ti p1), some (ti z6), none] [ti z17] := by
    intro z17 l19 u20
    have r21 : ir z17 := ⟨by omega, by omega⟩
    refine GO.istore (ls1 := [some (.ref x), some (ti p0), some (ti p1), some (ti z6), some (ti z17)]) dX8_get_38 rfl rfl ?_
    refine GO.iload dX8_get_40 rfl ?_
    refine GO.if_eq (tgt := 67) dX8_get_42 (by decide) r21 (fun c22 => ?_) (fun c22 => ?_)
    ·
      refine GO.iconst dX8_get_67 ?_
      exact GO.reti rfl rfl dX8_get_68 ⟨rfl, rfl, _, rfl, (ir_c rfl), trivial⟩
    ·
      refine GO.iload_n dX8_get_45 rfl rfl ?_
      refine GO.if_lt (tgt := 67) dX8_get_46 (by decide) r7 (fun c23 => ?_) (fun c23 => ?_)
      ·
        refine GO.iconst dX8_get_67 ?_
        exact GO.reti rfl rfl dX8_get_68 ⟨rfl, rfl, _, rfl, (ir_c rfl), trivial⟩
      ·
        refine GO.iload_n dX8_get_49 rfl rfl ?_
        refine GO.aload_n dX8_get_50 rfl rfl ?_
        refine GO.getA (n := 30) h_x fl_RX8_27_k29 rfl rfl rfl rfl dX8_get_51 (fun hv25 h24 => ?_)
        refine GO.alen h24 dX8_get_54 (fun h26 => ?_)
        refine GO.icmp_ge (tgt := 67) dX8_get_55 (by decide) r7 ⟨by omega, by omega⟩ (fun c27 => ?_) (fun c27 => ?_)
        ·
          refine GO.iconst dX8_get_67 ?_
          exact GO.reti rfl rfl dX8_get_68 ⟨rfl, rfl, _, rfl, (ir_c rfl), trivial⟩
        ·
          refine GO.aload_n dX8_get_58 rfl rfl ?_
          refine GO.getRaw h_x fl_RX8_27_k29 hv25 dX8_get_59 ?_
          refine GO.iload_n dX8_get_62 rfl rfl ?_
          have q30 : -2147483648 ≤ z6 ∧ z6 ≤ 2147483647 := r7
          refine GO.iald (t := 151) rfl rfl h24 r7 (by omega) (by omega) dX8_get_63 (fun _ _ => ?_)
          refine GO.goto (tgt := 68) dX8_get_64 (by decide) ?_
          have q31 : -2147483648 ≤ vi V (vq V x 2) (z6).toNat ∧ vi V (vq V x 2) (z6).toNat ≤ 2147483647 := vi_ir
          exact GO.reti rfl rfl dX8_get_68 ⟨rfl, rfl, _, rfl, vi_ir, trivial⟩
  have hj40 : GO mX8_get_k29 K V (IP K V (fun X => True)) K V 0 0 37 [some (.ref x), some (ti p0), some (ti p1), some (ti z6), none] [] := by
    skip
    refine GO.iconst dX8_get_37 ?_
    exact hj18 0 (by omega) (by omega)
  refine GO.if_lt (tgt := 37) dX8_get_10 (by decide) r_p0 (fun c41 => ?_) (fun c41 => ?_)
  ·
    exact hj40 
  ·
    refine GO.iload_n dX8_get_13 rfl rfl ?_
    refine GO.aload_n dX8_get_14 rfl rfl ?_
    refine GO.getI h_x fl_RX8_9_k29 rfl rfl dX8_get_15 (fun l42 u43 => ?_)
    refine GO.icmp_ge (tgt := 37) dX8_get_18 (by decide) r_p0 vi_ir (fun c44 => ?_) (fun c44 => ?_)
    ·
      exact hj40 
    ·
      refine GO.iload_n dX8_get_21 rfl rfl ?_
      refine GO.if_lt (tgt := 37) dX8_get_22 (by decide) r_p1 (fun c45 => ?_) (fun c45 => ?_)
      ·
        exact hj40 
      ·
        refine GO.iload_n dX8_get_25 rfl rfl ?_
        refine GO.aload_n dX8_get_26 rfl rfl ?_
        refine GO.getI h_x fl_RX8_15_k29 rfl rfl dX8_get_27 (fun l46 u47 => ?_)
        refine GO.icmp_ge (tgt := 37) dX8_get_30 (by decide) r_p1 vi_ir (fun c48 => ?_) (fun c48 => ?_)
        ·
          exact hj40 
        ·
          refine GO.iconst dX8_get_33 ?_
          refine GO.goto (tgt := 38) dX8_get_34 (by decide) ?_
          exact hj18 1 (by omega) (by omega)

set_option maxHeartbeats 1000000 in
theorem t_X8_put_k29 {K : Kmap} {V : Vmap} {x : Nat} {p0 : Int} {p1 : Int} {p2 : Int} (h_x : K x = some (0, 29)) (r_p0 : ir p0) (r_p1 : ir p1) (r_p2 : ir p2) : MC mX8_put_k29 K V [.ref x, ti p0, ti p1, ti p2] (VS K (fun V1 => (True))) := by
  refine MC.start 2 (by decide +kernel) rfl rfl rfl (ls0 := [some (.ref x), some (ti p0), some (ti p1), some (ti p2), none, none]) rfl ?_
  refine GO.iload_n dX8_put_0 rfl rfl ?_
  refine GO.aload_n dX8_put_1 rfl rfl ?_
  refine GO.getI h_x fl_RX8_15_k29 rfl rfl dX8_put_2 (fun l1 u2 => ?_)
  refine GO.imul dX8_put_5 ?_
  refine GO.norm (fun z3 r4 hn5 => ?_)
  refine GO.iload_n dX8_put_6 rfl rfl ?_
  refine GO.iadd dX8_put_7 ?_
  refine GO.norm (fun z6 r7 hn8 => ?_)
  refine GO.istore (ls1 := [some (.ref x), some (ti p0), some (ti p1), some (ti p2), some (ti z6), none]) dX8_put_8 rfl rfl ?_
  refine GO.iload_n dX8_put_10 rfl rfl ?_
  have hj18 : ∀ (z17 : Int), ∀ (l19 : 0 ≤ z17), ∀ (u20 : z17 ≤ 1), GO mX8_put_k29 K V (VS K (fun V1 => (True))) K V 0 0 39 [some (.ref x), some (ti p0), some (ti p1), some (ti p2), some (ti z6), none] [ti z17] := by
    intro z17 l19 u20
    have r21 : ir z17 := ⟨by omega, by omega⟩
    refine GO.istore (ls1 := [some (.ref x), some (ti p0), some (ti p1), some (ti p2), some (ti z6), some (ti z17)]) dX8_put_39 rfl rfl ?_
    refine GO.iload dX8_put_41 rfl ?_
    refine GO.if_eq (tgt := 69) dX8_put_43 (by decide) r21 (fun c22 => ?_) (fun c22 => ?_)
    ·
      exact GO.retv rfl rfl dX8_put_69 ⟨rfl, rfl, trivial⟩
    ·
      refine GO.iload dX8_put_46 rfl ?_
      refine GO.if_lt (tgt := 69) dX8_put_48 (by decide) r7 (fun c23 => ?_) (fun c23 => ?_)
      ·
        exact GO.retv rfl rfl dX8_put_69 ⟨rfl, rfl, trivial⟩
      ·
        refine GO.iload dX8_put_51 rfl ?_
        refine GO.aload_n dX8_put_53 rfl rfl ?_
        refine GO.getA (n := 30) h_x fl_RX8_27_k29 rfl rfl rfl rfl dX8_put_54 (fun hv25 h24 => ?_)
        refine GO.alen h24 dX8_put_57 (fun h26 => ?_)
        refine GO.icmp_ge (tgt := 69) dX8_put_58 (by decide) r7 ⟨by omega, by omega⟩ (fun c27 => ?_) (fun c27 => ?_)
        ·
          exact GO.retv rfl rfl dX8_put_69 ⟨rfl, rfl, trivial⟩
        ·
          refine GO.aload_n dX8_put_61 rfl rfl ?_
          refine GO.getRaw h_x fl_RX8_27_k29 hv25 dX8_put_62 ?_
          refine GO.iload dX8_put_65 rfl ?_
          refine GO.iload_n dX8_put_67 rfl rfl ?_
          have q30 : -2147483648 ≤ z6 ∧ z6 ≤ 2147483647 := r7
          refine GO.iast (t := 151) rfl rfl (by decide +kernel) h24 r7 (by omega) (by omega) r_p2 (r_p2).1 (r_p2).2 dX8_put_68 (fun V32 e31 => ?_)
          exact GO.retv rfl rfl dX8_put_69 ⟨rfl, rfl, trivial⟩
  have hj41 : GO mX8_put_k29 K V (VS K (fun V1 => (True))) K V 0 0 38 [some (.ref x), some (ti p0), some (ti p1), some (ti p2), some (ti z6), none] [] := by
    skip
    refine GO.iconst dX8_put_38 ?_
    exact hj18 0 (by omega) (by omega)
  refine GO.if_lt (tgt := 38) dX8_put_11 (by decide) r_p0 (fun c42 => ?_) (fun c42 => ?_)
  ·
    exact hj41 
  ·
    refine GO.iload_n dX8_put_14 rfl rfl ?_
    refine GO.aload_n dX8_put_15 rfl rfl ?_
    refine GO.getI h_x fl_RX8_9_k29 rfl rfl dX8_put_16 (fun l43 u44 => ?_)
    refine GO.icmp_ge (tgt := 38) dX8_put_19 (by decide) r_p0 vi_ir (fun c45 => ?_) (fun c45 => ?_)
    ·
      exact hj41 
    ·
      refine GO.iload_n dX8_put_22 rfl rfl ?_
      refine GO.if_lt (tgt := 38) dX8_put_23 (by decide) r_p1 (fun c46 => ?_) (fun c46 => ?_)
      ·
        exact hj41 
      ·
        refine GO.iload_n dX8_put_26 rfl rfl ?_
        refine GO.aload_n dX8_put_27 rfl rfl ?_
        refine GO.getI h_x fl_RX8_15_k29 rfl rfl dX8_put_28 (fun l47 u48 => ?_)
        refine GO.icmp_ge (tgt := 38) dX8_put_31 (by decide) r_p1 vi_ir (fun c49 => ?_) (fun c49 => ?_)
        ·
          exact hj41 
        ·
          refine GO.iconst dX8_put_34 ?_
          refine GO.goto (tgt := 39) dX8_put_35 (by decide) ?_
          exact hj18 1 (by omega) (by omega)

set_option maxHeartbeats 1000000 in
theorem t_X11_goDown {K : Kmap} {V : Vmap} {x : Nat} {p0 : Int} (h_x : K x = some (0, 10)) (r_p0 : ir p0) : MC mX11_goDown K V [.ref x, ti p0] (VS K (fun V1 => (True))) := by
  refine MC.start 5 (by decide +kernel) rfl rfl rfl (ls0 := [some (.ref x), some (ti p0), none, none, none, none, none]) rfl ?_
  refine GO.aload_n dX11_goDown_0 rfl rfl ?_
  refine GO.aload_n dX11_goDown_1 rfl rfl ?_
  refine GO.getR h_x fl_RX11_79 rfl rfl dX11_goDown_2 (fun hv2 h1 => ?_)
  refine GO.iload_n dX11_goDown_5 rfl rfl ?_
  refine GO.iconst dX11_goDown_6 ?_
  refine GO.callV (ci := 29) (N := mX8_get_k29) dX11_goDown_7 (RX8, TX8, 4) rfl gV_RX11_209 h1 (t_X8_get_k29 h1 r_p0 (ir_c rfl)) rfl [.ref x] rfl rfl (Nat.le_of_ble_eq_true rfl) rfl (k_ip fun X3 r4 h5 => ?_)
  refine GO.iconst dX11_goDown_10 ?_
  refine GO.callV (ci := 10) (N := mX11_placeOf) dX11_goDown_11 (RX11, TX11, 20) rfl gV_RX11_169 h_x (t_X11_placeOf h_x r4 (ir_c rfl)) rfl [] rfl rfl (Nat.le_of_ble_eq_true rfl) rfl (k_rp (fun h8 => ?_) (fun o6 h7 h8 => ?_))
  ·
    refine GO.astore_nN (ls1 := [some (.ref x), some (ti p0), some (.null), none, none, none, none]) dX11_goDown_14 rfl rfl rfl ?_
    refine GO.aload_nN dX11_goDown_15 rfl rfl ?_
    refine GO.ifnonnullN dX11_goDown_16 ?_
    exact GO.retv rfl rfl dX11_goDown_19 ⟨rfl, rfl, trivial⟩
  ·
    refine GO.astore_n (ls1 := [some (.ref x), some (ti p0), some (.ref o6), none, none, none, none]) dX11_goDown_14 rfl rfl rfl ?_
    refine GO.aload_n dX11_goDown_15 rfl rfl ?_
    refine GO.ifnonnull (tgt := 20) dX11_goDown_16 (by decide) ?_
    refine GO.aload_n dX11_goDown_20 rfl rfl ?_
    refine GO.getRaw h_x fl_RX11_79 hv2 dX11_goDown_21 ?_
    refine GO.iload_n dX11_goDown_24 rfl rfl ?_
    refine GO.iconst dX11_goDown_25 ?_
    refine GO.callV (ci := 29) (N := mX8_get_k29) dX11_goDown_26 (RX8, TX8, 4) rfl gV_RX11_209 h1 (t_X8_get_k29 h1 r_p0 (ir_c rfl)) rfl [] rfl rfl (Nat.le_of_ble_eq_true rfl) rfl (k_ip fun X11 r12 h13 => ?_)
    refine GO.istore_n (ls1 := [some (.ref x), some (ti p0), some (.ref o6), some (ti X11), none, none, none]) dX11_goDown_29 rfl rfl rfl ?_
    refine GO.iload_n dX11_goDown_30 rfl rfl ?_
    refine GO.sipush dX11_goDown_31 rfl ?_
    refine GO.idiv dX11_goDown_34 (ir_c rfl) (by omega) ?_
    refine GO.bipush dX11_goDown_35 rfl ?_
    refine GO.callS (N := mJ9_min_7cf53) dX11_goDown_37 gS_RX11_479 (t_J9_min_7cf53 wdiv_ir (ir_c rfl)) rfl [] rfl rfl (Nat.le_of_ble_eq_true rfl) rfl (k_ip fun X14 r15 h16 => ?_)
    have q17 : -2147483648 ≤ wdiv X11 500 ∧ wdiv X11 500 ≤ 2147483647 := wdiv_ir
    have q18 : -2147483648 ≤ X14 ∧ X14 ≤ 2147483647 := r15
    refine GO.istore (ls1 := [some (.ref x), some (ti p0), some (.ref o6), some (ti X11), some (ti X14), none, none]) dX11_goDown_40 rfl rfl ?_
    refine GO.aload_n dX11_goDown_42 rfl rfl ?_
    refine GO.callV (ci := 3) (N := mX3_sureDepth) dX11_goDown_43 (RX3, TX3, 16) rfl gV_RX11_482 h7 (t_X3_sureDepth h7) rfl [] rfl rfl (Nat.le_of_ble_eq_true rfl) rfl (k_ip fun X19 r20 h21 => ?_)
    refine GO.aload_n dX11_goDown_46 rfl rfl ?_
    refine GO.getA (n := 11) h_x fl_RX11_94 rfl rfl rfl rfl dX11_goDown_47 (fun hv23 h22 => ?_)
    refine GO.bipush dX11_goDown_50 rfl ?_
    refine GO.callS (N := mX4_get) dX11_goDown_52 gS_RX11_253 (t_X4_get rfl h22 (ir_c rfl)) rfl [ti X19] rfl rfl (Nat.le_of_ble_eq_true rfl) rfl (k_ip fun X24 r25 h26 => ?_)
    have raw_get := h26.2
    have rw52 := h26.2
    refine GO.isub dX11_goDown_55 ?_
    refine GO.norm (fun z27 r28 hn29 => ?_)
    refine GO.istore (ls1 := [some (.ref x), some (ti p0), some (.ref o6), some (ti X11), some (ti X14), some (ti z27), none]) dX11_goDown_56 rfl rfl ?_
    refine GO.iload_n dX11_goDown_58 rfl rfl ?_
    refine GO.aload_n dX11_goDown_59 rfl rfl ?_
    refine GO.getRaw h_x fl_RX11_94 hv23 dX11_goDown_60 ?_
    refine GO.iload dX11_goDown_63 rfl ?_
    refine GO.callS (N := mX4_get) dX11_goDown_65 gS_RX11_253 (t_X4_get rfl h22 r15) rfl [ti X11] rfl rfl (Nat.le_of_ble_eq_true rfl) rfl (k_ip fun X32 r33 h34 => ?_)
    have raw_get := h34.2
    have rw65 := h34.2
    refine GO.iadd dX11_goDown_68 ?_
    refine GO.norm (fun z35 r36 hn37 => ?_)
    refine GO.iload dX11_goDown_69 rfl ?_
    refine GO.callS (N := mJ9_min_7cf53) dX11_goDown_71 gS_RX11_479 (t_J9_min_7cf53 r36 r28) rfl [] rfl rfl (Nat.le_of_ble_eq_true rfl) rfl (k_ip fun X38 r39 h40 => ?_)
    have q41 : -2147483648 ≤ z27 ∧ z27 ≤ 2147483647 := r28
    have q42 : -2147483648 ≤ X38 ∧ X38 ≤ 2147483647 := r39
    have q43 : -2147483648 ≤ z35 ∧ z35 ≤ 2147483647 := r36
    refine GO.istore (ls1 := [some (.ref x), some (ti p0), some (.ref o6), some (ti X11), some (ti X14), some (ti z27), some (ti X38)]) dX11_goDown_74 rfl rfl ?_
    refine GO.aload_n dX11_goDown_76 rfl rfl ?_
    refine GO.getRaw h_x fl_RX11_79 hv2 dX11_goDown_77 ?_
    refine GO.iload_n dX11_goDown_80 rfl rfl ?_
    refine GO.iconst dX11_goDown_81 ?_
    refine GO.iload_n dX11_goDown_82 rfl rfl ?_
    refine GO.iload dX11_goDown_83 rfl ?_
    refine GO.callS (N := mJ9_max_7cf53) dX11_goDown_85 gS_RX11_296 (t_J9_max_7cf53 r12 r39) rfl [ti 2, ti p0, .ref (vq V x 13)] rfl rfl (Nat.le_of_ble_eq_true rfl) rfl (k_ip fun X46 r47 h48 => ?_)
    have q49 : -2147483648 ≤ X46 ∧ X46 ≤ 2147483647 := r47
    have q50 : -2147483648 ≤ X11 ∧ X11 ≤ 2147483647 := r12
    refine GO.callV (ci := 29) (N := mX8_put_k29) dX11_goDown_88 (RX8, TX8, 4) rfl gV_RX11_485 h1 (t_X8_put_k29 h1 r_p0 (ir_c rfl) r47) rfl [] rfl rfl (Nat.le_of_ble_eq_true rfl) rfl (k_vs fun V53 h52 hF51 => ?_)
    exact GO.retv rfl rfl dX11_goDown_91 ⟨rfl, rfl, trivial⟩

set_option maxHeartbeats 1000000 in
theorem t_X11_passWork {K : Kmap} {V : Vmap} {x : Nat} {p0 : Int} (h_x : K x = some (0, 10)) (r_p0 : ir p0) (w_0 : CWI K V x) : MC mX11_passWork K V [.ref x, ti p0] (VS K (fun V1 => (True) ∧ (CWI K V1 x))) := by
  refine MC.start 3 (by decide +kernel) rfl rfl rfl (ls0 := [some (.ref x), some (ti p0), none, none, none]) rfl ?_
  refine GO.useWT (fun hW_0 => ?_)
  refine GO.aload_n dX11_passWork_0 rfl rfl ?_
  refine GO.iload_n dX11_passWork_1 rfl rfl ?_
  refine GO.callV (ci := 10) (N := mX11_workOf) dX11_passWork_2 (RX11, TX11, 20) rfl gV_RX11_309 h_x (t_X11_workOf h_x r_p0) rfl [] rfl rfl (Nat.le_of_ble_eq_true rfl) rfl (k_rp (fun h3 => ?_) (fun o1 h2 h3 => ?_))
  ·
    refine GO.astore_nN (ls1 := [some (.ref x), some (ti p0), some (.null), none, none]) dX11_passWork_5 rfl rfl rfl ?_
    refine GO.aload_nN dX11_passWork_6 rfl rfl ?_
    refine GO.ifnullN (tgt := 38) dX11_passWork_7 (by decide) ?_
    exact GO.retv rfl rfl dX11_passWork_38 ⟨rfl, rfl, ⟨trivial, (by first | exact w_0)⟩⟩
  ·
    refine GO.astore_n (ls1 := [some (.ref x), some (ti p0), some (.ref o1), none, none]) dX11_passWork_5 rfl rfl rfl ?_
    refine GO.aload_n dX11_passWork_6 rfl rfl ?_
    refine GO.ifnull dX11_passWork_7 ?_
    refine GO.aload_n dX11_passWork_10 rfl rfl ?_
    refine GO.getR h_x fl_RX11_12 rfl rfl dX11_passWork_11 (fun hv5 h4 => ?_)
    refine GO.getI h4 fl_RX11_145 rfl rfl dX11_passWork_14 (fun l6 u7 => ?_)
    refine GO.aload_n dX11_passWork_17 rfl rfl ?_
    refine GO.getI h2 fl_RX11_452 rfl rfl dX11_passWork_18 (fun _ _ => ?_)
    refine GO.icmp_lt (tgt := 38) dX11_passWork_21 (by decide) vi_ir vi_ir (fun c8 => ?_) (fun c8 => ?_)
    ·
      exact GO.retv rfl rfl dX11_passWork_38 ⟨rfl, rfl, ⟨trivial, (by first | exact w_0)⟩⟩
    ·
      refine GO.aload_n dX11_passWork_24 rfl rfl ?_
      refine GO.getRaw h_x fl_RX11_12 hv5 dX11_passWork_25 ?_
      refine GO.getI h4 fl_RX11_145 rfl rfl dX11_passWork_28 (fun l11 u12 => ?_)
      refine GO.aload_n dX11_passWork_31 rfl rfl ?_
      refine GO.getI h2 fl_RX11_455 rfl rfl dX11_passWork_32 (fun _ _ => ?_)
      refine GO.icmp_le (tgt := 39) dX11_passWork_35 (by decide) vi_ir vi_ir (fun c13 => ?_) (fun c13 => ?_)
      ·
        refine GO.aload_n dX11_passWork_39 rfl rfl ?_
        refine GO.aload_n dX11_passWork_40 rfl rfl ?_
        refine GO.aload_n dX11_passWork_41 rfl rfl ?_
        refine GO.getRaw h_x fl_RX11_12 hv5 dX11_passWork_42 ?_
        refine GO.getI h4 fl_RX11_145 rfl rfl dX11_passWork_45 (fun l16 u17 => ?_)
        refine GO.iconst dX11_passWork_48 ?_
        refine GO.callV (ci := 10) (N := mX11_judge) dX11_passWork_49 (RX11, TX11, 20) rfl gV_RX11_331 h_x (t_X11_judge h_x h2 vi_ir (ir_c rfl) (by omega) (w_0)) rfl [] rfl rfl (Nat.le_of_ble_eq_true rfl) rfl (k_is fun X18 V22 r19 h20 hF21 => ?_)
        have raw_judge := h20.2
        have rw49 := h20.2
        refine GO.useWT (fun hWj => ?_)
        refine GO.if_eq (tgt := 66) dX11_passWork_52 (by decide) r19 (fun c23 => ?_) (fun c23 => ?_)
        ·
          refine GO.aload_n dX11_passWork_66 rfl rfl ?_
          refine GO.dup dX11_passWork_67 rfl ?_
          refine GO.getI h2 fl_RX11_461 rfl rfl dX11_passWork_68 (fun _ _ => ?_)
          refine GO.iconst dX11_passWork_71 ?_
          refine GO.iadd dX11_passWork_72 ?_
          refine GO.norm (fun z24 r25 hn26 => ?_)
          refine GO.putI h2 fp_RX11_461 rfl (by decide +kernel) r25 (r25).1 (r25).2 dX11_passWork_73 (fun V28 e27 => ?_)
          have hc1 := CWI.put (kd := (0, 9)) (j := 7) rw49 (by assumption) e27 hWj h_x (by decide +kernel) (by decide +kernel) (by decide +kernel) (by decide +kernel)
          refine GO.useWT (fun hWp => ?_)
          refine GO.aload_n dX11_passWork_76 rfl rfl ?_
          refine GO.aload_n dX11_passWork_77 rfl rfl ?_
          refine GO.getI h2 fl_RX11_353 rfl rfl dX11_passWork_78 (fun _ _ => ?_)
          refine GO.callV (ci := 10) (N := mX11_partyOf) dX11_passWork_81 (RX11, TX11, 20) rfl gV_RX11_151 h_x (t_X11_partyOf h_x vi_ir) rfl [] rfl rfl (Nat.le_of_ble_eq_true rfl) rfl (k_rp (fun h31 => ?_) (fun o29 h30 h31 => ?_))
          ·
            have rwn81 := h31.2
            have hn32 : PN V28 x → (vi V28 o1 1) < 0 ∨ vi V28 x 4 ≤ (vi V28 o1 1) := h31.2
            refine GO.astore_nN (ls1 := [some (.ref x), some (ti p0), some (.ref o1), some (.null), none]) dX11_passWork_84 rfl rfl rfl ?_
            refine GO.aload_n dX11_passWork_85 rfl rfl ?_
            refine GO.getI h2 fl_RX11_375 rfl rfl dX11_passWork_86 (fun _ _ => ?_)
            refine GO.if_ne (tgt := 106) dX11_passWork_89 (by decide) vi_ir (fun c33 => ?_) (fun c33 => ?_)
            ·
              have hc2 : CWI K V28 x := by first | exact hc1 | exact CWI.put (kd := (0, 2)) (j := 1) hc1 (by assumption) (by assumption) hWp h_x (by decide +kernel) (by decide +kernel) (by decide +kernel) (by decide +kernel)
              refine GO.useWT (fun hWq => ?_)
              refine GO.aload_n dX11_passWork_106 rfl rfl ?_
              refine GO.aload_n dX11_passWork_107 rfl rfl ?_
              refine GO.callV (ci := 10) (N := mX11_disturbNests) dX11_passWork_108 (RX11, TX11, 20) rfl gV_RX11_467 h_x (t_X11_disturbNests h_x h2) rfl [] rfl rfl (Nat.le_of_ble_eq_true rfl) rfl (k_vs fun V36 h35 hF34 => ?_)
              have hc3 := CWI.fr hc2 hF34 ext.rf hWq h_x (by decide +kernel) (by decide +kernel) (by decide +kernel)
              refine GO.iconst dX11_passWork_111 ?_
              refine GO.istore (ls1 := [some (.ref x), some (ti p0), some (.ref o1), some (.null), some (ti 0)]) dX11_passWork_112 rfl rfl ?_
              refine GO.loop1 (fun i37 W => 0 ≤ i37 ∧ i37 ≤ 10 ∧ (CWI K W x) ∧ True) (fun i37 => [some (.ref x), some (ti p0), some (.ref o1), some (.null), some (ti i37)]) (fun i37 W => (2147483647 - i37).toNat) 0 ⟨by omega, by omega, (by first | exact w_0 | exact hc3 | exact CWI.put (kd := (0, 9)) (j := 8) rw49 (by assumption) (by assumption) hWj h_x (by decide +kernel) (by decide +kernel) (by decide +kernel) (by decide +kernel)), trivial⟩ rfl (fun i37 Wi37 hp137 ih136 => ?_)
              obtain ⟨l_i37, u_i37, hcl, -⟩ := hp137
              have r_i37 : ir i37 := ⟨by omega, by omega⟩
              show GO mX11_passWork K V (VS K (fun V1 => (True) ∧ (CWI K V1 x))) K Wi37 0 0 114 [some (.ref x), some (ti p0), some (.ref o1), some (.null), some (ti i37)] []
              refine GO.useWT (fun hWl => ?_)
              refine GO.iload dX11_passWork_114 rfl ?_
              refine GO.aload_n dX11_passWork_116 rfl rfl ?_
              refine GO.getR h_x fl_RX11_79 rfl rfl dX11_passWork_117 (fun hv139 h138 => ?_)
              refine GO.getI h138 fl_RX11_199_k29 rfl rfl dX11_passWork_120 (fun l140 u141 => ?_)
              refine GO.icmp_ge (tgt := 152) dX11_passWork_123 (by decide) r_i37 vi_ir (fun c142 => ?_) (fun c142 => ?_)
              ·
                exact GO.retv rfl rfl dX11_passWork_152 ⟨rfl, rfl, ⟨trivial, (by first | exact w_0 | exact hc3 | exact hcl | exact CWI.fr hcl (by assumption) ext.rf hWl h_x (by decide +kernel) (by decide +kernel) (by decide +kernel) | exact CWI.put (kd := (0, 9)) (j := 8) rw49 (by assumption) (by assumption) hWj h_x (by decide +kernel) (by decide +kernel) (by decide +kernel) (by decide +kernel))⟩⟩
              ·
                refine GO.aload_n dX11_passWork_126 rfl rfl ?_
                refine GO.getRaw h_x fl_RX11_79 hv139 dX11_passWork_127 ?_
                refine GO.iload dX11_passWork_130 rfl ?_
                refine GO.iconst dX11_passWork_132 ?_
                refine GO.callV (ci := 29) (N := mX8_get_k29) dX11_passWork_133 (RX8, TX8, 4) rfl gV_RX11_209 h138 (t_X8_get_k29 h138 r_i37 (ir_c rfl)) rfl [] rfl rfl (Nat.le_of_ble_eq_true rfl) rfl (k_ip fun X145 r146 h147 => ?_)
                refine GO.iload_n dX11_passWork_136 rfl rfl ?_
                refine GO.icmp_ne (tgt := 146) dX11_passWork_137 (by decide) r146 r_p0 (fun c148 => ?_) (fun c148 => ?_)
                ·
                  refine GO.iinc (X := i37) (n := 1) (Y := i37 + 1) (ls1 := [some (.ref x), some (ti p0), some (.ref o1), some (.null), some (ti (i37 + 1))]) dX11_passWork_146 rfl rfl rfl rfl ?_
                  refine GO.goto (tgt := 114) dX11_passWork_149 (by decide) ?_
                  exact ih136 (i37 + 1) Wi37 ⟨by omega, by omega, (by first | exact w_0 | exact hc3 | exact hcl | exact CWI.fr hcl (by assumption) ext.rf hWl h_x (by decide +kernel) (by decide +kernel) (by decide +kernel) | exact CWI.put (kd := (0, 9)) (j := 8) rw49 (by assumption) (by assumption) hWj h_x (by decide +kernel) (by decide +kernel) (by decide +kernel) (by decide +kernel)), trivial⟩ (by show (2147483647 - (i37 + 1)).toNat < (2147483647 - i37).toNat; omega)
                ·
                  refine GO.aload_n dX11_passWork_140 rfl rfl ?_
                  refine GO.iload dX11_passWork_141 rfl ?_
                  refine GO.callV (ci := 10) (N := mX11_goDown) dX11_passWork_143 (RX11, TX11, 20) rfl gV_RX11_470 h_x (t_X11_goDown h_x r_i37) rfl [] rfl rfl (Nat.le_of_ble_eq_true rfl) rfl (k_vs fun V151 h150 hF149 => ?_)
                  refine GO.iinc (X := i37) (n := 1) (Y := i37 + 1) (ls1 := [some (.ref x), some (ti p0), some (.ref o1), some (.null), some (ti (i37 + 1))]) dX11_passWork_146 rfl rfl rfl rfl ?_
                  refine GO.goto (tgt := 114) dX11_passWork_149 (by decide) ?_
                  exact ih136 (i37 + 1) V151 ⟨by omega, by omega, (by first | exact w_0 | exact hc3 | exact hcl | exact CWI.fr hcl hF149 ext.rf hWl h_x (by decide +kernel) (by decide +kernel) (by decide +kernel) | exact CWI.put (kd := (0, 9)) (j := 8) rw49 (by assumption) (by assumption) hWj h_x (by decide +kernel) (by decide +kernel) (by decide +kernel) (by decide +kernel)), trivial⟩ (by show (2147483647 - (i37 + 1)).toNat < (2147483647 - i37).toNat; omega)
            ·
              refine GO.aload_nN dX11_passWork_92 rfl rfl ?_
              refine GO.ifnullN (tgt := 106) dX11_passWork_93 (by decide) ?_
              have hc2 : CWI K V28 x := by first | exact hc1 | exact CWI.put (kd := (0, 2)) (j := 1) hc1 (by assumption) (by assumption) hWp h_x (by decide +kernel) (by decide +kernel) (by decide +kernel) (by decide +kernel)
              refine GO.useWT (fun hWq => ?_)
              refine GO.aload_n dX11_passWork_106 rfl rfl ?_
              refine GO.aload_n dX11_passWork_107 rfl rfl ?_
              refine GO.callV (ci := 10) (N := mX11_disturbNests) dX11_passWork_108 (RX11, TX11, 20) rfl gV_RX11_467 h_x (t_X11_disturbNests h_x h2) rfl [] rfl rfl (Nat.le_of_ble_eq_true rfl) rfl (k_vs fun V154 h153 hF152 => ?_)
              have hc3 := CWI.fr hc2 hF152 ext.rf hWq h_x (by decide +kernel) (by decide +kernel) (by decide +kernel)
              refine GO.iconst dX11_passWork_111 ?_
              refine GO.istore (ls1 := [some (.ref x), some (ti p0), some (.ref o1), some (.null), some (ti 0)]) dX11_passWork_112 rfl rfl ?_
              refine GO.loop1 (fun i155 W => 0 ≤ i155 ∧ i155 ≤ 10 ∧ (CWI K W x) ∧ True) (fun i155 => [some (.ref x), some (ti p0), some (.ref o1), some (.null), some (ti i155)]) (fun i155 W => (2147483647 - i155).toNat) 0 ⟨by omega, by omega, (by first | exact w_0 | exact hc3 | exact CWI.put (kd := (0, 9)) (j := 8) rw49 (by assumption) (by assumption) hWj h_x (by decide +kernel) (by decide +kernel) (by decide +kernel) (by decide +kernel)), trivial⟩ rfl (fun i155 Wi155 hp255 ih254 => ?_)
              obtain ⟨l_i155, u_i155, hcl, -⟩ := hp255
              have r_i155 : ir i155 := ⟨by omega, by omega⟩
              show GO mX11_passWork K V (VS K (fun V1 => (True) ∧ (CWI K V1 x))) K Wi155 0 0 114 [some (.ref x), some (ti p0), some (.ref o1), some (.null), some (ti i155)] []
              refine GO.useWT (fun hWl => ?_)
              refine GO.iload dX11_passWork_114 rfl ?_
              refine GO.aload_n dX11_passWork_116 rfl rfl ?_
              refine GO.getR h_x fl_RX11_79 rfl rfl dX11_passWork_117 (fun hv257 h256 => ?_)
              refine GO.getI h256 fl_RX11_199_k29 rfl rfl dX11_passWork_120 (fun l258 u259 => ?_)
              refine GO.icmp_ge (tgt := 152) dX11_passWork_123 (by decide) r_i155 vi_ir (fun c260 => ?_) (fun c260 => ?_)
              ·
                exact GO.retv rfl rfl dX11_passWork_152 ⟨rfl, rfl, ⟨trivial, (by first | exact w_0 | exact hc3 | exact hcl | exact CWI.fr hcl (by assumption) ext.rf hWl h_x (by decide +kernel) (by decide +kernel) (by decide +kernel) | exact CWI.put (kd := (0, 9)) (j := 8) rw49 (by assumption) (by assumption) hWj h_x (by decide +kernel) (by decide +kernel) (by decide +kernel) (by decide +kernel))⟩⟩
              ·
                refine GO.aload_n dX11_passWork_126 rfl rfl ?_
                refine GO.getRaw h_x fl_RX11_79 hv257 dX11_passWork_127 ?_
                refine GO.iload dX11_passWork_130 rfl ?_
                refine GO.iconst dX11_passWork_132 ?_
                refine GO.callV (ci := 29) (N := mX8_get_k29) dX11_passWork_133 (RX8, TX8, 4) rfl gV_RX11_209 h256 (t_X8_get_k29 h256 r_i155 (ir_c rfl)) rfl [] rfl rfl (Nat.le_of_ble_eq_true rfl) rfl (k_ip fun X263 r264 h265 => ?_)
                refine GO.iload_n dX11_passWork_136 rfl rfl ?_
                refine GO.icmp_ne (tgt := 146) dX11_passWork_137 (by decide) r264 r_p0 (fun c266 => ?_) (fun c266 => ?_)
                ·
                  refine GO.iinc (X := i155) (n := 1) (Y := i155 + 1) (ls1 := [some (.ref x), some (ti p0), some (.ref o1), some (.null), some (ti (i155 + 1))]) dX11_passWork_146 rfl rfl rfl rfl ?_
                  refine GO.goto (tgt := 114) dX11_passWork_149 (by decide) ?_
                  exact ih254 (i155 + 1) Wi155 ⟨by omega, by omega, (by first | exact w_0 | exact hc3 | exact hcl | exact CWI.fr hcl (by assumption) ext.rf hWl h_x (by decide +kernel) (by decide +kernel) (by decide +kernel) | exact CWI.put (kd := (0, 9)) (j := 8) rw49 (by assumption) (by assumption) hWj h_x (by decide +kernel) (by decide +kernel) (by decide +kernel) (by decide +kernel)), trivial⟩ (by show (2147483647 - (i155 + 1)).toNat < (2147483647 - i155).toNat; omega)
                ·
                  refine GO.aload_n dX11_passWork_140 rfl rfl ?_
                  refine GO.iload dX11_passWork_141 rfl ?_
                  refine GO.callV (ci := 10) (N := mX11_goDown) dX11_passWork_143 (RX11, TX11, 20) rfl gV_RX11_470 h_x (t_X11_goDown h_x r_i155) rfl [] rfl rfl (Nat.le_of_ble_eq_true rfl) rfl (k_vs fun V269 h268 hF267 => ?_)
                  refine GO.iinc (X := i155) (n := 1) (Y := i155 + 1) (ls1 := [some (.ref x), some (ti p0), some (.ref o1), some (.null), some (ti (i155 + 1))]) dX11_passWork_146 rfl rfl rfl rfl ?_
                  refine GO.goto (tgt := 114) dX11_passWork_149 (by decide) ?_
                  exact ih254 (i155 + 1) V269 ⟨by omega, by omega, (by first | exact w_0 | exact hc3 | exact hcl | exact CWI.fr hcl hF267 ext.rf hWl h_x (by decide +kernel) (by decide +kernel) (by decide +kernel) | exact CWI.put (kd := (0, 9)) (j := 8) rw49 (by assumption) (by assumption) hWj h_x (by decide +kernel) (by decide +kernel) (by decide +kernel) (by decide +kernel)), trivial⟩ (by show (2147483647 - (i155 + 1)).toNat < (2147483647 - i155).toNat; omega)
          ·
            have hp270 : (vi V28 o1 1) ≥ 0 ∧ (vi V28 o1 1) < vi V28 x 4 := h31.1
            have rwp81 := h31.2
            have hq271 : o29 = vq V28 (vq V28 x 3) ((vi V28 o1 1)).toNat := h31.2
            refine GO.astore_n (ls1 := [some (.ref x), some (ti p0), some (.ref o1), some (.ref o29), none]) dX11_passWork_84 rfl rfl rfl ?_
            refine GO.aload_n dX11_passWork_85 rfl rfl ?_
            refine GO.getI h2 fl_RX11_375 rfl rfl dX11_passWork_86 (fun _ _ => ?_)
            refine GO.if_ne (tgt := 106) dX11_passWork_89 (by decide) vi_ir (fun c272 => ?_) (fun c272 => ?_)
            ·
              have hc2 : CWI K V28 x := by first | exact hc1 | exact CWI.put (kd := (0, 2)) (j := 1) hc1 (by assumption) (by assumption) hWp h_x (by decide +kernel) (by decide +kernel) (by decide +kernel) (by decide +kernel)
              refine GO.useWT (fun hWq => ?_)
              refine GO.aload_n dX11_passWork_106 rfl rfl ?_
              refine GO.aload_n dX11_passWork_107 rfl rfl ?_
              refine GO.callV (ci := 10) (N := mX11_disturbNests) dX11_passWork_108 (RX11, TX11, 20) rfl gV_RX11_467 h_x (t_X11_disturbNests h_x h2) rfl [] rfl rfl (Nat.le_of_ble_eq_true rfl) rfl (k_vs fun V275 h274 hF273 => ?_)
              have hc3 := CWI.fr hc2 hF273 ext.rf hWq h_x (by decide +kernel) (by decide +kernel) (by decide +kernel)
              refine GO.iconst dX11_passWork_111 ?_
              refine GO.istore (ls1 := [some (.ref x), some (ti p0), some (.ref o1), some (.ref o29), some (ti 0)]) dX11_passWork_112 rfl rfl ?_
              refine GO.loop1 (fun i276 W => 0 ≤ i276 ∧ i276 ≤ 10 ∧ (CWI K W x) ∧ True) (fun i276 => [some (.ref x), some (ti p0), some (.ref o1), some (.ref o29), some (ti i276)]) (fun i276 W => (2147483647 - i276).toNat) 0 ⟨by omega, by omega, (by first | exact w_0 | exact hc3 | exact CWI.put (kd := (0, 9)) (j := 8) rw49 (by assumption) (by assumption) hWj h_x (by decide +kernel) (by decide +kernel) (by decide +kernel) (by decide +kernel)), trivial⟩ rfl (fun i276 Wi276 hp376 ih375 => ?_)
              obtain ⟨l_i276, u_i276, hcl, -⟩ := hp376
              have r_i276 : ir i276 := ⟨by omega, by omega⟩
              show GO mX11_passWork K V (VS K (fun V1 => (True) ∧ (CWI K V1 x))) K Wi276 0 0 114 [some (.ref x), some (ti p0), some (.ref o1), some (.ref o29), some (ti i276)] []
              refine GO.useWT (fun hWl => ?_)
              refine GO.iload dX11_passWork_114 rfl ?_
              refine GO.aload_n dX11_passWork_116 rfl rfl ?_
              refine GO.getR h_x fl_RX11_79 rfl rfl dX11_passWork_117 (fun hv378 h377 => ?_)
              refine GO.getI h377 fl_RX11_199_k29 rfl rfl dX11_passWork_120 (fun l379 u380 => ?_)
              refine GO.icmp_ge (tgt := 152) dX11_passWork_123 (by decide) r_i276 vi_ir (fun c381 => ?_) (fun c381 => ?_)
              ·
                exact GO.retv rfl rfl dX11_passWork_152 ⟨rfl, rfl, ⟨trivial, (by first | exact w_0 | exact hc3 | exact hcl | exact CWI.fr hcl (by assumption) ext.rf hWl h_x (by decide +kernel) (by decide +kernel) (by decide +kernel) | exact CWI.put (kd := (0, 9)) (j := 8) rw49 (by assumption) (by assumption) hWj h_x (by decide +kernel) (by decide +kernel) (by decide +kernel) (by decide +kernel))⟩⟩
              ·
                refine GO.aload_n dX11_passWork_126 rfl rfl ?_
                refine GO.getRaw h_x fl_RX11_79 hv378 dX11_passWork_127 ?_
                refine GO.iload dX11_passWork_130 rfl ?_
                refine GO.iconst dX11_passWork_132 ?_
                refine GO.callV (ci := 29) (N := mX8_get_k29) dX11_passWork_133 (RX8, TX8, 4) rfl gV_RX11_209 h377 (t_X8_get_k29 h377 r_i276 (ir_c rfl)) rfl [] rfl rfl (Nat.le_of_ble_eq_true rfl) rfl (k_ip fun X384 r385 h386 => ?_)
                refine GO.iload_n dX11_passWork_136 rfl rfl ?_
                refine GO.icmp_ne (tgt := 146) dX11_passWork_137 (by decide) r385 r_p0 (fun c387 => ?_) (fun c387 => ?_)
                ·
                  refine GO.iinc (X := i276) (n := 1) (Y := i276 + 1) (ls1 := [some (.ref x), some (ti p0), some (.ref o1), some (.ref o29), some (ti (i276 + 1))]) dX11_passWork_146 rfl rfl rfl rfl ?_
                  refine GO.goto (tgt := 114) dX11_passWork_149 (by decide) ?_
                  exact ih375 (i276 + 1) Wi276 ⟨by omega, by omega, (by first | exact w_0 | exact hc3 | exact hcl | exact CWI.fr hcl (by assumption) ext.rf hWl h_x (by decide +kernel) (by decide +kernel) (by decide +kernel) | exact CWI.put (kd := (0, 9)) (j := 8) rw49 (by assumption) (by assumption) hWj h_x (by decide +kernel) (by decide +kernel) (by decide +kernel) (by decide +kernel)), trivial⟩ (by show (2147483647 - (i276 + 1)).toNat < (2147483647 - i276).toNat; omega)
                ·
                  refine GO.aload_n dX11_passWork_140 rfl rfl ?_
                  refine GO.iload dX11_passWork_141 rfl ?_
                  refine GO.callV (ci := 10) (N := mX11_goDown) dX11_passWork_143 (RX11, TX11, 20) rfl gV_RX11_470 h_x (t_X11_goDown h_x r_i276) rfl [] rfl rfl (Nat.le_of_ble_eq_true rfl) rfl (k_vs fun V390 h389 hF388 => ?_)
                  refine GO.iinc (X := i276) (n := 1) (Y := i276 + 1) (ls1 := [some (.ref x), some (ti p0), some (.ref o1), some (.ref o29), some (ti (i276 + 1))]) dX11_passWork_146 rfl rfl rfl rfl ?_
                  refine GO.goto (tgt := 114) dX11_passWork_149 (by decide) ?_
                  exact ih375 (i276 + 1) V390 ⟨by omega, by omega, (by first | exact w_0 | exact hc3 | exact hcl | exact CWI.fr hcl hF388 ext.rf hWl h_x (by decide +kernel) (by decide +kernel) (by decide +kernel) | exact CWI.put (kd := (0, 9)) (j := 8) rw49 (by assumption) (by assumption) hWj h_x (by decide +kernel) (by decide +kernel) (by decide +kernel) (by decide +kernel)), trivial⟩ (by show (2147483647 - (i276 + 1)).toNat < (2147483647 - i276).toNat; omega)
            ·
              refine GO.aload_n dX11_passWork_92 rfl rfl ?_
              refine GO.ifnull dX11_passWork_93 ?_
              refine GO.aload_n dX11_passWork_96 rfl rfl ?_
              refine GO.dup dX11_passWork_97 rfl ?_
              refine GO.getI h30 fl_RX11_464 rfl rfl dX11_passWork_98 (fun _ _ => ?_)
              refine GO.iconst dX11_passWork_101 ?_
              refine GO.iadd dX11_passWork_102 ?_
              refine GO.norm (fun z391 r392 hn393 => ?_)
              refine GO.putI h30 fp_RX11_464 rfl (by decide +kernel) r392 (r392).1 (r392).2 dX11_passWork_103 (fun V395 e394 => ?_)
              have hc2 : CWI K V395 x := by first | exact hc1 | exact CWI.put (kd := (0, 2)) (j := 1) hc1 (by assumption) e394 hWp h_x (by decide +kernel) (by decide +kernel) (by decide +kernel) (by decide +kernel)
              refine GO.useWT (fun hWq => ?_)
              refine GO.aload_n dX11_passWork_106 rfl rfl ?_
              refine GO.aload_n dX11_passWork_107 rfl rfl ?_
              refine GO.callV (ci := 10) (N := mX11_disturbNests) dX11_passWork_108 (RX11, TX11, 20) rfl gV_RX11_467 h_x (t_X11_disturbNests h_x h2) rfl [] rfl rfl (Nat.le_of_ble_eq_true rfl) rfl (k_vs fun V398 h397 hF396 => ?_)
              have hc3 := CWI.fr hc2 hF396 ext.rf hWq h_x (by decide +kernel) (by decide +kernel) (by decide +kernel)
              refine GO.iconst dX11_passWork_111 ?_
              refine GO.istore (ls1 := [some (.ref x), some (ti p0), some (.ref o1), some (.ref o29), some (ti 0)]) dX11_passWork_112 rfl rfl ?_
              refine GO.loop1 (fun i399 W => 0 ≤ i399 ∧ i399 ≤ 10 ∧ (CWI K W x) ∧ True) (fun i399 => [some (.ref x), some (ti p0), some (.ref o1), some (.ref o29), some (ti i399)]) (fun i399 W => (2147483647 - i399).toNat) 0 ⟨by omega, by omega, (by first | exact w_0 | exact hc3 | exact CWI.put (kd := (0, 9)) (j := 8) rw49 (by assumption) (by assumption) hWj h_x (by decide +kernel) (by decide +kernel) (by decide +kernel) (by decide +kernel)), trivial⟩ rfl (fun i399 Wi399 hp499 ih498 => ?_)
              obtain ⟨l_i399, u_i399, hcl, -⟩ := hp499
              have r_i399 : ir i399 := ⟨by omega, by omega⟩
              show GO mX11_passWork K V (VS K (fun V1 => (True) ∧ (CWI K V1 x))) K Wi399 0 0 114 [some (.ref x), some (ti p0), some (.ref o1), some (.ref o29), some (ti i399)] []
              refine GO.useWT (fun hWl => ?_)
              refine GO.iload dX11_passWork_114 rfl ?_
              refine GO.aload_n dX11_passWork_116 rfl rfl ?_
              refine GO.getR h_x fl_RX11_79 rfl rfl dX11_passWork_117 (fun hv501 h500 => ?_)
              refine GO.getI h500 fl_RX11_199_k29 rfl rfl dX11_passWork_120 (fun l502 u503 => ?_)
              refine GO.icmp_ge (tgt := 152) dX11_passWork_123 (by decide) r_i399 vi_ir (fun c504 => ?_) (fun c504 => ?_)
              ·
                exact GO.retv rfl rfl dX11_passWork_152 ⟨rfl, rfl, ⟨trivial, (by first | exact w_0 | exact hc3 | exact hcl | exact CWI.fr hcl (by assumption) ext.rf hWl h_x (by decide +kernel) (by decide +kernel) (by decide +kernel) | exact CWI.put (kd := (0, 9)) (j := 8) rw49 (by assumption) (by assumption) hWj h_x (by decide +kernel) (by decide +kernel) (by decide +kernel) (by decide +kernel))⟩⟩
              ·
                refine GO.aload_n dX11_passWork_126 rfl rfl ?_
                refine GO.getRaw h_x fl_RX11_79 hv501 dX11_passWork_127 ?_
                refine GO.iload dX11_passWork_130 rfl ?_
                refine GO.iconst dX11_passWork_132 ?_
                refine GO.callV (ci := 29) (N := mX8_get_k29) dX11_passWork_133 (RX8, TX8, 4) rfl gV_RX11_209 h500 (t_X8_get_k29 h500 r_i399 (ir_c rfl)) rfl [] rfl rfl (Nat.le_of_ble_eq_true rfl) rfl (k_ip fun X507 r508 h509 => ?_)
                refine GO.iload_n dX11_passWork_136 rfl rfl ?_
                refine GO.icmp_ne (tgt := 146) dX11_passWork_137 (by decide) r508 r_p0 (fun c510 => ?_) (fun c510 => ?_)
                ·
                  refine GO.iinc (X := i399) (n := 1) (Y := i399 + 1) (ls1 := [some (.ref x), some (ti p0), some (.ref o1), some (.ref o29), some (ti (i399 + 1))]) dX11_passWork_146 rfl rfl rfl rfl ?_
                  refine GO.goto (tgt := 114) dX11_passWork_149 (by decide) ?_
                  exact ih498 (i399 + 1) Wi399 ⟨by omega, by omega, (by first | exact w_0 | exact hc3 | exact hcl | exact CWI.fr hcl (by assumption) ext.rf hWl h_x (by decide +kernel) (by decide +kernel) (by decide +kernel) | exact CWI.put (kd := (0, 9)) (j := 8) rw49 (by assumption) (by assumption) hWj h_x (by decide +kernel) (by decide +kernel) (by decide +kernel) (by decide +kernel)), trivial⟩ (by show (2147483647 - (i399 + 1)).toNat < (2147483647 - i399).toNat; omega)
                ·
                  refine GO.aload_n dX11_passWork_140 rfl rfl ?_
                  refine GO.iload dX11_passWork_141 rfl ?_
                  refine GO.callV (ci := 10) (N := mX11_goDown) dX11_passWork_143 (RX11, TX11, 20) rfl gV_RX11_470 h_x (t_X11_goDown h_x r_i399) rfl [] rfl rfl (Nat.le_of_ble_eq_true rfl) rfl (k_vs fun V513 h512 hF511 => ?_)
                  refine GO.iinc (X := i399) (n := 1) (Y := i399 + 1) (ls1 := [some (.ref x), some (ti p0), some (.ref o1), some (.ref o29), some (ti (i399 + 1))]) dX11_passWork_146 rfl rfl rfl rfl ?_
                  refine GO.goto (tgt := 114) dX11_passWork_149 (by decide) ?_
                  exact ih498 (i399 + 1) V513 ⟨by omega, by omega, (by first | exact w_0 | exact hc3 | exact hcl | exact CWI.fr hcl hF511 ext.rf hWl h_x (by decide +kernel) (by decide +kernel) (by decide +kernel) | exact CWI.put (kd := (0, 9)) (j := 8) rw49 (by assumption) (by assumption) hWj h_x (by decide +kernel) (by decide +kernel) (by decide +kernel) (by decide +kernel)), trivial⟩ (by show (2147483647 - (i399 + 1)).toNat < (2147483647 - i399).toNat; omega)
        ·
          refine GO.aload_n dX11_passWork_55 rfl rfl ?_
          refine GO.dup dX11_passWork_56 rfl ?_
          refine GO.getI h2 fl_RX11_458 rfl rfl dX11_passWork_57 (fun _ _ => ?_)
          refine GO.iconst dX11_passWork_60 ?_
          refine GO.iadd dX11_passWork_61 ?_
          refine GO.norm (fun z514 r515 hn516 => ?_)
          refine GO.putI h2 fp_RX11_458 rfl (by decide +kernel) r515 (r515).1 (r515).2 dX11_passWork_62 (fun V518 e517 => ?_)
          exact GO.retv rfl rfl dX11_passWork_65 ⟨rfl, rfl, ⟨trivial, (by first | exact w_0 | exact CWI.put (kd := (0, 9)) (j := 8) rw49 (by assumption) e517 hWj h_x (by decide +kernel) (by decide +kernel) (by decide +kernel) (by decide +kernel))⟩⟩
      ·
        exact GO.retv rfl rfl dX11_passWork_38 ⟨rfl, rfl, ⟨trivial, (by first | exact w_0)⟩⟩
