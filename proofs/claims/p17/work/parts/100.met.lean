def mX11_plan : MRec := (RX11, cX11_plan, 6, (some .int), yX11_plan, 19, 425, 0, 0, 81970940129990826270037498196063608938722180687570871191296450614026318113302606882323462094524695321101324126160951711891456)
def mX11_planned : MRec := (RX11, cX11_planned, 5, (some .int), yX11_planned, 20, 450, 0, 0, 81970940129990826270037498196063608938722180687570871191296450614026318113302606882323462094524695321101324126160951711891456)
def mX8_isFull_k30 : MRec := (RX8, cX8_isFull, 1, (some .boolean), yX8_isFull, 0, 0, 0, 0, 0)
def mX8_put_k30 : MRec := (RX8, cX8_put, 6, (none : Option Jvm.ClassFile.FieldType), yX8_put, 0, 0, 0, 0, 21661481985318866090456360813617841433097164651373566993519371723551728967231450179999800047688590453885868835635965404913860608)
def mX8_append_k30 : MRec := (RX8, cX8_append, 7, (some .int), yX8_append, 1, 25, 0, 0, 612360413832167804618481300175204950565278972827733245154176943827040045811230262687120342191566637024086915148737654794120795056485256046682069139518047359476347064349325068964025621429139779444801536)
def mX11_report : MRec := (RX11, cX11_report, 5, (some .boolean), yX11_report, 2, 51, 0, 0, 612360413832167804618481300175204950565278972827733245154176943827040045811230262687120342191566637024086915148737654794120795056485256046682069139518047359476347064349325068964025621429139779444801536)
def mX8_get_k30 : MRec := (RX8, cX8_get, 5, (some .int), yX8_get, 0, 0, 0, 0, 0)
def mX11_known : MRec := (RX11, cX11_known, 9, (some .int), yX11_known, 2, 44, 0, 0, 0)
def mX11_firstWrong : MRec := (RX11, cX11_firstWrong, 5, (some .int), yX11_firstWrong, 3, 66, 0, 0, 0)
set_option maxHeartbeats 1000000 in
theorem t_X11_plan {K : Kmap} {V : Vmap} {x : Nat} {p0 : Int} {p1 : Int} {p2 : Int} (h_x : K x = some (0, 10)) (r_p0 : ir p0) (r_p1 : ir p1) (r_p2 : ir p2) : MC mX11_plan K V [.ref x, ti p0, ti p1, ti p2] (IS K (fun X V1 => True)) := by
  refine MC.start 2 (by decide +kernel) rfl rfl rfl (ls0 := [some (.ref x), some (ti p0), some (ti p1), some (ti p2), none, none]) rfl ?_
  refine GO.aload_n dX11_plan_0 rfl rfl ?_
  refine GO.iload_n dX11_plan_1 rfl rfl ?_
  refine GO.callV (ci := 10) (N := mX11_shipOf) dX11_plan_2 (RX11, TX11, 20) rfl gV_RX11_403 h_x (t_X11_shipOf h_x r_p0) rfl [] rfl rfl (Nat.le_of_ble_eq_true rfl) rfl (k_rp (fun h3 => ?_) (fun o1 h2 h3 => ?_))
  ·
    have rwn2 := h3.2
    have hn4 : SN V x → p0 < 0 ∨ vi V x 10 ≤ p0 := h3.2
    refine GO.astoreN (ls1 := [some (.ref x), some (ti p0), some (ti p1), some (ti p2), some (.null), none]) dX11_plan_5 rfl rfl ?_
    refine GO.aloadN dX11_plan_7 rfl ?_
    refine GO.ifnullN (tgt := 30) dX11_plan_9 (by decide) ?_
    refine GO.iconst dX11_plan_30 ?_
    exact GO.reti rfl rfl dX11_plan_31 ⟨rfl, _, rfl, (ir_c rfl), trivial⟩
  ·
    have hp5 : p0 ≥ 0 ∧ p0 < vi V x 10 := h3.1
    have rwp2 := h3.2
    have hq6 : o1 = vq V (vq V x 9) (p0).toNat := h3.2
    refine GO.astore (ls1 := [some (.ref x), some (ti p0), some (ti p1), some (ti p2), some (.ref o1), none]) dX11_plan_5 rfl rfl ?_
    refine GO.aload dX11_plan_7 rfl ?_
    refine GO.ifnull dX11_plan_9 ?_
    refine GO.iload_n dX11_plan_12 rfl rfl ?_
    refine GO.callS (N := mX11_isSea) dX11_plan_13 gS_RX11_394 (t_X11_isSea r_p1) rfl [] rfl rfl (Nat.le_of_ble_eq_true rfl) rfl (k_ip fun X7 r8 h9 => ?_)
    refine GO.if_eq (tgt := 30) dX11_plan_16 (by decide) r8 (fun c10 => ?_) (fun c10 => ?_)
    ·
      have q11 := h9.2.2 (by omega)
      refine GO.iconst dX11_plan_30 ?_
      exact GO.reti rfl rfl dX11_plan_31 ⟨rfl, _, rfl, (ir_c rfl), trivial⟩
    ·
      have q12 := h9.2.1 (by omega)
      refine GO.iload_n dX11_plan_19 rfl rfl ?_
      refine GO.iconst dX11_plan_20 ?_
      refine GO.sipush dX11_plan_21 rfl ?_
      refine GO.callS (N := mX11_between) dX11_plan_24 gS_RX11_112 (t_X11_between r_p2 (ir_c rfl) (ir_c rfl)) rfl [] rfl rfl (Nat.le_of_ble_eq_true rfl) rfl (k_ip fun X13 r14 h15 => ?_)
      refine GO.if_ne (tgt := 32) dX11_plan_27 (by decide) r14 (fun c16 => ?_) (fun c16 => ?_)
      ·
        have q17 := h15.2.1 (by omega)
        refine GO.aload_n dX11_plan_32 rfl rfl ?_
        refine GO.getR h_x fl_RX11_26 rfl rfl dX11_plan_33 (fun hv19 h18 => ?_)
        refine GO.getR h18 fl_RX11_593 rfl rfl dX11_plan_36 (fun hv21 h20 => ?_)
        refine GO.getI h20 fl_RX11_199_k24 rfl rfl dX11_plan_39 (fun l22 u23 => ?_)
        refine GO.if_eq (tgt := 60) dX11_plan_42 (by decide) vi_ir (fun c24 => ?_) (fun c24 => ?_)
        ·
          refine GO.iconst dX11_plan_60 ?_
          exact GO.reti rfl rfl dX11_plan_61 ⟨rfl, _, rfl, (ir_c rfl), trivial⟩
        ·
          refine GO.aload_n dX11_plan_45 rfl rfl ?_
          refine GO.getRaw h_x fl_RX11_26 hv19 dX11_plan_46 ?_
          refine GO.callV (ci := 5) (N := mX6_needs) dX11_plan_49 (RX6, TX6, 10) rfl gV_RX11_602 h18 (t_X6_needs h18) rfl [] rfl rfl (Nat.le_of_ble_eq_true rfl) rfl (k_ip fun X27 r28 h29 => ?_)
          refine GO.aload dX11_plan_52 rfl ?_
          refine GO.getI h2 fl_RX11_407 rfl rfl dX11_plan_54 (fun _ _ => ?_)
          refine GO.icmp_le (tgt := 62) dX11_plan_57 (by decide) r28 vi_ir (fun c30 => ?_) (fun c30 => ?_)
          ·
            refine GO.iload_n dX11_plan_62 rfl rfl ?_
            refine GO.aload_n dX11_plan_63 rfl rfl ?_
            refine GO.getR h_x fl_RX11_12 rfl rfl dX11_plan_64 (fun hv32 h31 => ?_)
            refine GO.getA (n := 4) h31 fl_RX11_400 rfl rfl rfl rfl dX11_plan_67 (fun hv34 h33 => ?_)
            refine GO.iload_n dX11_plan_70 rfl rfl ?_
            refine GO.callS (N := mX4_get) dX11_plan_71 gS_RX11_253 (t_X4_get rfl h33 r_p1) rfl [ti p2] rfl rfl (Nat.le_of_ble_eq_true rfl) rfl (k_ip fun X35 r36 h37 => ?_)
            have raw_get := h37.2
            have rw71 := h37.2
            refine GO.iadd dX11_plan_74 ?_
            refine GO.norm (fun z38 r39 hn40 => ?_)
            refine GO.istore (ls1 := [some (.ref x), some (ti p0), some (ti p1), some (ti p2), some (.ref o1), some (ti z38)]) dX11_plan_75 rfl rfl ?_
            refine GO.aload_n dX11_plan_77 rfl rfl ?_
            refine GO.getRaw h_x fl_RX11_26 hv19 dX11_plan_78 ?_
            refine GO.getI h18 fl_RX11_605 rfl rfl dX11_plan_81 (fun _ _ => ?_)
            refine GO.iload dX11_plan_84 rfl ?_
            refine GO.icmp_eq (tgt := 102) dX11_plan_86 (by decide) vi_ir r39 (fun c43 => ?_) (fun c43 => ?_)
            ·
              refine GO.aload_n dX11_plan_102 rfl rfl ?_
              refine GO.getRaw h_x fl_RX11_26 hv19 dX11_plan_103 ?_
              refine GO.getI h18 fl_RX11_614 rfl rfl dX11_plan_106 (fun _ _ => ?_)
              have q46 : -2147483648 ≤ vi V (vq V x 2) 9 ∧ vi V (vq V x 2) 9 ≤ 2147483647 := vi_ir
              exact GO.reti rfl rfl dX11_plan_109 ⟨rfl, _, rfl, vi_ir, trivial⟩
            ·
              refine GO.aload_n dX11_plan_89 rfl rfl ?_
              refine GO.callV (ci := 10) (N := mX11_measureLegs) dX11_plan_90 (RX11, TX11, 20) rfl gV_RX11_608 h_x (t_X11_measureLegs h_x) rfl [] rfl rfl (Nat.le_of_ble_eq_true rfl) rfl (k_vs fun V49 h48 hF47 => ?_)
              refine GO.aload_n dX11_plan_93 rfl rfl ?_
              refine GO.getRaw h_x fl_RX11_26 (Eq.trans (hF47 _ _ _ h_x h_x (by decide +kernel)) hv19) dX11_plan_94 ?_
              refine GO.iload dX11_plan_97 rfl ?_
              refine GO.callV (ci := 5) (N := mX6_seek) dX11_plan_99 (RX6, TX6, 10) rfl gV_RX11_611 h18 (t_X6_seek h18 r39) rfl [] rfl rfl (Nat.le_of_ble_eq_true rfl) rfl (k_vs fun V54 h53 hF52 => ?_)
              refine GO.aload_n dX11_plan_102 rfl rfl ?_
              refine GO.getRaw h_x fl_RX11_26 (Eq.trans (hF52 _ _ _ h_x h_x (by decide +kernel)) (Eq.trans (hF47 _ _ _ h_x h_x (by decide +kernel)) hv19)) dX11_plan_103 ?_
              refine GO.getI h18 fl_RX11_614 rfl rfl dX11_plan_106 (fun _ _ => ?_)
              have q57 : -2147483648 ≤ vi V54 (vq V x 2) 9 ∧ vi V54 (vq V x 2) 9 ≤ 2147483647 := vi_ir
              exact GO.reti rfl rfl dX11_plan_109 ⟨rfl, _, rfl, vi_ir, trivial⟩
          ·
            refine GO.iconst dX11_plan_60 ?_
            exact GO.reti rfl rfl dX11_plan_61 ⟨rfl, _, rfl, (ir_c rfl), trivial⟩
      ·
        have q58 := h15.2.2 (by omega)
        refine GO.iconst dX11_plan_30 ?_
        exact GO.reti rfl rfl dX11_plan_31 ⟨rfl, _, rfl, (ir_c rfl), trivial⟩

set_option maxHeartbeats 1000000 in
theorem t_X11_planned {K : Kmap} {V : Vmap} {x : Nat} {p0 : Int} {p1 : Int} {p2 : Int} {p3 : Int} (h_x : K x = some (0, 10)) (r_p0 : ir p0) (r_p1 : ir p1) (r_p2 : ir p2) (r_p3 : ir p3) : MC mX11_planned K V [.ref x, ti p0, ti p1, ti p2, ti p3] (IS K (fun X V1 => True)) := by
  refine MC.start 0 (by decide +kernel) rfl rfl rfl (ls0 := [some (.ref x), some (ti p0), some (ti p1), some (ti p2), some (ti p3)]) rfl ?_
  refine GO.aload_n dX11_planned_0 rfl rfl ?_
  refine GO.iload_n dX11_planned_1 rfl rfl ?_
  refine GO.iload_n dX11_planned_2 rfl rfl ?_
  refine GO.iload_n dX11_planned_3 rfl rfl ?_
  refine GO.callV (ci := 10) (N := mX11_plan) dX11_planned_4 (RX11, TX11, 20) rfl gV_RX11_617 h_x (t_X11_plan h_x r_p0 r_p1 r_p2) rfl [] rfl rfl (Nat.le_of_ble_eq_true rfl) rfl (k_is fun X1 V5 r2 h3 hF4 => ?_)
  refine GO.iconst dX11_planned_7 ?_
  refine GO.icmp_eq (tgt := 26) dX11_planned_8 (by decide) r2 (ir_c rfl) (fun c6 => ?_) (fun c6 => ?_)
  ·
    refine GO.iconst dX11_planned_26 ?_
    exact GO.reti rfl rfl dX11_planned_27 ⟨rfl, _, rfl, (ir_c rfl), trivial⟩
  ·
    refine GO.aload_n dX11_planned_11 rfl rfl ?_
    refine GO.getR h_x fl_RX11_26 rfl rfl dX11_planned_12 (fun hv8 h7 => ?_)
    refine GO.getR h7 fl_RX11_593 rfl rfl dX11_planned_15 (fun hv10 h9 => ?_)
    refine GO.iload dX11_planned_18 rfl ?_
    refine GO.callV (ci := 24) (N := mX8_has_k24) dX11_planned_20 (RX8, TX8, 4) rfl gV_RX11_431 h9 (t_X8_has_k24 h9 r_p3) rfl [] rfl rfl (Nat.le_of_ble_eq_true rfl) rfl (k_ip fun X11 r12 h13 => ?_)
    refine GO.if_ne (tgt := 28) dX11_planned_23 (by decide) r12 (fun c14 => ?_) (fun c14 => ?_)
    ·
      refine GO.aload_n dX11_planned_28 rfl rfl ?_
      refine GO.getRaw h_x fl_RX11_26 hv8 dX11_planned_29 ?_
      refine GO.getA (n := 8) h7 fl_RX11_620 rfl rfl rfl rfl dX11_planned_32 (fun hv18 h17 => ?_)
      refine GO.iload dX11_planned_35 rfl ?_
      refine GO.callS (N := mX4_get) dX11_planned_37 gS_RX11_253 (t_X4_get rfl h17 r_p3) rfl [] rfl rfl (Nat.le_of_ble_eq_true rfl) rfl (k_ip fun X19 r20 h21 => ?_)
      have raw_get := h21.2
      have rw37 := h21.2
      exact GO.reti rfl rfl dX11_planned_40 ⟨rfl, _, rfl, r20, trivial⟩
    ·
      refine GO.iconst dX11_planned_26 ?_
      exact GO.reti rfl rfl dX11_planned_27 ⟨rfl, _, rfl, (ir_c rfl), trivial⟩

set_option maxHeartbeats 1000000 in
theorem t_X8_isFull_k30 {K : Kmap} {V : Vmap} {x : Nat} (h_x : K x = some (0, 30)) : MC mX8_isFull_k30 K V [.ref x] (IP K V (fun X => (X = 0 ∨ X = 1) ∧ (X ≠ 0 → vi V x 3 ≥ 200) ∧ (X = 0 → vi V x 3 ≤ 199))) := by
  refine MC.start 0 (by decide +kernel) rfl rfl rfl (ls0 := [some (.ref x)]) rfl ?_
  refine GO.aload_n dX8_isFull_0 rfl rfl ?_
  refine GO.getI h_x fl_RX8_9_k30 rfl rfl dX8_isFull_1 (fun l1 u2 => ?_)
  refine GO.aload_n dX8_isFull_4 rfl rfl ?_
  refine GO.getI h_x fl_RX8_18_k30 rfl rfl dX8_isFull_5 (fun l3 u4 => ?_)
  refine GO.icmp_lt (tgt := 15) dX8_isFull_8 (by decide) vi_ir vi_ir (fun c5 => ?_) (fun c5 => ?_)
  ·
    refine GO.iconst dX8_isFull_15 ?_
    exact GO.retz rfl rfl dX8_isFull_16 (Or.inl rfl) ⟨rfl, rfl, _, rfl, (ir_c rfl), ⟨Or.inl rfl, fun h => absurd rfl h, fun h => by omega⟩⟩
  ·
    refine GO.iconst dX8_isFull_11 ?_
    refine GO.goto (tgt := 16) dX8_isFull_12 (by decide) ?_
    exact GO.retz rfl rfl dX8_isFull_16 (Or.inr rfl) ⟨rfl, rfl, _, rfl, (ir_c rfl), ⟨Or.inr rfl, fun h => by omega, fun h => absurd h (by decide)⟩⟩

set_option maxHeartbeats 1000000 in
theorem t_X8_put_k30 {K : Kmap} {V : Vmap} {x : Nat} {p0 : Int} {p1 : Int} {p2 : Int} (h_x : K x = some (0, 30)) (r_p0 : ir p0) (r_p1 : ir p1) (r_p2 : ir p2) : MC mX8_put_k30 K V [.ref x, ti p0, ti p1, ti p2] (VS K (fun V1 => (True))) := by
  refine MC.start 2 (by decide +kernel) rfl rfl rfl (ls0 := [some (.ref x), some (ti p0), some (ti p1), some (ti p2), none, none]) rfl ?_
  refine GO.iload_n dX8_put_0 rfl rfl ?_
  refine GO.aload_n dX8_put_1 rfl rfl ?_
  refine GO.getI h_x fl_RX8_15_k30 rfl rfl dX8_put_2 (fun l1 u2 => ?_)
  refine GO.imul dX8_put_5 ?_
  refine GO.norm (fun z3 r4 hn5 => ?_)
  refine GO.iload_n dX8_put_6 rfl rfl ?_
  refine GO.iadd dX8_put_7 ?_
  refine GO.norm (fun z6 r7 hn8 => ?_)
  refine GO.istore (ls1 := [some (.ref x), some (ti p0), some (ti p1), some (ti p2), some (ti z6), none]) dX8_put_8 rfl rfl ?_
  refine GO.iload_n dX8_put_10 rfl rfl ?_
  have hj18 : ∀ (z17 : Int), ∀ (l19 : 0 ≤ z17), ∀ (u20 : z17 ≤ 1), GO mX8_put_k30 K V (VS K (fun V1 => (True))) K V 0 0 39 [some (.ref x), some (ti p0), some (ti p1), some (ti p2), some (ti z6), none] [ti z17] := by
    intro z17 l19 u20
    have r21 : ir z17 := ⟨by omega, by omega⟩
    refine GO.istore (ls1 := [some (.ref x), some (ti p0), some (ti p1), some (ti p2), some (ti z6), some (ti z17)]) dX8_put_39 rfl rfl ?_
    refine GO.iload dX8_put_41 rfl ?_
    refine GO.if_eq (tgt := 69) dX8_put_43 (by decide) r21 (fun c22 => ?_) (fun c22 => ?_)
    ·
      exact GO.retv rfl rfl dX8_put_69 ⟨rfl, rfl, trivial⟩
    ·
      refine GO.iload dX8_put_46 rfl ?_
      refine GO.if_lt (tgt := 69) dX8_put_48 (by decide) r7 (fun c23 => ?_) (fun c23 => ?_)
      ·
        exact GO.retv rfl rfl dX8_put_69 ⟨rfl, rfl, trivial⟩
      ·
        refine GO.iload dX8_put_51 rfl ?_
        refine GO.aload_n dX8_put_53 rfl rfl ?_
        refine GO.getA (n := 1000) h_x fl_RX8_27_k30 rfl rfl rfl rfl dX8_put_54 (fun hv25 h24 => ?_)
        refine GO.alen h24 dX8_put_57 (fun h26 => ?_)
        refine GO.icmp_ge (tgt := 69) dX8_put_58 (by decide) r7 ⟨by omega, by omega⟩ (fun c27 => ?_) (fun c27 => ?_)
        ·
          exact GO.retv rfl rfl dX8_put_69 ⟨rfl, rfl, trivial⟩
        ·
          refine GO.aload_n dX8_put_61 rfl rfl ?_
          refine GO.getRaw h_x fl_RX8_27_k30 hv25 dX8_put_62 ?_
          refine GO.iload dX8_put_65 rfl ?_
          refine GO.iload_n dX8_put_67 rfl rfl ?_
          have q30 : -2147483648 ≤ z6 ∧ z6 ≤ 2147483647 := r7
          refine GO.iast (t := 152) rfl rfl (by decide +kernel) h24 r7 (by omega) (by omega) r_p2 (r_p2).1 (r_p2).2 dX8_put_68 (fun V32 e31 => ?_)
          exact GO.retv rfl rfl dX8_put_69 ⟨rfl, rfl, trivial⟩
  have hj41 : GO mX8_put_k30 K V (VS K (fun V1 => (True))) K V 0 0 38 [some (.ref x), some (ti p0), some (ti p1), some (ti p2), some (ti z6), none] [] := by
    skip
    refine GO.iconst dX8_put_38 ?_
    exact hj18 0 (by omega) (by omega)
  refine GO.if_lt (tgt := 38) dX8_put_11 (by decide) r_p0 (fun c42 => ?_) (fun c42 => ?_)
  ·
    exact hj41 
  ·
    refine GO.iload_n dX8_put_14 rfl rfl ?_
    refine GO.aload_n dX8_put_15 rfl rfl ?_
    refine GO.getI h_x fl_RX8_9_k30 rfl rfl dX8_put_16 (fun l43 u44 => ?_)
    refine GO.icmp_ge (tgt := 38) dX8_put_19 (by decide) r_p0 vi_ir (fun c45 => ?_) (fun c45 => ?_)
    ·
      exact hj41 
    ·
      refine GO.iload_n dX8_put_22 rfl rfl ?_
      refine GO.if_lt (tgt := 38) dX8_put_23 (by decide) r_p1 (fun c46 => ?_) (fun c46 => ?_)
      ·
        exact hj41 
      ·
        refine GO.iload_n dX8_put_26 rfl rfl ?_
        refine GO.aload_n dX8_put_27 rfl rfl ?_
        refine GO.getI h_x fl_RX8_15_k30 rfl rfl dX8_put_28 (fun l47 u48 => ?_)
        refine GO.icmp_ge (tgt := 38) dX8_put_31 (by decide) r_p1 vi_ir (fun c49 => ?_) (fun c49 => ?_)
        ·
          exact hj41 
        ·
          refine GO.iconst dX8_put_34 ?_
          refine GO.goto (tgt := 39) dX8_put_35 (by decide) ?_
          exact hj18 1 (by omega) (by omega)

set_option maxHeartbeats 1000000 in
theorem t_X8_append_k30 {K : Kmap} {V : Vmap} {x : Nat} {p0 : Int} {p1 : Int} {p2 : Int} {p3 : Int} {p4 : Int} (h_x : K x = some (0, 30)) (r_p0 : ir p0) (r_p1 : ir p1) (r_p2 : ir p2) (r_p3 : ir p3) (r_p4 : ir p4) : MC mX8_append_k30 K V [.ref x, ti p0, ti p1, ti p2, ti p3, ti p4] (IS K (fun X V1 => True)) := by
  refine MC.start 1 (by decide +kernel) rfl rfl rfl (ls0 := [some (.ref x), some (ti p0), some (ti p1), some (ti p2), some (ti p3), some (ti p4), none]) rfl ?_
  refine GO.aload_n dX8_append_0 rfl rfl ?_
  refine GO.callV (ci := 30) (N := mX8_isFull_k30) dX8_append_1 (RX8, TX8, 4) rfl gV_RX8_31 h_x (t_X8_isFull_k30 h_x) rfl [] rfl rfl (Nat.le_of_ble_eq_true rfl) rfl (k_ip fun X1 r2 h3 => ?_)
  refine GO.if_eq (tgt := 9) dX8_append_4 (by decide) r2 (fun c4 => ?_) (fun c4 => ?_)
  ·
    have q5 := h3.2.2 (by omega)
    refine GO.aload_n dX8_append_9 rfl rfl ?_
    refine GO.getI h_x fl_RX8_9_k30 rfl rfl dX8_append_10 (fun l6 u7 => ?_)
    refine GO.name (fun z8 hz9 => ?_)
    have r10 : ir z8 := hz9 ▸ vi_ir
    refine GO.istore (ls1 := [some (.ref x), some (ti p0), some (ti p1), some (ti p2), some (ti p3), some (ti p4), some (ti z8)]) dX8_append_13 rfl rfl ?_
    refine GO.aload_n dX8_append_15 rfl rfl ?_
    refine GO.dup dX8_append_16 rfl ?_
    refine GO.getI h_x fl_RX8_9_k30 rfl rfl dX8_append_17 (fun l11 u12 => ?_)
    refine GO.iconst dX8_append_20 ?_
    refine GO.iadd dX8_append_21 ?_
    have q14 : -2147483648 ≤ vi V x 3 ∧ vi V x 3 ≤ 2147483647 := vi_ir
    have q15 : -2147483648 ≤ z8 ∧ z8 ≤ 2147483647 := r10
    refine GO.putI h_x fp_RX8_9_k30 rfl (by decide +kernel) ⟨by omega, by omega⟩ (by omega) (by omega) dX8_append_22 (fun V16 e13 => ?_)
    refine GO.aload_n dX8_append_25 rfl rfl ?_
    refine GO.iload dX8_append_26 rfl ?_
    refine GO.iconst dX8_append_28 ?_
    refine GO.iload_n dX8_append_29 rfl rfl ?_
    refine GO.callV (ci := 30) (N := mX8_put_k30) dX8_append_30 (RX8, TX8, 4) rfl gV_RX8_35 h_x (t_X8_put_k30 h_x r10 (ir_c rfl) r_p0) rfl [] rfl rfl (Nat.le_of_ble_eq_true rfl) rfl (k_vs fun V19 h18 hF17 => ?_)
    refine GO.aload_n dX8_append_33 rfl rfl ?_
    refine GO.iload dX8_append_34 rfl ?_
    refine GO.iconst dX8_append_36 ?_
    refine GO.iload_n dX8_append_37 rfl rfl ?_
    refine GO.callV (ci := 30) (N := mX8_put_k30) dX8_append_38 (RX8, TX8, 4) rfl gV_RX8_35 h_x (t_X8_put_k30 h_x r10 (ir_c rfl) r_p1) rfl [] rfl rfl (Nat.le_of_ble_eq_true rfl) rfl (k_vs fun V22 h21 hF20 => ?_)
    refine GO.aload_n dX8_append_41 rfl rfl ?_
    refine GO.iload dX8_append_42 rfl ?_
    refine GO.iconst dX8_append_44 ?_
    refine GO.iload_n dX8_append_45 rfl rfl ?_
    refine GO.callV (ci := 30) (N := mX8_put_k30) dX8_append_46 (RX8, TX8, 4) rfl gV_RX8_35 h_x (t_X8_put_k30 h_x r10 (ir_c rfl) r_p2) rfl [] rfl rfl (Nat.le_of_ble_eq_true rfl) rfl (k_vs fun V25 h24 hF23 => ?_)
    refine GO.aload_n dX8_append_49 rfl rfl ?_
    refine GO.iload dX8_append_50 rfl ?_
    refine GO.iconst dX8_append_52 ?_
    refine GO.iload dX8_append_53 rfl ?_
    refine GO.callV (ci := 30) (N := mX8_put_k30) dX8_append_55 (RX8, TX8, 4) rfl gV_RX8_35 h_x (t_X8_put_k30 h_x r10 (ir_c rfl) r_p3) rfl [] rfl rfl (Nat.le_of_ble_eq_true rfl) rfl (k_vs fun V28 h27 hF26 => ?_)
    refine GO.aload_n dX8_append_58 rfl rfl ?_
    refine GO.iload dX8_append_59 rfl ?_
    refine GO.iconst dX8_append_61 ?_
    refine GO.iload dX8_append_62 rfl ?_
    refine GO.callV (ci := 30) (N := mX8_put_k30) dX8_append_64 (RX8, TX8, 4) rfl gV_RX8_35 h_x (t_X8_put_k30 h_x r10 (ir_c rfl) r_p4) rfl [] rfl rfl (Nat.le_of_ble_eq_true rfl) rfl (k_vs fun V31 h30 hF29 => ?_)
    refine GO.iload dX8_append_67 rfl ?_
    exact GO.reti rfl rfl dX8_append_69 ⟨rfl, _, rfl, r10, trivial⟩
  ·
    have q32 := h3.2.1 (by omega)
    refine GO.iconst dX8_append_7 ?_
    exact GO.reti rfl rfl dX8_append_8 ⟨rfl, _, rfl, (ir_c rfl), trivial⟩

set_option maxHeartbeats 1000000 in
theorem t_X11_report {K : Kmap} {V : Vmap} {x : Nat} {p0 : Int} {p1 : Int} {p2 : Int} {p3 : Int} (h_x : K x = some (0, 10)) (r_p0 : ir p0) (r_p1 : ir p1) (r_p2 : ir p2) (r_p3 : ir p3) (z_p3 : p3 = 0 ∨ p3 = 1) : MC mX11_report K V [.ref x, ti p0, ti p1, ti p2, ti p3] (IS K (fun X V1 => (X = 0 ∨ X = 1) ∧ (X ≠ 0 → True) ∧ (X = 0 → True))) := by
  refine MC.start 0 (by decide +kernel) rfl rfl rfl (ls0 := [some (.ref x), some (ti p0), some (ti p1), some (ti p2), some (ti p3)]) rfl ?_
  refine GO.aload_n dX11_report_0 rfl rfl ?_
  refine GO.iload_n dX11_report_1 rfl rfl ?_
  refine GO.iconst dX11_report_2 ?_
  refine GO.callV (ci := 10) (N := mX11_placeOf) dX11_report_3 (RX11, TX11, 20) rfl gV_RX11_169 h_x (t_X11_placeOf h_x r_p0 (ir_c rfl)) rfl [] rfl rfl (Nat.le_of_ble_eq_true rfl) rfl (k_rp (fun h3 => ?_) (fun o1 h2 h3 => ?_))
  ·
    refine GO.ifnullN (tgt := 24) dX11_report_6 (by decide) ?_
    refine GO.iconst dX11_report_24 ?_
    exact GO.retz rfl rfl dX11_report_25 (Or.inl rfl) ⟨rfl, _, rfl, (ir_c rfl), ⟨Or.inl rfl, fun _ => trivial, fun _ => trivial⟩⟩
  ·
    refine GO.ifnull dX11_report_6 ?_
    refine GO.iload_n dX11_report_9 rfl rfl ?_
    refine GO.iconst dX11_report_10 ?_
    refine GO.aload_n dX11_report_11 rfl rfl ?_
    refine GO.getR h_x fl_RX11_12 rfl rfl dX11_report_12 (fun hv5 h4 => ?_)
    refine GO.getI h4 fl_RX11_145 rfl rfl dX11_report_15 (fun l6 u7 => ?_)
    refine GO.callS (N := mX11_between) dX11_report_18 gS_RX11_112 (t_X11_between r_p1 (ir_c rfl) vi_ir) rfl [] rfl rfl (Nat.le_of_ble_eq_true rfl) rfl (k_ip fun X8 r9 h10 => ?_)
    refine GO.if_ne (tgt := 26) dX11_report_21 (by decide) r9 (fun c11 => ?_) (fun c11 => ?_)
    ·
      have q12 := h10.2.1 (by omega)
      refine GO.iload dX11_report_26 rfl ?_
      have hj20 : GO mX11_report K V (IS K (fun X V1 => (X = 0 ∨ X = 1) ∧ (X ≠ 0 → True) ∧ (X = 0 → True))) K V 0 0 46 [some (.ref x), some (ti p0), some (ti p1), some (ti p2), some (ti p3)] [] := by
        skip
        refine GO.aload_n dX11_report_46 rfl rfl ?_
        refine GO.getR h_x fl_RX11_85 rfl rfl dX11_report_47 (fun hv22 h21 => ?_)
        refine GO.iload_n dX11_report_50 rfl rfl ?_
        refine GO.iload_n dX11_report_51 rfl rfl ?_
        refine GO.iload_n dX11_report_52 rfl rfl ?_
        refine GO.iload dX11_report_53 rfl ?_
        refine GO.if_eq (tgt := 62) dX11_report_55 (by decide) r_p3 (fun c23 => ?_) (fun c23 => ?_)
        ·
          refine GO.iconst dX11_report_62 ?_
          refine GO.aload_n dX11_report_63 rfl rfl ?_
          refine GO.getRaw h_x fl_RX11_12 hv5 dX11_report_64 ?_
          refine GO.getI h4 fl_RX11_145 rfl rfl dX11_report_67 (fun l26 u27 => ?_)
          refine GO.callV (ci := 30) (N := mX8_append_k30) dX11_report_70 (RX8, TX8, 4) rfl gV_RX11_205 h21 (t_X8_append_k30 h21 r_p0 r_p1 r_p2 (ir_c rfl) vi_ir) rfl [] rfl rfl (Nat.le_of_ble_eq_true rfl) rfl (k_is fun X28 V32 r29 h30 hF31 => ?_)
          refine GO.iconst dX11_report_73 ?_
          refine GO.icmp_eq (tgt := 81) dX11_report_74 (by decide) r29 (ir_c rfl) (fun c33 => ?_) (fun c33 => ?_)
          ·
            refine GO.iconst dX11_report_81 ?_
            exact GO.retz rfl rfl dX11_report_82 (Or.inl rfl) ⟨rfl, _, rfl, (ir_c rfl), ⟨Or.inl rfl, fun _ => trivial, fun _ => trivial⟩⟩
          ·
            refine GO.iconst dX11_report_77 ?_
            refine GO.goto (tgt := 82) dX11_report_78 (by decide) ?_
            exact GO.retz rfl rfl dX11_report_82 (Or.inr rfl) ⟨rfl, _, rfl, (ir_c rfl), ⟨Or.inr rfl, fun _ => trivial, fun _ => trivial⟩⟩
        ·
          refine GO.iconst dX11_report_58 ?_
          refine GO.goto (tgt := 63) dX11_report_59 (by decide) ?_
          refine GO.aload_n dX11_report_63 rfl rfl ?_
          refine GO.getRaw h_x fl_RX11_12 hv5 dX11_report_64 ?_
          refine GO.getI h4 fl_RX11_145 rfl rfl dX11_report_67 (fun l36 u37 => ?_)
          refine GO.callV (ci := 30) (N := mX8_append_k30) dX11_report_70 (RX8, TX8, 4) rfl gV_RX11_205 h21 (t_X8_append_k30 h21 r_p0 r_p1 r_p2 (ir_c rfl) vi_ir) rfl [] rfl rfl (Nat.le_of_ble_eq_true rfl) rfl (k_is fun X38 V42 r39 h40 hF41 => ?_)
          refine GO.iconst dX11_report_73 ?_
          refine GO.icmp_eq (tgt := 81) dX11_report_74 (by decide) r39 (ir_c rfl) (fun c43 => ?_) (fun c43 => ?_)
          ·
            refine GO.iconst dX11_report_81 ?_
            exact GO.retz rfl rfl dX11_report_82 (Or.inl rfl) ⟨rfl, _, rfl, (ir_c rfl), ⟨Or.inl rfl, fun _ => trivial, fun _ => trivial⟩⟩
          ·
            refine GO.iconst dX11_report_77 ?_
            refine GO.goto (tgt := 82) dX11_report_78 (by decide) ?_
            exact GO.retz rfl rfl dX11_report_82 (Or.inr rfl) ⟨rfl, _, rfl, (ir_c rfl), ⟨Or.inr rfl, fun _ => trivial, fun _ => trivial⟩⟩
      refine GO.if_eq (tgt := 46) dX11_report_28 (by decide) r_p3 (fun c44 => ?_) (fun c44 => ?_)
      ·
        exact hj20 
      ·
        refine GO.iload_n dX11_report_31 rfl rfl ?_
        refine GO.sipush dX11_report_32 rfl ?_
        refine GO.ldcw (X := 1000000) dX11_report_35 gw_1159 rfl ?_
        refine GO.callS (N := mX11_between) dX11_report_38 gS_RX11_112 (t_X11_between r_p2 (ir_c rfl) (ir_c rfl)) rfl [] rfl rfl (Nat.le_of_ble_eq_true rfl) rfl (k_ip fun X45 r46 h47 => ?_)
        refine GO.if_ne (tgt := 46) dX11_report_41 (by decide) r46 (fun c48 => ?_) (fun c48 => ?_)
        ·
          have q49 := h47.2.1 (by omega)
          exact hj20 
        ·
          have q50 := h47.2.2 (by omega)
          refine GO.iconst dX11_report_44 ?_
          exact GO.retz rfl rfl dX11_report_45 (Or.inl rfl) ⟨rfl, _, rfl, (ir_c rfl), ⟨Or.inl rfl, fun _ => trivial, fun _ => trivial⟩⟩
    ·
      have q51 := h10.2.2 (by omega)
      refine GO.iconst dX11_report_24 ?_
      exact GO.retz rfl rfl dX11_report_25 (Or.inl rfl) ⟨rfl, _, rfl, (ir_c rfl), ⟨Or.inl rfl, fun _ => trivial, fun _ => trivial⟩⟩

set_option maxHeartbeats 1000000 in
theorem t_X8_get_k30 {K : Kmap} {V : Vmap} {x : Nat} {p0 : Int} {p1 : Int} (h_x : K x = some (0, 30)) (r_p0 : ir p0) (r_p1 : ir p1) : MC mX8_get_k30 K V [.ref x, ti p0, ti p1] (IP K V (fun X => True)) := by
  refine MC.start 2 (by decide +kernel) rfl rfl rfl (ls0 := [some (.ref x), some (ti p0), some (ti p1), none, none]) rfl ?_
  refine GO.iload_n dX8_get_0 rfl rfl ?_
  refine GO.aload_n dX8_get_1 rfl rfl ?_
  refine GO.getI h_x fl_RX8_15_k30 rfl rfl dX8_get_2 (fun l1 u2 => ?_)
  refine GO.imul dX8_get_5 ?_
  refine GO.norm (fun z3 r4 hn5 => ?_)
  refine GO.iload_n dX8_get_6 rfl rfl ?_
  refine GO.iadd dX8_get_7 ?_
  refine GO.norm (fun z6 r7 hn8 => ?_)
  refine GO.istore_n (ls1 := [some (.ref x), some (ti p0), some (ti p1), some (ti z6), none]) dX8_get_8 rfl rfl rfl ?_
  refine GO.iload_n dX8_get_9 rfl rfl ?_
  have hj18 : ∀ (z17 : Int), ∀ (l19 : 0 ≤ z17), ∀ (u20 : z17 ≤ 1), GO mX8_get_k30 K V (IP K V (fun X => True)) K V 0 0 38 [some (.ref x), some (ti p0), some (ti p1), some (ti z6), none] [ti z17] := by
    intro z17 l19 u20
    have r21 : ir z17 := ⟨by omega, by omega⟩
    refine GO.istore (ls1 := [some (.ref x), some (ti p0), some (ti p1), some (ti z6), some (ti z17)]) dX8_get_38 rfl rfl ?_
    refine GO.iload dX8_get_40 rfl ?_
    refine GO.if_eq (tgt := 67) dX8_get_42 (by decide) r21 (fun c22 => ?_) (fun c22 => ?_)
    ·
      refine GO.iconst dX8_get_67 ?_
      exact GO.reti rfl rfl dX8_get_68 ⟨rfl, rfl, _, rfl, (ir_c rfl), trivial⟩
    ·
      refine GO.iload_n dX8_get_45 rfl rfl ?_
      refine GO.if_lt (tgt := 67) dX8_get_46 (by decide) r7 (fun c23 => ?_) (fun c23 => ?_)
      ·
        refine GO.iconst dX8_get_67 ?_
        exact GO.reti rfl rfl dX8_get_68 ⟨rfl, rfl, _, rfl, (ir_c rfl), trivial⟩
      ·
        refine GO.iload_n dX8_get_49 rfl rfl ?_
        refine GO.aload_n dX8_get_50 rfl rfl ?_
        refine GO.getA (n := 1000) h_x fl_RX8_27_k30 rfl rfl rfl rfl dX8_get_51 (fun hv25 h24 => ?_)
        refine GO.alen h24 dX8_get_54 (fun h26 => ?_)
        refine GO.icmp_ge (tgt := 67) dX8_get_55 (by decide) r7 ⟨by omega, by omega⟩ (fun c27 => ?_) (fun c27 => ?_)
        ·
          refine GO.iconst dX8_get_67 ?_
          exact GO.reti rfl rfl dX8_get_68 ⟨rfl, rfl, _, rfl, (ir_c rfl), trivial⟩
        ·
          refine GO.aload_n dX8_get_58 rfl rfl ?_
          refine GO.getRaw h_x fl_RX8_27_k30 hv25 dX8_get_59 ?_
          refine GO.iload_n dX8_get_62 rfl rfl ?_
          have q30 : -2147483648 ≤ z6 ∧ z6 ≤ 2147483647 := r7
          refine GO.iald (t := 152) rfl rfl h24 r7 (by omega) (by omega) dX8_get_63 (fun _ _ => ?_)
          refine GO.goto (tgt := 68) dX8_get_64 (by decide) ?_
          have q31 : -2147483648 ≤ vi V (vq V x 2) (z6).toNat ∧ vi V (vq V x 2) (z6).toNat ≤ 2147483647 := vi_ir
          exact GO.reti rfl rfl dX8_get_68 ⟨rfl, rfl, _, rfl, vi_ir, trivial⟩
  have hj40 : GO mX8_get_k30 K V (IP K V (fun X => True)) K V 0 0 37 [some (.ref x), some (ti p0), some (ti p1), some (ti z6), none] [] := by
    skip
    refine GO.iconst dX8_get_37 ?_
    exact hj18 0 (by omega) (by omega)
  refine GO.if_lt (tgt := 37) dX8_get_10 (by decide) r_p0 (fun c41 => ?_) (fun c41 => ?_)
  ·
    exact hj40 
  ·
    refine GO.iload_n dX8_get_13 rfl rfl ?_
    refine GO.aload_n dX8_get_14 rfl rfl ?_
    refine GO.getI h_x fl_RX8_9_k30 rfl rfl dX8_get_15 (fun l42 u43 => ?_)
    refine GO.icmp_ge (tgt := 37) dX8_get_18 (by decide) r_p0 vi_ir (fun c44 => ?_) (fun c44 => ?_)
    ·
      exact hj40 
    ·
      refine GO.iload_n dX8_get_21 rfl rfl ?_
      refine GO.if_lt (tgt := 37) dX8_get_22 (by decide) r_p1 (fun c45 => ?_) (fun c45 => ?_)
      ·
        exact hj40 
      ·
        refine GO.iload_n dX8_get_25 rfl rfl ?_
        refine GO.aload_n dX8_get_26 rfl rfl ?_
        refine GO.getI h_x fl_RX8_15_k30 rfl rfl dX8_get_27 (fun l46 u47 => ?_)
        refine GO.icmp_ge (tgt := 37) dX8_get_30 (by decide) r_p1 vi_ir (fun c48 => ?_) (fun c48 => ?_)
        ·
          exact hj40 
        ·
          refine GO.iconst dX8_get_33 ?_
          refine GO.goto (tgt := 38) dX8_get_34 (by decide) ?_
          exact hj18 1 (by omega) (by omega)

set_option maxHeartbeats 1000000 in
theorem t_X11_known {K : Kmap} {V : Vmap} {x : Nat} {p0 : Int} {p1 : Int} {p2 : Int} (h_x : K x = some (0, 10)) (r_p0 : ir p0) (r_p1 : ir p1) (r_p2 : ir p2) : MC mX11_known K V [.ref x, ti p0, ti p1, ti p2] (IP K V (fun X => True)) := by
  refine MC.start 5 (by decide +kernel) rfl rfl rfl (ls0 := [some (.ref x), some (ti p0), some (ti p1), some (ti p2), none, none, none, none, none]) rfl ?_
  refine GO.aload_n dX11_known_0 rfl rfl ?_
  refine GO.iload_n dX11_known_1 rfl rfl ?_
  refine GO.iconst dX11_known_2 ?_
  refine GO.callV (ci := 10) (N := mX11_placeOf) dX11_known_3 (RX11, TX11, 20) rfl gV_RX11_169 h_x (t_X11_placeOf h_x r_p0 (ir_c rfl)) rfl [] rfl rfl (Nat.le_of_ble_eq_true rfl) rfl (k_rp (fun h3 => ?_) (fun o1 h2 h3 => ?_))
  ·
    refine GO.ifnullN (tgt := 23) dX11_known_6 (by decide) ?_
    refine GO.ldcw (X := (-1000001)) dX11_known_23 gw_1426 rfl ?_
    exact GO.reti rfl rfl dX11_known_26 ⟨rfl, rfl, _, rfl, (ir_c rfl), trivial⟩
  ·
    refine GO.ifnull dX11_known_6 ?_
    refine GO.iload_n dX11_known_9 rfl rfl ?_
    refine GO.callS (N := mX11_isDay) dX11_known_10 gS_RX11_276 (t_X11_isDay r_p1) rfl [] rfl rfl (Nat.le_of_ble_eq_true rfl) rfl (k_ip fun X4 r5 h6 => ?_)
    refine GO.if_eq (tgt := 23) dX11_known_13 (by decide) r5 (fun c7 => ?_) (fun c7 => ?_)
    ·
      have q8 := h6.2.2 (by omega)
      refine GO.ldcw (X := (-1000001)) dX11_known_23 gw_1426 rfl ?_
      exact GO.reti rfl rfl dX11_known_26 ⟨rfl, rfl, _, rfl, (ir_c rfl), trivial⟩
    ·
      have q9 := h6.2.1 (by omega)
      refine GO.iload_n dX11_known_16 rfl rfl ?_
      refine GO.callS (N := mX11_isDay) dX11_known_17 gS_RX11_276 (t_X11_isDay r_p2) rfl [] rfl rfl (Nat.le_of_ble_eq_true rfl) rfl (k_ip fun X10 r11 h12 => ?_)
      refine GO.if_ne (tgt := 27) dX11_known_20 (by decide) r11 (fun c13 => ?_) (fun c13 => ?_)
      ·
        have q14 := h12.2.1 (by omega)
        refine GO.iconst dX11_known_27 ?_
        refine GO.istore (ls1 := [some (.ref x), some (ti p0), some (ti p1), some (ti p2), some (ti (-1)), none, none, none, none]) dX11_known_28 rfl rfl ?_
        refine GO.iconst dX11_known_30 ?_
        refine GO.istore (ls1 := [some (.ref x), some (ti p0), some (ti p1), some (ti p2), some (ti (-1)), some (ti (-1)), none, none, none]) dX11_known_31 rfl rfl ?_
        refine GO.iconst dX11_known_33 ?_
        refine GO.istore (ls1 := [some (.ref x), some (ti p0), some (ti p1), some (ti p2), some (ti (-1)), some (ti (-1)), some (ti 0), none, none]) dX11_known_34 rfl rfl ?_
        refine GO.loop3 (fun i15 i16 i17 W => (-1) ≤ i15 ∧ i15 ≤ 199 ∧ (-1) ≤ i16 ∧ i16 ≤ 199 ∧ 0 ≤ i17 ∧ i17 ≤ 200 ∧ V = W) (fun i15 i16 i17 => [some (.ref x), some (ti p0), some (ti p1), some (ti p2), some (ti i15), some (ti i16), some (ti i17), none, none]) (fun i15 i16 i17 W => (2147483647 - i17).toNat) (-1) (-1) 0 ⟨by omega, by omega, by omega, by omega, by omega, by omega, rfl⟩ rfl (fun i15 i16 i17 V539 hp541 ih540 => ?_)
        obtain ⟨l_i15, u_i15, l_i16, u_i16, l_i17, u_i17, rfl⟩ := hp541
        have r_i15 : ir i15 := ⟨by omega, by omega⟩
        have r_i16 : ir i16 := ⟨by omega, by omega⟩
        have r_i17 : ir i17 := ⟨by omega, by omega⟩
        show GO mX11_known K V (IP K V (fun X => True)) K V 0 0 36 [some (.ref x), some (ti p0), some (ti p1), some (ti p2), some (ti i15), some (ti i16), some (ti i17), none, none] []
        refine GO.iload dX11_known_36 rfl ?_
        refine GO.aload_n dX11_known_38 rfl rfl ?_
        refine GO.getR h_x fl_RX11_85 rfl rfl dX11_known_39 (fun hv543 h542 => ?_)
        refine GO.getI h542 fl_RX11_199_k30 rfl rfl dX11_known_42 (fun l544 u545 => ?_)
        refine GO.icmp_ge (tgt := 176) dX11_known_45 (by decide) r_i17 vi_ir (fun c546 => ?_) (fun c546 => ?_)
        ·
          refine GO.iload dX11_known_176 rfl ?_
          refine GO.iconst dX11_known_178 ?_
          refine GO.icmp_eq (tgt := 187) dX11_known_179 (by decide) r_i15 (ir_c rfl) (fun c547 => ?_) (fun c547 => ?_)
          ·
            refine GO.iload dX11_known_187 rfl ?_
            refine GO.istore (ls1 := [some (.ref x), some (ti p0), some (ti p1), some (ti p2), some (ti i15), some (ti i16), some (ti i16), none, none]) dX11_known_189 rfl rfl ?_
            refine GO.iload dX11_known_191 rfl ?_
            refine GO.iconst dX11_known_193 ?_
            refine GO.icmp_ne (tgt := 203) dX11_known_194 (by decide) r_i16 (ir_c rfl) (fun c548 => ?_) (fun c548 => ?_)
            ·
              refine GO.aload_n dX11_known_203 rfl rfl ?_
              refine GO.getRaw h_x fl_RX11_85 hv543 dX11_known_204 ?_
              refine GO.iload dX11_known_207 rfl ?_
              refine GO.iconst dX11_known_209 ?_
              refine GO.callV (ci := 30) (N := mX8_get_k30) dX11_known_210 (RX8, TX8, 4) rfl gV_RX11_209 h542 (t_X8_get_k30 h542 r_i16 (ir_c rfl)) rfl [] rfl rfl (Nat.le_of_ble_eq_true rfl) rfl (k_ip fun X551 r552 h553 => ?_)
              have q554 : -2147483648 ≤ X551 ∧ X551 ≤ 2147483647 := r552
              exact GO.reti rfl rfl dX11_known_213 ⟨rfl, rfl, _, rfl, r552, trivial⟩
            ·
              refine GO.ldcw (X := (-1000001)) dX11_known_197 gw_1426 rfl ?_
              refine GO.goto (tgt := 213) dX11_known_200 (by decide) ?_
              exact GO.reti rfl rfl dX11_known_213 ⟨rfl, rfl, _, rfl, (ir_c rfl), trivial⟩
          ·
            refine GO.iload dX11_known_182 rfl ?_
            refine GO.goto (tgt := 189) dX11_known_184 (by decide) ?_
            refine GO.istore (ls1 := [some (.ref x), some (ti p0), some (ti p1), some (ti p2), some (ti i15), some (ti i16), some (ti i15), none, none]) dX11_known_189 rfl rfl ?_
            refine GO.iload dX11_known_191 rfl ?_
            refine GO.iconst dX11_known_193 ?_
            refine GO.icmp_ne (tgt := 203) dX11_known_194 (by decide) r_i15 (ir_c rfl) (fun c555 => ?_) (fun h => by exfalso; omega)
            refine GO.aload_n dX11_known_203 rfl rfl ?_
            refine GO.getRaw h_x fl_RX11_85 hv543 dX11_known_204 ?_
            refine GO.iload dX11_known_207 rfl ?_
            refine GO.iconst dX11_known_209 ?_
            refine GO.callV (ci := 30) (N := mX8_get_k30) dX11_known_210 (RX8, TX8, 4) rfl gV_RX11_209 h542 (t_X8_get_k30 h542 r_i15 (ir_c rfl)) rfl [] rfl rfl (Nat.le_of_ble_eq_true rfl) rfl (k_ip fun X558 r559 h560 => ?_)
            have q561 : -2147483648 ≤ X558 ∧ X558 ≤ 2147483647 := r559
            exact GO.reti rfl rfl dX11_known_213 ⟨rfl, rfl, _, rfl, r559, trivial⟩
        ·
          refine GO.aload_n dX11_known_48 rfl rfl ?_
          refine GO.getRaw h_x fl_RX11_85 hv543 dX11_known_49 ?_
          refine GO.iload dX11_known_52 rfl ?_
          refine GO.iconst dX11_known_54 ?_
          refine GO.callV (ci := 30) (N := mX8_get_k30) dX11_known_55 (RX8, TX8, 4) rfl gV_RX11_209 h542 (t_X8_get_k30 h542 r_i17 (ir_c rfl)) rfl [] rfl rfl (Nat.le_of_ble_eq_true rfl) rfl (k_ip fun X564 r565 h566 => ?_)
          refine GO.iload_n dX11_known_58 rfl rfl ?_
          refine GO.icmp_ne (tgt := 170) dX11_known_59 (by decide) r565 r_p0 (fun c567 => ?_) (fun c567 => ?_)
          ·
            refine GO.iinc (X := i17) (n := 1) (Y := i17 + 1) (ls1 := [some (.ref x), some (ti p0), some (ti p1), some (ti p2), some (ti i15), some (ti i16), some (ti (i17 + 1)), none, none]) dX11_known_170 rfl rfl rfl rfl ?_
            refine GO.goto (tgt := 36) dX11_known_173 (by decide) ?_
            exact ih540 i15 i16 (i17 + 1) V ⟨by omega, by omega, by omega, by omega, by omega, by omega, rfl⟩ (by show (2147483647 - (i17 + 1)).toNat < (2147483647 - i17).toNat; omega)
          ·
            refine GO.aload_n dX11_known_62 rfl rfl ?_
            refine GO.getRaw h_x fl_RX11_85 hv543 dX11_known_63 ?_
            refine GO.iload dX11_known_66 rfl ?_
            refine GO.iconst dX11_known_68 ?_
            refine GO.callV (ci := 30) (N := mX8_get_k30) dX11_known_69 (RX8, TX8, 4) rfl gV_RX11_209 h542 (t_X8_get_k30 h542 r_i17 (ir_c rfl)) rfl [] rfl rfl (Nat.le_of_ble_eq_true rfl) rfl (k_ip fun X570 r571 h572 => ?_)
            refine GO.iload_n dX11_known_72 rfl rfl ?_
            refine GO.icmp_le (tgt := 79) dX11_known_73 (by decide) r571 r_p2 (fun c573 => ?_) (fun c573 => ?_)
            ·
              refine GO.aload_n dX11_known_79 rfl rfl ?_
              refine GO.getRaw h_x fl_RX11_85 hv543 dX11_known_80 ?_
              refine GO.iload dX11_known_83 rfl ?_
              refine GO.iconst dX11_known_85 ?_
              refine GO.callV (ci := 30) (N := mX8_get_k30) dX11_known_86 (RX8, TX8, 4) rfl gV_RX11_209 h542 (t_X8_get_k30 h542 r_i17 (ir_c rfl)) rfl [] rfl rfl (Nat.le_of_ble_eq_true rfl) rfl (k_ip fun X576 r577 h578 => ?_)
              refine GO.istore (ls1 := [some (.ref x), some (ti p0), some (ti p1), some (ti p2), some (ti i15), some (ti i16), some (ti i17), some (ti X576), none]) dX11_known_89 rfl rfl ?_
              refine GO.aload_n dX11_known_91 rfl rfl ?_
              refine GO.getRaw h_x fl_RX11_85 hv543 dX11_known_92 ?_
              refine GO.iload dX11_known_95 rfl ?_
              refine GO.iconst dX11_known_97 ?_
              refine GO.callV (ci := 30) (N := mX8_get_k30) dX11_known_98 (RX8, TX8, 4) rfl gV_RX11_209 h542 (t_X8_get_k30 h542 r_i17 (ir_c rfl)) rfl [] rfl rfl (Nat.le_of_ble_eq_true rfl) rfl (k_ip fun X581 r582 h583 => ?_)
              refine GO.iconst dX11_known_101 ?_
              have hj586 : ∀ (z585 : Int), ∀ (l587 : 0 ≤ z585), ∀ (u588 : z585 ≤ 1), GO mX11_known K V (IP K V (fun X => True)) K V 0 0 110 [some (.ref x), some (ti p0), some (ti p1), some (ti p2), some (ti i15), some (ti i16), some (ti i17), some (ti X576), none] [ti z585] := by
                intro z585 l587 u588
                have r589 : ir z585 := ⟨by omega, by omega⟩
                refine GO.istore (ls1 := [some (.ref x), some (ti p0), some (ti p1), some (ti p2), some (ti i15), some (ti i16), some (ti i17), some (ti X576), some (ti z585)]) dX11_known_110 rfl rfl ?_
                refine GO.iload dX11_known_112 rfl ?_
                refine GO.iload_n dX11_known_114 rfl rfl ?_
                refine GO.icmp_ne (tgt := 134) dX11_known_115 (by decide) r577 r_p1 (fun c590 => ?_) (fun c590 => ?_)
                ·
                  refine GO.iload dX11_known_134 rfl ?_
                  refine GO.iload_n dX11_known_136 rfl rfl ?_
                  refine GO.icmp_ge (tgt := 170) dX11_known_137 (by decide) r577 r_p1 (fun c591 => ?_) (fun c591 => ?_)
                  ·
                    refine GO.iinc (X := i17) (n := 1) (Y := i17 + 1) (ls1 := [some (.ref x), some (ti p0), some (ti p1), some (ti p2), some (ti i15), some (ti i16), some (ti (i17 + 1)), some (ti X576), some (ti z585)]) dX11_known_170 rfl rfl rfl rfl ?_
                    refine GO.goto (tgt := 36) dX11_known_173 (by decide) ?_
                    refine GO.drop [true, true, true, true, true, true, true, false, false] rfl ?_
                    exact ih540 i15 i16 (i17 + 1) V ⟨by omega, by omega, by omega, by omega, by omega, by omega, rfl⟩ (by show (2147483647 - (i17 + 1)).toNat < (2147483647 - i17).toNat; omega)
                  ·
                    refine GO.iload dX11_known_140 rfl ?_
                    refine GO.if_eq (tgt := 170) dX11_known_142 (by decide) r589 (fun c592 => ?_) (fun c592 => ?_)
                    ·
                      refine GO.iinc (X := i17) (n := 1) (Y := i17 + 1) (ls1 := [some (.ref x), some (ti p0), some (ti p1), some (ti p2), some (ti i15), some (ti i16), some (ti (i17 + 1)), some (ti X576), some (ti z585)]) dX11_known_170 rfl rfl rfl rfl ?_
                      refine GO.goto (tgt := 36) dX11_known_173 (by decide) ?_
                      refine GO.drop [true, true, true, true, true, true, true, false, false] rfl ?_
                      exact ih540 i15 i16 (i17 + 1) V ⟨by omega, by omega, by omega, by omega, by omega, by omega, rfl⟩ (by show (2147483647 - (i17 + 1)).toNat < (2147483647 - i17).toNat; omega)
                    ·
                      refine GO.iload dX11_known_145 rfl ?_
                      refine GO.iconst dX11_known_147 ?_
                      refine GO.icmp_eq (tgt := 166) dX11_known_148 (by decide) r_i16 (ir_c rfl) (fun c593 => ?_) (fun c593 => ?_)
                      ·
                        refine GO.iload dX11_known_166 rfl ?_
                        refine GO.istore (ls1 := [some (.ref x), some (ti p0), some (ti p1), some (ti p2), some (ti i15), some (ti i17), some (ti i17), some (ti X576), some (ti z585)]) dX11_known_168 rfl rfl ?_
                        refine GO.iinc (X := i17) (n := 1) (Y := i17 + 1) (ls1 := [some (.ref x), some (ti p0), some (ti p1), some (ti p2), some (ti i15), some (ti i17), some (ti (i17 + 1)), some (ti X576), some (ti z585)]) dX11_known_170 rfl rfl rfl rfl ?_
                        refine GO.goto (tgt := 36) dX11_known_173 (by decide) ?_
                        refine GO.drop [true, true, true, true, true, true, true, false, false] rfl ?_
                        exact ih540 i15 i17 (i17 + 1) V ⟨by omega, by omega, by omega, by omega, by omega, by omega, rfl⟩ (by show (2147483647 - (i17 + 1)).toNat < (2147483647 - i17).toNat; omega)
                      ·
                        refine GO.iload dX11_known_151 rfl ?_
                        refine GO.aload_n dX11_known_153 rfl rfl ?_
                        refine GO.getRaw h_x fl_RX11_85 hv543 dX11_known_154 ?_
                        refine GO.iload dX11_known_157 rfl ?_
                        refine GO.iconst dX11_known_159 ?_
                        refine GO.callV (ci := 30) (N := mX8_get_k30) dX11_known_160 (RX8, TX8, 4) rfl gV_RX11_209 h542 (t_X8_get_k30 h542 r_i16 (ir_c rfl)) rfl [ti X576] rfl rfl (Nat.le_of_ble_eq_true rfl) rfl (k_ip fun X596 r597 h598 => ?_)
                        refine GO.icmp_lt (tgt := 170) dX11_known_163 (by decide) r577 r597 (fun c599 => ?_) (fun c599 => ?_)
                        ·
                          refine GO.iinc (X := i17) (n := 1) (Y := i17 + 1) (ls1 := [some (.ref x), some (ti p0), some (ti p1), some (ti p2), some (ti i15), some (ti i16), some (ti (i17 + 1)), some (ti X576), some (ti z585)]) dX11_known_170 rfl rfl rfl rfl ?_
                          refine GO.goto (tgt := 36) dX11_known_173 (by decide) ?_
                          refine GO.drop [true, true, true, true, true, true, true, false, false] rfl ?_
                          exact ih540 i15 i16 (i17 + 1) V ⟨by omega, by omega, by omega, by omega, by omega, by omega, rfl⟩ (by show (2147483647 - (i17 + 1)).toNat < (2147483647 - i17).toNat; omega)
                        ·
                          refine GO.iload dX11_known_166 rfl ?_
                          refine GO.istore (ls1 := [some (.ref x), some (ti p0), some (ti p1), some (ti p2), some (ti i15), some (ti i17), some (ti i17), some (ti X576), some (ti z585)]) dX11_known_168 rfl rfl ?_
                          refine GO.iinc (X := i17) (n := 1) (Y := i17 + 1) (ls1 := [some (.ref x), some (ti p0), some (ti p1), some (ti p2), some (ti i15), some (ti i17), some (ti (i17 + 1)), some (ti X576), some (ti z585)]) dX11_known_170 rfl rfl rfl rfl ?_
                          refine GO.goto (tgt := 36) dX11_known_173 (by decide) ?_
                          refine GO.drop [true, true, true, true, true, true, true, false, false] rfl ?_
                          exact ih540 i15 i17 (i17 + 1) V ⟨by omega, by omega, by omega, by omega, by omega, by omega, rfl⟩ (by show (2147483647 - (i17 + 1)).toNat < (2147483647 - i17).toNat; omega)
                ·
                  refine GO.iload dX11_known_118 rfl ?_
                  refine GO.if_eq (tgt := 128) dX11_known_120 (by decide) r589 (fun c600 => ?_) (fun c600 => ?_)
                  ·
                    refine GO.iconst dX11_known_128 ?_
                    refine GO.istore (ls1 := [some (.ref x), some (ti p0), some (ti p1), some (ti p2), some (ti (-1)), some (ti i16), some (ti i17), some (ti X576), some (ti z585)]) dX11_known_129 rfl rfl ?_
                    refine GO.goto (tgt := 170) dX11_known_131 (by decide) ?_
                    refine GO.iinc (X := i17) (n := 1) (Y := i17 + 1) (ls1 := [some (.ref x), some (ti p0), some (ti p1), some (ti p2), some (ti (-1)), some (ti i16), some (ti (i17 + 1)), some (ti X576), some (ti z585)]) dX11_known_170 rfl rfl rfl rfl ?_
                    refine GO.goto (tgt := 36) dX11_known_173 (by decide) ?_
                    refine GO.drop [true, true, true, true, true, true, true, false, false] rfl ?_
                    exact ih540 (-1) i16 (i17 + 1) V ⟨by omega, by omega, by omega, by omega, by omega, by omega, rfl⟩ (by show (2147483647 - (i17 + 1)).toNat < (2147483647 - i17).toNat; omega)
                  ·
                    refine GO.iload dX11_known_123 rfl ?_
                    refine GO.goto (tgt := 129) dX11_known_125 (by decide) ?_
                    refine GO.istore (ls1 := [some (.ref x), some (ti p0), some (ti p1), some (ti p2), some (ti i17), some (ti i16), some (ti i17), some (ti X576), some (ti z585)]) dX11_known_129 rfl rfl ?_
                    refine GO.goto (tgt := 170) dX11_known_131 (by decide) ?_
                    refine GO.iinc (X := i17) (n := 1) (Y := i17 + 1) (ls1 := [some (.ref x), some (ti p0), some (ti p1), some (ti p2), some (ti i17), some (ti i16), some (ti (i17 + 1)), some (ti X576), some (ti z585)]) dX11_known_170 rfl rfl rfl rfl ?_
                    refine GO.goto (tgt := 36) dX11_known_173 (by decide) ?_
                    refine GO.drop [true, true, true, true, true, true, true, false, false] rfl ?_
                    exact ih540 i17 i16 (i17 + 1) V ⟨by omega, by omega, by omega, by omega, by omega, by omega, rfl⟩ (by show (2147483647 - (i17 + 1)).toNat < (2147483647 - i17).toNat; omega)
              refine GO.icmp_ne (tgt := 109) dX11_known_102 (by decide) r582 (ir_c rfl) (fun c601 => ?_) (fun c601 => ?_)
              ·
                refine GO.iconst dX11_known_109 ?_
                exact hj586 0 (by omega) (by omega)
              ·
                refine GO.iconst dX11_known_105 ?_
                refine GO.goto (tgt := 110) dX11_known_106 (by decide) ?_
                exact hj586 1 (by omega) (by omega)
            ·
              refine GO.goto (tgt := 170) dX11_known_76 (by decide) ?_
              refine GO.iinc (X := i17) (n := 1) (Y := i17 + 1) (ls1 := [some (.ref x), some (ti p0), some (ti p1), some (ti p2), some (ti i15), some (ti i16), some (ti (i17 + 1)), none, none]) dX11_known_170 rfl rfl rfl rfl ?_
              refine GO.goto (tgt := 36) dX11_known_173 (by decide) ?_
              exact ih540 i15 i16 (i17 + 1) V ⟨by omega, by omega, by omega, by omega, by omega, by omega, rfl⟩ (by show (2147483647 - (i17 + 1)).toNat < (2147483647 - i17).toNat; omega)
      ·
        have q602 := h12.2.2 (by omega)
        refine GO.ldcw (X := (-1000001)) dX11_known_23 gw_1426 rfl ?_
        exact GO.reti rfl rfl dX11_known_26 ⟨rfl, rfl, _, rfl, (ir_c rfl), trivial⟩

set_option maxHeartbeats 1000000 in
theorem t_X11_firstWrong {K : Kmap} {V : Vmap} {x : Nat} {p0 : Int} (h_x : K x = some (0, 10)) (r_p0 : ir p0) : MC mX11_firstWrong K V [.ref x, ti p0] (IP K V (fun X => True)) := by
  refine MC.start 3 (by decide +kernel) rfl rfl rfl (ls0 := [some (.ref x), some (ti p0), none, none, none]) rfl ?_
  refine GO.iconst dX11_firstWrong_0 ?_
  refine GO.istore_n (ls1 := [some (.ref x), some (ti p0), some (ti 0), none, none]) dX11_firstWrong_1 rfl rfl rfl ?_
  refine GO.iconst dX11_firstWrong_2 ?_
  refine GO.istore_n (ls1 := [some (.ref x), some (ti p0), some (ti 0), some (ti 0), none]) dX11_firstWrong_3 rfl rfl rfl ?_
  refine GO.loop2 (fun i1 i2 W => (-2147483648) ≤ i1 ∧ i1 ≤ 2147483647 ∧ 0 ≤ i2 ∧ i2 ≤ 60 ∧ V = W) (fun i1 i2 => [some (.ref x), some (ti p0), some (ti i1), some (ti i2), none]) (fun i1 i2 W => (2147483647 - i2).toNat) 0 0 ⟨by omega, by omega, by omega, by omega, rfl⟩ rfl (fun i1 i2 V751 hp753 ih752 => ?_)
  obtain ⟨l_i1, u_i1, l_i2, u_i2, rfl⟩ := hp753
  have r_i1 : ir i1 := ⟨by omega, by omega⟩
  have r_i2 : ir i2 := ⟨by omega, by omega⟩
  show GO mX11_firstWrong K V (IP K V (fun X => True)) K V 0 0 4 [some (.ref x), some (ti p0), some (ti i1), some (ti i2), none] []
  refine GO.iload_n dX11_firstWrong_4 rfl rfl ?_
  refine GO.aload_n dX11_firstWrong_5 rfl rfl ?_
  refine GO.getI h_x fl_RX11_46 rfl rfl dX11_firstWrong_6 (fun l754 u755 => ?_)
  refine GO.icmp_ge (tgt := 77) dX11_firstWrong_9 (by decide) r_i2 vi_ir (fun c756 => ?_) (fun c756 => ?_)
  ·
    refine GO.iload_n dX11_firstWrong_77 rfl rfl ?_
    refine GO.iload_n dX11_firstWrong_78 rfl rfl ?_
    refine GO.icmp_ge (tgt := 86) dX11_firstWrong_79 (by decide) r_i1 r_p0 (fun c757 => ?_) (fun c757 => ?_)
    ·
      refine GO.iconst dX11_firstWrong_86 ?_
      exact GO.reti rfl rfl dX11_firstWrong_87 ⟨rfl, rfl, _, rfl, (ir_c rfl), trivial⟩
    ·
      refine GO.iload_n dX11_firstWrong_82 rfl rfl ?_
      refine GO.goto (tgt := 87) dX11_firstWrong_83 (by decide) ?_
      have q758 : -2147483648 ≤ p0 ∧ p0 ≤ 2147483647 := r_p0
      exact GO.reti rfl rfl dX11_firstWrong_87 ⟨rfl, rfl, _, rfl, r_i1, trivial⟩
  ·
    refine GO.aload_n dX11_firstWrong_12 rfl rfl ?_
    refine GO.iload_n dX11_firstWrong_13 rfl rfl ?_
    refine GO.callV (ci := 10) (N := mX11_standingStation) dX11_firstWrong_14 (RX11, TX11, 20) rfl gV_RX11_195 h_x (t_X11_standingStation h_x r_i2) rfl [] rfl rfl (Nat.le_of_ble_eq_true rfl) rfl (k_rp (fun h761 => ?_) (fun o759 h760 h761 => ?_))
    ·
      refine GO.astoreN (ls1 := [some (.ref x), some (ti p0), some (ti i1), some (ti i2), some (.null)]) dX11_firstWrong_17 rfl rfl ?_
      refine GO.aloadN dX11_firstWrong_19 rfl ?_
      refine GO.ifnonnullN dX11_firstWrong_21 ?_
      refine GO.goto (tgt := 71) dX11_firstWrong_24 (by decide) ?_
      refine GO.iinc (X := i2) (n := 1) (Y := i2 + 1) (ls1 := [some (.ref x), some (ti p0), some (ti i1), some (ti (i2 + 1)), some (.null)]) dX11_firstWrong_71 rfl rfl rfl rfl ?_
      refine GO.goto (tgt := 4) dX11_firstWrong_74 (by decide) ?_
      refine GO.drop [true, true, true, true, false] rfl ?_
      exact ih752 i1 (i2 + 1) V ⟨by omega, by omega, by omega, by omega, rfl⟩ (by show (2147483647 - (i2 + 1)).toNat < (2147483647 - i2).toNat; omega)
    ·
      refine GO.astore (ls1 := [some (.ref x), some (ti p0), some (ti i1), some (ti i2), some (.ref o759)]) dX11_firstWrong_17 rfl rfl ?_
      refine GO.aload dX11_firstWrong_19 rfl ?_
      refine GO.ifnonnull (tgt := 27) dX11_firstWrong_21 (by decide) ?_
      refine GO.iload_n dX11_firstWrong_27 rfl rfl ?_
      refine GO.iload_n dX11_firstWrong_28 rfl rfl ?_
      refine GO.icmp_ge (tgt := 41) dX11_firstWrong_29 (by decide) r_i1 r_p0 (fun c762 => ?_) (fun c762 => ?_)
      ·
        refine GO.iload_n dX11_firstWrong_41 rfl rfl ?_
        have q763 : -2147483648 ≤ p0 ∧ p0 ≤ 2147483647 := r_p0
        exact GO.reti rfl rfl dX11_firstWrong_42 ⟨rfl, rfl, _, rfl, r_i1, trivial⟩
      ·
        refine GO.aload_n dX11_firstWrong_32 rfl rfl ?_
        refine GO.iload_n dX11_firstWrong_33 rfl rfl ?_
        refine GO.callV (ci := 10) (N := mX11_fedNumber) dX11_firstWrong_34 (RX11, TX11, 20) rfl gV_RX11_630 h_x (t_X11_fedNumber h_x r_i1) rfl [] rfl rfl (Nat.le_of_ble_eq_true rfl) rfl (k_ip fun X764 r765 h766 => ?_)
        refine GO.iload_n dX11_firstWrong_37 rfl rfl ?_
        refine GO.icmp_eq (tgt := 43) dX11_firstWrong_38 (by decide) r765 r_i2 (fun c767 => ?_) (fun c767 => ?_)
        ·
          refine GO.aload_n dX11_firstWrong_43 rfl rfl ?_
          refine GO.iload_n dX11_firstWrong_44 rfl rfl ?_
          refine GO.iconst dX11_firstWrong_45 ?_
          refine GO.iadd dX11_firstWrong_46 ?_
          have q768 : -2147483648 ≤ p0 ∧ p0 ≤ 2147483647 := r_p0
          refine GO.callV (ci := 10) (N := mX11_fedNumber) dX11_firstWrong_47 (RX11, TX11, 20) rfl gV_RX11_630 h_x (t_X11_fedNumber h_x ⟨by omega, by omega⟩) rfl [] rfl rfl (Nat.le_of_ble_eq_true rfl) rfl (k_ip fun X769 r770 h771 => ?_)
          refine GO.aload dX11_firstWrong_50 rfl ?_
          refine GO.getI h760 fl_RX11_186 rfl rfl dX11_firstWrong_52 (fun _ _ => ?_)
          refine GO.aload dX11_firstWrong_55 rfl ?_
          refine GO.getI h760 fl_RX11_421 rfl rfl dX11_firstWrong_57 (fun _ _ => ?_)
          refine GO.iadd dX11_firstWrong_60 ?_
          refine GO.norm (fun z772 r773 hn774 => ?_)
          refine GO.icmp_eq (tgt := 68) dX11_firstWrong_61 (by decide) r770 r773 (fun c775 => ?_) (fun c775 => ?_)
          ·
            refine GO.iincN (X := i1) (n := 2) dX11_firstWrong_68 rfl rfl (fun z776 r777 => ?_)
            show GO mX11_firstWrong K V (IP K V (fun X => True)) K V 0 0 71 [some (.ref x), some (ti p0), some (ti z776), some (ti i2), some (.ref o759)] []
            refine GO.iinc (X := i2) (n := 1) (Y := i2 + 1) (ls1 := [some (.ref x), some (ti p0), some (ti z776), some (ti (i2 + 1)), some (.ref o759)]) dX11_firstWrong_71 rfl rfl rfl rfl ?_
            refine GO.goto (tgt := 4) dX11_firstWrong_74 (by decide) ?_
            refine GO.drop [true, true, true, true, false] rfl ?_
            have q778 : -2147483648 ≤ X764 ∧ X764 ≤ 2147483647 := r765
            have q779 : -2147483648 ≤ z776 ∧ z776 ≤ 2147483647 := r777
            exact ih752 z776 (i2 + 1) V ⟨by omega, by omega, by omega, by omega, rfl⟩ (by show (2147483647 - (i2 + 1)).toNat < (2147483647 - i2).toNat; omega)
          ·
            refine GO.iload_n dX11_firstWrong_64 rfl rfl ?_
            refine GO.iconst dX11_firstWrong_65 ?_
            refine GO.iadd dX11_firstWrong_66 ?_
            exact GO.reti rfl rfl dX11_firstWrong_67 ⟨rfl, rfl, _, rfl, ⟨by omega, by omega⟩, trivial⟩
        ·
          refine GO.iload_n dX11_firstWrong_41 rfl rfl ?_
          have q780 : -2147483648 ≤ p0 ∧ p0 ≤ 2147483647 := r_p0
          exact GO.reti rfl rfl dX11_firstWrong_42 ⟨rfl, rfl, _, rfl, r_i1, trivial⟩
