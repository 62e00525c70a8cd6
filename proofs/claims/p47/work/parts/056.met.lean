def mX8_append_k24 : MRec := (RX8, cX8_append, 7, (some .int), yX8_append, 1, 25, 0, 0, 84615164005151820665845159428194693098035803213703176196812137434697978042933216801575076459993558905437787910500421904367616)
def mX11_stop : MRec := (RX11, cX11_stop, 3, (some .int), yX11_stop, 3, 66, 0, 0, 84615164005151820665845159428194693098035803213703176196812137434697978042933216801575076459993558905437792522186440331755520)
def mX8_has_k24 : MRec := (RX8, cX8_has, 2, (some .boolean), yX8_has, 0, 0, 0, 0, 0)
def mX11_open : MRec := (RX11, cX11_open, 5, (some .boolean), yX11_open, 1, 22, 0, 0, 3794275180128377091639574036764685364535950857523710002444946117382983450468810752)
def mX11_measureLegs : MRec := (RX11, cX11_measureLegs, 5, (none : Option Jvm.ClassFile.FieldType), yX11_measureLegs, 2, 44, 0, 0, 3794275180128377091639574036764685364535950857523710002444946112771297432041422848)
def mX11_plan : MRec := (RX11, cX11_plan, 6, (some .int), yX11_plan, 19, 425, 0, 0, 3794275180128377091639574036764685364535950857523710002444946126606355487323586560)
def mX11_planned : MRec := (RX11, cX11_planned, 5, (some .int), yX11_planned, 20, 450, 0, 0, 3794275180128377091639574036764685364535950857523710002444946126606355487323586560)
def mX11_report : MRec := (RX11, cX11_report, 5, (some .boolean), yX11_report, 2, 51, 0, 0, 3794275180128377091639574036764685364535950857523710002445248344226201089335099392)
def mX11_known : MRec := (RX11, cX11_known, 9, (some .int), yX11_known, 2, 44, 0, 0, 0)
set_option maxHeartbeats 1000000 in
theorem t_X8_append_k24 {K : Kmap} {V : Vmap} {x : Nat} {p0 : Int} {p1 : Int} {p2 : Int} {p3 : Int} {p4 : Int} (h_x : K x = some (0, 24)) (r_p0 : ir p0) (r_p1 : ir p1) (r_p2 : ir p2) (r_p3 : ir p3) (r_p4 : ir p4) : MC mX8_append_k24 K V [.ref x, ti p0, ti p1, ti p2, ti p3, ti p4] (IS K (fun X V1 => True)) := by
  refine MC.start 1 (by decide +kernel) rfl rfl rfl (ls0 := [some (.ref x), some (ti p0), some (ti p1), some (ti p2), some (ti p3), some (ti p4), none]) rfl ?_
  refine GO.aload_n dX8_append_0 rfl rfl ?_
  refine GO.callV (ci := 24) (N := mX8_isFull_k24) dX8_append_1 (RX8, TX8, 4) rfl gV_RX8_31 h_x (t_X8_isFull_k24 h_x) rfl [] rfl rfl (Nat.le_of_ble_eq_true rfl) rfl (k_ip fun X1 r2 h3 => ?_)
  refine GO.if_eq (tgt := 9) dX8_append_4 (by decide) r2 (fun c4 => ?_) (fun c4 => ?_)
  ·
    have q5 := h3.2.2 (by omega)
    refine GO.aload_n dX8_append_9 rfl rfl ?_
    refine GO.getI h_x fl_RX8_9_k24 rfl rfl dX8_append_10 (fun l6 u7 => ?_)
    refine GO.name (fun z8 hz9 => ?_)
    have r10 : ir z8 := hz9 ▸ vi_ir
    refine GO.istore (ls1 := [some (.ref x), some (ti p0), some (ti p1), some (ti p2), some (ti p3), some (ti p4), some (ti z8)]) dX8_append_13 rfl rfl ?_
    refine GO.aload_n dX8_append_15 rfl rfl ?_
    refine GO.dup dX8_append_16 rfl ?_
    refine GO.getI h_x fl_RX8_9_k24 rfl rfl dX8_append_17 (fun l11 u12 => ?_)
    refine GO.iconst dX8_append_20 ?_
    refine GO.iadd dX8_append_21 ?_
    have q14 : -2147483648 ≤ vi V x 3 ∧ vi V x 3 ≤ 2147483647 := vi_ir
    have q15 : -2147483648 ≤ z8 ∧ z8 ≤ 2147483647 := r10
    refine GO.putI h_x fp_RX8_9_k24 rfl (by decide +kernel) ⟨by omega, by omega⟩ (by omega) (by omega) dX8_append_22 (fun V16 e13 => ?_)
    refine GO.aload_n dX8_append_25 rfl rfl ?_
    refine GO.iload dX8_append_26 rfl ?_
    refine GO.iconst dX8_append_28 ?_
    refine GO.iload_n dX8_append_29 rfl rfl ?_
    refine GO.callV (ci := 24) (N := mX8_put_k24) dX8_append_30 (RX8, TX8, 4) rfl gV_RX8_35 h_x (t_X8_put_k24 h_x r10 (ir_c rfl) r_p0) rfl [] rfl rfl (Nat.le_of_ble_eq_true rfl) rfl (k_vs fun V19 h18 hF17 => ?_)
    refine GO.aload_n dX8_append_33 rfl rfl ?_
    refine GO.iload dX8_append_34 rfl ?_
    refine GO.iconst dX8_append_36 ?_
    refine GO.iload_n dX8_append_37 rfl rfl ?_
    refine GO.callV (ci := 24) (N := mX8_put_k24) dX8_append_38 (RX8, TX8, 4) rfl gV_RX8_35 h_x (t_X8_put_k24 h_x r10 (ir_c rfl) r_p1) rfl [] rfl rfl (Nat.le_of_ble_eq_true rfl) rfl (k_vs fun V22 h21 hF20 => ?_)
    refine GO.aload_n dX8_append_41 rfl rfl ?_
    refine GO.iload dX8_append_42 rfl ?_
    refine GO.iconst dX8_append_44 ?_
    refine GO.iload_n dX8_append_45 rfl rfl ?_
    refine GO.callV (ci := 24) (N := mX8_put_k24) dX8_append_46 (RX8, TX8, 4) rfl gV_RX8_35 h_x (t_X8_put_k24 h_x r10 (ir_c rfl) r_p2) rfl [] rfl rfl (Nat.le_of_ble_eq_true rfl) rfl (k_vs fun V25 h24 hF23 => ?_)
    refine GO.aload_n dX8_append_49 rfl rfl ?_
    refine GO.iload dX8_append_50 rfl ?_
    refine GO.iconst dX8_append_52 ?_
    refine GO.iload dX8_append_53 rfl ?_
    refine GO.callV (ci := 24) (N := mX8_put_k24) dX8_append_55 (RX8, TX8, 4) rfl gV_RX8_35 h_x (t_X8_put_k24 h_x r10 (ir_c rfl) r_p3) rfl [] rfl rfl (Nat.le_of_ble_eq_true rfl) rfl (k_vs fun V28 h27 hF26 => ?_)
    refine GO.aload_n dX8_append_58 rfl rfl ?_
    refine GO.iload dX8_append_59 rfl ?_
    refine GO.iconst dX8_append_61 ?_
    refine GO.iload dX8_append_62 rfl ?_
    refine GO.callV (ci := 24) (N := mX8_put_k24) dX8_append_64 (RX8, TX8, 4) rfl gV_RX8_35 h_x (t_X8_put_k24 h_x r10 (ir_c rfl) r_p4) rfl [] rfl rfl (Nat.le_of_ble_eq_true rfl) rfl (k_vs fun V31 h30 hF29 => ?_)
    refine GO.iload dX8_append_67 rfl ?_
    exact GO.reti rfl rfl dX8_append_69 ⟨rfl, _, rfl, r10, trivial⟩
  ·
    refine GO.iconst dX8_append_7 ?_
    exact GO.reti rfl rfl dX8_append_8 ⟨rfl, _, rfl, (ir_c rfl), trivial⟩

set_option maxHeartbeats 1000000 in
theorem t_X11_stop {K : Kmap} {V : Vmap} {x : Nat} {p0 : Int} {p1 : Int} (h_x : K x = some (0, 10)) (r_p0 : ir p0) (r_p1 : ir p1) : MC mX11_stop K V [.ref x, ti p0, ti p1] (IS K (fun X V1 => True)) := by
  refine MC.start 0 (by decide +kernel) rfl rfl rfl (ls0 := [some (.ref x), some (ti p0), some (ti p1)]) rfl ?_
  refine GO.aload_n dX11_stop_0 rfl rfl ?_
  refine GO.iload_n dX11_stop_1 rfl rfl ?_
  refine GO.callV (ci := 10) (N := mX11_standingStation) dX11_stop_2 (RX11, TX11, 20) rfl gV_RX11_195 h_x (t_X11_standingStation h_x r_p0) rfl [] rfl rfl (Nat.le_of_ble_eq_true rfl) rfl (k_rp (fun h3 => ?_) (fun o1 h2 h3 => ?_))
  ·
    refine GO.ifnullN (tgt := 30) dX11_stop_5 (by decide) ?_
    refine GO.iconst dX11_stop_30 ?_
    exact GO.reti rfl rfl dX11_stop_31 ⟨rfl, _, rfl, (ir_c rfl), trivial⟩
  ·
    refine GO.ifnull dX11_stop_5 ?_
    refine GO.iload_n dX11_stop_8 rfl rfl ?_
    refine GO.iconst dX11_stop_9 ?_
    refine GO.sipush dX11_stop_10 rfl ?_
    refine GO.callS (N := mX11_between) dX11_stop_13 gS_RX11_112 (t_X11_between r_p1 (ir_c rfl) (ir_c rfl)) rfl [] rfl rfl (Nat.le_of_ble_eq_true rfl) rfl (k_ip fun X4 r5 h6 => ?_)
    refine GO.if_eq (tgt := 30) dX11_stop_16 (by decide) r5 (fun c7 => ?_) (fun c7 => ?_)
    ·
      have q8 := h6.2.2 (by omega)
      refine GO.iconst dX11_stop_30 ?_
      exact GO.reti rfl rfl dX11_stop_31 ⟨rfl, _, rfl, (ir_c rfl), trivial⟩
    ·
      have q9 := h6.2.1 (by omega)
      refine GO.aload_n dX11_stop_19 rfl rfl ?_
      refine GO.getR h_x fl_RX11_26 rfl rfl dX11_stop_20 (fun hv11 h10 => ?_)
      refine GO.iload_n dX11_stop_23 rfl rfl ?_
      refine GO.callV (ci := 5) (N := mX6_hasStation) dX11_stop_24 (RX6, TX6, 10) rfl gV_RX11_590 h10 (t_X6_hasStation h10 r_p0) rfl [] rfl rfl (Nat.le_of_ble_eq_true rfl) rfl (k_ip fun X12 r13 h14 => ?_)
      refine GO.if_eq (tgt := 32) dX11_stop_27 (by decide) r13 (fun c15 => ?_) (fun c15 => ?_)
      ·
        refine GO.aload_n dX11_stop_32 rfl rfl ?_
        refine GO.getRaw h_x fl_RX11_26 hv11 dX11_stop_33 ?_
        refine GO.callV (ci := 5) (N := mX6_forget) dX11_stop_36 (RX6, TX6, 10) rfl gV_RX11_435 h10 (t_X6_forget h10) rfl [] rfl rfl (Nat.le_of_ble_eq_true rfl) rfl (k_vs fun V20 h19 hF18 => ?_)
        refine GO.aload_n dX11_stop_39 rfl rfl ?_
        refine GO.getRaw h_x fl_RX11_26 (Eq.trans (hF18 _ _ _ h_x h_x (by decide +kernel)) hv11) dX11_stop_40 ?_
        refine GO.getR h10 fl_RX11_593 rfl rfl dX11_stop_43 (fun hv24 h23 => ?_)
        refine GO.iload_n dX11_stop_46 rfl rfl ?_
        refine GO.iload_n dX11_stop_47 rfl rfl ?_
        refine GO.iconst dX11_stop_48 ?_
        refine GO.iconst dX11_stop_49 ?_
        refine GO.iconst dX11_stop_50 ?_
        refine GO.callV (ci := 24) (N := mX8_append_k24) dX11_stop_51 (RX8, TX8, 4) rfl gV_RX11_205 h23 (t_X8_append_k24 h23 r_p0 r_p1 (ir_c rfl) (ir_c rfl) (ir_c rfl)) rfl [] rfl rfl (Nat.le_of_ble_eq_true rfl) rfl (k_is fun X25 V29 r26 h27 hF28 => ?_)
        have q30 : -2147483648 ≤ X25 ∧ X25 ≤ 2147483647 := r26
        exact GO.reti rfl rfl dX11_stop_54 ⟨rfl, _, rfl, r26, trivial⟩
      ·
        refine GO.iconst dX11_stop_30 ?_
        exact GO.reti rfl rfl dX11_stop_31 ⟨rfl, _, rfl, (ir_c rfl), trivial⟩

set_option maxHeartbeats 1000000 in
theorem t_X8_has_k24 {K : Kmap} {V : Vmap} {x : Nat} {p0 : Int} (h_x : K x = some (0, 24)) (r_p0 : ir p0) : MC mX8_has_k24 K V [.ref x, ti p0] (IP K V (fun X => (X = 0 ∨ X = 1) ∧ (X ≠ 0 → True) ∧ (X = 0 → True))) := by
  refine MC.start 0 (by decide +kernel) rfl rfl rfl (ls0 := [some (.ref x), some (ti p0)]) rfl ?_
  refine GO.iload_n dX8_has_0 rfl rfl ?_
  refine GO.if_lt (tgt := 16) dX8_has_1 (by decide) r_p0 (fun c1 => ?_) (fun c1 => ?_)
  ·
    refine GO.iconst dX8_has_16 ?_
    exact GO.retz rfl rfl dX8_has_17 (by omega) ⟨rfl, rfl, _, rfl, (ir_c rfl), ⟨by omega, fun _ => trivial, fun _ => trivial⟩⟩
  ·
    refine GO.iload_n dX8_has_4 rfl rfl ?_
    refine GO.aload_n dX8_has_5 rfl rfl ?_
    refine GO.getI h_x fl_RX8_9_k24 rfl rfl dX8_has_6 (fun l2 u3 => ?_)
    refine GO.icmp_ge (tgt := 16) dX8_has_9 (by decide) r_p0 vi_ir (fun c4 => ?_) (fun c4 => ?_)
    ·
      refine GO.iconst dX8_has_16 ?_
      exact GO.retz rfl rfl dX8_has_17 (by omega) ⟨rfl, rfl, _, rfl, (ir_c rfl), ⟨by omega, fun _ => trivial, fun _ => trivial⟩⟩
    ·
      refine GO.iconst dX8_has_12 ?_
      refine GO.goto (tgt := 17) dX8_has_13 (by decide) ?_
      exact GO.retz rfl rfl dX8_has_17 (by omega) ⟨rfl, rfl, _, rfl, (ir_c rfl), ⟨by omega, fun _ => trivial, fun _ => trivial⟩⟩

set_option maxHeartbeats 1000000 in
theorem t_X11_open {K : Kmap} {V : Vmap} {x : Nat} {p0 : Int} {p1 : Int} {p2 : Int} {p3 : Int} (h_x : K x = some (0, 10)) (r_p0 : ir p0) (r_p1 : ir p1) (r_p2 : ir p2) (r_p3 : ir p3) : MC mX11_open K V [.ref x, ti p0, ti p1, ti p2, ti p3] (IS K (fun X V1 => (X = 0 ∨ X = 1) ∧ (X ≠ 0 → True) ∧ (X = 0 → True))) := by
  refine MC.start 0 (by decide +kernel) rfl rfl rfl (ls0 := [some (.ref x), some (ti p0), some (ti p1), some (ti p2), some (ti p3)]) rfl ?_
  refine GO.iload_n dX11_open_0 rfl rfl ?_
  refine GO.iconst dX11_open_1 ?_
  refine GO.iconst dX11_open_2 ?_
  refine GO.callS (N := mX11_between) dX11_open_3 gS_RX11_112 (t_X11_between r_p0 (ir_c rfl) (ir_c rfl)) rfl [] rfl rfl (Nat.le_of_ble_eq_true rfl) rfl (k_ip fun X1 r2 h3 => ?_)
  refine GO.if_eq (tgt := 32) dX11_open_6 (by decide) r2 (fun c4 => ?_) (fun c4 => ?_)
  ·
    have q5 := h3.2.2 (by omega)
    refine GO.iconst dX11_open_32 ?_
    exact GO.retz rfl rfl dX11_open_33 (by omega) ⟨rfl, _, rfl, (ir_c rfl), ⟨by omega, fun _ => trivial, fun _ => trivial⟩⟩
  ·
    have q6 := h3.2.1 (by omega)
    refine GO.aload_n dX11_open_9 rfl rfl ?_
    refine GO.getR h_x fl_RX11_26 rfl rfl dX11_open_10 (fun hv8 h7 => ?_)
    refine GO.getR h7 fl_RX11_593 rfl rfl dX11_open_13 (fun hv10 h9 => ?_)
    refine GO.iload_n dX11_open_16 rfl rfl ?_
    refine GO.callV (ci := 24) (N := mX8_has_k24) dX11_open_17 (RX8, TX8, 4) rfl gV_RX11_431 h9 (t_X8_has_k24 h9 r_p1) rfl [] rfl rfl (Nat.le_of_ble_eq_true rfl) rfl (k_ip fun X11 r12 h13 => ?_)
    refine GO.if_eq (tgt := 32) dX11_open_20 (by decide) r12 (fun c14 => ?_) (fun c14 => ?_)
    ·
      refine GO.iconst dX11_open_32 ?_
      exact GO.retz rfl rfl dX11_open_33 (by omega) ⟨rfl, _, rfl, (ir_c rfl), ⟨by omega, fun _ => trivial, fun _ => trivial⟩⟩
    ·
      refine GO.iload_n dX11_open_23 rfl rfl ?_
      refine GO.iload dX11_open_24 rfl ?_
      refine GO.callS (N := mX11_areYearDays) dX11_open_26 gS_RX11_135 (t_X11_areYearDays r_p2 r_p3) rfl [] rfl rfl (Nat.le_of_ble_eq_true rfl) rfl (k_ip fun X15 r16 h17 => ?_)
      refine GO.if_ne (tgt := 34) dX11_open_29 (by decide) r16 (fun c18 => ?_) (fun c18 => ?_)
      ·
        have q19 := h17.2.1 (by omega)
        refine GO.aload_n dX11_open_34 rfl rfl ?_
        refine GO.getRaw h_x fl_RX11_26 hv8 dX11_open_35 ?_
        refine GO.callV (ci := 5) (N := mX6_forget) dX11_open_38 (RX6, TX6, 10) rfl gV_RX11_435 h7 (t_X6_forget h7) rfl [] rfl rfl (Nat.le_of_ble_eq_true rfl) rfl (k_vs fun V24 h23 hF22 => ?_)
        refine GO.aload_n dX11_open_41 rfl rfl ?_
        refine GO.getRaw h_x fl_RX11_26 (Eq.trans (hF22 _ _ _ h_x h_x (by decide +kernel)) hv8) dX11_open_42 ?_
        refine GO.getB h7 fl_RX11_596 rfl rfl dX11_open_45 (fun n29 hv28 h27 b30 => ?_)
        refine GO.iload_n dX11_open_48 rfl rfl ?_
        refine GO.bipush dX11_open_49 rfl ?_
        refine GO.imul dX11_open_51 ?_
        refine GO.iload_n dX11_open_52 rfl rfl ?_
        refine GO.iadd dX11_open_53 ?_
        refine GO.norm (fun z31 r32 _ => ?_)
        refine GO.iload_n dX11_open_54 rfl rfl ?_
        refine GO.callS (N := mX4_put) dX11_open_55 gS_RX11_108 (t_X4_put h27 r32 r_p2) rfl [] rfl rfl (Nat.le_of_ble_eq_true rfl) rfl (k_vs fun V35 h34 hF33 => ?_)
        refine GO.aload_n dX11_open_58 rfl rfl ?_
        refine GO.getRaw h_x fl_RX11_26 (Eq.trans (hF33 _ _ _ h_x h_x (by decide +kernel)) (Eq.trans (hF22 _ _ _ h_x h_x (by decide +kernel)) hv8)) dX11_open_59 ?_
        refine GO.getB h7 fl_RX11_599 rfl rfl dX11_open_62 (fun n40 hv39 h38 b41 => ?_)
        refine GO.iload_n dX11_open_65 rfl rfl ?_
        refine GO.bipush dX11_open_66 rfl ?_
        refine GO.imul dX11_open_68 ?_
        refine GO.iload_n dX11_open_69 rfl rfl ?_
        refine GO.iadd dX11_open_70 ?_
        refine GO.norm (fun z42 r43 _ => ?_)
        refine GO.iload dX11_open_71 rfl ?_
        refine GO.callS (N := mX4_put) dX11_open_73 gS_RX11_108 (t_X4_put h38 r43 r_p3) rfl [] rfl rfl (Nat.le_of_ble_eq_true rfl) rfl (k_vs fun V46 h45 hF44 => ?_)
        refine GO.iconst dX11_open_76 ?_
        exact GO.retz rfl rfl dX11_open_77 (by omega) ⟨rfl, _, rfl, (ir_c rfl), ⟨by omega, fun _ => trivial, fun _ => trivial⟩⟩
      ·
        have q47 := h17.2.2 (by omega)
        refine GO.iconst dX11_open_32 ?_
        exact GO.retz rfl rfl dX11_open_33 (by omega) ⟨rfl, _, rfl, (ir_c rfl), ⟨by omega, fun _ => trivial, fun _ => trivial⟩⟩

set_option maxHeartbeats 1000000 in
theorem t_X11_measureLegs {K : Kmap} {V : Vmap} {x : Nat} (h_x : K x = some (0, 10)) : MC mX11_measureLegs K V [.ref x] (VS K (fun V1 => (True))) := by
  refine MC.start 4 (by decide +kernel) rfl rfl rfl (ls0 := [some (.ref x), none, none, none, none]) rfl ?_
  refine GO.iconst dX11_measureLegs_0 ?_
  refine GO.istore_n (ls1 := [some (.ref x), some (ti 0), none, none, none]) dX11_measureLegs_1 rfl rfl rfl ?_
  refine GO.loop1 (fun i1 W => 0 ≤ i1 ∧ i1 ≤ 8 ∧ True) (fun i1 => [some (.ref x), some (ti i1), none, none, none]) (fun i1 W => (2147483647 - i1).toNat) 0 ⟨by omega, by omega, trivial⟩ rfl (fun i1 Wi1 hp1643 ih1642 => ?_)
  obtain ⟨l_i1, u_i1, -⟩ := hp1643
  have r_i1 : ir i1 := ⟨by omega, by omega⟩
  show GO mX11_measureLegs K V (VS K (fun V1 => (True))) K Wi1 0 0 2 [some (.ref x), some (ti i1), none, none, none] []
  refine GO.iload_n dX11_measureLegs_2 rfl rfl ?_
  refine GO.aload_n dX11_measureLegs_3 rfl rfl ?_
  refine GO.getR h_x fl_RX11_26 rfl rfl dX11_measureLegs_4 (fun hv1645 h1644 => ?_)
  refine GO.getR h1644 fl_RX11_593 rfl rfl dX11_measureLegs_7 (fun hv1647 h1646 => ?_)
  refine GO.getI h1646 fl_RX11_199_k24 rfl rfl dX11_measureLegs_10 (fun l1648 u1649 => ?_)
  refine GO.icmp_ge (tgt := 124) dX11_measureLegs_13 (by decide) r_i1 vi_ir (fun c1650 => ?_) (fun c1650 => ?_)
  ·
    exact GO.retv rfl rfl dX11_measureLegs_124 ⟨rfl, rfl, trivial⟩
  ·
    refine GO.iconst dX11_measureLegs_16 ?_
    refine GO.istore_n (ls1 := [some (.ref x), some (ti i1), some (ti 0), none, none]) dX11_measureLegs_17 rfl rfl rfl ?_
    refine GO.loop1 (fun i1651 W => 0 ≤ i1651 ∧ i1651 ≤ 8 ∧ True) (fun i1651 => [some (.ref x), some (ti i1), some (ti i1651), none, none]) (fun i1651 W => (2147483647 - i1651).toNat) 0 ⟨by omega, by omega, trivial⟩ rfl (fun i1651 Wi1651 hp1918 ih1917 => ?_)
    obtain ⟨l_i1651, u_i1651, -⟩ := hp1918
    have r_i1651 : ir i1651 := ⟨by omega, by omega⟩
    show GO mX11_measureLegs K V (VS K (fun V1 => (True))) K Wi1651 0 0 18 [some (.ref x), some (ti i1), some (ti i1651), none, none] []
    refine GO.iload_n dX11_measureLegs_18 rfl rfl ?_
    refine GO.aload_n dX11_measureLegs_19 rfl rfl ?_
    refine GO.getR h_x fl_RX11_26 rfl rfl dX11_measureLegs_20 (fun hv1920 h1919 => ?_)
    refine GO.getR h1919 fl_RX11_593 rfl rfl dX11_measureLegs_23 (fun hv1922 h1921 => ?_)
    refine GO.getI h1921 fl_RX11_199_k24 rfl rfl dX11_measureLegs_26 (fun l1923 u1924 => ?_)
    refine GO.icmp_ge (tgt := 118) dX11_measureLegs_29 (by decide) r_i1651 vi_ir (fun c1925 => ?_) (fun c1925 => ?_)
    ·
      refine GO.iinc (X := i1) (n := 1) (Y := i1 + 1) (ls1 := [some (.ref x), some (ti (i1 + 1)), some (ti i1651), none, none]) dX11_measureLegs_118 rfl rfl rfl rfl ?_
      refine GO.goto (tgt := 2) dX11_measureLegs_121 (by decide) ?_
      refine GO.drop [true, true, false, true, true] rfl ?_
      exact ih1642 (i1 + 1) Wi1651 ⟨by omega, by omega, trivial⟩ (by show (2147483647 - (i1 + 1)).toNat < (2147483647 - i1).toNat; omega)
    ·
      refine GO.aload_n dX11_measureLegs_32 rfl rfl ?_
      refine GO.aload_n dX11_measureLegs_33 rfl rfl ?_
      refine GO.getRaw h_x fl_RX11_26 hv1920 dX11_measureLegs_34 ?_
      refine GO.getRaw h1919 fl_RX11_593 hv1922 dX11_measureLegs_37 ?_
      refine GO.iload_n dX11_measureLegs_40 rfl rfl ?_
      refine GO.iconst dX11_measureLegs_41 ?_
      refine GO.callV (ci := 24) (N := mX8_get_k24) dX11_measureLegs_42 (RX8, TX8, 4) rfl gV_RX11_209 h1921 (t_X8_get_k24 h1921 r_i1 (ir_c rfl)) rfl [.ref x] rfl rfl (Nat.le_of_ble_eq_true rfl) rfl (k_ip fun X1930 r1931 h1932 => ?_)
      refine GO.iconst dX11_measureLegs_45 ?_
      refine GO.callV (ci := 10) (N := mX11_placeOf) dX11_measureLegs_46 (RX11, TX11, 20) rfl gV_RX11_169 h_x (t_X11_placeOf h_x r1931 (ir_c rfl)) rfl [] rfl rfl (Nat.le_of_ble_eq_true rfl) rfl (k_rp (fun h1935 => ?_) (fun o1933 h1934 h1935 => ?_))
      ·
        refine GO.astore_nN (ls1 := [some (.ref x), some (ti i1), some (ti i1651), some (.null), none]) dX11_measureLegs_49 rfl rfl rfl ?_
        refine GO.aload_n dX11_measureLegs_50 rfl rfl ?_
        refine GO.aload_n dX11_measureLegs_51 rfl rfl ?_
        refine GO.getRaw h_x fl_RX11_26 hv1920 dX11_measureLegs_52 ?_
        refine GO.getRaw h1919 fl_RX11_593 hv1922 dX11_measureLegs_55 ?_
        refine GO.iload_n dX11_measureLegs_58 rfl rfl ?_
        refine GO.iconst dX11_measureLegs_59 ?_
        refine GO.callV (ci := 24) (N := mX8_get_k24) dX11_measureLegs_60 (RX8, TX8, 4) rfl gV_RX11_209 h1921 (t_X8_get_k24 h1921 r_i1651 (ir_c rfl)) rfl [.ref x] rfl rfl (Nat.le_of_ble_eq_true rfl) rfl (k_ip fun X1940 r1941 h1942 => ?_)
        refine GO.iconst dX11_measureLegs_63 ?_
        refine GO.callV (ci := 10) (N := mX11_placeOf) dX11_measureLegs_64 (RX11, TX11, 20) rfl gV_RX11_169 h_x (t_X11_placeOf h_x r1941 (ir_c rfl)) rfl [] rfl rfl (Nat.le_of_ble_eq_true rfl) rfl (k_rp (fun h1945 => ?_) (fun o1943 h1944 h1945 => ?_))
        ·
          refine GO.astoreN (ls1 := [some (.ref x), some (ti i1), some (ti i1651), some (.null), some (.null)]) dX11_measureLegs_67 rfl rfl ?_
          refine GO.aload_nN dX11_measureLegs_69 rfl rfl ?_
          refine GO.ifnullN (tgt := 112) dX11_measureLegs_70 (by decide) ?_
          refine GO.iinc (X := i1651) (n := 1) (Y := i1651 + 1) (ls1 := [some (.ref x), some (ti i1), some (ti (i1651 + 1)), some (.null), some (.null)]) dX11_measureLegs_112 rfl rfl rfl rfl ?_
          refine GO.goto (tgt := 18) dX11_measureLegs_115 (by decide) ?_
          refine GO.drop [true, true, true, false, false] rfl ?_
          exact ih1917 (i1651 + 1) Wi1651 ⟨by omega, by omega, trivial⟩ (by show (2147483647 - (i1651 + 1)).toNat < (2147483647 - i1651).toNat; omega)
        ·
          refine GO.astore (ls1 := [some (.ref x), some (ti i1), some (ti i1651), some (.null), some (.ref o1943)]) dX11_measureLegs_67 rfl rfl ?_
          refine GO.aload_nN dX11_measureLegs_69 rfl rfl ?_
          refine GO.ifnullN (tgt := 112) dX11_measureLegs_70 (by decide) ?_
          refine GO.iinc (X := i1651) (n := 1) (Y := i1651 + 1) (ls1 := [some (.ref x), some (ti i1), some (ti (i1651 + 1)), some (.null), some (.ref o1943)]) dX11_measureLegs_112 rfl rfl rfl rfl ?_
          refine GO.goto (tgt := 18) dX11_measureLegs_115 (by decide) ?_
          refine GO.drop [true, true, true, false, false] rfl ?_
          exact ih1917 (i1651 + 1) Wi1651 ⟨by omega, by omega, trivial⟩ (by show (2147483647 - (i1651 + 1)).toNat < (2147483647 - i1651).toNat; omega)
      ·
        refine GO.astore_n (ls1 := [some (.ref x), some (ti i1), some (ti i1651), some (.ref o1933), none]) dX11_measureLegs_49 rfl rfl rfl ?_
        refine GO.aload_n dX11_measureLegs_50 rfl rfl ?_
        refine GO.aload_n dX11_measureLegs_51 rfl rfl ?_
        refine GO.getRaw h_x fl_RX11_26 hv1920 dX11_measureLegs_52 ?_
        refine GO.getRaw h1919 fl_RX11_593 hv1922 dX11_measureLegs_55 ?_
        refine GO.iload_n dX11_measureLegs_58 rfl rfl ?_
        refine GO.iconst dX11_measureLegs_59 ?_
        refine GO.callV (ci := 24) (N := mX8_get_k24) dX11_measureLegs_60 (RX8, TX8, 4) rfl gV_RX11_209 h1921 (t_X8_get_k24 h1921 r_i1651 (ir_c rfl)) rfl [.ref x] rfl rfl (Nat.le_of_ble_eq_true rfl) rfl (k_ip fun X1950 r1951 h1952 => ?_)
        refine GO.iconst dX11_measureLegs_63 ?_
        refine GO.callV (ci := 10) (N := mX11_placeOf) dX11_measureLegs_64 (RX11, TX11, 20) rfl gV_RX11_169 h_x (t_X11_placeOf h_x r1951 (ir_c rfl)) rfl [] rfl rfl (Nat.le_of_ble_eq_true rfl) rfl (k_rp (fun h1955 => ?_) (fun o1953 h1954 h1955 => ?_))
        ·
          refine GO.astoreN (ls1 := [some (.ref x), some (ti i1), some (ti i1651), some (.ref o1933), some (.null)]) dX11_measureLegs_67 rfl rfl ?_
          refine GO.aload_n dX11_measureLegs_69 rfl rfl ?_
          refine GO.ifnull dX11_measureLegs_70 ?_
          refine GO.aloadN dX11_measureLegs_73 rfl ?_
          refine GO.ifnullN (tgt := 112) dX11_measureLegs_75 (by decide) ?_
          refine GO.iinc (X := i1651) (n := 1) (Y := i1651 + 1) (ls1 := [some (.ref x), some (ti i1), some (ti (i1651 + 1)), some (.ref o1933), some (.null)]) dX11_measureLegs_112 rfl rfl rfl rfl ?_
          refine GO.goto (tgt := 18) dX11_measureLegs_115 (by decide) ?_
          refine GO.drop [true, true, true, false, false] rfl ?_
          exact ih1917 (i1651 + 1) Wi1651 ⟨by omega, by omega, trivial⟩ (by show (2147483647 - (i1651 + 1)).toNat < (2147483647 - i1651).toNat; omega)
        ·
          refine GO.astore (ls1 := [some (.ref x), some (ti i1), some (ti i1651), some (.ref o1933), some (.ref o1953)]) dX11_measureLegs_67 rfl rfl ?_
          refine GO.aload_n dX11_measureLegs_69 rfl rfl ?_
          refine GO.ifnull dX11_measureLegs_70 ?_
          refine GO.aload dX11_measureLegs_73 rfl ?_
          refine GO.ifnull dX11_measureLegs_75 ?_
          refine GO.aload_n dX11_measureLegs_78 rfl rfl ?_
          refine GO.getRaw h_x fl_RX11_26 hv1920 dX11_measureLegs_79 ?_
          refine GO.getB h1919 fl_RX11_623 rfl rfl dX11_measureLegs_82 (fun n1960 hv1959 h1958 b1961 => ?_)
          refine GO.iload_n dX11_measureLegs_85 rfl rfl ?_
          refine GO.bipush dX11_measureLegs_86 rfl ?_
          refine GO.imul dX11_measureLegs_88 ?_
          refine GO.iload_n dX11_measureLegs_89 rfl rfl ?_
          refine GO.iadd dX11_measureLegs_90 ?_
          refine GO.iconst dX11_measureLegs_91 ?_
          refine GO.aload_n dX11_measureLegs_92 rfl rfl ?_
          refine GO.getR h_x fl_RX11_12 rfl rfl dX11_measureLegs_93 (fun hv1963 h1962 => ?_)
          refine GO.aload_n dX11_measureLegs_96 rfl rfl ?_
          refine GO.getI h1934 fl_RX11_344 rfl rfl dX11_measureLegs_97 (fun _ _ => ?_)
          refine GO.aload dX11_measureLegs_100 rfl ?_
          refine GO.getI h1954 fl_RX11_344 rfl rfl dX11_measureLegs_102 (fun _ _ => ?_)
          refine GO.callV (ci := 0) (N := mX0_far) dX11_measureLegs_105 (RX0, TX0, 13) rfl gV_RX11_388 h1962 (t_X0_far h1962 vi_ir vi_ir) rfl [ti 2, ti ((i1 * 8) + i1651), .ref (vq Wi1651 (vq Wi1651 x 2) 3)] rfl rfl (Nat.le_of_ble_eq_true rfl) rfl (k_ip fun X1964 r1965 h1966 => ?_)
          refine GO.imul dX11_measureLegs_108 ?_
          refine GO.norm (fun z1967 r1968 _ => ?_)
          refine GO.callS (N := mX4_put) dX11_measureLegs_109 gS_RX11_108 (t_X4_put h1958 ⟨by omega, by omega⟩ r1968) rfl [] rfl rfl (Nat.le_of_ble_eq_true rfl) rfl (k_vs fun V1971 h1970 hF1969 => ?_)
          refine GO.iinc (X := i1651) (n := 1) (Y := i1651 + 1) (ls1 := [some (.ref x), some (ti i1), some (ti (i1651 + 1)), some (.ref o1933), some (.ref o1953)]) dX11_measureLegs_112 rfl rfl rfl rfl ?_
          refine GO.goto (tgt := 18) dX11_measureLegs_115 (by decide) ?_
          refine GO.drop [true, true, true, false, false] rfl ?_
          exact ih1917 (i1651 + 1) V1971 ⟨by omega, by omega, trivial⟩ (by show (2147483647 - (i1651 + 1)).toNat < (2147483647 - i1651).toNat; omega)

set_option maxHeartbeats 1000000 in
theorem t_X11_plan {K : Kmap} {V : Vmap} {x : Nat} {p0 : Int} {p1 : Int} {p2 : Int} (h_x : K x = some (0, 10)) (r_p0 : ir p0) (r_p1 : ir p1) (r_p2 : ir p2) : MC mX11_plan K V [.ref x, ti p0, ti p1, ti p2] (IS K (fun X V1 => True)) := by
  refine MC.start 2 (by decide +kernel) rfl rfl rfl (ls0 := [some (.ref x), some (ti p0), some (ti p1), some (ti p2), none, none]) rfl ?_
  refine GO.aload_n dX11_plan_0 rfl rfl ?_
  refine GO.iload_n dX11_plan_1 rfl rfl ?_
  refine GO.callV (ci := 10) (N := mX11_shipOf) dX11_plan_2 (RX11, TX11, 20) rfl gV_RX11_403 h_x (t_X11_shipOf h_x r_p0) rfl [] rfl rfl (Nat.le_of_ble_eq_true rfl) rfl (k_rp (fun h3 => ?_) (fun o1 h2 h3 => ?_))
  ·
    have hn4 : SN V x → p0 < 0 ∨ vi V x 10 ≤ p0 := h3.2
    refine GO.astoreN (ls1 := [some (.ref x), some (ti p0), some (ti p1), some (ti p2), some (.null), none]) dX11_plan_5 rfl rfl ?_
    refine GO.aloadN dX11_plan_7 rfl ?_
    refine GO.ifnullN (tgt := 30) dX11_plan_9 (by decide) ?_
    refine GO.iconst dX11_plan_30 ?_
    exact GO.reti rfl rfl dX11_plan_31 ⟨rfl, _, rfl, (ir_c rfl), trivial⟩
  ·
    have hp5 : p0 ≥ 0 ∧ p0 < vi V x 10 := h3
    refine GO.astore (ls1 := [some (.ref x), some (ti p0), some (ti p1), some (ti p2), some (.ref o1), none]) dX11_plan_5 rfl rfl ?_
    refine GO.aload dX11_plan_7 rfl ?_
    refine GO.ifnull dX11_plan_9 ?_
    refine GO.iload_n dX11_plan_12 rfl rfl ?_
    refine GO.callS (N := mX11_isSea) dX11_plan_13 gS_RX11_394 (t_X11_isSea r_p1) rfl [] rfl rfl (Nat.le_of_ble_eq_true rfl) rfl (k_ip fun X6 r7 h8 => ?_)
    refine GO.if_eq (tgt := 30) dX11_plan_16 (by decide) r7 (fun c9 => ?_) (fun c9 => ?_)
    ·
      have q10 := h8.2.2 (by omega)
      refine GO.iconst dX11_plan_30 ?_
      exact GO.reti rfl rfl dX11_plan_31 ⟨rfl, _, rfl, (ir_c rfl), trivial⟩
    ·
      have q11 := h8.2.1 (by omega)
      refine GO.iload_n dX11_plan_19 rfl rfl ?_
      refine GO.iconst dX11_plan_20 ?_
      refine GO.sipush dX11_plan_21 rfl ?_
      refine GO.callS (N := mX11_between) dX11_plan_24 gS_RX11_112 (t_X11_between r_p2 (ir_c rfl) (ir_c rfl)) rfl [] rfl rfl (Nat.le_of_ble_eq_true rfl) rfl (k_ip fun X12 r13 h14 => ?_)
      refine GO.if_ne (tgt := 32) dX11_plan_27 (by decide) r13 (fun c15 => ?_) (fun c15 => ?_)
      ·
        have q16 := h14.2.1 (by omega)
        refine GO.aload_n dX11_plan_32 rfl rfl ?_
        refine GO.getR h_x fl_RX11_26 rfl rfl dX11_plan_33 (fun hv18 h17 => ?_)
        refine GO.getR h17 fl_RX11_593 rfl rfl dX11_plan_36 (fun hv20 h19 => ?_)
        refine GO.getI h19 fl_RX11_199_k24 rfl rfl dX11_plan_39 (fun l21 u22 => ?_)
        refine GO.if_eq (tgt := 60) dX11_plan_42 (by decide) vi_ir (fun c23 => ?_) (fun c23 => ?_)
        ·
          refine GO.iconst dX11_plan_60 ?_
          exact GO.reti rfl rfl dX11_plan_61 ⟨rfl, _, rfl, (ir_c rfl), trivial⟩
        ·
          refine GO.aload_n dX11_plan_45 rfl rfl ?_
          refine GO.getRaw h_x fl_RX11_26 hv18 dX11_plan_46 ?_
          refine GO.callV (ci := 5) (N := mX6_needs) dX11_plan_49 (RX6, TX6, 10) rfl gV_RX11_602 h17 (t_X6_needs h17) rfl [] rfl rfl (Nat.le_of_ble_eq_true rfl) rfl (k_ip fun X26 r27 h28 => ?_)
          refine GO.aload dX11_plan_52 rfl ?_
          refine GO.getI h2 fl_RX11_407 rfl rfl dX11_plan_54 (fun _ _ => ?_)
          refine GO.icmp_le (tgt := 62) dX11_plan_57 (by decide) r27 vi_ir (fun c29 => ?_) (fun c29 => ?_)
          ·
            refine GO.iload_n dX11_plan_62 rfl rfl ?_
            refine GO.aload_n dX11_plan_63 rfl rfl ?_
            refine GO.getR h_x fl_RX11_12 rfl rfl dX11_plan_64 (fun hv31 h30 => ?_)
            refine GO.getB h30 fl_RX11_400 rfl rfl dX11_plan_67 (fun n34 hv33 h32 b35 => ?_)
            refine GO.iload_n dX11_plan_70 rfl rfl ?_
            refine GO.callS (N := mX4_get) dX11_plan_71 gS_RX11_253 (t_X4_get rfl h32 r_p1) rfl [ti p2] rfl rfl (Nat.le_of_ble_eq_true rfl) rfl (k_ip fun X36 r37 h38 => ?_)
            refine GO.iadd dX11_plan_74 ?_
            refine GO.norm (fun z39 r40 _ => ?_)
            refine GO.istore (ls1 := [some (.ref x), some (ti p0), some (ti p1), some (ti p2), some (.ref o1), some (ti z39)]) dX11_plan_75 rfl rfl ?_
            refine GO.aload_n dX11_plan_77 rfl rfl ?_
            refine GO.getRaw h_x fl_RX11_26 hv18 dX11_plan_78 ?_
            refine GO.getI h17 fl_RX11_605 rfl rfl dX11_plan_81 (fun _ _ => ?_)
            refine GO.iload dX11_plan_84 rfl ?_
            refine GO.icmp_eq (tgt := 102) dX11_plan_86 (by decide) vi_ir r40 (fun c43 => ?_) (fun c43 => ?_)
            ·
              refine GO.aload_n dX11_plan_102 rfl rfl ?_
              refine GO.getRaw h_x fl_RX11_26 hv18 dX11_plan_103 ?_
              refine GO.getI h17 fl_RX11_614 rfl rfl dX11_plan_106 (fun _ _ => ?_)
              have q46 : -2147483648 ≤ vi V (vq V x 2) 9 ∧ vi V (vq V x 2) 9 ≤ 2147483647 := vi_ir
              exact GO.reti rfl rfl dX11_plan_109 ⟨rfl, _, rfl, vi_ir, trivial⟩
            ·
              refine GO.aload_n dX11_plan_89 rfl rfl ?_
              refine GO.callV (ci := 10) (N := mX11_measureLegs) dX11_plan_90 (RX11, TX11, 20) rfl gV_RX11_608 h_x (t_X11_measureLegs h_x) rfl [] rfl rfl (Nat.le_of_ble_eq_true rfl) rfl (k_vs fun V49 h48 hF47 => ?_)
              refine GO.aload_n dX11_plan_93 rfl rfl ?_
              refine GO.getRaw h_x fl_RX11_26 (Eq.trans (hF47 _ _ _ h_x h_x (by decide +kernel)) hv18) dX11_plan_94 ?_
              refine GO.iload dX11_plan_97 rfl ?_
              refine GO.callV (ci := 5) (N := mX6_seek) dX11_plan_99 (RX6, TX6, 10) rfl gV_RX11_611 h17 (t_X6_seek h17 r40) rfl [] rfl rfl (Nat.le_of_ble_eq_true rfl) rfl (k_vs fun V54 h53 hF52 => ?_)
              refine GO.aload_n dX11_plan_102 rfl rfl ?_
              refine GO.getRaw h_x fl_RX11_26 (Eq.trans (hF52 _ _ _ h_x h_x (by decide +kernel)) (Eq.trans (hF47 _ _ _ h_x h_x (by decide +kernel)) hv18)) dX11_plan_103 ?_
              refine GO.getI h17 fl_RX11_614 rfl rfl dX11_plan_106 (fun _ _ => ?_)
              have q57 : -2147483648 ≤ vi V54 (vq V x 2) 9 ∧ vi V54 (vq V x 2) 9 ≤ 2147483647 := vi_ir
              exact GO.reti rfl rfl dX11_plan_109 ⟨rfl, _, rfl, vi_ir, trivial⟩
          ·
            refine GO.iconst dX11_plan_60 ?_
            exact GO.reti rfl rfl dX11_plan_61 ⟨rfl, _, rfl, (ir_c rfl), trivial⟩
      ·
        have q58 := h14.2.2 (by omega)
        refine GO.iconst dX11_plan_30 ?_
        exact GO.reti rfl rfl dX11_plan_31 ⟨rfl, _, rfl, (ir_c rfl), trivial⟩

set_option maxHeartbeats 1000000 in
theorem t_X11_planned {K : Kmap} {V : Vmap} {x : Nat} {p0 : Int} {p1 : Int} {p2 : Int} {p3 : Int} (h_x : K x = some (0, 10)) (r_p0 : ir p0) (r_p1 : ir p1) (r_p2 : ir p2) (r_p3 : ir p3) : MC mX11_planned K V [.ref x, ti p0, ti p1, ti p2, ti p3] (IS K (fun X V1 => True)) := by
  refine MC.start 0 (by decide +kernel) rfl rfl rfl (ls0 := [some (.ref x), some (ti p0), some (ti p1), some (ti p2), some (ti p3)]) rfl ?_
  refine GO.aload_n dX11_planned_0 rfl rfl ?_
  refine GO.iload_n dX11_planned_1 rfl rfl ?_
  refine GO.iload_n dX11_planned_2 rfl rfl ?_
  refine GO.iload_n dX11_planned_3 rfl rfl ?_
  refine GO.callV (ci := 10) (N := mX11_plan) dX11_planned_4 (RX11, TX11, 20) rfl gV_RX11_617 h_x (t_X11_plan h_x r_p0 r_p1 r_p2) rfl [] rfl rfl (Nat.le_of_ble_eq_true rfl) rfl (k_is fun X1 V5 r2 h3 hF4 => ?_)
  refine GO.iconst dX11_planned_7 ?_
  refine GO.icmp_eq (tgt := 26) dX11_planned_8 (by decide) r2 (ir_c rfl) (fun c6 => ?_) (fun c6 => ?_)
  ·
    refine GO.iconst dX11_planned_26 ?_
    exact GO.reti rfl rfl dX11_planned_27 ⟨rfl, _, rfl, (ir_c rfl), trivial⟩
  ·
    refine GO.aload_n dX11_planned_11 rfl rfl ?_
    refine GO.getR h_x fl_RX11_26 rfl rfl dX11_planned_12 (fun hv8 h7 => ?_)
    refine GO.getR h7 fl_RX11_593 rfl rfl dX11_planned_15 (fun hv10 h9 => ?_)
    refine GO.iload dX11_planned_18 rfl ?_
    refine GO.callV (ci := 24) (N := mX8_has_k24) dX11_planned_20 (RX8, TX8, 4) rfl gV_RX11_431 h9 (t_X8_has_k24 h9 r_p3) rfl [] rfl rfl (Nat.le_of_ble_eq_true rfl) rfl (k_ip fun X11 r12 h13 => ?_)
    refine GO.if_ne (tgt := 28) dX11_planned_23 (by decide) r12 (fun c14 => ?_) (fun c14 => ?_)
    ·
      refine GO.aload_n dX11_planned_28 rfl rfl ?_
      refine GO.getRaw h_x fl_RX11_26 hv8 dX11_planned_29 ?_
      refine GO.getB h7 fl_RX11_620 rfl rfl dX11_planned_32 (fun n19 hv18 h17 b20 => ?_)
      refine GO.iload dX11_planned_35 rfl ?_
      refine GO.callS (N := mX4_get) dX11_planned_37 gS_RX11_253 (t_X4_get rfl h17 r_p3) rfl [] rfl rfl (Nat.le_of_ble_eq_true rfl) rfl (k_ip fun X21 r22 h23 => ?_)
      have q24 : -2147483648 ≤ X21 ∧ X21 ≤ 2147483647 := r22
      exact GO.reti rfl rfl dX11_planned_40 ⟨rfl, _, rfl, r22, trivial⟩
    ·
      refine GO.iconst dX11_planned_26 ?_
      exact GO.reti rfl rfl dX11_planned_27 ⟨rfl, _, rfl, (ir_c rfl), trivial⟩

set_option maxHeartbeats 1000000 in
theorem t_X11_report {K : Kmap} {V : Vmap} {x : Nat} {p0 : Int} {p1 : Int} {p2 : Int} {p3 : Int} (h_x : K x = some (0, 10)) (r_p0 : ir p0) (r_p1 : ir p1) (r_p2 : ir p2) (r_p3 : ir p3) (z_p3 : p3 = 0 ∨ p3 = 1) : MC mX11_report K V [.ref x, ti p0, ti p1, ti p2, ti p3] (IS K (fun X V1 => (X = 0 ∨ X = 1) ∧ (X ≠ 0 → True) ∧ (X = 0 → True))) := by
  refine MC.start 0 (by decide +kernel) rfl rfl rfl (ls0 := [some (.ref x), some (ti p0), some (ti p1), some (ti p2), some (ti p3)]) rfl ?_
  refine GO.aload_n dX11_report_0 rfl rfl ?_
  refine GO.iload_n dX11_report_1 rfl rfl ?_
  refine GO.iconst dX11_report_2 ?_
  refine GO.callV (ci := 10) (N := mX11_placeOf) dX11_report_3 (RX11, TX11, 20) rfl gV_RX11_169 h_x (t_X11_placeOf h_x r_p0 (ir_c rfl)) rfl [] rfl rfl (Nat.le_of_ble_eq_true rfl) rfl (k_rp (fun h3 => ?_) (fun o1 h2 h3 => ?_))
  ·
    refine GO.ifnullN (tgt := 24) dX11_report_6 (by decide) ?_
    refine GO.iconst dX11_report_24 ?_
    exact GO.retz rfl rfl dX11_report_25 (by omega) ⟨rfl, _, rfl, (ir_c rfl), ⟨by omega, fun _ => trivial, fun _ => trivial⟩⟩
  ·
    refine GO.ifnull dX11_report_6 ?_
    refine GO.iload_n dX11_report_9 rfl rfl ?_
    refine GO.iconst dX11_report_10 ?_
    refine GO.aload_n dX11_report_11 rfl rfl ?_
    refine GO.getR h_x fl_RX11_12 rfl rfl dX11_report_12 (fun hv5 h4 => ?_)
    refine GO.getI h4 fl_RX11_145 rfl rfl dX11_report_15 (fun _ _ => ?_)
    refine GO.callS (N := mX11_between) dX11_report_18 gS_RX11_112 (t_X11_between r_p1 (ir_c rfl) vi_ir) rfl [] rfl rfl (Nat.le_of_ble_eq_true rfl) rfl (k_ip fun X6 r7 h8 => ?_)
    refine GO.if_ne (tgt := 26) dX11_report_21 (by decide) r7 (fun c9 => ?_) (fun c9 => ?_)
    ·
      have q10 := h8.2.1 (by omega)
      refine GO.iload dX11_report_26 rfl ?_
      have hj18 : GO mX11_report K V (IS K (fun X V1 => (X = 0 ∨ X = 1) ∧ (X ≠ 0 → True) ∧ (X = 0 → True))) K V 0 0 46 [some (.ref x), some (ti p0), some (ti p1), some (ti p2), some (ti p3)] [] := by
        skip
        refine GO.aload_n dX11_report_46 rfl rfl ?_
        refine GO.getR h_x fl_RX11_85 rfl rfl dX11_report_47 (fun hv20 h19 => ?_)
        refine GO.iload_n dX11_report_50 rfl rfl ?_
        refine GO.iload_n dX11_report_51 rfl rfl ?_
        refine GO.iload_n dX11_report_52 rfl rfl ?_
        refine GO.iload dX11_report_53 rfl ?_
        refine GO.if_eq (tgt := 62) dX11_report_55 (by decide) r_p3 (fun c21 => ?_) (fun c21 => ?_)
        ·
          refine GO.iconst dX11_report_62 ?_
          refine GO.aload_n dX11_report_63 rfl rfl ?_
          refine GO.getRaw h_x fl_RX11_12 hv5 dX11_report_64 ?_
          refine GO.getI h4 fl_RX11_145 rfl rfl dX11_report_67 (fun _ _ => ?_)
          refine GO.callV (ci := 7) (N := mX8_append) dX11_report_70 (RX8, TX8, 4) rfl gV_RX11_205 h19 (t_X8_append h19 r_p0 r_p1 r_p2 (ir_c rfl) vi_ir) rfl [] rfl rfl (Nat.le_of_ble_eq_true rfl) rfl (k_is fun X24 V28 r25 h26 hF27 => ?_)
          refine GO.iconst dX11_report_73 ?_
          refine GO.icmp_eq (tgt := 81) dX11_report_74 (by decide) r25 (ir_c rfl) (fun c29 => ?_) (fun c29 => ?_)
          ·
            refine GO.iconst dX11_report_81 ?_
            exact GO.retz rfl rfl dX11_report_82 (by omega) ⟨rfl, _, rfl, (ir_c rfl), ⟨by omega, fun _ => trivial, fun _ => trivial⟩⟩
          ·
            refine GO.iconst dX11_report_77 ?_
            refine GO.goto (tgt := 82) dX11_report_78 (by decide) ?_
            exact GO.retz rfl rfl dX11_report_82 (by omega) ⟨rfl, _, rfl, (ir_c rfl), ⟨by omega, fun _ => trivial, fun _ => trivial⟩⟩
        ·
          refine GO.iconst dX11_report_58 ?_
          refine GO.goto (tgt := 63) dX11_report_59 (by decide) ?_
          refine GO.aload_n dX11_report_63 rfl rfl ?_
          refine GO.getRaw h_x fl_RX11_12 hv5 dX11_report_64 ?_
          refine GO.getI h4 fl_RX11_145 rfl rfl dX11_report_67 (fun _ _ => ?_)
          refine GO.callV (ci := 7) (N := mX8_append) dX11_report_70 (RX8, TX8, 4) rfl gV_RX11_205 h19 (t_X8_append h19 r_p0 r_p1 r_p2 (ir_c rfl) vi_ir) rfl [] rfl rfl (Nat.le_of_ble_eq_true rfl) rfl (k_is fun X32 V36 r33 h34 hF35 => ?_)
          refine GO.iconst dX11_report_73 ?_
          refine GO.icmp_eq (tgt := 81) dX11_report_74 (by decide) r33 (ir_c rfl) (fun c37 => ?_) (fun c37 => ?_)
          ·
            refine GO.iconst dX11_report_81 ?_
            exact GO.retz rfl rfl dX11_report_82 (by omega) ⟨rfl, _, rfl, (ir_c rfl), ⟨by omega, fun _ => trivial, fun _ => trivial⟩⟩
          ·
            refine GO.iconst dX11_report_77 ?_
            refine GO.goto (tgt := 82) dX11_report_78 (by decide) ?_
            exact GO.retz rfl rfl dX11_report_82 (by omega) ⟨rfl, _, rfl, (ir_c rfl), ⟨by omega, fun _ => trivial, fun _ => trivial⟩⟩
      refine GO.if_eq (tgt := 46) dX11_report_28 (by decide) r_p3 (fun c38 => ?_) (fun c38 => ?_)
      ·
        exact hj18 
      ·
        refine GO.iload_n dX11_report_31 rfl rfl ?_
        refine GO.sipush dX11_report_32 rfl ?_
        refine GO.ldcw (X := 1000000) dX11_report_35 gw_1159 rfl ?_
        refine GO.callS (N := mX11_between) dX11_report_38 gS_RX11_112 (t_X11_between r_p2 (ir_c rfl) (ir_c rfl)) rfl [] rfl rfl (Nat.le_of_ble_eq_true rfl) rfl (k_ip fun X39 r40 h41 => ?_)
        refine GO.if_ne (tgt := 46) dX11_report_41 (by decide) r40 (fun c42 => ?_) (fun c42 => ?_)
        ·
          have q43 := h41.2.1 (by omega)
          exact hj18 
        ·
          have q44 := h41.2.2 (by omega)
          refine GO.iconst dX11_report_44 ?_
          exact GO.retz rfl rfl dX11_report_45 (by omega) ⟨rfl, _, rfl, (ir_c rfl), ⟨by omega, fun _ => trivial, fun _ => trivial⟩⟩
    ·
      have q45 := h8.2.2 (by omega)
      refine GO.iconst dX11_report_24 ?_
      exact GO.retz rfl rfl dX11_report_25 (by omega) ⟨rfl, _, rfl, (ir_c rfl), ⟨by omega, fun _ => trivial, fun _ => trivial⟩⟩

set_option maxHeartbeats 1000000 in
theorem t_X11_known {K : Kmap} {V : Vmap} {x : Nat} {p0 : Int} {p1 : Int} {p2 : Int} (h_x : K x = some (0, 10)) (r_p0 : ir p0) (r_p1 : ir p1) (r_p2 : ir p2) : MC mX11_known K V [.ref x, ti p0, ti p1, ti p2] (IP K V (fun X => True)) := by
  refine MC.start 5 (by decide +kernel) rfl rfl rfl (ls0 := [some (.ref x), some (ti p0), some (ti p1), some (ti p2), none, none, none, none, none]) rfl ?_
  refine GO.aload_n dX11_known_0 rfl rfl ?_
  refine GO.iload_n dX11_known_1 rfl rfl ?_
  refine GO.iconst dX11_known_2 ?_
  refine GO.callV (ci := 10) (N := mX11_placeOf) dX11_known_3 (RX11, TX11, 20) rfl gV_RX11_169 h_x (t_X11_placeOf h_x r_p0 (ir_c rfl)) rfl [] rfl rfl (Nat.le_of_ble_eq_true rfl) rfl (k_rp (fun h3 => ?_) (fun o1 h2 h3 => ?_))
  ·
    refine GO.ifnullN (tgt := 23) dX11_known_6 (by decide) ?_
    refine GO.ldcw (X := (-1000001)) dX11_known_23 gw_1426 rfl ?_
    exact GO.reti rfl rfl dX11_known_26 ⟨rfl, rfl, _, rfl, (ir_c rfl), trivial⟩
  ·
    refine GO.ifnull dX11_known_6 ?_
    refine GO.iload_n dX11_known_9 rfl rfl ?_
    refine GO.callS (N := mX11_isDay) dX11_known_10 gS_RX11_276 (t_X11_isDay r_p1) rfl [] rfl rfl (Nat.le_of_ble_eq_true rfl) rfl (k_ip fun X4 r5 h6 => ?_)
    refine GO.if_eq (tgt := 23) dX11_known_13 (by decide) r5 (fun c7 => ?_) (fun c7 => ?_)
    ·
      refine GO.ldcw (X := (-1000001)) dX11_known_23 gw_1426 rfl ?_
      exact GO.reti rfl rfl dX11_known_26 ⟨rfl, rfl, _, rfl, (ir_c rfl), trivial⟩
    ·
      refine GO.iload_n dX11_known_16 rfl rfl ?_
      refine GO.callS (N := mX11_isDay) dX11_known_17 gS_RX11_276 (t_X11_isDay r_p2) rfl [] rfl rfl (Nat.le_of_ble_eq_true rfl) rfl (k_ip fun X8 r9 h10 => ?_)
      refine GO.if_ne (tgt := 27) dX11_known_20 (by decide) r9 (fun c11 => ?_) (fun c11 => ?_)
      ·
        refine GO.iconst dX11_known_27 ?_
        refine GO.istore (ls1 := [some (.ref x), some (ti p0), some (ti p1), some (ti p2), some (ti (-1)), none, none, none, none]) dX11_known_28 rfl rfl ?_
        refine GO.iconst dX11_known_30 ?_
        refine GO.istore (ls1 := [some (.ref x), some (ti p0), some (ti p1), some (ti p2), some (ti (-1)), some (ti (-1)), none, none, none]) dX11_known_31 rfl rfl ?_
        refine GO.iconst dX11_known_33 ?_
        refine GO.istore (ls1 := [some (.ref x), some (ti p0), some (ti p1), some (ti p2), some (ti (-1)), some (ti (-1)), some (ti 0), none, none]) dX11_known_34 rfl rfl ?_
        refine GO.loop3 (fun i12 i13 i14 W => (-1) ≤ i12 ∧ i12 ≤ 2147483646 ∧ (-1) ≤ i13 ∧ i13 ≤ 2147483646 ∧ 0 ≤ i14 ∧ i14 ≤ 2147483647 ∧ V = W) (fun i12 i13 i14 => [some (.ref x), some (ti p0), some (ti p1), some (ti p2), some (ti i12), some (ti i13), some (ti i14), none, none]) (fun i12 i13 i14 W => (2147483647 - i14).toNat) (-1) (-1) 0 ⟨by omega, by omega, by omega, by omega, by omega, by omega, rfl⟩ rfl (fun i12 i13 i14 V1620 hp1622 ih1621 => ?_)
        obtain ⟨l_i12, u_i12, l_i13, u_i13, l_i14, u_i14, rfl⟩ := hp1622
        have r_i12 : ir i12 := ⟨by omega, by omega⟩
        have r_i13 : ir i13 := ⟨by omega, by omega⟩
        have r_i14 : ir i14 := ⟨by omega, by omega⟩
        show GO mX11_known K V (IP K V (fun X => True)) K V 0 0 36 [some (.ref x), some (ti p0), some (ti p1), some (ti p2), some (ti i12), some (ti i13), some (ti i14), none, none] []
        refine GO.iload dX11_known_36 rfl ?_
        refine GO.aload_n dX11_known_38 rfl rfl ?_
        refine GO.getR h_x fl_RX11_85 rfl rfl dX11_known_39 (fun hv1624 h1623 => ?_)
        refine GO.getI h1623 fl_RX11_199 rfl rfl dX11_known_42 (fun _ _ => ?_)
        refine GO.icmp_ge (tgt := 176) dX11_known_45 (by decide) r_i14 vi_ir (fun c1625 => ?_) (fun c1625 => ?_)
        ·
          refine GO.iload dX11_known_176 rfl ?_
          refine GO.iconst dX11_known_178 ?_
          refine GO.icmp_eq (tgt := 187) dX11_known_179 (by decide) r_i12 (ir_c rfl) (fun c1626 => ?_) (fun c1626 => ?_)
          ·
            refine GO.iload dX11_known_187 rfl ?_
            refine GO.istore (ls1 := [some (.ref x), some (ti p0), some (ti p1), some (ti p2), some (ti i12), some (ti i13), some (ti i13), none, none]) dX11_known_189 rfl rfl ?_
            refine GO.iload dX11_known_191 rfl ?_
            refine GO.iconst dX11_known_193 ?_
            refine GO.icmp_ne (tgt := 203) dX11_known_194 (by decide) r_i13 (ir_c rfl) (fun c1627 => ?_) (fun c1627 => ?_)
            ·
              refine GO.aload_n dX11_known_203 rfl rfl ?_
              refine GO.getRaw h_x fl_RX11_85 hv1624 dX11_known_204 ?_
              refine GO.iload dX11_known_207 rfl ?_
              refine GO.iconst dX11_known_209 ?_
              refine GO.callV (ci := 7) (N := mX8_get) dX11_known_210 (RX8, TX8, 4) rfl gV_RX11_209 h1623 (t_X8_get h1623 r_i13 (ir_c rfl)) rfl [] rfl rfl (Nat.le_of_ble_eq_true rfl) rfl (k_ip fun X1630 r1631 h1632 => ?_)
              have q1633 : -2147483648 ≤ X1630 ∧ X1630 ≤ 2147483647 := r1631
              exact GO.reti rfl rfl dX11_known_213 ⟨rfl, rfl, _, rfl, r1631, trivial⟩
            ·
              refine GO.ldcw (X := (-1000001)) dX11_known_197 gw_1426 rfl ?_
              refine GO.goto (tgt := 213) dX11_known_200 (by decide) ?_
              exact GO.reti rfl rfl dX11_known_213 ⟨rfl, rfl, _, rfl, (ir_c rfl), trivial⟩
          ·
            refine GO.iload dX11_known_182 rfl ?_
            refine GO.goto (tgt := 189) dX11_known_184 (by decide) ?_
            refine GO.istore (ls1 := [some (.ref x), some (ti p0), some (ti p1), some (ti p2), some (ti i12), some (ti i13), some (ti i12), none, none]) dX11_known_189 rfl rfl ?_
            refine GO.iload dX11_known_191 rfl ?_
            refine GO.iconst dX11_known_193 ?_
            refine GO.icmp_ne (tgt := 203) dX11_known_194 (by decide) r_i12 (ir_c rfl) (fun c1634 => ?_) (fun h => by exfalso; omega)
            refine GO.aload_n dX11_known_203 rfl rfl ?_
            refine GO.getRaw h_x fl_RX11_85 hv1624 dX11_known_204 ?_
            refine GO.iload dX11_known_207 rfl ?_
            refine GO.iconst dX11_known_209 ?_
            refine GO.callV (ci := 7) (N := mX8_get) dX11_known_210 (RX8, TX8, 4) rfl gV_RX11_209 h1623 (t_X8_get h1623 r_i12 (ir_c rfl)) rfl [] rfl rfl (Nat.le_of_ble_eq_true rfl) rfl (k_ip fun X1637 r1638 h1639 => ?_)
            have q1640 : -2147483648 ≤ X1637 ∧ X1637 ≤ 2147483647 := r1638
            exact GO.reti rfl rfl dX11_known_213 ⟨rfl, rfl, _, rfl, r1638, trivial⟩
        ·
          refine GO.aload_n dX11_known_48 rfl rfl ?_
          refine GO.getRaw h_x fl_RX11_85 hv1624 dX11_known_49 ?_
          refine GO.iload dX11_known_52 rfl ?_
          refine GO.iconst dX11_known_54 ?_
          refine GO.callV (ci := 7) (N := mX8_get) dX11_known_55 (RX8, TX8, 4) rfl gV_RX11_209 h1623 (t_X8_get h1623 r_i14 (ir_c rfl)) rfl [] rfl rfl (Nat.le_of_ble_eq_true rfl) rfl (k_ip fun X1643 r1644 h1645 => ?_)
          refine GO.iload_n dX11_known_58 rfl rfl ?_
          refine GO.icmp_ne (tgt := 170) dX11_known_59 (by decide) r1644 r_p0 (fun c1646 => ?_) (fun c1646 => ?_)
          ·
            refine GO.iinc (X := i14) (n := 1) (Y := i14 + 1) (ls1 := [some (.ref x), some (ti p0), some (ti p1), some (ti p2), some (ti i12), some (ti i13), some (ti (i14 + 1)), none, none]) dX11_known_170 rfl rfl rfl rfl ?_
            refine GO.goto (tgt := 36) dX11_known_173 (by decide) ?_
            have q1647 : -2147483648 ≤ vi V (vq V x 15) 3 ∧ vi V (vq V x 15) 3 ≤ 2147483647 := vi_ir
            exact ih1621 i12 i13 (i14 + 1) V ⟨by omega, by omega, by omega, by omega, by omega, by omega, rfl⟩ (by show (2147483647 - (i14 + 1)).toNat < (2147483647 - i14).toNat; omega)
          ·
            refine GO.aload_n dX11_known_62 rfl rfl ?_
            refine GO.getRaw h_x fl_RX11_85 hv1624 dX11_known_63 ?_
            refine GO.iload dX11_known_66 rfl ?_
            refine GO.iconst dX11_known_68 ?_
            refine GO.callV (ci := 7) (N := mX8_get) dX11_known_69 (RX8, TX8, 4) rfl gV_RX11_209 h1623 (t_X8_get h1623 r_i14 (ir_c rfl)) rfl [] rfl rfl (Nat.le_of_ble_eq_true rfl) rfl (k_ip fun X1650 r1651 h1652 => ?_)
            refine GO.iload_n dX11_known_72 rfl rfl ?_
            refine GO.icmp_le (tgt := 79) dX11_known_73 (by decide) r1651 r_p2 (fun c1653 => ?_) (fun c1653 => ?_)
            ·
              refine GO.aload_n dX11_known_79 rfl rfl ?_
              refine GO.getRaw h_x fl_RX11_85 hv1624 dX11_known_80 ?_
              refine GO.iload dX11_known_83 rfl ?_
              refine GO.iconst dX11_known_85 ?_
              refine GO.callV (ci := 7) (N := mX8_get) dX11_known_86 (RX8, TX8, 4) rfl gV_RX11_209 h1623 (t_X8_get h1623 r_i14 (ir_c rfl)) rfl [] rfl rfl (Nat.le_of_ble_eq_true rfl) rfl (k_ip fun X1656 r1657 h1658 => ?_)
              refine GO.istore (ls1 := [some (.ref x), some (ti p0), some (ti p1), some (ti p2), some (ti i12), some (ti i13), some (ti i14), some (ti X1656), none]) dX11_known_89 rfl rfl ?_
              refine GO.aload_n dX11_known_91 rfl rfl ?_
              refine GO.getRaw h_x fl_RX11_85 hv1624 dX11_known_92 ?_
              refine GO.iload dX11_known_95 rfl ?_
              refine GO.iconst dX11_known_97 ?_
              refine GO.callV (ci := 7) (N := mX8_get) dX11_known_98 (RX8, TX8, 4) rfl gV_RX11_209 h1623 (t_X8_get h1623 r_i14 (ir_c rfl)) rfl [] rfl rfl (Nat.le_of_ble_eq_true rfl) rfl (k_ip fun X1661 r1662 h1663 => ?_)
              refine GO.iconst dX11_known_101 ?_
              have hj1666 : ∀ (z1665 : Int), ∀ (l1667 : 0 ≤ z1665), ∀ (u1668 : z1665 ≤ 1), GO mX11_known K V (IP K V (fun X => True)) K V 0 0 110 [some (.ref x), some (ti p0), some (ti p1), some (ti p2), some (ti i12), some (ti i13), some (ti i14), some (ti X1656), none] [ti z1665] := by
                intro z1665 l1667 u1668
                have r1669 : ir z1665 := ⟨by omega, by omega⟩
                refine GO.istore (ls1 := [some (.ref x), some (ti p0), some (ti p1), some (ti p2), some (ti i12), some (ti i13), some (ti i14), some (ti X1656), some (ti z1665)]) dX11_known_110 rfl rfl ?_
                refine GO.iload dX11_known_112 rfl ?_
                refine GO.iload_n dX11_known_114 rfl rfl ?_
                refine GO.icmp_ne (tgt := 134) dX11_known_115 (by decide) r1657 r_p1 (fun c1670 => ?_) (fun c1670 => ?_)
                ·
                  refine GO.iload dX11_known_134 rfl ?_
                  refine GO.iload_n dX11_known_136 rfl rfl ?_
                  refine GO.icmp_ge (tgt := 170) dX11_known_137 (by decide) r1657 r_p1 (fun c1671 => ?_) (fun c1671 => ?_)
                  ·
                    refine GO.iinc (X := i14) (n := 1) (Y := i14 + 1) (ls1 := [some (.ref x), some (ti p0), some (ti p1), some (ti p2), some (ti i12), some (ti i13), some (ti (i14 + 1)), some (ti X1656), some (ti z1665)]) dX11_known_170 rfl rfl rfl rfl ?_
                    refine GO.goto (tgt := 36) dX11_known_173 (by decide) ?_
                    refine GO.drop [true, true, true, true, true, true, true, false, false] rfl ?_
                    have q1672 : -2147483648 ≤ vi V (vq V x 15) 3 ∧ vi V (vq V x 15) 3 ≤ 2147483647 := vi_ir
                    exact ih1621 i12 i13 (i14 + 1) V ⟨by omega, by omega, by omega, by omega, by omega, by omega, rfl⟩ (by show (2147483647 - (i14 + 1)).toNat < (2147483647 - i14).toNat; omega)
                  ·
                    refine GO.iload dX11_known_140 rfl ?_
                    refine GO.if_eq (tgt := 170) dX11_known_142 (by decide) r1669 (fun c1673 => ?_) (fun c1673 => ?_)
                    ·
                      refine GO.iinc (X := i14) (n := 1) (Y := i14 + 1) (ls1 := [some (.ref x), some (ti p0), some (ti p1), some (ti p2), some (ti i12), some (ti i13), some (ti (i14 + 1)), some (ti X1656), some (ti z1665)]) dX11_known_170 rfl rfl rfl rfl ?_
                      refine GO.goto (tgt := 36) dX11_known_173 (by decide) ?_
                      refine GO.drop [true, true, true, true, true, true, true, false, false] rfl ?_
                      have q1674 : -2147483648 ≤ vi V (vq V x 15) 3 ∧ vi V (vq V x 15) 3 ≤ 2147483647 := vi_ir
                      exact ih1621 i12 i13 (i14 + 1) V ⟨by omega, by omega, by omega, by omega, by omega, by omega, rfl⟩ (by show (2147483647 - (i14 + 1)).toNat < (2147483647 - i14).toNat; omega)
                    ·
                      refine GO.iload dX11_known_145 rfl ?_
                      refine GO.iconst dX11_known_147 ?_
                      refine GO.icmp_eq (tgt := 166) dX11_known_148 (by decide) r_i13 (ir_c rfl) (fun c1675 => ?_) (fun c1675 => ?_)
                      ·
                        refine GO.iload dX11_known_166 rfl ?_
                        refine GO.istore (ls1 := [some (.ref x), some (ti p0), some (ti p1), some (ti p2), some (ti i12), some (ti i14), some (ti i14), some (ti X1656), some (ti z1665)]) dX11_known_168 rfl rfl ?_
                        refine GO.iinc (X := i14) (n := 1) (Y := i14 + 1) (ls1 := [some (.ref x), some (ti p0), some (ti p1), some (ti p2), some (ti i12), some (ti i14), some (ti (i14 + 1)), some (ti X1656), some (ti z1665)]) dX11_known_170 rfl rfl rfl rfl ?_
                        refine GO.goto (tgt := 36) dX11_known_173 (by decide) ?_
                        refine GO.drop [true, true, true, true, true, true, true, false, false] rfl ?_
                        have q1676 : -2147483648 ≤ vi V (vq V x 15) 3 ∧ vi V (vq V x 15) 3 ≤ 2147483647 := vi_ir
                        exact ih1621 i12 i14 (i14 + 1) V ⟨by omega, by omega, by omega, by omega, by omega, by omega, rfl⟩ (by show (2147483647 - (i14 + 1)).toNat < (2147483647 - i14).toNat; omega)
                      ·
                        refine GO.iload dX11_known_151 rfl ?_
                        refine GO.aload_n dX11_known_153 rfl rfl ?_
                        refine GO.getRaw h_x fl_RX11_85 hv1624 dX11_known_154 ?_
                        refine GO.iload dX11_known_157 rfl ?_
                        refine GO.iconst dX11_known_159 ?_
                        refine GO.callV (ci := 7) (N := mX8_get) dX11_known_160 (RX8, TX8, 4) rfl gV_RX11_209 h1623 (t_X8_get h1623 r_i13 (ir_c rfl)) rfl [ti X1656] rfl rfl (Nat.le_of_ble_eq_true rfl) rfl (k_ip fun X1679 r1680 h1681 => ?_)
                        refine GO.icmp_lt (tgt := 170) dX11_known_163 (by decide) r1657 r1680 (fun c1682 => ?_) (fun c1682 => ?_)
                        ·
                          refine GO.iinc (X := i14) (n := 1) (Y := i14 + 1) (ls1 := [some (.ref x), some (ti p0), some (ti p1), some (ti p2), some (ti i12), some (ti i13), some (ti (i14 + 1)), some (ti X1656), some (ti z1665)]) dX11_known_170 rfl rfl rfl rfl ?_
                          refine GO.goto (tgt := 36) dX11_known_173 (by decide) ?_
                          refine GO.drop [true, true, true, true, true, true, true, false, false] rfl ?_
                          have q1683 : -2147483648 ≤ vi V (vq V x 15) 3 ∧ vi V (vq V x 15) 3 ≤ 2147483647 := vi_ir
                          exact ih1621 i12 i13 (i14 + 1) V ⟨by omega, by omega, by omega, by omega, by omega, by omega, rfl⟩ (by show (2147483647 - (i14 + 1)).toNat < (2147483647 - i14).toNat; omega)
                        ·
                          refine GO.iload dX11_known_166 rfl ?_
                          refine GO.istore (ls1 := [some (.ref x), some (ti p0), some (ti p1), some (ti p2), some (ti i12), some (ti i14), some (ti i14), some (ti X1656), some (ti z1665)]) dX11_known_168 rfl rfl ?_
                          refine GO.iinc (X := i14) (n := 1) (Y := i14 + 1) (ls1 := [some (.ref x), some (ti p0), some (ti p1), some (ti p2), some (ti i12), some (ti i14), some (ti (i14 + 1)), some (ti X1656), some (ti z1665)]) dX11_known_170 rfl rfl rfl rfl ?_
                          refine GO.goto (tgt := 36) dX11_known_173 (by decide) ?_
                          refine GO.drop [true, true, true, true, true, true, true, false, false] rfl ?_
                          have q1684 : -2147483648 ≤ vi V (vq V x 15) 3 ∧ vi V (vq V x 15) 3 ≤ 2147483647 := vi_ir
                          exact ih1621 i12 i14 (i14 + 1) V ⟨by omega, by omega, by omega, by omega, by omega, by omega, rfl⟩ (by show (2147483647 - (i14 + 1)).toNat < (2147483647 - i14).toNat; omega)
                ·
                  refine GO.iload dX11_known_118 rfl ?_
                  refine GO.if_eq (tgt := 128) dX11_known_120 (by decide) r1669 (fun c1685 => ?_) (fun c1685 => ?_)
                  ·
                    refine GO.iconst dX11_known_128 ?_
                    refine GO.istore (ls1 := [some (.ref x), some (ti p0), some (ti p1), some (ti p2), some (ti (-1)), some (ti i13), some (ti i14), some (ti X1656), some (ti z1665)]) dX11_known_129 rfl rfl ?_
                    refine GO.goto (tgt := 170) dX11_known_131 (by decide) ?_
                    refine GO.iinc (X := i14) (n := 1) (Y := i14 + 1) (ls1 := [some (.ref x), some (ti p0), some (ti p1), some (ti p2), some (ti (-1)), some (ti i13), some (ti (i14 + 1)), some (ti X1656), some (ti z1665)]) dX11_known_170 rfl rfl rfl rfl ?_
                    refine GO.goto (tgt := 36) dX11_known_173 (by decide) ?_
                    refine GO.drop [true, true, true, true, true, true, true, false, false] rfl ?_
                    have q1686 : -2147483648 ≤ vi V (vq V x 15) 3 ∧ vi V (vq V x 15) 3 ≤ 2147483647 := vi_ir
                    exact ih1621 (-1) i13 (i14 + 1) V ⟨by omega, by omega, by omega, by omega, by omega, by omega, rfl⟩ (by show (2147483647 - (i14 + 1)).toNat < (2147483647 - i14).toNat; omega)
                  ·
                    refine GO.iload dX11_known_123 rfl ?_
                    refine GO.goto (tgt := 129) dX11_known_125 (by decide) ?_
                    refine GO.istore (ls1 := [some (.ref x), some (ti p0), some (ti p1), some (ti p2), some (ti i14), some (ti i13), some (ti i14), some (ti X1656), some (ti z1665)]) dX11_known_129 rfl rfl ?_
                    refine GO.goto (tgt := 170) dX11_known_131 (by decide) ?_
                    refine GO.iinc (X := i14) (n := 1) (Y := i14 + 1) (ls1 := [some (.ref x), some (ti p0), some (ti p1), some (ti p2), some (ti i14), some (ti i13), some (ti (i14 + 1)), some (ti X1656), some (ti z1665)]) dX11_known_170 rfl rfl rfl rfl ?_
                    refine GO.goto (tgt := 36) dX11_known_173 (by decide) ?_
                    refine GO.drop [true, true, true, true, true, true, true, false, false] rfl ?_
                    have q1687 : -2147483648 ≤ vi V (vq V x 15) 3 ∧ vi V (vq V x 15) 3 ≤ 2147483647 := vi_ir
                    exact ih1621 i14 i13 (i14 + 1) V ⟨by omega, by omega, by omega, by omega, by omega, by omega, rfl⟩ (by show (2147483647 - (i14 + 1)).toNat < (2147483647 - i14).toNat; omega)
              refine GO.icmp_ne (tgt := 109) dX11_known_102 (by decide) r1662 (ir_c rfl) (fun c1688 => ?_) (fun c1688 => ?_)
              ·
                refine GO.iconst dX11_known_109 ?_
                exact hj1666 0 (by omega) (by omega)
              ·
                refine GO.iconst dX11_known_105 ?_
                refine GO.goto (tgt := 110) dX11_known_106 (by decide) ?_
                exact hj1666 1 (by omega) (by omega)
            ·
              refine GO.goto (tgt := 170) dX11_known_76 (by decide) ?_
              refine GO.iinc (X := i14) (n := 1) (Y := i14 + 1) (ls1 := [some (.ref x), some (ti p0), some (ti p1), some (ti p2), some (ti i12), some (ti i13), some (ti (i14 + 1)), none, none]) dX11_known_170 rfl rfl rfl rfl ?_
              refine GO.goto (tgt := 36) dX11_known_173 (by decide) ?_
              have q1689 : -2147483648 ≤ vi V (vq V x 15) 3 ∧ vi V (vq V x 15) 3 ≤ 2147483647 := vi_ir
              exact ih1621 i12 i13 (i14 + 1) V ⟨by omega, by omega, by omega, by omega, by omega, by omega, rfl⟩ (by show (2147483647 - (i14 + 1)).toNat < (2147483647 - i14).toNat; omega)
      ·
        refine GO.ldcw (X := (-1000001)) dX11_known_23 gw_1426 rfl ?_
        exact GO.reti rfl rfl dX11_known_26 ⟨rfl, rfl, _, rfl, (ir_c rfl), trivial⟩
