def mX11_drill : MRec := (RX11, cX11_drill, 5, (some .int), yX11_drill, 2, 51, 0, 0, 38272525864510487788655081260950309410329935801733327822136058989190002872678789786522025301547572669963237823776112959608485250695053631971510744383637413717184212385591140385319216930056100865114112)
def mX4_put_t145 : MRec := (RX4, cX4_put, 3, (none : Option Jvm.ClassFile.FieldType), yX4_put, 0, 0, 0, 0, 169230328010303641331690318856389386196071598838855992136870091590247882556495704531248437872567112920983350278405979725889536)
def mX11_speed : MRec := (RX11, cX11_speed, 3, (some .boolean), yX11_speed, 1, 22, 0, 0, 169230328010303641331690318856389386196071598838855992136870091590247882556495704531248437872567112920983350278405979725889536)
def mX11_isYear : MRec := (RX11, cX11_isYear, 1, (some .boolean), yX11_isYear, 1, 22, 0, 0, 0)
def mX11_birds : MRec := (RX11, cX11_birds, 5, (some .boolean), yX11_birds, 2, 44, 0, 0, 3794275180128377091639574036764685364535950857523710002444946112771297432041422848)
def mX11_loss : MRec := (RX11, cX11_loss, 10, (some .int), yX11_loss, 2, 44, 0, 0, 0)
def mX11_noise : MRec := (RX11, cX11_noise, 4, (some .int), yX11_noise, 2, 44, 0, 0, 0)
def mX8_isFull_k26 : MRec := (RX8, cX8_isFull, 1, (some .boolean), yX8_isFull, 0, 0, 0, 0, 0)
def mX8_put_k26 : MRec := (RX8, cX8_put, 6, (none : Option Jvm.ClassFile.FieldType), yX8_put, 0, 0, 0, 0, 1353842624082429130653522550851115089568572790710847937094960732721983060451965636249987502980536903367866802227247837807116288)
def mX8_append_k26 : MRec := (RX8, cX8_append, 7, (some .int), yX8_append, 1, 25, 0, 0, 9343878384890255807777119448474196633381331982845050737826186276657716896285995369993240091100527477861749018579512057020227562230109619003481902348427344645043065629993190484571953593558851649536)
def mX11_caught : MRec := (RX11, cX11_caught, 6, (some .int), yX11_caught, 2, 51, 0, 0, 9343878384890255807777119448474196633381331982845050737826186276657716896285995369993240091100527477861749018579512057020227562230109619003481902348427344645043065629993190484571953593558851649536)
set_option maxHeartbeats 1000000 in
theorem t_X11_drill {K : Kmap} {V : Vmap} {x : Nat} {p0 : Int} {p1 : Int} (h_x : K x = some (0, 10)) (r_p0 : ir p0) (r_p1 : ir p1) : MC mX11_drill K V [.ref x, ti p0, ti p1] (IS K (fun X V1 => (X ≥ (-2147483648) ∧ X ≤ 2147483647) ∧ (DRC V V1 x p0 p1 X))) := by
  refine MC.start 2 (by decide +kernel) rfl rfl rfl (ls0 := [some (.ref x), some (ti p0), some (ti p1), none, none]) rfl ?_
  refine GO.aload_n dX11_drill_0 rfl rfl ?_
  refine GO.iload_n dX11_drill_1 rfl rfl ?_
  refine GO.iconst dX11_drill_2 ?_
  refine GO.callV (ci := 10) (N := mX11_placeOf) dX11_drill_3 (RX11, TX11, 20) rfl gV_RX11_169 h_x (t_X11_placeOf h_x r_p0 (ir_c rfl)) rfl [] rfl rfl (Nat.le_of_ble_eq_true rfl) rfl (k_rp (fun h3 => ?_) (fun o1 h2 h3 => ?_))
  ·
    have rwn3 := h3.2
    have hn4 : NN 6 5 V x → ¬ PK V x p0 4 := h3.2
    refine GO.astore_nN (ls1 := [some (.ref x), some (ti p0), some (ti p1), some (.null), none]) dX11_drill_6 rfl rfl rfl ?_
    refine GO.aload_n dX11_drill_7 rfl rfl ?_
    refine GO.iload_n dX11_drill_8 rfl rfl ?_
    refine GO.callV (ci := 10) (N := mX11_workOf) dX11_drill_9 (RX11, TX11, 20) rfl gV_RX11_309 h_x (t_X11_workOf h_x r_p1) rfl [] rfl rfl (Nat.le_of_ble_eq_true rfl) rfl (k_rp (fun h7 => ?_) (fun o5 h6 h7 => ?_))
    ·
      have rwn9 := h7.2
      have hn8 : NN 8 7 V x → p1 < 0 ∨ vi V x 8 ≤ p1 := h7.2
      refine GO.astoreN (ls1 := [some (.ref x), some (ti p0), some (ti p1), some (.null), some (.null)]) dX11_drill_12 rfl rfl ?_
      refine GO.aload_nN dX11_drill_14 rfl rfl ?_
      refine GO.ifnullN (tgt := 44) dX11_drill_15 (by decide) ?_
      refine GO.iconst dX11_drill_44 ?_
      exact GO.reti rfl rfl dX11_drill_45 ⟨rfl, _, rfl, (ir_c rfl), ⟨(by first | exact trivial | omega), (by first | exact DRC.np rwn3 rfl | exact DRC.nw rwn9 rfl)⟩⟩
    ·
      have hp9 : p1 ≥ 0 ∧ p1 < vi V x 8 := h7.1
      have rwp9 := h7.2
      have hq10 : o5 = wkO V x (p1).toNat ∧ 0 ≤ p1 ∧ p1 < vi V x 8 := h7.2
      refine GO.astore (ls1 := [some (.ref x), some (ti p0), some (ti p1), some (.null), some (.ref o5)]) dX11_drill_12 rfl rfl ?_
      refine GO.aload_nN dX11_drill_14 rfl rfl ?_
      refine GO.ifnullN (tgt := 44) dX11_drill_15 (by decide) ?_
      refine GO.iconst dX11_drill_44 ?_
      exact GO.reti rfl rfl dX11_drill_45 ⟨rfl, _, rfl, (ir_c rfl), ⟨(by first | exact trivial | omega), (by first | exact DRC.np rwn3 rfl | exact DRC.nk rwp9 (by omega) rfl)⟩⟩
  ·
    have hp11 : p0 ≥ 0 ∧ p0 < vi V x 6 := h3.1
    have rwp3 := h3.2
    have hq12 : o1 = plO V x (p0).toNat ∧ PK V x p0 4 := h3.2
    refine GO.astore_n (ls1 := [some (.ref x), some (ti p0), some (ti p1), some (.ref o1), none]) dX11_drill_6 rfl rfl rfl ?_
    refine GO.aload_n dX11_drill_7 rfl rfl ?_
    refine GO.iload_n dX11_drill_8 rfl rfl ?_
    refine GO.callV (ci := 10) (N := mX11_workOf) dX11_drill_9 (RX11, TX11, 20) rfl gV_RX11_309 h_x (t_X11_workOf h_x r_p1) rfl [] rfl rfl (Nat.le_of_ble_eq_true rfl) rfl (k_rp (fun h15 => ?_) (fun o13 h14 h15 => ?_))
    ·
      have rwn9 := h15.2
      have hn16 : NN 8 7 V x → p1 < 0 ∨ vi V x 8 ≤ p1 := h15.2
      refine GO.astoreN (ls1 := [some (.ref x), some (ti p0), some (ti p1), some (.ref o1), some (.null)]) dX11_drill_12 rfl rfl ?_
      refine GO.aload_n dX11_drill_14 rfl rfl ?_
      refine GO.ifnull dX11_drill_15 ?_
      refine GO.aloadN dX11_drill_18 rfl ?_
      refine GO.ifnullN (tgt := 44) dX11_drill_20 (by decide) ?_
      refine GO.iconst dX11_drill_44 ?_
      exact GO.reti rfl rfl dX11_drill_45 ⟨rfl, _, rfl, (ir_c rfl), ⟨(by first | exact trivial | omega), (by first | exact DRC.nw rwn9 rfl)⟩⟩
    ·
      have hp17 : p1 ≥ 0 ∧ p1 < vi V x 8 := h15.1
      have rwp9 := h15.2
      have hq18 : o13 = wkO V x (p1).toNat ∧ 0 ≤ p1 ∧ p1 < vi V x 8 := h15.2
      refine GO.astore (ls1 := [some (.ref x), some (ti p0), some (ti p1), some (.ref o1), some (.ref o13)]) dX11_drill_12 rfl rfl ?_
      refine GO.aload_n dX11_drill_14 rfl rfl ?_
      refine GO.ifnull dX11_drill_15 ?_
      refine GO.aload dX11_drill_18 rfl ?_
      refine GO.ifnull dX11_drill_20 ?_
      refine GO.aload dX11_drill_23 rfl ?_
      refine GO.getI h14 fl_RX11_375 rfl rfl dX11_drill_25 (fun _ _ => ?_)
      refine GO.iconst dX11_drill_28 ?_
      refine GO.icmp_ne (tgt := 44) dX11_drill_29 (by decide) vi_ir (ir_c rfl) (fun c19 => ?_) (fun c19 => ?_)
      ·
        refine GO.iconst dX11_drill_44 ?_
        exact GO.reti rfl rfl dX11_drill_45 ⟨rfl, _, rfl, (ir_c rfl), ⟨(by first | exact trivial | omega), (by first | exact DRC.nk rwp9 (by omega) rfl | exact DRC.nc rwp3 rwp9 (by omega) rfl | exact DRC.ok rwp3 rwp9 (by omega) (by omega) (by assumption) h_x (by decide +kernel) (by assumption))⟩⟩
      ·
        refine GO.aload dX11_drill_32 rfl ?_
        refine GO.getI h14 fl_RX11_378 rfl rfl dX11_drill_34 (fun _ _ => ?_)
        refine GO.aload_n dX11_drill_37 rfl rfl ?_
        refine GO.getI h2 fl_RX11_344 rfl rfl dX11_drill_38 (fun _ _ => ?_)
        refine GO.icmp_eq (tgt := 46) dX11_drill_41 (by decide) vi_ir vi_ir (fun c20 => ?_) (fun c20 => ?_)
        ·
          refine GO.aload_n dX11_drill_46 rfl rfl ?_
          refine GO.getR h_x fl_RX11_79 rfl rfl dX11_drill_47 (fun hv22 h21 => ?_)
          refine GO.iload_n dX11_drill_50 rfl rfl ?_
          refine GO.iload_n dX11_drill_51 rfl rfl ?_
          refine GO.iconst dX11_drill_52 ?_
          refine GO.iconst dX11_drill_53 ?_
          refine GO.iconst dX11_drill_54 ?_
          refine GO.callV (ci := 29) (N := mX8_append_k29) dX11_drill_55 (RX8, TX8, 4) rfl gV_RX11_205 h21 (t_X8_append_k29 h21 r_p0 r_p1 (ir_c rfl) (ir_c rfl) (ir_c rfl)) rfl [] rfl rfl (Nat.le_of_ble_eq_true rfl) rfl (k_is fun X23 V27 r24 h25 hF26 => ?_)
          have q29 : -2147483648 ≤ X23 ∧ X23 ≤ 2147483647 := r24
          exact GO.reti rfl rfl dX11_drill_58 ⟨rfl, _, rfl, r24, ⟨(by first | exact trivial | omega), (by first | exact DRC.nk rwp9 (by omega) rfl | exact DRC.nc rwp3 rwp9 (by omega) rfl | exact DRC.ok rwp3 rwp9 (by omega) (by omega) hF26 h_x (by decide +kernel) (by assumption))⟩⟩
        ·
          refine GO.iconst dX11_drill_44 ?_
          exact GO.reti rfl rfl dX11_drill_45 ⟨rfl, _, rfl, (ir_c rfl), ⟨(by first | exact trivial | omega), (by first | exact DRC.nk rwp9 (by omega) rfl | exact DRC.nc rwp3 rwp9 (by omega) rfl | exact DRC.ok rwp3 rwp9 (by omega) (by omega) (by assumption) h_x (by decide +kernel) (by assumption))⟩⟩

set_option maxHeartbeats 1000000 in
theorem t_X4_put_t145 {K : Kmap} {V : Vmap} {p0 n_p0 : Nat} {p1 : Int} {p2 : Int} (h_p0 : K p0 = some (146, n_p0)) (r_p1 : ir p1) (r_p2 : ir p2) : MC mX4_put_t145 K V [.ref p0, ti p1, ti p2] (VS K (fun V1 => (True) ∧ (V1 = rpv V p0 n_p0 p1 p2))) := by
  refine MC.start 0 (by decide +kernel) rfl rfl rfl (ls0 := [some (.ref p0), some (ti p1), some (ti p2)]) rfl ?_
  refine GO.aload_n dX4_put_0 rfl rfl ?_
  refine GO.ifnull dX4_put_1 ?_
  refine GO.iload_n dX4_put_4 rfl rfl ?_
  refine GO.if_lt (tgt := 18) dX4_put_5 (by decide) r_p1 (fun c1 => ?_) (fun c1 => ?_)
  ·
    exact GO.retv rfl rfl dX4_put_18 ⟨rfl, rfl, ⟨trivial, (by first | exact rpv_in (by assumption) (by omega) (by omega) | exact rpv_out (by omega))⟩⟩
  ·
    refine GO.iload_n dX4_put_8 rfl rfl ?_
    refine GO.aload_n dX4_put_9 rfl rfl ?_
    refine GO.alen h_p0 dX4_put_10 (fun h2 => ?_)
    refine GO.icmp_ge (tgt := 18) dX4_put_11 (by decide) r_p1 ⟨by omega, by omega⟩ (fun c3 => ?_) (fun c3 => ?_)
    ·
      exact GO.retv rfl rfl dX4_put_18 ⟨rfl, rfl, ⟨trivial, (by first | exact rpv_in (by assumption) (by omega) (by omega) | exact rpv_out (by omega))⟩⟩
    ·
      refine GO.aload_n dX4_put_14 rfl rfl ?_
      refine GO.iload_n dX4_put_15 rfl rfl ?_
      refine GO.iload_n dX4_put_16 rfl rfl ?_
      have q4 : -2147483648 ≤ p1 ∧ p1 ≤ 2147483647 := r_p1
      refine GO.iast (t := 145) rfl rfl (by decide +kernel) h_p0 r_p1 (by omega) (by omega) r_p2 (r_p2).1 (r_p2).2 dX4_put_17 (fun V6 e5 => ?_)
      exact GO.retv rfl rfl dX4_put_18 ⟨rfl, rfl, ⟨trivial, (by first | exact rpv_in (by assumption) (by omega) (by omega) | exact rpv_out (by omega))⟩⟩

set_option maxHeartbeats 1000000 in
theorem t_X11_speed {K : Kmap} {V : Vmap} {x : Nat} {p0 : Int} {p1 : Int} (h_x : K x = some (0, 10)) (r_p0 : ir p0) (r_p1 : ir p1) : MC mX11_speed K V [.ref x, ti p0, ti p1] (IS K (fun X V1 => (X = 0 ∨ X = 1) ∧ (X ≠ 0 → ((p0 = (-1) ∧ p1 ≥ 0 ∧ p1 ≤ 1000) ∨ (p0 ≥ 0 ∧ p0 ≤ 9 ∧ p1 ≥ 1 ∧ p1 ≤ 200))) ∧ (X = 0 → (p0 ≠ (-1) ∨ p1 < 0 ∨ p1 > 1000) ∧ (p0 < 0 ∨ p0 > 9 ∨ p1 < 1 ∨ p1 > 200)))) := by
  refine MC.start 0 (by decide +kernel) rfl rfl rfl (ls0 := [some (.ref x), some (ti p0), some (ti p1)]) rfl ?_
  refine GO.iload_n dX11_speed_0 rfl rfl ?_
  refine GO.iconst dX11_speed_1 ?_
  refine GO.icmp_ne (tgt := 28) dX11_speed_2 (by decide) r_p0 (ir_c rfl) (fun c1 => ?_) (fun c1 => ?_)
  ·
    refine GO.iload_n dX11_speed_28 rfl rfl ?_
    refine GO.iconst dX11_speed_29 ?_
    refine GO.bipush dX11_speed_30 rfl ?_
    refine GO.callS (N := mX11_between) dX11_speed_32 gS_RX11_112 (t_X11_between r_p0 (ir_c rfl) (ir_c rfl)) rfl [] rfl rfl (Nat.le_of_ble_eq_true rfl) rfl (k_ip fun X2 r3 h4 => ?_)
    refine GO.if_eq (tgt := 60) dX11_speed_35 (by decide) r3 (fun c5 => ?_) (fun c5 => ?_)
    ·
      have q6 := h4.2.2 (by omega)
      refine GO.iconst dX11_speed_60 ?_
      exact GO.retz rfl rfl dX11_speed_61 (Or.inl rfl) ⟨rfl, _, rfl, (ir_c rfl), ⟨Or.inl rfl, fun h => absurd rfl h, fun h => by omega⟩⟩
    ·
      have q7 := h4.2.1 (by omega)
      refine GO.iload_n dX11_speed_38 rfl rfl ?_
      refine GO.iconst dX11_speed_39 ?_
      refine GO.sipush dX11_speed_40 rfl ?_
      refine GO.callS (N := mX11_between) dX11_speed_43 gS_RX11_112 (t_X11_between r_p1 (ir_c rfl) (ir_c rfl)) rfl [] rfl rfl (Nat.le_of_ble_eq_true rfl) rfl (k_ip fun X8 r9 h10 => ?_)
      refine GO.if_eq (tgt := 60) dX11_speed_46 (by decide) r9 (fun c11 => ?_) (fun c11 => ?_)
      ·
        have q12 := h10.2.2 (by omega)
        refine GO.iconst dX11_speed_60 ?_
        exact GO.retz rfl rfl dX11_speed_61 (Or.inl rfl) ⟨rfl, _, rfl, (ir_c rfl), ⟨Or.inl rfl, fun h => absurd rfl h, fun h => by omega⟩⟩
      ·
        have q13 := h10.2.1 (by omega)
        refine GO.aload_n dX11_speed_49 rfl rfl ?_
        refine GO.getA (n := 11) h_x fl_RX11_94 rfl rfl rfl rfl dX11_speed_50 (fun hv15 h14 => ?_)
        refine GO.iload_n dX11_speed_53 rfl rfl ?_
        refine GO.iload_n dX11_speed_54 rfl rfl ?_
        refine GO.callS (N := mX4_put_t145) dX11_speed_55 gS_RX11_108 (t_X4_put_t145 h14 r_p0 r_p1) rfl [] rfl rfl (Nat.le_of_ble_eq_true rfl) rfl (k_vs fun V18 h17 hF16 => ?_)
        have raw_put := h17.2
        have rw55 := h17.2
        refine GO.iconst dX11_speed_58 ?_
        exact GO.retz rfl rfl dX11_speed_59 (Or.inr rfl) ⟨rfl, _, rfl, (ir_c rfl), ⟨Or.inr rfl, fun h => by omega, fun h => absurd h (by decide)⟩⟩
  ·
    refine GO.iload_n dX11_speed_5 rfl rfl ?_
    refine GO.iconst dX11_speed_6 ?_
    refine GO.sipush dX11_speed_7 rfl ?_
    refine GO.callS (N := mX11_between) dX11_speed_10 gS_RX11_112 (t_X11_between r_p1 (ir_c rfl) (ir_c rfl)) rfl [] rfl rfl (Nat.le_of_ble_eq_true rfl) rfl (k_ip fun X19 r20 h21 => ?_)
    refine GO.if_eq (tgt := 28) dX11_speed_13 (by decide) r20 (fun c22 => ?_) (fun c22 => ?_)
    ·
      have q23 := h21.2.2 (by omega)
      refine GO.iload_n dX11_speed_28 rfl rfl ?_
      refine GO.iconst dX11_speed_29 ?_
      refine GO.bipush dX11_speed_30 rfl ?_
      refine GO.callS (N := mX11_between) dX11_speed_32 gS_RX11_112 (t_X11_between r_p0 (ir_c rfl) (ir_c rfl)) rfl [] rfl rfl (Nat.le_of_ble_eq_true rfl) rfl (k_ip fun X24 r25 h26 => ?_)
      refine GO.if_eq (tgt := 60) dX11_speed_35 (by decide) r25 (fun c27 => ?_) (fun c27 => ?_)
      ·
        have q28 := h26.2.2 (by omega)
        refine GO.iconst dX11_speed_60 ?_
        exact GO.retz rfl rfl dX11_speed_61 (Or.inl rfl) ⟨rfl, _, rfl, (ir_c rfl), ⟨Or.inl rfl, fun h => absurd rfl h, fun h => by omega⟩⟩
      ·
        have q29 := h26.2.1 (by omega)
        refine GO.iload_n dX11_speed_38 rfl rfl ?_
        refine GO.iconst dX11_speed_39 ?_
        refine GO.sipush dX11_speed_40 rfl ?_
        refine GO.callS (N := mX11_between) dX11_speed_43 gS_RX11_112 (t_X11_between r_p1 (ir_c rfl) (ir_c rfl)) rfl [] rfl rfl (Nat.le_of_ble_eq_true rfl) rfl (k_ip fun X30 r31 h32 => ?_)
        refine GO.if_eq (tgt := 60) dX11_speed_46 (by decide) r31 (fun c33 => ?_) (fun c33 => ?_)
        ·
          have q34 := h32.2.2 (by omega)
          refine GO.iconst dX11_speed_60 ?_
          exact GO.retz rfl rfl dX11_speed_61 (Or.inl rfl) ⟨rfl, _, rfl, (ir_c rfl), ⟨Or.inl rfl, fun h => absurd rfl h, fun h => by omega⟩⟩
        ·
          have q35 := h32.2.1 (by omega)
          refine GO.aload_n dX11_speed_49 rfl rfl ?_
          refine GO.getA (n := 11) h_x fl_RX11_94 rfl rfl rfl rfl dX11_speed_50 (fun hv37 h36 => ?_)
          refine GO.iload_n dX11_speed_53 rfl rfl ?_
          refine GO.iload_n dX11_speed_54 rfl rfl ?_
          refine GO.callS (N := mX4_put_t145) dX11_speed_55 gS_RX11_108 (t_X4_put_t145 h36 r_p0 r_p1) rfl [] rfl rfl (Nat.le_of_ble_eq_true rfl) rfl (k_vs fun V40 h39 hF38 => ?_)
          have raw_put := h39.2
          have rw55 := h39.2
          refine GO.iconst dX11_speed_58 ?_
          exact GO.retz rfl rfl dX11_speed_59 (Or.inr rfl) ⟨rfl, _, rfl, (ir_c rfl), ⟨Or.inr rfl, fun h => by omega, fun h => absurd h (by decide)⟩⟩
    ·
      have q41 := h21.2.1 (by omega)
      refine GO.aload_n dX11_speed_16 rfl rfl ?_
      refine GO.getA (n := 11) h_x fl_RX11_94 rfl rfl rfl rfl dX11_speed_17 (fun hv43 h42 => ?_)
      refine GO.bipush dX11_speed_20 rfl ?_
      refine GO.iload_n dX11_speed_22 rfl rfl ?_
      refine GO.callS (N := mX4_put_t145) dX11_speed_23 gS_RX11_108 (t_X4_put_t145 h42 (ir_c rfl) r_p1) rfl [] rfl rfl (Nat.le_of_ble_eq_true rfl) rfl (k_vs fun V46 h45 hF44 => ?_)
      have raw_put := h45.2
      have rw23 := h45.2
      refine GO.iconst dX11_speed_26 ?_
      exact GO.retz rfl rfl dX11_speed_27 (Or.inr rfl) ⟨rfl, _, rfl, (ir_c rfl), ⟨Or.inr rfl, fun h => by omega, fun h => absurd h (by decide)⟩⟩

set_option maxHeartbeats 1000000 in
theorem t_X11_isYear {K : Kmap} {V : Vmap} {p0 : Int} (r_p0 : ir p0) : MC mX11_isYear K V [ti p0] (IP K V (fun X => (X = 0 ∨ X = 1) ∧ (X ≠ 0 → p0 ≥ 0 ∧ p0 ≤ 9) ∧ (X = 0 → (p0 < 0 ∨ p0 > 9)))) := by
  refine MC.start 0 (by decide +kernel) rfl rfl rfl (ls0 := [some (ti p0)]) rfl ?_
  refine GO.iload_n dX11_isYear_0 rfl rfl ?_
  refine GO.iconst dX11_isYear_1 ?_
  refine GO.bipush dX11_isYear_2 rfl ?_
  refine GO.callS (N := mX11_between) dX11_isYear_4 gS_RX11_112 (t_X11_between r_p0 (ir_c rfl) (ir_c rfl)) rfl [] rfl rfl (Nat.le_of_ble_eq_true rfl) rfl (k_ip fun X1 r2 h3 => ?_)
  exact GO.retz rfl rfl dX11_isYear_7 (by omega) ⟨rfl, rfl, _, rfl, r2, ⟨by omega, fun h => by omega, fun h => by omega⟩⟩

set_option maxHeartbeats 1000000 in
theorem t_X11_birds {K : Kmap} {V : Vmap} {x : Nat} {p0 : Int} {p1 : Int} {p2 : Int} (h_x : K x = some (0, 10)) (r_p0 : ir p0) (r_p1 : ir p1) (r_p2 : ir p2) : MC mX11_birds K V [.ref x, ti p0, ti p1, ti p2] (IS K (fun X V1 => (X = 0 ∨ X = 1) ∧ (X ≠ 0 → True) ∧ (X = 0 → True) ∧ (KND V x p0 5 (0 ≤ p1 ∧ p1 ≤ 9 ∧ 0 ≤ p2 ∧ p2 ≤ 100000) X))) := by
  refine MC.start 1 (by decide +kernel) rfl rfl rfl (ls0 := [some (.ref x), some (ti p0), some (ti p1), some (ti p2), none]) rfl ?_
  refine GO.aload_n dX11_birds_0 rfl rfl ?_
  refine GO.iload_n dX11_birds_1 rfl rfl ?_
  refine GO.iconst dX11_birds_2 ?_
  refine GO.callV (ci := 10) (N := mX11_placeOf) dX11_birds_3 (RX11, TX11, 20) rfl gV_RX11_169 h_x (t_X11_placeOf h_x r_p0 (ir_c rfl)) rfl [] rfl rfl (Nat.le_of_ble_eq_true rfl) rfl (k_rp (fun h3 => ?_) (fun o1 h2 h3 => ?_))
  ·
    have rwn3 := h3.2
    have hn4 : NN 6 5 V x → ¬ PK V x p0 5 := h3.2
    refine GO.astoreN (ls1 := [some (.ref x), some (ti p0), some (ti p1), some (ti p2), some (.null)]) dX11_birds_6 rfl rfl ?_
    refine GO.aloadN dX11_birds_8 rfl ?_
    refine GO.ifnullN (tgt := 30) dX11_birds_10 (by decide) ?_
    refine GO.iconst dX11_birds_30 ?_
    exact GO.retz rfl rfl dX11_birds_31 (Or.inl rfl) ⟨rfl, _, rfl, (ir_c rfl), ⟨Or.inl rfl, fun _ => trivial, fun _ => trivial, (by first | exact KND.nk rwn3 rfl | exact KND.np (by omega) rfl)⟩⟩
  ·
    have hp5 : p0 ≥ 0 ∧ p0 < vi V x 6 := h3.1
    have rwp3 := h3.2
    have hq6 : o1 = plO V x (p0).toNat ∧ PK V x p0 5 := h3.2
    refine GO.astore (ls1 := [some (.ref x), some (ti p0), some (ti p1), some (ti p2), some (.ref o1)]) dX11_birds_6 rfl rfl ?_
    refine GO.aload dX11_birds_8 rfl ?_
    refine GO.ifnull dX11_birds_10 ?_
    refine GO.iload_n dX11_birds_13 rfl rfl ?_
    refine GO.callS (N := mX11_isYear) dX11_birds_14 gS_RX11_559 (t_X11_isYear r_p1) rfl [] rfl rfl (Nat.le_of_ble_eq_true rfl) rfl (k_ip fun X7 r8 h9 => ?_)
    refine GO.if_eq (tgt := 30) dX11_birds_17 (by decide) r8 (fun c10 => ?_) (fun c10 => ?_)
    ·
      have q11 := h9.2.2 (by omega)
      refine GO.iconst dX11_birds_30 ?_
      exact GO.retz rfl rfl dX11_birds_31 (Or.inl rfl) ⟨rfl, _, rfl, (ir_c rfl), ⟨Or.inl rfl, fun _ => trivial, fun _ => trivial, (by first | exact KND.np (by omega) rfl | exact KND.ok rwp3 ⟨by omega, by omega, by omega, by omega⟩ (by omega))⟩⟩
    ·
      have q12 := h9.2.1 (by omega)
      refine GO.iload_n dX11_birds_20 rfl rfl ?_
      refine GO.iconst dX11_birds_21 ?_
      refine GO.ldc (X := 100000) dX11_birds_22 gw_522 rfl ?_
      refine GO.callS (N := mX11_between) dX11_birds_24 gS_RX11_112 (t_X11_between r_p2 (ir_c rfl) (ir_c rfl)) rfl [] rfl rfl (Nat.le_of_ble_eq_true rfl) rfl (k_ip fun X13 r14 h15 => ?_)
      refine GO.if_ne (tgt := 32) dX11_birds_27 (by decide) r14 (fun c16 => ?_) (fun c16 => ?_)
      ·
        have q17 := h15.2.1 (by omega)
        refine GO.aload dX11_birds_32 rfl ?_
        refine GO.getNB h2 fl_RX11_491 rfl rfl dX11_birds_34 (fun hv19 => ?_) (fun n20 hv19 h18 b21 => ?_)
        ·
          refine GO.iload_n dX11_birds_37 rfl rfl ?_
          refine GO.iload_n dX11_birds_38 rfl rfl ?_
          refine GO.callS (N := mX4_put_n) dX11_birds_39 gS_RX11_108 (t_X4_put_n r_p1 r_p2) rfl [] rfl rfl (Nat.le_of_ble_eq_true rfl) rfl (k_vs fun V24 h23 hF22 => ?_)
          refine GO.iconst dX11_birds_42 ?_
          exact GO.retz rfl rfl dX11_birds_43 (Or.inr rfl) ⟨rfl, _, rfl, (ir_c rfl), ⟨Or.inr rfl, fun _ => trivial, fun _ => trivial, (by first | exact KND.np (by omega) rfl | exact KND.ok rwp3 ⟨by omega, by omega, by omega, by omega⟩ (by omega))⟩⟩
        ·
          refine GO.iload_n dX11_birds_37 rfl rfl ?_
          refine GO.iload_n dX11_birds_38 rfl rfl ?_
          refine GO.callS (N := mX4_put) dX11_birds_39 gS_RX11_108 (t_X4_put h18 r_p1 r_p2) rfl [] rfl rfl (Nat.le_of_ble_eq_true rfl) rfl (k_vs fun V27 h26 hF25 => ?_)
          have raw_put := h26.2
          have rw39 := h26.2
          refine GO.iconst dX11_birds_42 ?_
          exact GO.retz rfl rfl dX11_birds_43 (Or.inr rfl) ⟨rfl, _, rfl, (ir_c rfl), ⟨Or.inr rfl, fun _ => trivial, fun _ => trivial, (by first | exact KND.np (by omega) rfl | exact KND.ok rwp3 ⟨by omega, by omega, by omega, by omega⟩ (by omega))⟩⟩
      ·
        have q28 := h15.2.2 (by omega)
        refine GO.iconst dX11_birds_30 ?_
        exact GO.retz rfl rfl dX11_birds_31 (Or.inl rfl) ⟨rfl, _, rfl, (ir_c rfl), ⟨Or.inl rfl, fun _ => trivial, fun _ => trivial, (by first | exact KND.np (by omega) rfl | exact KND.ok rwp3 ⟨by omega, by omega, by omega, by omega⟩ (by omega))⟩⟩

set_option maxHeartbeats 1000000 in
theorem t_X11_loss {K : Kmap} {V : Vmap} {x : Nat} {p0 : Int} {p1 : Int} {p2 : Int} {p3 : Int} {p4 : Int} (h_x : K x = some (0, 10)) (r_p0 : ir p0) (r_p1 : ir p1) (r_p2 : ir p2) (r_p3 : ir p3) (r_p4 : ir p4) : MC mX11_loss K V [.ref x, ti p0, ti p1, ti p2, ti p3, ti p4] (IP K V (fun X => True)) := by
  refine MC.start 4 (by decide +kernel) rfl rfl rfl (ls0 := [some (.ref x), some (ti p0), some (ti p1), some (ti p2), some (ti p3), some (ti p4), none, none, none, none]) rfl ?_
  refine GO.aload_n dX11_loss_0 rfl rfl ?_
  refine GO.iload_n dX11_loss_1 rfl rfl ?_
  refine GO.iconst dX11_loss_2 ?_
  refine GO.callV (ci := 10) (N := mX11_placeOf) dX11_loss_3 (RX11, TX11, 20) rfl gV_RX11_169 h_x (t_X11_placeOf h_x r_p0 (ir_c rfl)) rfl [] rfl rfl (Nat.le_of_ble_eq_true rfl) rfl (k_rp (fun h3 => ?_) (fun o1 h2 h3 => ?_))
  ·
    have rwn3 := h3.2
    have hn4 : NN 6 5 V x → ¬ PK V x p0 5 := h3.2
    refine GO.astoreN (ls1 := [some (.ref x), some (ti p0), some (ti p1), some (ti p2), some (ti p3), some (ti p4), some (.null), none, none, none]) dX11_loss_6 rfl rfl ?_
    refine GO.aloadN dX11_loss_8 rfl ?_
    refine GO.ifnullN (tgt := 53) dX11_loss_10 (by decide) ?_
    refine GO.ldcw (X := (-1000000)) dX11_loss_53 gw_1169 rfl ?_
    exact GO.reti rfl rfl dX11_loss_56 ⟨rfl, rfl, _, rfl, (ir_c rfl), trivial⟩
  ·
    have hp5 : p0 ≥ 0 ∧ p0 < vi V x 6 := h3.1
    have rwp3 := h3.2
    have hq6 : o1 = plO V x (p0).toNat ∧ PK V x p0 5 := h3.2
    refine GO.astore (ls1 := [some (.ref x), some (ti p0), some (ti p1), some (ti p2), some (ti p3), some (ti p4), some (.ref o1), none, none, none]) dX11_loss_6 rfl rfl ?_
    refine GO.aload dX11_loss_8 rfl ?_
    refine GO.ifnull dX11_loss_10 ?_
    refine GO.iload_n dX11_loss_13 rfl rfl ?_
    refine GO.callS (N := mX11_isYear) dX11_loss_14 gS_RX11_559 (t_X11_isYear r_p1) rfl [] rfl rfl (Nat.le_of_ble_eq_true rfl) rfl (k_ip fun X7 r8 h9 => ?_)
    refine GO.if_eq (tgt := 53) dX11_loss_17 (by decide) r8 (fun c10 => ?_) (fun c10 => ?_)
    ·
      have q11 := h9.2.2 (by omega)
      refine GO.ldcw (X := (-1000000)) dX11_loss_53 gw_1169 rfl ?_
      exact GO.reti rfl rfl dX11_loss_56 ⟨rfl, rfl, _, rfl, (ir_c rfl), trivial⟩
    ·
      have q12 := h9.2.1 (by omega)
      refine GO.iload_n dX11_loss_20 rfl rfl ?_
      refine GO.callS (N := mX11_isYear) dX11_loss_21 gS_RX11_559 (t_X11_isYear r_p2) rfl [] rfl rfl (Nat.le_of_ble_eq_true rfl) rfl (k_ip fun X13 r14 h15 => ?_)
      refine GO.if_eq (tgt := 53) dX11_loss_24 (by decide) r14 (fun c16 => ?_) (fun c16 => ?_)
      ·
        have q17 := h15.2.2 (by omega)
        refine GO.ldcw (X := (-1000000)) dX11_loss_53 gw_1169 rfl ?_
        exact GO.reti rfl rfl dX11_loss_56 ⟨rfl, rfl, _, rfl, (ir_c rfl), trivial⟩
      ·
        have q18 := h15.2.1 (by omega)
        refine GO.iload_n dX11_loss_27 rfl rfl ?_
        refine GO.iload_n dX11_loss_28 rfl rfl ?_
        refine GO.icmp_ge (tgt := 53) dX11_loss_29 (by decide) r_p1 r_p2 (fun c19 => ?_) (fun c19 => ?_)
        ·
          refine GO.ldcw (X := (-1000000)) dX11_loss_53 gw_1169 rfl ?_
          exact GO.reti rfl rfl dX11_loss_56 ⟨rfl, rfl, _, rfl, (ir_c rfl), trivial⟩
        ·
          refine GO.iload dX11_loss_32 rfl ?_
          refine GO.iconst dX11_loss_34 ?_
          refine GO.bipush dX11_loss_35 rfl ?_
          refine GO.callS (N := mX11_between) dX11_loss_37 gS_RX11_112 (t_X11_between r_p3 (ir_c rfl) (ir_c rfl)) rfl [] rfl rfl (Nat.le_of_ble_eq_true rfl) rfl (k_ip fun X20 r21 h22 => ?_)
          refine GO.if_eq (tgt := 53) dX11_loss_40 (by decide) r21 (fun c23 => ?_) (fun c23 => ?_)
          ·
            have q24 := h22.2.2 (by omega)
            refine GO.ldcw (X := (-1000000)) dX11_loss_53 gw_1169 rfl ?_
            exact GO.reti rfl rfl dX11_loss_56 ⟨rfl, rfl, _, rfl, (ir_c rfl), trivial⟩
          ·
            have q25 := h22.2.1 (by omega)
            refine GO.iload dX11_loss_43 rfl ?_
            refine GO.iconst dX11_loss_45 ?_
            refine GO.iconst dX11_loss_46 ?_
            refine GO.callS (N := mX11_between) dX11_loss_47 gS_RX11_112 (t_X11_between r_p4 (ir_c rfl) (ir_c rfl)) rfl [] rfl rfl (Nat.le_of_ble_eq_true rfl) rfl (k_ip fun X26 r27 h28 => ?_)
            refine GO.if_ne (tgt := 57) dX11_loss_50 (by decide) r27 (fun c29 => ?_) (fun c29 => ?_)
            ·
              have q30 := h28.2.1 (by omega)
              refine GO.aload dX11_loss_57 rfl ?_
              refine GO.getNB h2 fl_RX11_491 rfl rfl dX11_loss_59 (fun hv32 => ?_) (fun n33 hv32 h31 b34 => ?_)
              ·
                refine GO.iload_n dX11_loss_62 rfl rfl ?_
                refine GO.callS (N := mX4_get_n) dX11_loss_63 gS_RX11_253 (t_X4_get_n r_p1) rfl [] rfl rfl (Nat.le_of_ble_eq_true rfl) rfl (k_ip fun X35 r36 h37 => ?_)
                refine GO.istore (ls1 := [some (.ref x), some (ti p0), some (ti p1), some (ti p2), some (ti p3), some (ti p4), some (.ref o1), some (ti X35), none, none]) dX11_loss_66 rfl rfl ?_
                refine GO.aload dX11_loss_68 rfl ?_
                refine GO.getRaw h2 fl_RX11_491 hv32 dX11_loss_70 ?_
                refine GO.iload_n dX11_loss_73 rfl rfl ?_
                refine GO.callS (N := mX4_get_n) dX11_loss_74 gS_RX11_253 (t_X4_get_n r_p2) rfl [] rfl rfl (Nat.le_of_ble_eq_true rfl) rfl (k_ip fun X40 r41 h42 => ?_)
                refine GO.istore (ls1 := [some (.ref x), some (ti p0), some (ti p1), some (ti p2), some (ti p3), some (ti p4), some (.ref o1), some (ti X35), some (ti X40), none]) dX11_loss_77 rfl rfl ?_
                refine GO.iload dX11_loss_79 rfl ?_
                refine GO.iconst dX11_loss_81 ?_
                have q44 : -2147483648 ≤ X35 ∧ X35 ≤ 2147483647 := r36
                refine GO.icmp_eq (tgt := 91) dX11_loss_82 (by decide) r36 (ir_c rfl) (fun h => by exfalso; omega) (fun c43 => ?_)
                refine GO.iload dX11_loss_85 rfl ?_
                refine GO.iconst dX11_loss_87 ?_
                have q46 : -2147483648 ≤ X40 ∧ X40 ≤ 2147483647 := r41
                refine GO.icmp_ne (tgt := 95) dX11_loss_88 (by decide) r41 (ir_c rfl) (fun c45 => ?_) (fun h => by exfalso; omega)
                refine GO.iload dX11_loss_95 rfl ?_
                refine GO.iload dX11_loss_97 rfl ?_
                refine GO.imul dX11_loss_99 ?_
                have q47 : -2147483648 ≤ p3 ∧ p3 ≤ 2147483647 := r_p3
                have m48 := mul_rng (a := X35) (b := p3) (A := 0) (B := 99) (by omega) (by omega) (by omega) (by omega)
                refine GO.bipush dX11_loss_100 rfl ?_
                refine GO.iadd dX11_loss_102 ?_
                refine GO.bipush dX11_loss_103 rfl ?_
                refine GO.idivP dX11_loss_105 ⟨by omega, by omega⟩ (ir_c rfl) (by omega) (by omega) ?_
                refine GO.iload dX11_loss_106 rfl ?_
                refine GO.iload dX11_loss_108 rfl ?_
                refine GO.imul dX11_loss_110 ?_
                have m49 := mul_rng (a := X40) (b := p3) (A := 0) (B := 99) (by omega) (by omega) (by omega) (by omega)
                refine GO.bipush dX11_loss_111 rfl ?_
                refine GO.iadd dX11_loss_113 ?_
                refine GO.bipush dX11_loss_114 rfl ?_
                refine GO.idivP dX11_loss_116 ⟨by omega, by omega⟩ (ir_c rfl) (by omega) (by omega) ?_
                refine GO.iadd dX11_loss_117 ?_
                refine GO.name (fun z50 hz51 => ?_)
                refine GO.istore (ls1 := [some (.ref x), some (ti p0), some (ti p1), some (ti p2), some (ti p3), some (ti p4), some (.ref o1), some (ti X35), some (ti X40), some (ti z50)]) dX11_loss_118 rfl rfl ?_
                refine GO.iload dX11_loss_120 rfl ?_
                refine GO.iload dX11_loss_122 rfl ?_
                refine GO.isub dX11_loss_124 ?_
                refine GO.iload dX11_loss_125 rfl ?_
                refine GO.if_ne (tgt := 136) dX11_loss_127 (by decide) r_p4 (fun c52 => ?_) (fun c52 => ?_)
                ·
                  refine GO.iload dX11_loss_136 rfl ?_
                  refine GO.iadd dX11_loss_138 ?_
                  exact GO.reti rfl rfl dX11_loss_139 ⟨rfl, rfl, _, rfl, ⟨by omega, by omega⟩, trivial⟩
                ·
                  refine GO.iload dX11_loss_130 rfl ?_
                  refine GO.ineg dX11_loss_132 ?_
                  refine GO.goto (tgt := 138) dX11_loss_133 (by decide) ?_
                  refine GO.iadd dX11_loss_138 ?_
                  exact GO.reti rfl rfl dX11_loss_139 ⟨rfl, rfl, _, rfl, ⟨by omega, by omega⟩, trivial⟩
              ·
                refine GO.iload_n dX11_loss_62 rfl rfl ?_
                refine GO.callS (N := mX4_get) dX11_loss_63 gS_RX11_253 (t_X4_get rfl h31 r_p1) rfl [] rfl rfl (Nat.le_of_ble_eq_true rfl) rfl (k_ip fun X53 r54 h55 => ?_)
                have raw_get := h55.2
                have rw63 := h55.2
                refine GO.istore (ls1 := [some (.ref x), some (ti p0), some (ti p1), some (ti p2), some (ti p3), some (ti p4), some (.ref o1), some (ti X53), none, none]) dX11_loss_66 rfl rfl ?_
                refine GO.aload dX11_loss_68 rfl ?_
                refine GO.getRaw h2 fl_RX11_491 hv32 dX11_loss_70 ?_
                refine GO.iload_n dX11_loss_73 rfl rfl ?_
                refine GO.callS (N := mX4_get) dX11_loss_74 gS_RX11_253 (t_X4_get rfl h31 r_p2) rfl [] rfl rfl (Nat.le_of_ble_eq_true rfl) rfl (k_ip fun X58 r59 h60 => ?_)
                have raw_get := h60.2
                have rw74 := h60.2
                refine GO.istore (ls1 := [some (.ref x), some (ti p0), some (ti p1), some (ti p2), some (ti p3), some (ti p4), some (.ref o1), some (ti X53), some (ti X58), none]) dX11_loss_77 rfl rfl ?_
                refine GO.iload dX11_loss_79 rfl ?_
                refine GO.iconst dX11_loss_81 ?_
                refine GO.icmp_eq (tgt := 91) dX11_loss_82 (by decide) r54 (ir_c rfl) (fun c61 => ?_) (fun c61 => ?_)
                ·
                  refine GO.ldcw (X := (-1000000)) dX11_loss_91 gw_1169 rfl ?_
                  exact GO.reti rfl rfl dX11_loss_94 ⟨rfl, rfl, _, rfl, (ir_c rfl), trivial⟩
                ·
                  refine GO.iload dX11_loss_85 rfl ?_
                  refine GO.iconst dX11_loss_87 ?_
                  refine GO.icmp_ne (tgt := 95) dX11_loss_88 (by decide) r59 (ir_c rfl) (fun c62 => ?_) (fun c62 => ?_)
                  ·
                    refine GO.iload dX11_loss_95 rfl ?_
                    refine GO.iload dX11_loss_97 rfl ?_
                    refine GO.imul dX11_loss_99 ?_
                    refine GO.norm (fun z63 r64 hn65 => ?_)
                    refine GO.bipush dX11_loss_100 rfl ?_
                    refine GO.iadd dX11_loss_102 ?_
                    refine GO.norm (fun z66 r67 hn68 => ?_)
                    refine GO.bipush dX11_loss_103 rfl ?_
                    refine GO.idiv dX11_loss_105 (ir_c rfl) (by omega) ?_
                    refine GO.iload dX11_loss_106 rfl ?_
                    refine GO.iload dX11_loss_108 rfl ?_
                    refine GO.imul dX11_loss_110 ?_
                    refine GO.norm (fun z69 r70 hn71 => ?_)
                    refine GO.bipush dX11_loss_111 rfl ?_
                    refine GO.iadd dX11_loss_113 ?_
                    refine GO.norm (fun z72 r73 hn74 => ?_)
                    refine GO.bipush dX11_loss_114 rfl ?_
                    refine GO.idiv dX11_loss_116 (ir_c rfl) (by omega) ?_
                    refine GO.iadd dX11_loss_117 ?_
                    refine GO.norm (fun z75 r76 hn77 => ?_)
                    refine GO.istore (ls1 := [some (.ref x), some (ti p0), some (ti p1), some (ti p2), some (ti p3), some (ti p4), some (.ref o1), some (ti X53), some (ti X58), some (ti z75)]) dX11_loss_118 rfl rfl ?_
                    refine GO.iload dX11_loss_120 rfl ?_
                    refine GO.iload dX11_loss_122 rfl ?_
                    refine GO.isub dX11_loss_124 ?_
                    refine GO.norm (fun z78 r79 hn80 => ?_)
                    refine GO.iload dX11_loss_125 rfl ?_
                    refine GO.if_ne (tgt := 136) dX11_loss_127 (by decide) r_p4 (fun c81 => ?_) (fun c81 => ?_)
                    ·
                      refine GO.iload dX11_loss_136 rfl ?_
                      refine GO.iadd dX11_loss_138 ?_
                      refine GO.norm (fun z82 r83 hn84 => ?_)
                      have q85 : -2147483648 ≤ z82 ∧ z82 ≤ 2147483647 := r83
                      exact GO.reti rfl rfl dX11_loss_139 ⟨rfl, rfl, _, rfl, r83, trivial⟩
                    ·
                      refine GO.iload dX11_loss_130 rfl ?_
                      refine GO.ineg dX11_loss_132 ?_
                      refine GO.norm (fun z86 r87 hn88 => ?_)
                      refine GO.goto (tgt := 138) dX11_loss_133 (by decide) ?_
                      refine GO.iadd dX11_loss_138 ?_
                      refine GO.norm (fun z89 r90 hn91 => ?_)
                      have q92 : -2147483648 ≤ z89 ∧ z89 ≤ 2147483647 := r90
                      exact GO.reti rfl rfl dX11_loss_139 ⟨rfl, rfl, _, rfl, r90, trivial⟩
                  ·
                    refine GO.ldcw (X := (-1000000)) dX11_loss_91 gw_1169 rfl ?_
                    exact GO.reti rfl rfl dX11_loss_94 ⟨rfl, rfl, _, rfl, (ir_c rfl), trivial⟩
            ·
              have q93 := h28.2.2 (by omega)
              refine GO.ldcw (X := (-1000000)) dX11_loss_53 gw_1169 rfl ?_
              exact GO.reti rfl rfl dX11_loss_56 ⟨rfl, rfl, _, rfl, (ir_c rfl), trivial⟩

set_option maxHeartbeats 1000000 in
theorem t_X11_noise {K : Kmap} {V : Vmap} {x : Nat} {p0 : Int} {p1 : Int} (h_x : K x = some (0, 10)) (r_p0 : ir p0) (r_p1 : ir p1) : MC mX11_noise K V [.ref x, ti p0, ti p1] (IP K V (fun X => True)) := by
  refine MC.start 1 (by decide +kernel) rfl rfl rfl (ls0 := [some (.ref x), some (ti p0), some (ti p1), none]) rfl ?_
  refine GO.aload_n dX11_noise_0 rfl rfl ?_
  refine GO.iload_n dX11_noise_1 rfl rfl ?_
  refine GO.iconst dX11_noise_2 ?_
  refine GO.callV (ci := 10) (N := mX11_placeOf) dX11_noise_3 (RX11, TX11, 20) rfl gV_RX11_169 h_x (t_X11_placeOf h_x r_p0 (ir_c rfl)) rfl [] rfl rfl (Nat.le_of_ble_eq_true rfl) rfl (k_rp (fun h3 => ?_) (fun o1 h2 h3 => ?_))
  ·
    have rwn3 := h3.2
    have hn4 : NN 6 5 V x → ¬ PK V x p0 5 := h3.2
    refine GO.astore_nN (ls1 := [some (.ref x), some (ti p0), some (ti p1), some (.null)]) dX11_noise_6 rfl rfl rfl ?_
    refine GO.aload_nN dX11_noise_7 rfl rfl ?_
    refine GO.ifnullN (tgt := 18) dX11_noise_8 (by decide) ?_
    refine GO.iconst dX11_noise_18 ?_
    refine GO.goto (tgt := 30) dX11_noise_19 (by decide) ?_
    exact GO.reti rfl rfl dX11_noise_30 ⟨rfl, rfl, _, rfl, (ir_c rfl), trivial⟩
  ·
    have hp5 : p0 ≥ 0 ∧ p0 < vi V x 6 := h3.1
    have rwp3 := h3.2
    have hq6 : o1 = plO V x (p0).toNat ∧ PK V x p0 5 := h3.2
    refine GO.astore_n (ls1 := [some (.ref x), some (ti p0), some (ti p1), some (.ref o1)]) dX11_noise_6 rfl rfl rfl ?_
    refine GO.aload_n dX11_noise_7 rfl rfl ?_
    refine GO.ifnull dX11_noise_8 ?_
    refine GO.iload_n dX11_noise_11 rfl rfl ?_
    refine GO.callS (N := mX11_isYear) dX11_noise_12 gS_RX11_559 (t_X11_isYear r_p1) rfl [] rfl rfl (Nat.le_of_ble_eq_true rfl) rfl (k_ip fun X7 r8 h9 => ?_)
    refine GO.if_ne (tgt := 22) dX11_noise_15 (by decide) r8 (fun c10 => ?_) (fun c10 => ?_)
    ·
      have q11 := h9.2.1 (by omega)
      refine GO.aload_n dX11_noise_22 rfl rfl ?_
      refine GO.getNB h2 fl_RX11_473 rfl rfl dX11_noise_23 (fun hv13 => ?_) (fun n14 hv13 h12 b15 => ?_)
      ·
        refine GO.iload_n dX11_noise_26 rfl rfl ?_
        refine GO.callS (N := mX4_get_n) dX11_noise_27 gS_RX11_253 (t_X4_get_n r_p1) rfl [] rfl rfl (Nat.le_of_ble_eq_true rfl) rfl (k_ip fun X16 r17 h18 => ?_)
        have q19 : -2147483648 ≤ X16 ∧ X16 ≤ 2147483647 := r17
        exact GO.reti rfl rfl dX11_noise_30 ⟨rfl, rfl, _, rfl, r17, trivial⟩
      ·
        refine GO.iload_n dX11_noise_26 rfl rfl ?_
        refine GO.callS (N := mX4_get) dX11_noise_27 gS_RX11_253 (t_X4_get rfl h12 r_p1) rfl [] rfl rfl (Nat.le_of_ble_eq_true rfl) rfl (k_ip fun X20 r21 h22 => ?_)
        have raw_get := h22.2
        have rw27 := h22.2
        exact GO.reti rfl rfl dX11_noise_30 ⟨rfl, rfl, _, rfl, r21, trivial⟩
    ·
      have q23 := h9.2.2 (by omega)
      refine GO.iconst dX11_noise_18 ?_
      refine GO.goto (tgt := 30) dX11_noise_19 (by decide) ?_
      exact GO.reti rfl rfl dX11_noise_30 ⟨rfl, rfl, _, rfl, (ir_c rfl), trivial⟩

set_option maxHeartbeats 1000000 in
theorem t_X8_isFull_k26 {K : Kmap} {V : Vmap} {x : Nat} (h_x : K x = some (0, 26)) : MC mX8_isFull_k26 K V [.ref x] (IP K V (fun X => (X = 0 ∨ X = 1) ∧ (X ≠ 0 → vi V x 3 ≥ 200) ∧ (X = 0 → vi V x 3 ≤ 199))) := by
  refine MC.start 0 (by decide +kernel) rfl rfl rfl (ls0 := [some (.ref x)]) rfl ?_
  refine GO.aload_n dX8_isFull_0 rfl rfl ?_
  refine GO.getI h_x fl_RX8_9_k26 rfl rfl dX8_isFull_1 (fun l1 u2 => ?_)
  refine GO.aload_n dX8_isFull_4 rfl rfl ?_
  refine GO.getI h_x fl_RX8_18_k26 rfl rfl dX8_isFull_5 (fun l3 u4 => ?_)
  refine GO.icmp_lt (tgt := 15) dX8_isFull_8 (by decide) vi_ir vi_ir (fun c5 => ?_) (fun c5 => ?_)
  ·
    refine GO.iconst dX8_isFull_15 ?_
    exact GO.retz rfl rfl dX8_isFull_16 (Or.inl rfl) ⟨rfl, rfl, _, rfl, (ir_c rfl), ⟨Or.inl rfl, fun h => absurd rfl h, fun h => by omega⟩⟩
  ·
    refine GO.iconst dX8_isFull_11 ?_
    refine GO.goto (tgt := 16) dX8_isFull_12 (by decide) ?_
    exact GO.retz rfl rfl dX8_isFull_16 (Or.inr rfl) ⟨rfl, rfl, _, rfl, (ir_c rfl), ⟨Or.inr rfl, fun h => by omega, fun h => absurd h (by decide)⟩⟩

set_option maxHeartbeats 1000000 in
theorem t_X8_put_k26 {K : Kmap} {V : Vmap} {x : Nat} {p0 : Int} {p1 : Int} {p2 : Int} (h_x : K x = some (0, 26)) (r_p0 : ir p0) (r_p1 : ir p1) (r_p2 : ir p2) : MC mX8_put_k26 K V [.ref x, ti p0, ti p1, ti p2] (VS K (fun V1 => (True))) := by
  refine MC.start 2 (by decide +kernel) rfl rfl rfl (ls0 := [some (.ref x), some (ti p0), some (ti p1), some (ti p2), none, none]) rfl ?_
  refine GO.iload_n dX8_put_0 rfl rfl ?_
  refine GO.aload_n dX8_put_1 rfl rfl ?_
  refine GO.getI h_x fl_RX8_15_k26 rfl rfl dX8_put_2 (fun l1 u2 => ?_)
  refine GO.imul dX8_put_5 ?_
  refine GO.norm (fun z3 r4 hn5 => ?_)
  refine GO.iload_n dX8_put_6 rfl rfl ?_
  refine GO.iadd dX8_put_7 ?_
  refine GO.norm (fun z6 r7 hn8 => ?_)
  refine GO.istore (ls1 := [some (.ref x), some (ti p0), some (ti p1), some (ti p2), some (ti z6), none]) dX8_put_8 rfl rfl ?_
  refine GO.iload_n dX8_put_10 rfl rfl ?_
  have hj18 : ∀ (z17 : Int), ∀ (l19 : 0 ≤ z17), ∀ (u20 : z17 ≤ 1), GO mX8_put_k26 K V (VS K (fun V1 => (True))) K V 0 0 39 [some (.ref x), some (ti p0), some (ti p1), some (ti p2), some (ti z6), none] [ti z17] := by
    intro z17 l19 u20
    have r21 : ir z17 := ⟨by omega, by omega⟩
    refine GO.istore (ls1 := [some (.ref x), some (ti p0), some (ti p1), some (ti p2), some (ti z6), some (ti z17)]) dX8_put_39 rfl rfl ?_
    refine GO.iload dX8_put_41 rfl ?_
    refine GO.if_eq (tgt := 69) dX8_put_43 (by decide) r21 (fun c22 => ?_) (fun c22 => ?_)
    ·
      exact GO.retv rfl rfl dX8_put_69 ⟨rfl, rfl, trivial⟩
    ·
      refine GO.iload dX8_put_46 rfl ?_
      refine GO.if_lt (tgt := 69) dX8_put_48 (by decide) r7 (fun c23 => ?_) (fun c23 => ?_)
      ·
        exact GO.retv rfl rfl dX8_put_69 ⟨rfl, rfl, trivial⟩
      ·
        refine GO.iload dX8_put_51 rfl ?_
        refine GO.aload_n dX8_put_53 rfl rfl ?_
        refine GO.getA (n := 1000) h_x fl_RX8_27_k26 rfl rfl rfl rfl dX8_put_54 (fun hv25 h24 => ?_)
        refine GO.alen h24 dX8_put_57 (fun h26 => ?_)
        refine GO.icmp_ge (tgt := 69) dX8_put_58 (by decide) r7 ⟨by omega, by omega⟩ (fun c27 => ?_) (fun c27 => ?_)
        ·
          exact GO.retv rfl rfl dX8_put_69 ⟨rfl, rfl, trivial⟩
        ·
          refine GO.aload_n dX8_put_61 rfl rfl ?_
          refine GO.getRaw h_x fl_RX8_27_k26 hv25 dX8_put_62 ?_
          refine GO.iload dX8_put_65 rfl ?_
          refine GO.iload_n dX8_put_67 rfl rfl ?_
          have q30 : -2147483648 ≤ z6 ∧ z6 ≤ 2147483647 := r7
          refine GO.iast (t := 148) rfl rfl (by decide +kernel) h24 r7 (by omega) (by omega) r_p2 (r_p2).1 (r_p2).2 dX8_put_68 (fun V32 e31 => ?_)
          exact GO.retv rfl rfl dX8_put_69 ⟨rfl, rfl, trivial⟩
  have hj41 : GO mX8_put_k26 K V (VS K (fun V1 => (True))) K V 0 0 38 [some (.ref x), some (ti p0), some (ti p1), some (ti p2), some (ti z6), none] [] := by
    skip
    refine GO.iconst dX8_put_38 ?_
    exact hj18 0 (by omega) (by omega)
  refine GO.if_lt (tgt := 38) dX8_put_11 (by decide) r_p0 (fun c42 => ?_) (fun c42 => ?_)
  ·
    exact hj41 
  ·
    refine GO.iload_n dX8_put_14 rfl rfl ?_
    refine GO.aload_n dX8_put_15 rfl rfl ?_
    refine GO.getI h_x fl_RX8_9_k26 rfl rfl dX8_put_16 (fun l43 u44 => ?_)
    refine GO.icmp_ge (tgt := 38) dX8_put_19 (by decide) r_p0 vi_ir (fun c45 => ?_) (fun c45 => ?_)
    ·
      exact hj41 
    ·
      refine GO.iload_n dX8_put_22 rfl rfl ?_
      refine GO.if_lt (tgt := 38) dX8_put_23 (by decide) r_p1 (fun c46 => ?_) (fun c46 => ?_)
      ·
        exact hj41 
      ·
        refine GO.iload_n dX8_put_26 rfl rfl ?_
        refine GO.aload_n dX8_put_27 rfl rfl ?_
        refine GO.getI h_x fl_RX8_15_k26 rfl rfl dX8_put_28 (fun l47 u48 => ?_)
        refine GO.icmp_ge (tgt := 38) dX8_put_31 (by decide) r_p1 vi_ir (fun c49 => ?_) (fun c49 => ?_)
        ·
          exact hj41 
        ·
          refine GO.iconst dX8_put_34 ?_
          refine GO.goto (tgt := 39) dX8_put_35 (by decide) ?_
          exact hj18 1 (by omega) (by omega)

set_option maxHeartbeats 1000000 in
theorem t_X8_append_k26 {K : Kmap} {V : Vmap} {x : Nat} {p0 : Int} {p1 : Int} {p2 : Int} {p3 : Int} {p4 : Int} (h_x : K x = some (0, 26)) (r_p0 : ir p0) (r_p1 : ir p1) (r_p2 : ir p2) (r_p3 : ir p3) (r_p4 : ir p4) : MC mX8_append_k26 K V [.ref x, ti p0, ti p1, ti p2, ti p3, ti p4] (IS K (fun X V1 => ((X = (-1) ∧ vi V1 x 3 = vi V x 3 ∧ vi V x 3 ≥ 200) ∨ (X = vi V x 3 ∧ vi V1 x 3 = (vi V x 3 + 1) ∧ vi V x 3 < 200)))) := by
  refine MC.start 1 (by decide +kernel) rfl rfl rfl (ls0 := [some (.ref x), some (ti p0), some (ti p1), some (ti p2), some (ti p3), some (ti p4), none]) rfl ?_
  refine GO.aload_n dX8_append_0 rfl rfl ?_
  refine GO.callV (ci := 26) (N := mX8_isFull_k26) dX8_append_1 (RX8, TX8, 4) rfl gV_RX8_31 h_x (t_X8_isFull_k26 h_x) rfl [] rfl rfl (Nat.le_of_ble_eq_true rfl) rfl (k_ip fun X1 r2 h3 => ?_)
  refine GO.if_eq (tgt := 9) dX8_append_4 (by decide) r2 (fun c4 => ?_) (fun c4 => ?_)
  ·
    have q5 := h3.2.2 (by omega)
    refine GO.aload_n dX8_append_9 rfl rfl ?_
    refine GO.getI h_x fl_RX8_9_k26 rfl rfl dX8_append_10 (fun l6 u7 => ?_)
    refine GO.name (fun z8 hz9 => ?_)
    have r10 : ir z8 := hz9 ▸ vi_ir
    refine GO.istore (ls1 := [some (.ref x), some (ti p0), some (ti p1), some (ti p2), some (ti p3), some (ti p4), some (ti z8)]) dX8_append_13 rfl rfl ?_
    refine GO.aload_n dX8_append_15 rfl rfl ?_
    refine GO.dup dX8_append_16 rfl ?_
    refine GO.getI h_x fl_RX8_9_k26 rfl rfl dX8_append_17 (fun l11 u12 => ?_)
    refine GO.iconst dX8_append_20 ?_
    refine GO.iadd dX8_append_21 ?_
    have q14 : -2147483648 ≤ vi V x 3 ∧ vi V x 3 ≤ 2147483647 := vi_ir
    have q15 : -2147483648 ≤ z8 ∧ z8 ≤ 2147483647 := r10
    refine GO.putI h_x fp_RX8_9_k26 rfl (by decide +kernel) ⟨by omega, by omega⟩ (by omega) (by omega) dX8_append_22 (fun V16 e13 => ?_)
    refine GO.aload_n dX8_append_25 rfl rfl ?_
    refine GO.iload dX8_append_26 rfl ?_
    refine GO.iconst dX8_append_28 ?_
    refine GO.iload_n dX8_append_29 rfl rfl ?_
    refine GO.callV (ci := 26) (N := mX8_put_k26) dX8_append_30 (RX8, TX8, 4) rfl gV_RX8_35 h_x (t_X8_put_k26 h_x r10 (ir_c rfl) r_p0) rfl [] rfl rfl (Nat.le_of_ble_eq_true rfl) rfl (k_vs fun V19 h18 hF17 => ?_)
    refine GO.aload_n dX8_append_33 rfl rfl ?_
    refine GO.iload dX8_append_34 rfl ?_
    refine GO.iconst dX8_append_36 ?_
    refine GO.iload_n dX8_append_37 rfl rfl ?_
    refine GO.callV (ci := 26) (N := mX8_put_k26) dX8_append_38 (RX8, TX8, 4) rfl gV_RX8_35 h_x (t_X8_put_k26 h_x r10 (ir_c rfl) r_p1) rfl [] rfl rfl (Nat.le_of_ble_eq_true rfl) rfl (k_vs fun V22 h21 hF20 => ?_)
    refine GO.aload_n dX8_append_41 rfl rfl ?_
    refine GO.iload dX8_append_42 rfl ?_
    refine GO.iconst dX8_append_44 ?_
    refine GO.iload_n dX8_append_45 rfl rfl ?_
    refine GO.callV (ci := 26) (N := mX8_put_k26) dX8_append_46 (RX8, TX8, 4) rfl gV_RX8_35 h_x (t_X8_put_k26 h_x r10 (ir_c rfl) r_p2) rfl [] rfl rfl (Nat.le_of_ble_eq_true rfl) rfl (k_vs fun V25 h24 hF23 => ?_)
    refine GO.aload_n dX8_append_49 rfl rfl ?_
    refine GO.iload dX8_append_50 rfl ?_
    refine GO.iconst dX8_append_52 ?_
    refine GO.iload dX8_append_53 rfl ?_
    refine GO.callV (ci := 26) (N := mX8_put_k26) dX8_append_55 (RX8, TX8, 4) rfl gV_RX8_35 h_x (t_X8_put_k26 h_x r10 (ir_c rfl) r_p3) rfl [] rfl rfl (Nat.le_of_ble_eq_true rfl) rfl (k_vs fun V28 h27 hF26 => ?_)
    refine GO.aload_n dX8_append_58 rfl rfl ?_
    refine GO.iload dX8_append_59 rfl ?_
    refine GO.iconst dX8_append_61 ?_
    refine GO.iload dX8_append_62 rfl ?_
    refine GO.callV (ci := 26) (N := mX8_put_k26) dX8_append_64 (RX8, TX8, 4) rfl gV_RX8_35 h_x (t_X8_put_k26 h_x r10 (ir_c rfl) r_p4) rfl [] rfl rfl (Nat.le_of_ble_eq_true rfl) rfl (k_vs fun V31 h30 hF29 => ?_)
    refine GO.iload dX8_append_67 rfl ?_
    have e37 : vi V16 x 3 = (vi V x 3) + 1 := upd2_int e13 ⟨by omega, by omega⟩
    have e36 : vi V19 x 3 = vi V16 x 3 := vi_fr hF17 h_x h_x (by decide +kernel)
    have e35 : vi V22 x 3 = vi V19 x 3 := vi_fr hF20 h_x h_x (by decide +kernel)
    have e34 : vi V25 x 3 = vi V22 x 3 := vi_fr hF23 h_x h_x (by decide +kernel)
    have e33 : vi V28 x 3 = vi V25 x 3 := vi_fr hF26 h_x h_x (by decide +kernel)
    have e32 : vi V31 x 3 = vi V28 x 3 := vi_fr hF29 h_x h_x (by decide +kernel)
    exact GO.reti rfl rfl dX8_append_69 ⟨rfl, _, rfl, r10, by omega⟩
  ·
    have q38 := h3.2.1 (by omega)
    refine GO.iconst dX8_append_7 ?_
    have q39 : -2147483648 ≤ vi V x 3 ∧ vi V x 3 ≤ 2147483647 := vi_ir
    exact GO.reti rfl rfl dX8_append_8 ⟨rfl, _, rfl, (ir_c rfl), by omega⟩

set_option maxHeartbeats 1000000 in
theorem t_X11_caught {K : Kmap} {V : Vmap} {x : Nat} {p0 : Int} {p1 : Int} {p2 : Int} {p3 : Int} {p4 : Int} (h_x : K x = some (0, 10)) (r_p0 : ir p0) (r_p1 : ir p1) (r_p2 : ir p2) (r_p3 : ir p3) (r_p4 : ir p4) (w_0 : SN V x) : MC mX11_caught K V [.ref x, ti p0, ti p1, ti p2, ti p3, ti p4] (IS K (fun X V1 => (X ≥ (-2147483648) ∧ X ≤ 2147483647) ∧ (CTC V V1 x p0 p1 p2 p3 p4 X))) := by
  refine MC.start 0 (by decide +kernel) rfl rfl rfl (ls0 := [some (.ref x), some (ti p0), some (ti p1), some (ti p2), some (ti p3), some (ti p4)]) rfl ?_
  refine GO.aload_n dX11_caught_0 rfl rfl ?_
  refine GO.iload_n dX11_caught_1 rfl rfl ?_
  refine GO.callV (ci := 10) (N := mX11_shipOf) dX11_caught_2 (RX11, TX11, 20) rfl gV_RX11_403 h_x (t_X11_shipOf h_x r_p0) rfl [] rfl rfl (Nat.le_of_ble_eq_true rfl) rfl (k_rp (fun h3 => ?_) (fun o1 h2 h3 => ?_))
  ·
    have rwn2 := h3.2
    have hn4 : SN V x → p0 < 0 ∨ vi V x 10 ≤ p0 := h3.2
    have hnn5 := hn4 w_0
    refine GO.ifnullN (tgt := 36) dX11_caught_5 (by decide) ?_
    refine GO.iconst dX11_caught_36 ?_
    exact GO.reti rfl rfl dX11_caught_37 ⟨rfl, _, rfl, (ir_c rfl), ⟨(by first | exact trivial | omega), (by first | exact ctc_0 (by omega) | exact ctc_1 (by assumption) h_x (by decide +kernel) (by omega) (by assumption))⟩⟩
  ·
    have hp6 : p0 ≥ 0 ∧ p0 < vi V x 10 := h3.1
    have rwp2 := h3.2
    have hq7 : o1 = vq V (vq V x 9) (p0).toNat := h3.2
    refine GO.ifnull dX11_caught_5 ?_
    refine GO.iload_n dX11_caught_8 rfl rfl ?_
    refine GO.iconst dX11_caught_9 ?_
    refine GO.iconst dX11_caught_10 ?_
    refine GO.callS (N := mX11_between) dX11_caught_11 gS_RX11_112 (t_X11_between r_p1 (ir_c rfl) (ir_c rfl)) rfl [] rfl rfl (Nat.le_of_ble_eq_true rfl) rfl (k_ip fun X8 r9 h10 => ?_)
    refine GO.if_eq (tgt := 36) dX11_caught_14 (by decide) r9 (fun c11 => ?_) (fun c11 => ?_)
    ·
      have q12 := h10.2.2 (by omega)
      refine GO.iconst dX11_caught_36 ?_
      exact GO.reti rfl rfl dX11_caught_37 ⟨rfl, _, rfl, (ir_c rfl), ⟨(by first | exact trivial | omega), (by first | exact ctc_0 (by omega) | exact ctc_1 (by assumption) h_x (by decide +kernel) (by omega) (by assumption))⟩⟩
    ·
      have q13 := h10.2.1 (by omega)
      refine GO.iload_n dX11_caught_17 rfl rfl ?_
      refine GO.callS (N := mX11_isSea) dX11_caught_18 gS_RX11_394 (t_X11_isSea r_p2) rfl [] rfl rfl (Nat.le_of_ble_eq_true rfl) rfl (k_ip fun X14 r15 h16 => ?_)
      refine GO.if_eq (tgt := 36) dX11_caught_21 (by decide) r15 (fun c17 => ?_) (fun c17 => ?_)
      ·
        have q18 := h16.2.2 (by omega)
        refine GO.iconst dX11_caught_36 ?_
        exact GO.reti rfl rfl dX11_caught_37 ⟨rfl, _, rfl, (ir_c rfl), ⟨(by first | exact trivial | omega), (by first | exact ctc_0 (by omega) | exact ctc_1 (by assumption) h_x (by decide +kernel) (by omega) (by assumption))⟩⟩
      ·
        have q19 := h16.2.1 (by omega)
        refine GO.iload dX11_caught_24 rfl ?_
        refine GO.iconst dX11_caught_26 ?_
        refine GO.ldcw (X := 1000000) dX11_caught_27 gw_1159 rfl ?_
        refine GO.callS (N := mX11_between) dX11_caught_30 gS_RX11_112 (t_X11_between r_p3 (ir_c rfl) (ir_c rfl)) rfl [] rfl rfl (Nat.le_of_ble_eq_true rfl) rfl (k_ip fun X20 r21 h22 => ?_)
        refine GO.if_ne (tgt := 38) dX11_caught_33 (by decide) r21 (fun c23 => ?_) (fun c23 => ?_)
        ·
          have q24 := h22.2.1 (by omega)
          refine GO.iload dX11_caught_38 rfl ?_
          refine GO.iconst dX11_caught_40 ?_
          refine GO.aload_n dX11_caught_41 rfl rfl ?_
          refine GO.getR h_x fl_RX11_12 rfl rfl dX11_caught_42 (fun hv26 h25 => ?_)
          refine GO.getI h25 fl_RX11_145 rfl rfl dX11_caught_45 (fun l27 u28 => ?_)
          refine GO.callS (N := mX11_between) dX11_caught_48 gS_RX11_112 (t_X11_between r_p4 (ir_c rfl) vi_ir) rfl [] rfl rfl (Nat.le_of_ble_eq_true rfl) rfl (k_ip fun X29 r30 h31 => ?_)
          refine GO.if_ne (tgt := 56) dX11_caught_51 (by decide) r30 (fun c32 => ?_) (fun c32 => ?_)
          ·
            have q33 := h31.2.1 (by omega)
            refine GO.aload_n dX11_caught_56 rfl rfl ?_
            refine GO.getR h_x fl_RX11_82 rfl rfl dX11_caught_57 (fun hv35 h34 => ?_)
            refine GO.iload_n dX11_caught_60 rfl rfl ?_
            refine GO.iload_n dX11_caught_61 rfl rfl ?_
            refine GO.iload_n dX11_caught_62 rfl rfl ?_
            refine GO.iload dX11_caught_63 rfl ?_
            refine GO.iload dX11_caught_65 rfl ?_
            refine GO.callV (ci := 26) (N := mX8_append_k26) dX11_caught_67 (RX8, TX8, 4) rfl gV_RX11_205 h34 (t_X8_append_k26 h34 r_p0 r_p1 r_p2 r_p3 r_p4) rfl [] rfl rfl (Nat.le_of_ble_eq_true rfl) rfl (k_is fun X36 V40 r37 h38 hF39 => ?_)
            have q42 : -2147483648 ≤ X36 ∧ X36 ≤ 2147483647 := r37
            exact GO.reti rfl rfl dX11_caught_70 ⟨rfl, _, rfl, r37, ⟨(by first | exact trivial | omega), (by first | exact ctc_0 (by omega) | exact ctc_1 (by assumption) h_x (by decide +kernel) (by omega) (by assumption))⟩⟩
          ·
            have q43 := h31.2.2 (by omega)
            refine GO.iconst dX11_caught_54 ?_
            exact GO.reti rfl rfl dX11_caught_55 ⟨rfl, _, rfl, (ir_c rfl), ⟨(by first | exact trivial | omega), (by first | exact ctc_0 (by omega) | exact ctc_1 (by assumption) h_x (by decide +kernel) (by omega) (by assumption))⟩⟩
        ·
          have q44 := h22.2.2 (by omega)
          refine GO.iconst dX11_caught_36 ?_
          exact GO.reti rfl rfl dX11_caught_37 ⟨rfl, _, rfl, (ir_c rfl), ⟨(by first | exact trivial | omega), (by first | exact ctc_0 (by omega) | exact ctc_1 (by assumption) h_x (by decide +kernel) (by omega) (by assumption))⟩⟩
