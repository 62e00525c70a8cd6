def mX11_stop : MRec := (RX11, cX11_stop, 3, (some .int), yX11_stop, 3, 66, 0, 0, 36499524940977561749129372845602330599145828057988479444633540143194539798325439699329965871176683977001530619786432970469783377954183999751134281966840210381761091620724086305831491515851997184)
def mX8_has_k24 : MRec := (RX8, cX8_has, 2, (some .boolean), yX8_has, 0, 0, 0, 0, 0)
def mX4_put_t137 : MRec := (RX4, cX4_put, 3, (none : Option Jvm.ClassFile.FieldType), yX4_put, 0, 0, 0, 0, 661055968790248598951915308032771039828404682964281219284648795274405791236311345825189210439715284847591212025023358304256)
def mX4_put_t138 : MRec := (RX4, cX4_put, 3, (none : Option Jvm.ClassFile.FieldType), yX4_put, 0, 0, 0, 0, 1322111937580497197903830616065542079656809365928562438569297590548811582472622691650378420879430569695182424050046716608512)
def mX11_open : MRec := (RX11, cX11_open, 5, (some .boolean), yX11_open, 1, 22, 0, 0, 1983167906370745796855745924098313119485214048892843657853946385823217373708934037475567631319145854542778247761088502300672)
def mX4_put_t139 : MRec := (RX4, cX4_put, 3, (none : Option Jvm.ClassFile.FieldType), yX4_put, 0, 0, 0, 0, 2644223875160994395807661232131084159313618731857124877138595181097623164945245383300756841758861139390364848100093433217024)
def mX11_measureLegs : MRec := (RX11, cX11_measureLegs, 5, (none : Option Jvm.ClassFile.FieldType), yX11_measureLegs, 2, 44, 0, 0, 2644223875160994395807661232131084159313618731857124877138595181097623164945245383300756841758861139390364848100093433217024)
def mX11_plan : MRec := (RX11, cX11_plan, 6, (some .int), yX11_plan, 19, 425, 0, 0, 81970940129990826270037498196063608938722180687570871191296450614026318113302606882323462094524695321101324126160951711891456)
def mX11_planned : MRec := (RX11, cX11_planned, 5, (some .int), yX11_planned, 20, 450, 0, 0, 81970940129990826270037498196063608938722180687570871191296450614026318113302606882323462094524695321101324126160951711891456)
def mX8_isFull_k30 : MRec := (RX8, cX8_isFull, 1, (some .boolean), yX8_isFull, 0, 0, 0, 0, 0)
def mX8_put_k30 : MRec := (RX8, cX8_put, 6, (none : Option Jvm.ClassFile.FieldType), yX8_put, 0, 0, 0, 0, 21661481985318866090456360813617841433097164651373566993519371723551728967231450179999800047688590453885868835635965404913860608)
def mX8_append_k30 : MRec := (RX8, cX8_append, 7, (some .int), yX8_append, 1, 25, 0, 0, 612360413832167804618481300175204950565278972827733245154176943827040045811230262687120342191566637024086915148737654794120795056485256046682069139518047359476347064349325068964025621429139779444801536)
def mX11_report : MRec := (RX11, cX11_report, 5, (some .boolean), yX11_report, 2, 51, 0, 0, 612360413832167804618481300175204950565278972827733245154176943827040045811230262687120342191566637024086915148737654794120795056485256046682069139518047359476347064349325068964025621429139779444801536)
set_option maxHeartbeats 1000000 in
theorem t_X11_stop {K : Kmap} {V : Vmap} {x : Nat} {p0 : Int} {p1 : Int} (h_x : K x = some (0, 10)) (r_p0 : ir p0) (r_p1 : ir p1) : MC mX11_stop K V [.ref x, ti p0, ti p1] (IS K (fun X V1 => (X ≥ (-2147483648) ∧ X ≤ 2147483647) ∧ (SPC V V1 x p0 p1 X))) := by
  refine MC.start 0 (by decide +kernel) rfl rfl rfl (ls0 := [some (.ref x), some (ti p0), some (ti p1)]) rfl ?_
  refine GO.useWT (fun hW_0 => ?_)
  refine GO.aload_n dX11_stop_0 rfl rfl ?_
  refine GO.iload_n dX11_stop_1 rfl rfl ?_
  refine GO.callV (ci := 10) (N := mX11_standingStation) dX11_stop_2 (RX11, TX11, 20) rfl gV_RX11_195 h_x (t_X11_standingStation h_x r_p0) rfl [] rfl rfl (Nat.le_of_ble_eq_true rfl) rfl (k_rp (fun h3 => ?_) (fun o1 h2 h3 => ?_))
  ·
    have rwn2 := h3.2
    have hn4 : NN 6 5 V x → ¬ STN V x p0 := h3.2
    refine GO.ifnullN (tgt := 30) dX11_stop_5 (by decide) ?_
    refine GO.iconst dX11_stop_30 ?_
    exact GO.reti rfl rfl dX11_stop_31 ⟨rfl, _, rfl, (ir_c rfl), ⟨(by first | exact trivial | omega), (by first | exact SPC.nt rwn2 rfl | exact SPC.nn (by omega) rfl)⟩⟩
  ·
    have hp5 : p0 ≥ 0 ∧ p0 < vi V x 6 := h3.1
    have rwp2 := h3.2
    have hq6 : o1 = plO V x (p0).toNat ∧ STN V x p0 := h3.2
    refine GO.ifnull dX11_stop_5 ?_
    refine GO.iload_n dX11_stop_8 rfl rfl ?_
    refine GO.iconst dX11_stop_9 ?_
    refine GO.sipush dX11_stop_10 rfl ?_
    refine GO.callS (N := mX11_between) dX11_stop_13 gS_RX11_112 (t_X11_between r_p1 (ir_c rfl) (ir_c rfl)) rfl [] rfl rfl (Nat.le_of_ble_eq_true rfl) rfl (k_ip fun X7 r8 h9 => ?_)
    refine GO.if_eq (tgt := 30) dX11_stop_16 (by decide) r8 (fun c10 => ?_) (fun c10 => ?_)
    ·
      have q11 := h9.2.2 (by omega)
      refine GO.iconst dX11_stop_30 ?_
      exact GO.reti rfl rfl dX11_stop_31 ⟨rfl, _, rfl, (ir_c rfl), ⟨(by first | exact trivial | omega), (by first | exact SPC.nn (by omega) rfl)⟩⟩
    ·
      have q12 := h9.2.1 (by omega)
      refine GO.aload_n dX11_stop_19 rfl rfl ?_
      refine GO.getR h_x fl_RX11_26 rfl rfl dX11_stop_20 (fun hv14 h13 => ?_)
      refine GO.iload_n dX11_stop_23 rfl rfl ?_
      refine GO.callV (ci := 5) (N := mX6_hasStation) dX11_stop_24 (RX6, TX6, 10) rfl gV_RX11_590 h13 (t_X6_hasStation h13 r_p0) rfl [] rfl rfl (Nat.le_of_ble_eq_true rfl) rfl (k_ip fun X15 r16 h17 => ?_)
      have raw_hasStation := h17.2.2.2
      have rw24 := h17.2.2.2
      refine GO.if_eq (tgt := 32) dX11_stop_27 (by decide) r16 (fun c18 => ?_) (fun c18 => ?_)
      ·
        refine GO.aload_n dX11_stop_32 rfl rfl ?_
        refine GO.getRaw h_x fl_RX11_26 hv14 dX11_stop_33 ?_
        refine GO.callV (ci := 5) (N := mX6_forget) dX11_stop_36 (RX6, TX6, 10) rfl gV_RX11_435 h13 (t_X6_forget h13) rfl [] rfl rfl (Nat.le_of_ble_eq_true rfl) rfl (k_vs fun V23 h22 hF21 => ?_)
        refine GO.useWT (fun hWf => ?_)
        refine GO.aload_n dX11_stop_39 rfl rfl ?_
        refine GO.getRaw h_x fl_RX11_26 (Eq.trans (hF21 _ _ _ h_x h_x (by decide +kernel)) hv14) dX11_stop_40 ?_
        refine GO.getR h13 fl_RX11_593 rfl rfl dX11_stop_43 (fun hv27 h26 => ?_)
        refine GO.iload_n dX11_stop_46 rfl rfl ?_
        refine GO.iload_n dX11_stop_47 rfl rfl ?_
        refine GO.iconst dX11_stop_48 ?_
        refine GO.iconst dX11_stop_49 ?_
        refine GO.iconst dX11_stop_50 ?_
        refine GO.callV (ci := 24) (N := mX8_append_k24) dX11_stop_51 (RX8, TX8, 4) rfl gV_RX11_205 h26 (t_X8_append_k24 h26 r_p0 r_p1 (ir_c rfl) (ir_c rfl) (ir_c rfl)) rfl [] rfl rfl (Nat.le_of_ble_eq_true rfl) rfl (k_is fun X28 V32 r29 h30 hF31 => ?_)
        have raw_append := h30.2
        have rw51 := h30.2
        exact GO.reti rfl rfl dX11_stop_54 ⟨rfl, _, rfl, r29, ⟨(by first | exact trivial | omega), (by first | exact SPC.nn (by omega) rfl | exact SPC.hs rw24 (by omega) rfl | exact SPC.ap rwp2 (by omega) (by omega) r_p0 rw24 (by omega) hF21 hW_0 hWf h_x (by decide +kernel) (by have e9 := vq_eq (hF21 _ _ 2 h_x h_x (by decide +kernel)); unfold sto; rw [e9]; exact rw51))⟩⟩
      ·
        refine GO.iconst dX11_stop_30 ?_
        exact GO.reti rfl rfl dX11_stop_31 ⟨rfl, _, rfl, (ir_c rfl), ⟨(by first | exact trivial | omega), (by first | exact SPC.nn (by omega) rfl | exact SPC.hs rw24 (by omega) rfl)⟩⟩

set_option maxHeartbeats 1000000 in
theorem t_X8_has_k24 {K : Kmap} {V : Vmap} {x : Nat} {p0 : Int} (h_x : K x = some (0, 24)) (r_p0 : ir p0) : MC mX8_has_k24 K V [.ref x, ti p0] (IP K V (fun X => (X = 0 ∨ X = 1) ∧ (X ≠ 0 → p0 ≥ 0 ∧ p0 < vi V x 3) ∧ (X = 0 → (p0 < 0 ∨ p0 ≥ vi V x 3)))) := by
  refine MC.start 0 (by decide +kernel) rfl rfl rfl (ls0 := [some (.ref x), some (ti p0)]) rfl ?_
  refine GO.iload_n dX8_has_0 rfl rfl ?_
  refine GO.if_lt (tgt := 16) dX8_has_1 (by decide) r_p0 (fun c1 => ?_) (fun c1 => ?_)
  ·
    refine GO.iconst dX8_has_16 ?_
    have q2 : -2147483648 ≤ vi V x 3 ∧ vi V x 3 ≤ 2147483647 := vi_ir
    exact GO.retz rfl rfl dX8_has_17 (Or.inl rfl) ⟨rfl, rfl, _, rfl, (ir_c rfl), ⟨Or.inl rfl, fun h => absurd rfl h, fun h => by omega⟩⟩
  ·
    refine GO.iload_n dX8_has_4 rfl rfl ?_
    refine GO.aload_n dX8_has_5 rfl rfl ?_
    refine GO.getI h_x fl_RX8_9_k24 rfl rfl dX8_has_6 (fun l3 u4 => ?_)
    refine GO.icmp_ge (tgt := 16) dX8_has_9 (by decide) r_p0 vi_ir (fun c5 => ?_) (fun c5 => ?_)
    ·
      refine GO.iconst dX8_has_16 ?_
      have q6 : -2147483648 ≤ p0 ∧ p0 ≤ 2147483647 := r_p0
      exact GO.retz rfl rfl dX8_has_17 (Or.inl rfl) ⟨rfl, rfl, _, rfl, (ir_c rfl), ⟨Or.inl rfl, fun h => absurd rfl h, fun h => by omega⟩⟩
    ·
      refine GO.iconst dX8_has_12 ?_
      refine GO.goto (tgt := 17) dX8_has_13 (by decide) ?_
      have q7 : -2147483648 ≤ p0 ∧ p0 ≤ 2147483647 := r_p0
      exact GO.retz rfl rfl dX8_has_17 (Or.inr rfl) ⟨rfl, rfl, _, rfl, (ir_c rfl), ⟨Or.inr rfl, fun h => by omega, fun h => absurd h (by decide)⟩⟩

set_option maxHeartbeats 1000000 in
theorem t_X4_put_t137 {K : Kmap} {V : Vmap} {p0 n_p0 : Nat} {p1 : Int} {p2 : Int} (h_p0 : K p0 = some (138, n_p0)) (r_p1 : ir p1) (r_p2 : ir p2) : MC mX4_put_t137 K V [.ref p0, ti p1, ti p2] (VS K (fun V1 => (True) ∧ (V1 = rpv V p0 n_p0 p1 p2))) := by
  refine MC.start 0 (by decide +kernel) rfl rfl rfl (ls0 := [some (.ref p0), some (ti p1), some (ti p2)]) rfl ?_
  refine GO.aload_n dX4_put_0 rfl rfl ?_
  refine GO.ifnull dX4_put_1 ?_
  refine GO.iload_n dX4_put_4 rfl rfl ?_
  refine GO.if_lt (tgt := 18) dX4_put_5 (by decide) r_p1 (fun c1 => ?_) (fun c1 => ?_)
  ·
    exact GO.retv rfl rfl dX4_put_18 ⟨rfl, rfl, ⟨trivial, (by first | exact rpv_in (by assumption) (by omega) (by omega) | exact rpv_out (by omega))⟩⟩
  ·
    refine GO.iload_n dX4_put_8 rfl rfl ?_
    refine GO.aload_n dX4_put_9 rfl rfl ?_
    refine GO.alen h_p0 dX4_put_10 (fun h2 => ?_)
    refine GO.icmp_ge (tgt := 18) dX4_put_11 (by decide) r_p1 ⟨by omega, by omega⟩ (fun c3 => ?_) (fun c3 => ?_)
    ·
      exact GO.retv rfl rfl dX4_put_18 ⟨rfl, rfl, ⟨trivial, (by first | exact rpv_in (by assumption) (by omega) (by omega) | exact rpv_out (by omega))⟩⟩
    ·
      refine GO.aload_n dX4_put_14 rfl rfl ?_
      refine GO.iload_n dX4_put_15 rfl rfl ?_
      refine GO.iload_n dX4_put_16 rfl rfl ?_
      have q4 : -2147483648 ≤ p1 ∧ p1 ≤ 2147483647 := r_p1
      refine GO.iast (t := 137) rfl rfl (by decide +kernel) h_p0 r_p1 (by omega) (by omega) r_p2 (r_p2).1 (r_p2).2 dX4_put_17 (fun V6 e5 => ?_)
      exact GO.retv rfl rfl dX4_put_18 ⟨rfl, rfl, ⟨trivial, (by first | exact rpv_in (by assumption) (by omega) (by omega) | exact rpv_out (by omega))⟩⟩

set_option maxHeartbeats 1000000 in
theorem t_X4_put_t138 {K : Kmap} {V : Vmap} {p0 n_p0 : Nat} {p1 : Int} {p2 : Int} (h_p0 : K p0 = some (139, n_p0)) (r_p1 : ir p1) (r_p2 : ir p2) : MC mX4_put_t138 K V [.ref p0, ti p1, ti p2] (VS K (fun V1 => (True) ∧ (V1 = rpv V p0 n_p0 p1 p2))) := by
  refine MC.start 0 (by decide +kernel) rfl rfl rfl (ls0 := [some (.ref p0), some (ti p1), some (ti p2)]) rfl ?_
  refine GO.aload_n dX4_put_0 rfl rfl ?_
  refine GO.ifnull dX4_put_1 ?_
  refine GO.iload_n dX4_put_4 rfl rfl ?_
  refine GO.if_lt (tgt := 18) dX4_put_5 (by decide) r_p1 (fun c1 => ?_) (fun c1 => ?_)
  ·
    exact GO.retv rfl rfl dX4_put_18 ⟨rfl, rfl, ⟨trivial, (by first | exact rpv_in (by assumption) (by omega) (by omega) | exact rpv_out (by omega))⟩⟩
  ·
    refine GO.iload_n dX4_put_8 rfl rfl ?_
    refine GO.aload_n dX4_put_9 rfl rfl ?_
    refine GO.alen h_p0 dX4_put_10 (fun h2 => ?_)
    refine GO.icmp_ge (tgt := 18) dX4_put_11 (by decide) r_p1 ⟨by omega, by omega⟩ (fun c3 => ?_) (fun c3 => ?_)
    ·
      exact GO.retv rfl rfl dX4_put_18 ⟨rfl, rfl, ⟨trivial, (by first | exact rpv_in (by assumption) (by omega) (by omega) | exact rpv_out (by omega))⟩⟩
    ·
      refine GO.aload_n dX4_put_14 rfl rfl ?_
      refine GO.iload_n dX4_put_15 rfl rfl ?_
      refine GO.iload_n dX4_put_16 rfl rfl ?_
      have q4 : -2147483648 ≤ p1 ∧ p1 ≤ 2147483647 := r_p1
      refine GO.iast (t := 138) rfl rfl (by decide +kernel) h_p0 r_p1 (by omega) (by omega) r_p2 (r_p2).1 (r_p2).2 dX4_put_17 (fun V6 e5 => ?_)
      exact GO.retv rfl rfl dX4_put_18 ⟨rfl, rfl, ⟨trivial, (by first | exact rpv_in (by assumption) (by omega) (by omega) | exact rpv_out (by omega))⟩⟩

set_option maxHeartbeats 1000000 in
theorem t_X11_open {K : Kmap} {V : Vmap} {x : Nat} {p0 : Int} {p1 : Int} {p2 : Int} {p3 : Int} (h_x : K x = some (0, 10)) (r_p0 : ir p0) (r_p1 : ir p1) (r_p2 : ir p2) (r_p3 : ir p3) : MC mX11_open K V [.ref x, ti p0, ti p1, ti p2, ti p3] (IS K (fun X V1 => (X = 0 ∨ X = 1) ∧ (X ≠ 0 → True) ∧ (X = 0 → True) ∧ (X ≠ 0 ↔ 0 ≤ p0 ∧ p0 ≤ 2 ∧ 0 ≤ p1 ∧ p1 < ssz V x ∧ 0 ≤ p2 ∧ p2 ≤ p3 ∧ p3 ≤ 359))) := by
  refine MC.start 0 (by decide +kernel) rfl rfl rfl (ls0 := [some (.ref x), some (ti p0), some (ti p1), some (ti p2), some (ti p3)]) rfl ?_
  refine GO.iload_n dX11_open_0 rfl rfl ?_
  refine GO.iconst dX11_open_1 ?_
  refine GO.iconst dX11_open_2 ?_
  refine GO.callS (N := mX11_between) dX11_open_3 gS_RX11_112 (t_X11_between r_p0 (ir_c rfl) (ir_c rfl)) rfl [] rfl rfl (Nat.le_of_ble_eq_true rfl) rfl (k_ip fun X1 r2 h3 => ?_)
  refine GO.if_eq (tgt := 32) dX11_open_6 (by decide) r2 (fun c4 => ?_) (fun c4 => ?_)
  ·
    have q5 := h3.2.2 (by omega)
    refine GO.iconst dX11_open_32 ?_
    exact GO.retz rfl rfl dX11_open_33 (Or.inl rfl) ⟨rfl, _, rfl, (ir_c rfl), ⟨Or.inl rfl, fun _ => trivial, fun _ => trivial, (by first | exact ⟨fun g => absurd rfl g, fun g => by unfold ssz sto at g; omega⟩ | exact ⟨fun _ => by unfold ssz sto; omega, fun _ => by omega⟩)⟩⟩
  ·
    have q6 := h3.2.1 (by omega)
    refine GO.aload_n dX11_open_9 rfl rfl ?_
    refine GO.getR h_x fl_RX11_26 rfl rfl dX11_open_10 (fun hv8 h7 => ?_)
    refine GO.getR h7 fl_RX11_593 rfl rfl dX11_open_13 (fun hv10 h9 => ?_)
    refine GO.iload_n dX11_open_16 rfl rfl ?_
    refine GO.callV (ci := 24) (N := mX8_has_k24) dX11_open_17 (RX8, TX8, 4) rfl gV_RX11_431 h9 (t_X8_has_k24 h9 r_p1) rfl [] rfl rfl (Nat.le_of_ble_eq_true rfl) rfl (k_ip fun X11 r12 h13 => ?_)
    refine GO.if_eq (tgt := 32) dX11_open_20 (by decide) r12 (fun c14 => ?_) (fun c14 => ?_)
    ·
      have q15 := h13.2.2 (by omega)
      refine GO.iconst dX11_open_32 ?_
      exact GO.retz rfl rfl dX11_open_33 (Or.inl rfl) ⟨rfl, _, rfl, (ir_c rfl), ⟨Or.inl rfl, fun _ => trivial, fun _ => trivial, (by first | exact ⟨fun g => absurd rfl g, fun g => by unfold ssz sto at g; omega⟩ | exact ⟨fun _ => by unfold ssz sto; omega, fun _ => by omega⟩)⟩⟩
    ·
      have q16 := h13.2.1 (by omega)
      refine GO.iload_n dX11_open_23 rfl rfl ?_
      refine GO.iload dX11_open_24 rfl ?_
      refine GO.callS (N := mX11_areYearDays) dX11_open_26 gS_RX11_135 (t_X11_areYearDays r_p2 r_p3) rfl [] rfl rfl (Nat.le_of_ble_eq_true rfl) rfl (k_ip fun X17 r18 h19 => ?_)
      refine GO.if_ne (tgt := 34) dX11_open_29 (by decide) r18 (fun c20 => ?_) (fun c20 => ?_)
      ·
        have q21 := h19.2.1 (by omega)
        refine GO.aload_n dX11_open_34 rfl rfl ?_
        refine GO.getRaw h_x fl_RX11_26 hv8 dX11_open_35 ?_
        refine GO.callV (ci := 5) (N := mX6_forget) dX11_open_38 (RX6, TX6, 10) rfl gV_RX11_435 h7 (t_X6_forget h7) rfl [] rfl rfl (Nat.le_of_ble_eq_true rfl) rfl (k_vs fun V26 h25 hF24 => ?_)
        refine GO.aload_n dX11_open_41 rfl rfl ?_
        refine GO.getRaw h_x fl_RX11_26 (Eq.trans (hF24 _ _ _ h_x h_x (by decide +kernel)) hv8) dX11_open_42 ?_
        refine GO.getA (n := 24) h7 fl_RX11_596 rfl rfl rfl rfl dX11_open_45 (fun hv30 h29 => ?_)
        refine GO.iload_n dX11_open_48 rfl rfl ?_
        refine GO.bipush dX11_open_49 rfl ?_
        refine GO.imul dX11_open_51 ?_
        refine GO.iload_n dX11_open_52 rfl rfl ?_
        refine GO.iadd dX11_open_53 ?_
        refine GO.norm (fun z31 r32 hn33 => ?_)
        refine GO.iload_n dX11_open_54 rfl rfl ?_
        refine GO.callS (N := mX4_put_t137) dX11_open_55 gS_RX11_108 (t_X4_put_t137 h29 r32 r_p2) rfl [] rfl rfl (Nat.le_of_ble_eq_true rfl) rfl (k_vs fun V36 h35 hF34 => ?_)
        have raw_put := h35.2
        have rw55 := h35.2
        refine GO.aload_n dX11_open_58 rfl rfl ?_
        refine GO.getRaw h_x fl_RX11_26 (Eq.trans (hF34 _ _ _ h_x h_x (by decide +kernel)) (Eq.trans (hF24 _ _ _ h_x h_x (by decide +kernel)) hv8)) dX11_open_59 ?_
        refine GO.getA (n := 24) h7 fl_RX11_599 rfl rfl rfl rfl dX11_open_62 (fun hv40 h39 => ?_)
        refine GO.iload_n dX11_open_65 rfl rfl ?_
        refine GO.bipush dX11_open_66 rfl ?_
        refine GO.imul dX11_open_68 ?_
        refine GO.iload_n dX11_open_69 rfl rfl ?_
        refine GO.iadd dX11_open_70 ?_
        refine GO.norm (fun z41 r42 hn43 => ?_)
        refine GO.iload dX11_open_71 rfl ?_
        refine GO.callS (N := mX4_put_t138) dX11_open_73 gS_RX11_108 (t_X4_put_t138 h39 r42 r_p3) rfl [] rfl rfl (Nat.le_of_ble_eq_true rfl) rfl (k_vs fun V46 h45 hF44 => ?_)
        have raw_put := h45.2
        have rw73 := h45.2
        refine GO.iconst dX11_open_76 ?_
        exact GO.retz rfl rfl dX11_open_77 (Or.inr rfl) ⟨rfl, _, rfl, (ir_c rfl), ⟨Or.inr rfl, fun _ => trivial, fun _ => trivial, (by first | exact ⟨fun g => absurd rfl g, fun g => by unfold ssz sto at g; omega⟩ | exact ⟨fun _ => by unfold ssz sto; omega, fun _ => by omega⟩)⟩⟩
      ·
        have q47 := h19.2.2 (by omega)
        refine GO.iconst dX11_open_32 ?_
        exact GO.retz rfl rfl dX11_open_33 (Or.inl rfl) ⟨rfl, _, rfl, (ir_c rfl), ⟨Or.inl rfl, fun _ => trivial, fun _ => trivial, (by first | exact ⟨fun g => absurd rfl g, fun g => by unfold ssz sto at g; omega⟩ | exact ⟨fun _ => by unfold ssz sto; omega, fun _ => by omega⟩)⟩⟩

set_option maxHeartbeats 1000000 in
theorem t_X4_put_t139 {K : Kmap} {V : Vmap} {p0 n_p0 : Nat} {p1 : Int} {p2 : Int} (h_p0 : K p0 = some (140, n_p0)) (r_p1 : ir p1) (r_p2 : ir p2) : MC mX4_put_t139 K V [.ref p0, ti p1, ti p2] (VS K (fun V1 => (True) ∧ (V1 = rpv V p0 n_p0 p1 p2))) := by
  refine MC.start 0 (by decide +kernel) rfl rfl rfl (ls0 := [some (.ref p0), some (ti p1), some (ti p2)]) rfl ?_
  refine GO.aload_n dX4_put_0 rfl rfl ?_
  refine GO.ifnull dX4_put_1 ?_
  refine GO.iload_n dX4_put_4 rfl rfl ?_
  refine GO.if_lt (tgt := 18) dX4_put_5 (by decide) r_p1 (fun c1 => ?_) (fun c1 => ?_)
  ·
    exact GO.retv rfl rfl dX4_put_18 ⟨rfl, rfl, ⟨trivial, (by first | exact rpv_in (by assumption) (by omega) (by omega) | exact rpv_out (by omega))⟩⟩
  ·
    refine GO.iload_n dX4_put_8 rfl rfl ?_
    refine GO.aload_n dX4_put_9 rfl rfl ?_
    refine GO.alen h_p0 dX4_put_10 (fun h2 => ?_)
    refine GO.icmp_ge (tgt := 18) dX4_put_11 (by decide) r_p1 ⟨by omega, by omega⟩ (fun c3 => ?_) (fun c3 => ?_)
    ·
      exact GO.retv rfl rfl dX4_put_18 ⟨rfl, rfl, ⟨trivial, (by first | exact rpv_in (by assumption) (by omega) (by omega) | exact rpv_out (by omega))⟩⟩
    ·
      refine GO.aload_n dX4_put_14 rfl rfl ?_
      refine GO.iload_n dX4_put_15 rfl rfl ?_
      refine GO.iload_n dX4_put_16 rfl rfl ?_
      have q4 : -2147483648 ≤ p1 ∧ p1 ≤ 2147483647 := r_p1
      refine GO.iast (t := 139) rfl rfl (by decide +kernel) h_p0 r_p1 (by omega) (by omega) r_p2 (r_p2).1 (r_p2).2 dX4_put_17 (fun V6 e5 => ?_)
      exact GO.retv rfl rfl dX4_put_18 ⟨rfl, rfl, ⟨trivial, (by first | exact rpv_in (by assumption) (by omega) (by omega) | exact rpv_out (by omega))⟩⟩

set_option maxHeartbeats 1000000 in
theorem t_X11_measureLegs {K : Kmap} {V : Vmap} {x : Nat} (h_x : K x = some (0, 10)) : MC mX11_measureLegs K V [.ref x] (VS K (fun V1 => (True))) := by
  refine MC.start 4 (by decide +kernel) rfl rfl rfl (ls0 := [some (.ref x), none, none, none, none]) rfl ?_
  refine GO.iconst dX11_measureLegs_0 ?_
  refine GO.istore_n (ls1 := [some (.ref x), some (ti 0), none, none, none]) dX11_measureLegs_1 rfl rfl rfl ?_
  refine GO.loop1 (fun i1 W => 0 ≤ i1 ∧ i1 ≤ 8 ∧ True) (fun i1 => [some (.ref x), some (ti i1), none, none, none]) (fun i1 W => (2147483647 - i1).toNat) 0 ⟨by omega, by omega, trivial⟩ rfl (fun i1 Wi1 hp1883 ih1882 => ?_)
  obtain ⟨l_i1, u_i1, -⟩ := hp1883
  have r_i1 : ir i1 := ⟨by omega, by omega⟩
  show GO mX11_measureLegs K V (VS K (fun V1 => (True))) K Wi1 0 0 2 [some (.ref x), some (ti i1), none, none, none] []
  refine GO.iload_n dX11_measureLegs_2 rfl rfl ?_
  refine GO.aload_n dX11_measureLegs_3 rfl rfl ?_
  refine GO.getR h_x fl_RX11_26 rfl rfl dX11_measureLegs_4 (fun hv1885 h1884 => ?_)
  refine GO.getR h1884 fl_RX11_593 rfl rfl dX11_measureLegs_7 (fun hv1887 h1886 => ?_)
  refine GO.getI h1886 fl_RX11_199_k24 rfl rfl dX11_measureLegs_10 (fun l1888 u1889 => ?_)
  refine GO.icmp_ge (tgt := 124) dX11_measureLegs_13 (by decide) r_i1 vi_ir (fun c1890 => ?_) (fun c1890 => ?_)
  ·
    exact GO.retv rfl rfl dX11_measureLegs_124 ⟨rfl, rfl, trivial⟩
  ·
    refine GO.iconst dX11_measureLegs_16 ?_
    refine GO.istore_n (ls1 := [some (.ref x), some (ti i1), some (ti 0), none, none]) dX11_measureLegs_17 rfl rfl rfl ?_
    refine GO.loop1 (fun i1891 W => 0 ≤ i1891 ∧ i1891 ≤ 8 ∧ True) (fun i1891 => [some (.ref x), some (ti i1), some (ti i1891), none, none]) (fun i1891 W => (2147483647 - i1891).toNat) 0 ⟨by omega, by omega, trivial⟩ rfl (fun i1891 Wi1891 hp2198 ih2197 => ?_)
    obtain ⟨l_i1891, u_i1891, -⟩ := hp2198
    have r_i1891 : ir i1891 := ⟨by omega, by omega⟩
    show GO mX11_measureLegs K V (VS K (fun V1 => (True))) K Wi1891 0 0 18 [some (.ref x), some (ti i1), some (ti i1891), none, none] []
    refine GO.iload_n dX11_measureLegs_18 rfl rfl ?_
    refine GO.aload_n dX11_measureLegs_19 rfl rfl ?_
    refine GO.getR h_x fl_RX11_26 rfl rfl dX11_measureLegs_20 (fun hv2200 h2199 => ?_)
    refine GO.getR h2199 fl_RX11_593 rfl rfl dX11_measureLegs_23 (fun hv2202 h2201 => ?_)
    refine GO.getI h2201 fl_RX11_199_k24 rfl rfl dX11_measureLegs_26 (fun l2203 u2204 => ?_)
    refine GO.icmp_ge (tgt := 118) dX11_measureLegs_29 (by decide) r_i1891 vi_ir (fun c2205 => ?_) (fun c2205 => ?_)
    ·
      refine GO.iinc (X := i1) (n := 1) (Y := i1 + 1) (ls1 := [some (.ref x), some (ti (i1 + 1)), some (ti i1891), none, none]) dX11_measureLegs_118 rfl rfl rfl rfl ?_
      refine GO.goto (tgt := 2) dX11_measureLegs_121 (by decide) ?_
      refine GO.drop [true, true, false, true, true] rfl ?_
      exact ih1882 (i1 + 1) Wi1891 ⟨by omega, by omega, trivial⟩ (by show (2147483647 - (i1 + 1)).toNat < (2147483647 - i1).toNat; omega)
    ·
      refine GO.aload_n dX11_measureLegs_32 rfl rfl ?_
      refine GO.aload_n dX11_measureLegs_33 rfl rfl ?_
      refine GO.getRaw h_x fl_RX11_26 hv2200 dX11_measureLegs_34 ?_
      refine GO.getRaw h2199 fl_RX11_593 hv2202 dX11_measureLegs_37 ?_
      refine GO.iload_n dX11_measureLegs_40 rfl rfl ?_
      refine GO.iconst dX11_measureLegs_41 ?_
      refine GO.callV (ci := 24) (N := mX8_get_k24) dX11_measureLegs_42 (RX8, TX8, 4) rfl gV_RX11_209 h2201 (t_X8_get_k24 h2201 r_i1 (ir_c rfl)) rfl [.ref x] rfl rfl (Nat.le_of_ble_eq_true rfl) rfl (k_ip fun X2210 r2211 h2212 => ?_)
      have raw_get := h2212.2
      have rw42 := h2212.2
      refine GO.iconst dX11_measureLegs_45 ?_
      refine GO.callV (ci := 10) (N := mX11_placeOf) dX11_measureLegs_46 (RX11, TX11, 20) rfl gV_RX11_169 h_x (t_X11_placeOf h_x r2211 (ir_c rfl)) rfl [] rfl rfl (Nat.le_of_ble_eq_true rfl) rfl (k_rp (fun h2215 => ?_) (fun o2213 h2214 h2215 => ?_))
      ·
        have rwn46 := h2215.2
        have hn2216 : NN 6 5 Wi1891 x → ¬ PK Wi1891 x X2210 1 := h2215.2
        refine GO.astore_nN (ls1 := [some (.ref x), some (ti i1), some (ti i1891), some (.null), none]) dX11_measureLegs_49 rfl rfl rfl ?_
        refine GO.aload_n dX11_measureLegs_50 rfl rfl ?_
        refine GO.aload_n dX11_measureLegs_51 rfl rfl ?_
        refine GO.getRaw h_x fl_RX11_26 hv2200 dX11_measureLegs_52 ?_
        refine GO.getRaw h2199 fl_RX11_593 hv2202 dX11_measureLegs_55 ?_
        refine GO.iload_n dX11_measureLegs_58 rfl rfl ?_
        refine GO.iconst dX11_measureLegs_59 ?_
        refine GO.callV (ci := 24) (N := mX8_get_k24) dX11_measureLegs_60 (RX8, TX8, 4) rfl gV_RX11_209 h2201 (t_X8_get_k24 h2201 r_i1891 (ir_c rfl)) rfl [.ref x] rfl rfl (Nat.le_of_ble_eq_true rfl) rfl (k_ip fun X2221 r2222 h2223 => ?_)
        have raw_get := h2223.2
        have rw60 := h2223.2
        refine GO.iconst dX11_measureLegs_63 ?_
        refine GO.callV (ci := 10) (N := mX11_placeOf) dX11_measureLegs_64 (RX11, TX11, 20) rfl gV_RX11_169 h_x (t_X11_placeOf h_x r2222 (ir_c rfl)) rfl [] rfl rfl (Nat.le_of_ble_eq_true rfl) rfl (k_rp (fun h2226 => ?_) (fun o2224 h2225 h2226 => ?_))
        ·
          have rwn64 := h2226.2
          have hn2227 : NN 6 5 Wi1891 x → ¬ PK Wi1891 x X2221 1 := h2226.2
          refine GO.astoreN (ls1 := [some (.ref x), some (ti i1), some (ti i1891), some (.null), some (.null)]) dX11_measureLegs_67 rfl rfl ?_
          refine GO.aload_nN dX11_measureLegs_69 rfl rfl ?_
          refine GO.ifnullN (tgt := 112) dX11_measureLegs_70 (by decide) ?_
          refine GO.iinc (X := i1891) (n := 1) (Y := i1891 + 1) (ls1 := [some (.ref x), some (ti i1), some (ti (i1891 + 1)), some (.null), some (.null)]) dX11_measureLegs_112 rfl rfl rfl rfl ?_
          refine GO.goto (tgt := 18) dX11_measureLegs_115 (by decide) ?_
          refine GO.drop [true, true, true, false, false] rfl ?_
          exact ih2197 (i1891 + 1) Wi1891 ⟨by omega, by omega, trivial⟩ (by show (2147483647 - (i1891 + 1)).toNat < (2147483647 - i1891).toNat; omega)
        ·
          have hp2228 : X2221 ≥ 0 ∧ X2221 < vi Wi1891 x 6 := h2226.1
          have rwp64 := h2226.2
          have hq2229 : o2224 = plO Wi1891 x (X2221).toNat ∧ PK Wi1891 x X2221 1 := h2226.2
          refine GO.astore (ls1 := [some (.ref x), some (ti i1), some (ti i1891), some (.null), some (.ref o2224)]) dX11_measureLegs_67 rfl rfl ?_
          refine GO.aload_nN dX11_measureLegs_69 rfl rfl ?_
          refine GO.ifnullN (tgt := 112) dX11_measureLegs_70 (by decide) ?_
          refine GO.iinc (X := i1891) (n := 1) (Y := i1891 + 1) (ls1 := [some (.ref x), some (ti i1), some (ti (i1891 + 1)), some (.null), some (.ref o2224)]) dX11_measureLegs_112 rfl rfl rfl rfl ?_
          refine GO.goto (tgt := 18) dX11_measureLegs_115 (by decide) ?_
          refine GO.drop [true, true, true, false, false] rfl ?_
          exact ih2197 (i1891 + 1) Wi1891 ⟨by omega, by omega, trivial⟩ (by show (2147483647 - (i1891 + 1)).toNat < (2147483647 - i1891).toNat; omega)
      ·
        have hp2230 : X2210 ≥ 0 ∧ X2210 < vi Wi1891 x 6 := h2215.1
        have rwp46 := h2215.2
        have hq2231 : o2213 = plO Wi1891 x (X2210).toNat ∧ PK Wi1891 x X2210 1 := h2215.2
        refine GO.astore_n (ls1 := [some (.ref x), some (ti i1), some (ti i1891), some (.ref o2213), none]) dX11_measureLegs_49 rfl rfl rfl ?_
        refine GO.aload_n dX11_measureLegs_50 rfl rfl ?_
        refine GO.aload_n dX11_measureLegs_51 rfl rfl ?_
        refine GO.getRaw h_x fl_RX11_26 hv2200 dX11_measureLegs_52 ?_
        refine GO.getRaw h2199 fl_RX11_593 hv2202 dX11_measureLegs_55 ?_
        refine GO.iload_n dX11_measureLegs_58 rfl rfl ?_
        refine GO.iconst dX11_measureLegs_59 ?_
        refine GO.callV (ci := 24) (N := mX8_get_k24) dX11_measureLegs_60 (RX8, TX8, 4) rfl gV_RX11_209 h2201 (t_X8_get_k24 h2201 r_i1891 (ir_c rfl)) rfl [.ref x] rfl rfl (Nat.le_of_ble_eq_true rfl) rfl (k_ip fun X2236 r2237 h2238 => ?_)
        have raw_get := h2238.2
        have rw60 := h2238.2
        refine GO.iconst dX11_measureLegs_63 ?_
        refine GO.callV (ci := 10) (N := mX11_placeOf) dX11_measureLegs_64 (RX11, TX11, 20) rfl gV_RX11_169 h_x (t_X11_placeOf h_x r2237 (ir_c rfl)) rfl [] rfl rfl (Nat.le_of_ble_eq_true rfl) rfl (k_rp (fun h2241 => ?_) (fun o2239 h2240 h2241 => ?_))
        ·
          have rwn64 := h2241.2
          have hn2242 : NN 6 5 Wi1891 x → ¬ PK Wi1891 x X2236 1 := h2241.2
          refine GO.astoreN (ls1 := [some (.ref x), some (ti i1), some (ti i1891), some (.ref o2213), some (.null)]) dX11_measureLegs_67 rfl rfl ?_
          refine GO.aload_n dX11_measureLegs_69 rfl rfl ?_
          refine GO.ifnull dX11_measureLegs_70 ?_
          refine GO.aloadN dX11_measureLegs_73 rfl ?_
          refine GO.ifnullN (tgt := 112) dX11_measureLegs_75 (by decide) ?_
          refine GO.iinc (X := i1891) (n := 1) (Y := i1891 + 1) (ls1 := [some (.ref x), some (ti i1), some (ti (i1891 + 1)), some (.ref o2213), some (.null)]) dX11_measureLegs_112 rfl rfl rfl rfl ?_
          refine GO.goto (tgt := 18) dX11_measureLegs_115 (by decide) ?_
          refine GO.drop [true, true, true, false, false] rfl ?_
          exact ih2197 (i1891 + 1) Wi1891 ⟨by omega, by omega, trivial⟩ (by show (2147483647 - (i1891 + 1)).toNat < (2147483647 - i1891).toNat; omega)
        ·
          have hp2243 : X2236 ≥ 0 ∧ X2236 < vi Wi1891 x 6 := h2241.1
          have rwp64 := h2241.2
          have hq2244 : o2239 = plO Wi1891 x (X2236).toNat ∧ PK Wi1891 x X2236 1 := h2241.2
          refine GO.astore (ls1 := [some (.ref x), some (ti i1), some (ti i1891), some (.ref o2213), some (.ref o2239)]) dX11_measureLegs_67 rfl rfl ?_
          refine GO.aload_n dX11_measureLegs_69 rfl rfl ?_
          refine GO.ifnull dX11_measureLegs_70 ?_
          refine GO.aload dX11_measureLegs_73 rfl ?_
          refine GO.ifnull dX11_measureLegs_75 ?_
          refine GO.aload_n dX11_measureLegs_78 rfl rfl ?_
          refine GO.getRaw h_x fl_RX11_26 hv2200 dX11_measureLegs_79 ?_
          refine GO.getA (n := 64) h2199 fl_RX11_623 rfl rfl rfl rfl dX11_measureLegs_82 (fun hv2248 h2247 => ?_)
          refine GO.iload_n dX11_measureLegs_85 rfl rfl ?_
          refine GO.bipush dX11_measureLegs_86 rfl ?_
          refine GO.imul dX11_measureLegs_88 ?_
          refine GO.iload_n dX11_measureLegs_89 rfl rfl ?_
          refine GO.iadd dX11_measureLegs_90 ?_
          refine GO.iconst dX11_measureLegs_91 ?_
          refine GO.aload_n dX11_measureLegs_92 rfl rfl ?_
          refine GO.getR h_x fl_RX11_12 rfl rfl dX11_measureLegs_93 (fun hv2250 h2249 => ?_)
          refine GO.aload_n dX11_measureLegs_96 rfl rfl ?_
          refine GO.getI h2214 fl_RX11_344 rfl rfl dX11_measureLegs_97 (fun _ _ => ?_)
          refine GO.aload dX11_measureLegs_100 rfl ?_
          refine GO.getI h2240 fl_RX11_344 rfl rfl dX11_measureLegs_102 (fun _ _ => ?_)
          refine GO.callV (ci := 0) (N := mX0_far) dX11_measureLegs_105 (RX0, TX0, 13) rfl gV_RX11_388 h2249 (t_X0_far h2249 vi_ir vi_ir) rfl [ti 2, ti ((i1 * 8) + i1891), .ref (vq Wi1891 (vq Wi1891 x 2) 3)] rfl rfl (Nat.le_of_ble_eq_true rfl) rfl (k_ip fun X2251 r2252 h2253 => ?_)
          refine GO.imul dX11_measureLegs_108 ?_
          refine GO.norm (fun z2254 r2255 hn2256 => ?_)
          refine GO.callS (N := mX4_put_t139) dX11_measureLegs_109 gS_RX11_108 (t_X4_put_t139 h2247 ⟨by omega, by omega⟩ r2255) rfl [] rfl rfl (Nat.le_of_ble_eq_true rfl) rfl (k_vs fun V2259 h2258 hF2257 => ?_)
          have raw_put := h2258.2
          have rw109 := h2258.2
          refine GO.iinc (X := i1891) (n := 1) (Y := i1891 + 1) (ls1 := [some (.ref x), some (ti i1), some (ti (i1891 + 1)), some (.ref o2213), some (.ref o2239)]) dX11_measureLegs_112 rfl rfl rfl rfl ?_
          refine GO.goto (tgt := 18) dX11_measureLegs_115 (by decide) ?_
          refine GO.drop [true, true, true, false, false] rfl ?_
          exact ih2197 (i1891 + 1) V2259 ⟨by omega, by omega, trivial⟩ (by show (2147483647 - (i1891 + 1)).toNat < (2147483647 - i1891).toNat; omega)

set_option maxHeartbeats 1000000 in
theorem t_X11_plan {K : Kmap} {V : Vmap} {x : Nat} {p0 : Int} {p1 : Int} {p2 : Int} (h_x : K x = some (0, 10)) (r_p0 : ir p0) (r_p1 : ir p1) (r_p2 : ir p2) : MC mX11_plan K V [.ref x, ti p0, ti p1, ti p2] (IS K (fun X V1 => True)) := by
  refine MC.start 2 (by decide +kernel) rfl rfl rfl (ls0 := [some (.ref x), some (ti p0), some (ti p1), some (ti p2), none, none]) rfl ?_
  refine GO.aload_n dX11_plan_0 rfl rfl ?_
  refine GO.iload_n dX11_plan_1 rfl rfl ?_
  refine GO.callV (ci := 10) (N := mX11_shipOf) dX11_plan_2 (RX11, TX11, 20) rfl gV_RX11_403 h_x (t_X11_shipOf h_x r_p0) rfl [] rfl rfl (Nat.le_of_ble_eq_true rfl) rfl (k_rp (fun h3 => ?_) (fun o1 h2 h3 => ?_))
  ·
    have rwn2 := h3.2
    have hn4 : SN V x → p0 < 0 ∨ vi V x 10 ≤ p0 := h3.2
    refine GO.astoreN (ls1 := [some (.ref x), some (ti p0), some (ti p1), some (ti p2), some (.null), none]) dX11_plan_5 rfl rfl ?_
    refine GO.aloadN dX11_plan_7 rfl ?_
    refine GO.ifnullN (tgt := 30) dX11_plan_9 (by decide) ?_
    refine GO.iconst dX11_plan_30 ?_
    exact GO.reti rfl rfl dX11_plan_31 ⟨rfl, _, rfl, (ir_c rfl), trivial⟩
  ·
    have hp5 : p0 ≥ 0 ∧ p0 < vi V x 10 := h3.1
    have rwp2 := h3.2
    have hq6 : o1 = vq V (vq V x 9) (p0).toNat := h3.2
    refine GO.astore (ls1 := [some (.ref x), some (ti p0), some (ti p1), some (ti p2), some (.ref o1), none]) dX11_plan_5 rfl rfl ?_
    refine GO.aload dX11_plan_7 rfl ?_
    refine GO.ifnull dX11_plan_9 ?_
    refine GO.iload_n dX11_plan_12 rfl rfl ?_
    refine GO.callS (N := mX11_isSea) dX11_plan_13 gS_RX11_394 (t_X11_isSea r_p1) rfl [] rfl rfl (Nat.le_of_ble_eq_true rfl) rfl (k_ip fun X7 r8 h9 => ?_)
    refine GO.if_eq (tgt := 30) dX11_plan_16 (by decide) r8 (fun c10 => ?_) (fun c10 => ?_)
    ·
      have q11 := h9.2.2 (by omega)
      refine GO.iconst dX11_plan_30 ?_
      exact GO.reti rfl rfl dX11_plan_31 ⟨rfl, _, rfl, (ir_c rfl), trivial⟩
    ·
      have q12 := h9.2.1 (by omega)
      refine GO.iload_n dX11_plan_19 rfl rfl ?_
      refine GO.iconst dX11_plan_20 ?_
      refine GO.sipush dX11_plan_21 rfl ?_
      refine GO.callS (N := mX11_between) dX11_plan_24 gS_RX11_112 (t_X11_between r_p2 (ir_c rfl) (ir_c rfl)) rfl [] rfl rfl (Nat.le_of_ble_eq_true rfl) rfl (k_ip fun X13 r14 h15 => ?_)
      refine GO.if_ne (tgt := 32) dX11_plan_27 (by decide) r14 (fun c16 => ?_) (fun c16 => ?_)
      ·
        have q17 := h15.2.1 (by omega)
        refine GO.aload_n dX11_plan_32 rfl rfl ?_
        refine GO.getR h_x fl_RX11_26 rfl rfl dX11_plan_33 (fun hv19 h18 => ?_)
        refine GO.getR h18 fl_RX11_593 rfl rfl dX11_plan_36 (fun hv21 h20 => ?_)
        refine GO.getI h20 fl_RX11_199_k24 rfl rfl dX11_plan_39 (fun l22 u23 => ?_)
        refine GO.if_eq (tgt := 60) dX11_plan_42 (by decide) vi_ir (fun c24 => ?_) (fun c24 => ?_)
        ·
          refine GO.iconst dX11_plan_60 ?_
          exact GO.reti rfl rfl dX11_plan_61 ⟨rfl, _, rfl, (ir_c rfl), trivial⟩
        ·
          refine GO.aload_n dX11_plan_45 rfl rfl ?_
          refine GO.getRaw h_x fl_RX11_26 hv19 dX11_plan_46 ?_
          refine GO.callV (ci := 5) (N := mX6_needs) dX11_plan_49 (RX6, TX6, 10) rfl gV_RX11_602 h18 (t_X6_needs h18) rfl [] rfl rfl (Nat.le_of_ble_eq_true rfl) rfl (k_ip fun X27 r28 h29 => ?_)
          refine GO.aload dX11_plan_52 rfl ?_
          refine GO.getI h2 fl_RX11_407 rfl rfl dX11_plan_54 (fun _ _ => ?_)
          refine GO.icmp_le (tgt := 62) dX11_plan_57 (by decide) r28 vi_ir (fun c30 => ?_) (fun c30 => ?_)
          ·
            refine GO.iload_n dX11_plan_62 rfl rfl ?_
            refine GO.aload_n dX11_plan_63 rfl rfl ?_
            refine GO.getR h_x fl_RX11_12 rfl rfl dX11_plan_64 (fun hv32 h31 => ?_)
            refine GO.getA (n := 4) h31 fl_RX11_400 rfl rfl rfl rfl dX11_plan_67 (fun hv34 h33 => ?_)
            refine GO.iload_n dX11_plan_70 rfl rfl ?_
            refine GO.callS (N := mX4_get) dX11_plan_71 gS_RX11_253 (t_X4_get rfl h33 r_p1) rfl [ti p2] rfl rfl (Nat.le_of_ble_eq_true rfl) rfl (k_ip fun X35 r36 h37 => ?_)
            have raw_get := h37.2
            have rw71 := h37.2
            refine GO.iadd dX11_plan_74 ?_
            refine GO.norm (fun z38 r39 hn40 => ?_)
            refine GO.istore (ls1 := [some (.ref x), some (ti p0), some (ti p1), some (ti p2), some (.ref o1), some (ti z38)]) dX11_plan_75 rfl rfl ?_
            refine GO.aload_n dX11_plan_77 rfl rfl ?_
            refine GO.getRaw h_x fl_RX11_26 hv19 dX11_plan_78 ?_
            refine GO.getI h18 fl_RX11_605 rfl rfl dX11_plan_81 (fun _ _ => ?_)
            refine GO.iload dX11_plan_84 rfl ?_
            refine GO.icmp_eq (tgt := 102) dX11_plan_86 (by decide) vi_ir r39 (fun c43 => ?_) (fun c43 => ?_)
            ·
              refine GO.aload_n dX11_plan_102 rfl rfl ?_
              refine GO.getRaw h_x fl_RX11_26 hv19 dX11_plan_103 ?_
              refine GO.getI h18 fl_RX11_614 rfl rfl dX11_plan_106 (fun _ _ => ?_)
              have q46 : -2147483648 ≤ vi V (vq V x 2) 9 ∧ vi V (vq V x 2) 9 ≤ 2147483647 := vi_ir
              exact GO.reti rfl rfl dX11_plan_109 ⟨rfl, _, rfl, vi_ir, trivial⟩
            ·
              refine GO.aload_n dX11_plan_89 rfl rfl ?_
              refine GO.callV (ci := 10) (N := mX11_measureLegs) dX11_plan_90 (RX11, TX11, 20) rfl gV_RX11_608 h_x (t_X11_measureLegs h_x) rfl [] rfl rfl (Nat.le_of_ble_eq_true rfl) rfl (k_vs fun V49 h48 hF47 => ?_)
              refine GO.aload_n dX11_plan_93 rfl rfl ?_
              refine GO.getRaw h_x fl_RX11_26 (Eq.trans (hF47 _ _ _ h_x h_x (by decide +kernel)) hv19) dX11_plan_94 ?_
              refine GO.iload dX11_plan_97 rfl ?_
              refine GO.callV (ci := 5) (N := mX6_seek) dX11_plan_99 (RX6, TX6, 10) rfl gV_RX11_611 h18 (t_X6_seek h18 r39) rfl [] rfl rfl (Nat.le_of_ble_eq_true rfl) rfl (k_vs fun V54 h53 hF52 => ?_)
              refine GO.aload_n dX11_plan_102 rfl rfl ?_
              refine GO.getRaw h_x fl_RX11_26 (Eq.trans (hF52 _ _ _ h_x h_x (by decide +kernel)) (Eq.trans (hF47 _ _ _ h_x h_x (by decide +kernel)) hv19)) dX11_plan_103 ?_
              refine GO.getI h18 fl_RX11_614 rfl rfl dX11_plan_106 (fun _ _ => ?_)
              have q57 : -2147483648 ≤ vi V54 (vq V x 2) 9 ∧ vi V54 (vq V x 2) 9 ≤ 2147483647 := vi_ir
              exact GO.reti rfl rfl dX11_plan_109 ⟨rfl, _, rfl, vi_ir, trivial⟩
          ·
            refine GO.iconst dX11_plan_60 ?_
            exact GO.reti rfl rfl dX11_plan_61 ⟨rfl, _, rfl, (ir_c rfl), trivial⟩
      ·
        have q58 := h15.2.2 (by omega)
        refine GO.iconst dX11_plan_30 ?_
        exact GO.reti rfl rfl dX11_plan_31 ⟨rfl, _, rfl, (ir_c rfl), trivial⟩

set_option maxHeartbeats 1000000 in
theorem t_X11_planned {K : Kmap} {V : Vmap} {x : Nat} {p0 : Int} {p1 : Int} {p2 : Int} {p3 : Int} (h_x : K x = some (0, 10)) (r_p0 : ir p0) (r_p1 : ir p1) (r_p2 : ir p2) (r_p3 : ir p3) : MC mX11_planned K V [.ref x, ti p0, ti p1, ti p2, ti p3] (IS K (fun X V1 => True)) := by
  refine MC.start 0 (by decide +kernel) rfl rfl rfl (ls0 := [some (.ref x), some (ti p0), some (ti p1), some (ti p2), some (ti p3)]) rfl ?_
  refine GO.aload_n dX11_planned_0 rfl rfl ?_
  refine GO.iload_n dX11_planned_1 rfl rfl ?_
  refine GO.iload_n dX11_planned_2 rfl rfl ?_
  refine GO.iload_n dX11_planned_3 rfl rfl ?_
  refine GO.callV (ci := 10) (N := mX11_plan) dX11_planned_4 (RX11, TX11, 20) rfl gV_RX11_617 h_x (t_X11_plan h_x r_p0 r_p1 r_p2) rfl [] rfl rfl (Nat.le_of_ble_eq_true rfl) rfl (k_is fun X1 V5 r2 h3 hF4 => ?_)
  refine GO.iconst dX11_planned_7 ?_
  refine GO.icmp_eq (tgt := 26) dX11_planned_8 (by decide) r2 (ir_c rfl) (fun c6 => ?_) (fun c6 => ?_)
  ·
    refine GO.iconst dX11_planned_26 ?_
    exact GO.reti rfl rfl dX11_planned_27 ⟨rfl, _, rfl, (ir_c rfl), trivial⟩
  ·
    refine GO.aload_n dX11_planned_11 rfl rfl ?_
    refine GO.getR h_x fl_RX11_26 rfl rfl dX11_planned_12 (fun hv8 h7 => ?_)
    refine GO.getR h7 fl_RX11_593 rfl rfl dX11_planned_15 (fun hv10 h9 => ?_)
    refine GO.iload dX11_planned_18 rfl ?_
    refine GO.callV (ci := 24) (N := mX8_has_k24) dX11_planned_20 (RX8, TX8, 4) rfl gV_RX11_431 h9 (t_X8_has_k24 h9 r_p3) rfl [] rfl rfl (Nat.le_of_ble_eq_true rfl) rfl (k_ip fun X11 r12 h13 => ?_)
    refine GO.if_ne (tgt := 28) dX11_planned_23 (by decide) r12 (fun c15 => ?_) (fun c15 => ?_)
    ·
      have q16 := h13.2.1 (by omega)
      refine GO.aload_n dX11_planned_28 rfl rfl ?_
      refine GO.getRaw h_x fl_RX11_26 hv8 dX11_planned_29 ?_
      refine GO.getA (n := 8) h7 fl_RX11_620 rfl rfl rfl rfl dX11_planned_32 (fun hv20 h19 => ?_)
      refine GO.iload dX11_planned_35 rfl ?_
      refine GO.callS (N := mX4_get) dX11_planned_37 gS_RX11_253 (t_X4_get rfl h19 r_p3) rfl [] rfl rfl (Nat.le_of_ble_eq_true rfl) rfl (k_ip fun X21 r22 h23 => ?_)
      have raw_get := h23.2
      have rw37 := h23.2
      exact GO.reti rfl rfl dX11_planned_40 ⟨rfl, _, rfl, r22, trivial⟩
    ·
      have q24 := h13.2.2 (by omega)
      refine GO.iconst dX11_planned_26 ?_
      exact GO.reti rfl rfl dX11_planned_27 ⟨rfl, _, rfl, (ir_c rfl), trivial⟩

set_option maxHeartbeats 1000000 in
theorem t_X8_isFull_k30 {K : Kmap} {V : Vmap} {x : Nat} (h_x : K x = some (0, 30)) : MC mX8_isFull_k30 K V [.ref x] (IP K V (fun X => (X = 0 ∨ X = 1) ∧ (X ≠ 0 → vi V x 3 ≥ 200) ∧ (X = 0 → vi V x 3 ≤ 199))) := by
  refine MC.start 0 (by decide +kernel) rfl rfl rfl (ls0 := [some (.ref x)]) rfl ?_
  refine GO.aload_n dX8_isFull_0 rfl rfl ?_
  refine GO.getI h_x fl_RX8_9_k30 rfl rfl dX8_isFull_1 (fun l1 u2 => ?_)
  refine GO.aload_n dX8_isFull_4 rfl rfl ?_
  refine GO.getI h_x fl_RX8_18_k30 rfl rfl dX8_isFull_5 (fun l3 u4 => ?_)
  refine GO.icmp_lt (tgt := 15) dX8_isFull_8 (by decide) vi_ir vi_ir (fun c5 => ?_) (fun c5 => ?_)
  ·
    refine GO.iconst dX8_isFull_15 ?_
    exact GO.retz rfl rfl dX8_isFull_16 (Or.inl rfl) ⟨rfl, rfl, _, rfl, (ir_c rfl), ⟨Or.inl rfl, fun h => absurd rfl h, fun h => by omega⟩⟩
  ·
    refine GO.iconst dX8_isFull_11 ?_
    refine GO.goto (tgt := 16) dX8_isFull_12 (by decide) ?_
    exact GO.retz rfl rfl dX8_isFull_16 (Or.inr rfl) ⟨rfl, rfl, _, rfl, (ir_c rfl), ⟨Or.inr rfl, fun h => by omega, fun h => absurd h (by decide)⟩⟩

set_option maxHeartbeats 1000000 in
theorem t_X8_put_k30 {K : Kmap} {V : Vmap} {x : Nat} {p0 : Int} {p1 : Int} {p2 : Int} (h_x : K x = some (0, 30)) (r_p0 : ir p0) (r_p1 : ir p1) (r_p2 : ir p2) : MC mX8_put_k30 K V [.ref x, ti p0, ti p1, ti p2] (VS K (fun V1 => (True))) := by
  refine MC.start 2 (by decide +kernel) rfl rfl rfl (ls0 := [some (.ref x), some (ti p0), some (ti p1), some (ti p2), none, none]) rfl ?_
  refine GO.iload_n dX8_put_0 rfl rfl ?_
  refine GO.aload_n dX8_put_1 rfl rfl ?_
  refine GO.getI h_x fl_RX8_15_k30 rfl rfl dX8_put_2 (fun l1 u2 => ?_)
  refine GO.imul dX8_put_5 ?_
  refine GO.norm (fun z3 r4 hn5 => ?_)
  refine GO.iload_n dX8_put_6 rfl rfl ?_
  refine GO.iadd dX8_put_7 ?_
  refine GO.norm (fun z6 r7 hn8 => ?_)
  refine GO.istore (ls1 := [some (.ref x), some (ti p0), some (ti p1), some (ti p2), some (ti z6), none]) dX8_put_8 rfl rfl ?_
  refine GO.iload_n dX8_put_10 rfl rfl ?_
  have hj18 : ∀ (z17 : Int), ∀ (l19 : 0 ≤ z17), ∀ (u20 : z17 ≤ 1), GO mX8_put_k30 K V (VS K (fun V1 => (True))) K V 0 0 39 [some (.ref x), some (ti p0), some (ti p1), some (ti p2), some (ti z6), none] [ti z17] := by
    intro z17 l19 u20
    have r21 : ir z17 := ⟨by omega, by omega⟩
    refine GO.istore (ls1 := [some (.ref x), some (ti p0), some (ti p1), some (ti p2), some (ti z6), some (ti z17)]) dX8_put_39 rfl rfl ?_
    refine GO.iload dX8_put_41 rfl ?_
    refine GO.if_eq (tgt := 69) dX8_put_43 (by decide) r21 (fun c22 => ?_) (fun c22 => ?_)
    ·
      exact GO.retv rfl rfl dX8_put_69 ⟨rfl, rfl, trivial⟩
    ·
      refine GO.iload dX8_put_46 rfl ?_
      refine GO.if_lt (tgt := 69) dX8_put_48 (by decide) r7 (fun c23 => ?_) (fun c23 => ?_)
      ·
        exact GO.retv rfl rfl dX8_put_69 ⟨rfl, rfl, trivial⟩
      ·
        refine GO.iload dX8_put_51 rfl ?_
        refine GO.aload_n dX8_put_53 rfl rfl ?_
        refine GO.getA (n := 1000) h_x fl_RX8_27_k30 rfl rfl rfl rfl dX8_put_54 (fun hv25 h24 => ?_)
        refine GO.alen h24 dX8_put_57 (fun h26 => ?_)
        refine GO.icmp_ge (tgt := 69) dX8_put_58 (by decide) r7 ⟨by omega, by omega⟩ (fun c27 => ?_) (fun c27 => ?_)
        ·
          exact GO.retv rfl rfl dX8_put_69 ⟨rfl, rfl, trivial⟩
        ·
          refine GO.aload_n dX8_put_61 rfl rfl ?_
          refine GO.getRaw h_x fl_RX8_27_k30 hv25 dX8_put_62 ?_
          refine GO.iload dX8_put_65 rfl ?_
          refine GO.iload_n dX8_put_67 rfl rfl ?_
          have q30 : -2147483648 ≤ z6 ∧ z6 ≤ 2147483647 := r7
          refine GO.iast (t := 152) rfl rfl (by decide +kernel) h24 r7 (by omega) (by omega) r_p2 (r_p2).1 (r_p2).2 dX8_put_68 (fun V32 e31 => ?_)
          exact GO.retv rfl rfl dX8_put_69 ⟨rfl, rfl, trivial⟩
  have hj41 : GO mX8_put_k30 K V (VS K (fun V1 => (True))) K V 0 0 38 [some (.ref x), some (ti p0), some (ti p1), some (ti p2), some (ti z6), none] [] := by
    skip
    refine GO.iconst dX8_put_38 ?_
    exact hj18 0 (by omega) (by omega)
  refine GO.if_lt (tgt := 38) dX8_put_11 (by decide) r_p0 (fun c42 => ?_) (fun c42 => ?_)
  ·
    exact hj41 
  ·
    refine GO.iload_n dX8_put_14 rfl rfl ?_
    refine GO.aload_n dX8_put_15 rfl rfl ?_
    refine GO.getI h_x fl_RX8_9_k30 rfl rfl dX8_put_16 (fun l43 u44 => ?_)
    refine GO.icmp_ge (tgt := 38) dX8_put_19 (by decide) r_p0 vi_ir (fun c45 => ?_) (fun c45 => ?_)
    ·
      exact hj41 
    ·
      refine GO.iload_n dX8_put_22 rfl rfl ?_
      refine GO.if_lt (tgt := 38) dX8_put_23 (by decide) r_p1 (fun c46 => ?_) (fun c46 => ?_)
      ·
        exact hj41 
      ·
        refine GO.iload_n dX8_put_26 rfl rfl ?_
        refine GO.aload_n dX8_put_27 rfl rfl ?_
        refine GO.getI h_x fl_RX8_15_k30 rfl rfl dX8_put_28 (fun l47 u48 => ?_)
        refine GO.icmp_ge (tgt := 38) dX8_put_31 (by decide) r_p1 vi_ir (fun c49 => ?_) (fun c49 => ?_)
        ·
          exact hj41 
        ·
          refine GO.iconst dX8_put_34 ?_
          refine GO.goto (tgt := 39) dX8_put_35 (by decide) ?_
          exact hj18 1 (by omega) (by omega)

set_option maxHeartbeats 1000000 in
theorem t_X8_append_k30 {K : Kmap} {V : Vmap} {x : Nat} {p0 : Int} {p1 : Int} {p2 : Int} {p3 : Int} {p4 : Int} (h_x : K x = some (0, 30)) (r_p0 : ir p0) (r_p1 : ir p1) (r_p2 : ir p2) (r_p3 : ir p3) (r_p4 : ir p4) : MC mX8_append_k30 K V [.ref x, ti p0, ti p1, ti p2, ti p3, ti p4] (IS K (fun X V1 => True)) := by
  refine MC.start 1 (by decide +kernel) rfl rfl rfl (ls0 := [some (.ref x), some (ti p0), some (ti p1), some (ti p2), some (ti p3), some (ti p4), none]) rfl ?_
  refine GO.aload_n dX8_append_0 rfl rfl ?_
  refine GO.callV (ci := 30) (N := mX8_isFull_k30) dX8_append_1 (RX8, TX8, 4) rfl gV_RX8_31 h_x (t_X8_isFull_k30 h_x) rfl [] rfl rfl (Nat.le_of_ble_eq_true rfl) rfl (k_ip fun X1 r2 h3 => ?_)
  refine GO.if_eq (tgt := 9) dX8_append_4 (by decide) r2 (fun c4 => ?_) (fun c4 => ?_)
  ·
    have q5 := h3.2.2 (by omega)
    refine GO.aload_n dX8_append_9 rfl rfl ?_
    refine GO.getI h_x fl_RX8_9_k30 rfl rfl dX8_append_10 (fun l6 u7 => ?_)
    refine GO.name (fun z8 hz9 => ?_)
    have r10 : ir z8 := hz9 ▸ vi_ir
    refine GO.istore (ls1 := [some (.ref x), some (ti p0), some (ti p1), some (ti p2), some (ti p3), some (ti p4), some (ti z8)]) dX8_append_13 rfl rfl ?_
    refine GO.aload_n dX8_append_15 rfl rfl ?_
    refine GO.dup dX8_append_16 rfl ?_
    refine GO.getI h_x fl_RX8_9_k30 rfl rfl dX8_append_17 (fun l11 u12 => ?_)
    refine GO.iconst dX8_append_20 ?_
    refine GO.iadd dX8_append_21 ?_
    have q14 : -2147483648 ≤ vi V x 3 ∧ vi V x 3 ≤ 2147483647 := vi_ir
    have q15 : -2147483648 ≤ z8 ∧ z8 ≤ 2147483647 := r10
    refine GO.putI h_x fp_RX8_9_k30 rfl (by decide +kernel) ⟨by omega, by omega⟩ (by omega) (by omega) dX8_append_22 (fun V16 e13 => ?_)
    refine GO.aload_n dX8_append_25 rfl rfl ?_
    refine GO.iload dX8_append_26 rfl ?_
    refine GO.iconst dX8_append_28 ?_
    refine GO.iload_n dX8_append_29 rfl rfl ?_
    refine GO.callV (ci := 30) (N := mX8_put_k30) dX8_append_30 (RX8, TX8, 4) rfl gV_RX8_35 h_x (t_X8_put_k30 h_x r10 (ir_c rfl) r_p0) rfl [] rfl rfl (Nat.le_of_ble_eq_true rfl) rfl (k_vs fun V19 h18 hF17 => ?_)
    refine GO.aload_n dX8_append_33 rfl rfl ?_
    refine GO.iload dX8_append_34 rfl ?_
    refine GO.iconst dX8_append_36 ?_
    refine GO.iload_n dX8_append_37 rfl rfl ?_
    refine GO.callV (ci := 30) (N := mX8_put_k30) dX8_append_38 (RX8, TX8, 4) rfl gV_RX8_35 h_x (t_X8_put_k30 h_x r10 (ir_c rfl) r_p1) rfl [] rfl rfl (Nat.le_of_ble_eq_true rfl) rfl (k_vs fun V22 h21 hF20 => ?_)
    refine GO.aload_n dX8_append_41 rfl rfl ?_
    refine GO.iload dX8_append_42 rfl ?_
    refine GO.iconst dX8_append_44 ?_
    refine GO.iload_n dX8_append_45 rfl rfl ?_
    refine GO.callV (ci := 30) (N := mX8_put_k30) dX8_append_46 (RX8, TX8, 4) rfl gV_RX8_35 h_x (t_X8_put_k30 h_x r10 (ir_c rfl) r_p2) rfl [] rfl rfl (Nat.le_of_ble_eq_true rfl) rfl (k_vs fun V25 h24 hF23 => ?_)
    refine GO.aload_n dX8_append_49 rfl rfl ?_
    refine GO.iload dX8_append_50 rfl ?_
    refine GO.iconst dX8_append_52 ?_
    refine GO.iload dX8_append_53 rfl ?_
    refine GO.callV (ci := 30) (N := mX8_put_k30) dX8_append_55 (RX8, TX8, 4) rfl gV_RX8_35 h_x (t_X8_put_k30 h_x r10 (ir_c rfl) r_p3) rfl [] rfl rfl (Nat.le_of_ble_eq_true rfl) rfl (k_vs fun V28 h27 hF26 => ?_)
    refine GO.aload_n dX8_append_58 rfl rfl ?_
    refine GO.iload dX8_append_59 rfl ?_
    refine GO.iconst dX8_append_61 ?_
    refine GO.iload dX8_append_62 rfl ?_
    refine GO.callV (ci := 30) (N := mX8_put_k30) dX8_append_64 (RX8, TX8, 4) rfl gV_RX8_35 h_x (t_X8_put_k30 h_x r10 (ir_c rfl) r_p4) rfl [] rfl rfl (Nat.le_of_ble_eq_true rfl) rfl (k_vs fun V31 h30 hF29 => ?_)
    refine GO.iload dX8_append_67 rfl ?_
    exact GO.reti rfl rfl dX8_append_69 ⟨rfl, _, rfl, r10, trivial⟩
  ·
    have q32 := h3.2.1 (by omega)
    refine GO.iconst dX8_append_7 ?_
    exact GO.reti rfl rfl dX8_append_8 ⟨rfl, _, rfl, (ir_c rfl), trivial⟩

set_option maxHeartbeats 1000000 in
theorem t_X11_report {K : Kmap} {V : Vmap} {x : Nat} {p0 : Int} {p1 : Int} {p2 : Int} {p3 : Int} (h_x : K x = some (0, 10)) (r_p0 : ir p0) (r_p1 : ir p1) (r_p2 : ir p2) (r_p3 : ir p3) (z_p3 : p3 = 0 ∨ p3 = 1) : MC mX11_report K V [.ref x, ti p0, ti p1, ti p2, ti p3] (IS K (fun X V1 => (X = 0 ∨ X = 1) ∧ (X ≠ 0 → True) ∧ (X = 0 → True))) := by
  refine MC.start 0 (by decide +kernel) rfl rfl rfl (ls0 := [some (.ref x), some (ti p0), some (ti p1), some (ti p2), some (ti p3)]) rfl ?_
  refine GO.aload_n dX11_report_0 rfl rfl ?_
  refine GO.iload_n dX11_report_1 rfl rfl ?_
  refine GO.iconst dX11_report_2 ?_
  refine GO.callV (ci := 10) (N := mX11_placeOf) dX11_report_3 (RX11, TX11, 20) rfl gV_RX11_169 h_x (t_X11_placeOf h_x r_p0 (ir_c rfl)) rfl [] rfl rfl (Nat.le_of_ble_eq_true rfl) rfl (k_rp (fun h3 => ?_) (fun o1 h2 h3 => ?_))
  ·
    have rwn3 := h3.2
    have hn4 : NN 6 5 V x → ¬ PK V x p0 1 := h3.2
    refine GO.ifnullN (tgt := 24) dX11_report_6 (by decide) ?_
    refine GO.iconst dX11_report_24 ?_
    exact GO.retz rfl rfl dX11_report_25 (Or.inl rfl) ⟨rfl, _, rfl, (ir_c rfl), ⟨Or.inl rfl, fun _ => trivial, fun _ => trivial⟩⟩
  ·
    have hp5 : p0 ≥ 0 ∧ p0 < vi V x 6 := h3.1
    have rwp3 := h3.2
    have hq6 : o1 = plO V x (p0).toNat ∧ PK V x p0 1 := h3.2
    refine GO.ifnull dX11_report_6 ?_
    refine GO.iload_n dX11_report_9 rfl rfl ?_
    refine GO.iconst dX11_report_10 ?_
    refine GO.aload_n dX11_report_11 rfl rfl ?_
    refine GO.getR h_x fl_RX11_12 rfl rfl dX11_report_12 (fun hv8 h7 => ?_)
    refine GO.getI h7 fl_RX11_145 rfl rfl dX11_report_15 (fun l9 u10 => ?_)
    refine GO.callS (N := mX11_between) dX11_report_18 gS_RX11_112 (t_X11_between r_p1 (ir_c rfl) vi_ir) rfl [] rfl rfl (Nat.le_of_ble_eq_true rfl) rfl (k_ip fun X11 r12 h13 => ?_)
    refine GO.if_ne (tgt := 26) dX11_report_21 (by decide) r12 (fun c14 => ?_) (fun c14 => ?_)
    ·
      have q15 := h13.2.1 (by omega)
      refine GO.iload dX11_report_26 rfl ?_
      have hj23 : GO mX11_report K V (IS K (fun X V1 => (X = 0 ∨ X = 1) ∧ (X ≠ 0 → True) ∧ (X = 0 → True))) K V 0 0 46 [some (.ref x), some (ti p0), some (ti p1), some (ti p2), some (ti p3)] [] := by
        skip
        refine GO.aload_n dX11_report_46 rfl rfl ?_
        refine GO.getR h_x fl_RX11_85 rfl rfl dX11_report_47 (fun hv25 h24 => ?_)
        refine GO.iload_n dX11_report_50 rfl rfl ?_
        refine GO.iload_n dX11_report_51 rfl rfl ?_
        refine GO.iload_n dX11_report_52 rfl rfl ?_
        refine GO.iload dX11_report_53 rfl ?_
        refine GO.if_eq (tgt := 62) dX11_report_55 (by decide) r_p3 (fun c26 => ?_) (fun c26 => ?_)
        ·
          refine GO.iconst dX11_report_62 ?_
          refine GO.aload_n dX11_report_63 rfl rfl ?_
          refine GO.getRaw h_x fl_RX11_12 hv8 dX11_report_64 ?_
          refine GO.getI h7 fl_RX11_145 rfl rfl dX11_report_67 (fun l29 u30 => ?_)
          refine GO.callV (ci := 30) (N := mX8_append_k30) dX11_report_70 (RX8, TX8, 4) rfl gV_RX11_205 h24 (t_X8_append_k30 h24 r_p0 r_p1 r_p2 (ir_c rfl) vi_ir) rfl [] rfl rfl (Nat.le_of_ble_eq_true rfl) rfl (k_is fun X31 V35 r32 h33 hF34 => ?_)
          refine GO.iconst dX11_report_73 ?_
          refine GO.icmp_eq (tgt := 81) dX11_report_74 (by decide) r32 (ir_c rfl) (fun c36 => ?_) (fun c36 => ?_)
          ·
            refine GO.iconst dX11_report_81 ?_
            exact GO.retz rfl rfl dX11_report_82 (Or.inl rfl) ⟨rfl, _, rfl, (ir_c rfl), ⟨Or.inl rfl, fun _ => trivial, fun _ => trivial⟩⟩
          ·
            refine GO.iconst dX11_report_77 ?_
            refine GO.goto (tgt := 82) dX11_report_78 (by decide) ?_
            exact GO.retz rfl rfl dX11_report_82 (Or.inr rfl) ⟨rfl, _, rfl, (ir_c rfl), ⟨Or.inr rfl, fun _ => trivial, fun _ => trivial⟩⟩
        ·
          refine GO.iconst dX11_report_58 ?_
          refine GO.goto (tgt := 63) dX11_report_59 (by decide) ?_
          refine GO.aload_n dX11_report_63 rfl rfl ?_
          refine GO.getRaw h_x fl_RX11_12 hv8 dX11_report_64 ?_
          refine GO.getI h7 fl_RX11_145 rfl rfl dX11_report_67 (fun l39 u40 => ?_)
          refine GO.callV (ci := 30) (N := mX8_append_k30) dX11_report_70 (RX8, TX8, 4) rfl gV_RX11_205 h24 (t_X8_append_k30 h24 r_p0 r_p1 r_p2 (ir_c rfl) vi_ir) rfl [] rfl rfl (Nat.le_of_ble_eq_true rfl) rfl (k_is fun X41 V45 r42 h43 hF44 => ?_)
          refine GO.iconst dX11_report_73 ?_
          refine GO.icmp_eq (tgt := 81) dX11_report_74 (by decide) r42 (ir_c rfl) (fun c46 => ?_) (fun c46 => ?_)
          ·
            refine GO.iconst dX11_report_81 ?_
            exact GO.retz rfl rfl dX11_report_82 (Or.inl rfl) ⟨rfl, _, rfl, (ir_c rfl), ⟨Or.inl rfl, fun _ => trivial, fun _ => trivial⟩⟩
          ·
            refine GO.iconst dX11_report_77 ?_
            refine GO.goto (tgt := 82) dX11_report_78 (by decide) ?_
            exact GO.retz rfl rfl dX11_report_82 (Or.inr rfl) ⟨rfl, _, rfl, (ir_c rfl), ⟨Or.inr rfl, fun _ => trivial, fun _ => trivial⟩⟩
      refine GO.if_eq (tgt := 46) dX11_report_28 (by decide) r_p3 (fun c47 => ?_) (fun c47 => ?_)
      ·
        exact hj23 
      ·
        refine GO.iload_n dX11_report_31 rfl rfl ?_
        refine GO.sipush dX11_report_32 rfl ?_
        refine GO.ldcw (X := 1000000) dX11_report_35 gw_1159 rfl ?_
        refine GO.callS (N := mX11_between) dX11_report_38 gS_RX11_112 (t_X11_between r_p2 (ir_c rfl) (ir_c rfl)) rfl [] rfl rfl (Nat.le_of_ble_eq_true rfl) rfl (k_ip fun X48 r49 h50 => ?_)
        refine GO.if_ne (tgt := 46) dX11_report_41 (by decide) r49 (fun c51 => ?_) (fun c51 => ?_)
        ·
          have q52 := h50.2.1 (by omega)
          exact hj23 
        ·
          have q53 := h50.2.2 (by omega)
          refine GO.iconst dX11_report_44 ?_
          exact GO.retz rfl rfl dX11_report_45 (Or.inl rfl) ⟨rfl, _, rfl, (ir_c rfl), ⟨Or.inl rfl, fun _ => trivial, fun _ => trivial⟩⟩
    ·
      have q54 := h13.2.2 (by omega)
      refine GO.iconst dX11_report_24 ?_
      exact GO.retz rfl rfl dX11_report_25 (Or.inl rfl) ⟨rfl, _, rfl, (ir_c rfl), ⟨Or.inl rfl, fun _ => trivial, fun _ => trivial⟩⟩
