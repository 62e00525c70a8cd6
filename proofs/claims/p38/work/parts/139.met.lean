def mX12_speed : MRec := (RX12, cX12_speed, 3, (some .boolean), yX12_speed, 1, 22, 0, 0, 19239260838083241802870625048898248928262033152423150976916523463167042063367829239828841099507555616787934478336)
def mX12_birds : MRec := (RX12, cX12_birds, 4, (some .boolean), yX12_birds, 1, 22, 0, 0, 2037035976334486086268445688409378161051468393665936250636140449354381299763336706183397376)
def mX12_part : MRec := (RX12, cX12_part, 2, (some .int), yX12_part, 0, 0, 0, 0, 0)
def mX12_loss : MRec := (RX12, cX12_loss, 9, (some .int), yX12_loss, 1, 22, 0, 0, 0)
def mX12_noise : MRec := (RX12, cX12_noise, 3, (some .int), yX12_noise, 1, 22, 0, 0, 0)
def mX12_caught : MRec := (RX12, cX12_caught, 6, (some .int), yX12_caught, 1, 22, 0, 0, 1192834171961160991777978753031691433552219552744263684803880705253845464151068000610935013885096624147832548360192)
def mX12_isAhead : MRec := (RX12, cX12_isAhead, 3, (some .boolean), yX12_isAhead, 0, 0, 0, 0, 0)
def mX12_over : MRec := (RX12, cX12_over, 7, (some .int), yX12_over, 3, 77, 0, 0, 410109510896814735819844167584554006003719268292477331829831988701866187349882985604408720691822592)
set_option maxHeartbeats 1000000 in
theorem t_X12_speed {K : Kmap} {V : Vmap} {x : Nat} {p0 : Int} {p1 : Int} (h_x : K x = some (0, 11)) (r_p0 : ir p0) (r_p1 : ir p1) : MC mX12_speed K V [.ref x, ti p0, ti p1] (IS K (fun X V1 => (X = 0 ∨ X = 1) ∧ (X ≠ 0 → ((p0 = (-1) ∧ p1 ≥ 0 ∧ p1 ≤ 1000) ∨ (p0 ≥ 0 ∧ p0 ≤ 9 ∧ p1 ≥ 1 ∧ p1 ≤ 200))) ∧ (X = 0 → (p0 ≠ (-1) ∨ p1 < 0 ∨ p1 > 1000) ∧ (p0 < 0 ∨ p0 > 9 ∨ p1 < 1 ∨ p1 > 200)))) := by
  refine MC.start 0 (by decide +kernel) rfl rfl rfl (ls0 := [some (.ref x), some (ti p0), some (ti p1)]) rfl ?_
  refine GO.iload_n dX12_speed_0 rfl rfl ?_
  refine GO.iconst dX12_speed_1 ?_
  refine GO.icmp_ne (tgt := 23) dX12_speed_2 (by decide) r_p0 (ir_c rfl) (fun c1 => ?_) (fun c1 => ?_)
  ·
    refine GO.iload_n dX12_speed_23 rfl rfl ?_
    refine GO.iconst dX12_speed_24 ?_
    refine GO.bipush dX12_speed_25 rfl ?_
    refine GO.callS (N := mX12_in) dX12_speed_27 gS_RX12_371 (t_X12_in r_p0 (ir_c rfl) (ir_c rfl)) rfl [] rfl rfl (Nat.le_of_ble_eq_true rfl) rfl (k_ip fun X2 r3 h4 => ?_)
    have raw_in := h4.2.2.2
    have rw27 := h4.2.2.2
    refine GO.if_eq (tgt := 44) dX12_speed_30 (by decide) r3 (fun c5 => ?_) (fun c5 => ?_)
    ·
      have q6 := h4.2.2.1 (by omega)
      refine GO.iconst dX12_speed_44 ?_
      exact GO.retz rfl rfl dX12_speed_45 (Or.inl rfl) ⟨rfl, _, rfl, (ir_c rfl), ⟨Or.inl rfl, fun h => absurd rfl h, fun h => by omega⟩⟩
    ·
      have q7 := h4.2.1 (by omega)
      refine GO.iload_n dX12_speed_33 rfl rfl ?_
      refine GO.iconst dX12_speed_34 ?_
      refine GO.sipush dX12_speed_35 rfl ?_
      refine GO.callS (N := mX12_in) dX12_speed_38 gS_RX12_371 (t_X12_in r_p1 (ir_c rfl) (ir_c rfl)) rfl [] rfl rfl (Nat.le_of_ble_eq_true rfl) rfl (k_ip fun X8 r9 h10 => ?_)
      have raw_in := h10.2.2.2
      have rw38 := h10.2.2.2
      refine GO.if_ne (tgt := 46) dX12_speed_41 (by decide) r9 (fun c11 => ?_) (fun c11 => ?_)
      ·
        have q12 := h10.2.1 (by omega)
        refine GO.aload_n dX12_speed_46 rfl rfl ?_
        refine GO.getA (n := 10) h_x fl_RX12_301 rfl rfl rfl rfl dX12_speed_47 (fun hv14 h13 => ?_)
        refine GO.iload_n dX12_speed_50 rfl rfl ?_
        refine GO.iload_n dX12_speed_51 rfl rfl ?_
        have q15 : -2147483648 ≤ p0 ∧ p0 ≤ 2147483647 := r_p0
        refine GO.iast (t := 102) rfl rfl (by decide +kernel) h13 r_p0 (by omega) (by omega) r_p1 (r_p1).1 (r_p1).2 dX12_speed_52 (fun V17 e16 => ?_)
        refine GO.iconst dX12_speed_53 ?_
        exact GO.retz rfl rfl dX12_speed_54 (Or.inr rfl) ⟨rfl, _, rfl, (ir_c rfl), ⟨Or.inr rfl, fun h => by omega, fun h => absurd h (by decide)⟩⟩
      ·
        have q18 := h10.2.2.1 (by omega)
        refine GO.iconst dX12_speed_44 ?_
        exact GO.retz rfl rfl dX12_speed_45 (Or.inl rfl) ⟨rfl, _, rfl, (ir_c rfl), ⟨Or.inl rfl, fun h => absurd rfl h, fun h => by omega⟩⟩
  ·
    refine GO.iload_n dX12_speed_5 rfl rfl ?_
    refine GO.iconst dX12_speed_6 ?_
    refine GO.sipush dX12_speed_7 rfl ?_
    refine GO.callS (N := mX12_in) dX12_speed_10 gS_RX12_371 (t_X12_in r_p1 (ir_c rfl) (ir_c rfl)) rfl [] rfl rfl (Nat.le_of_ble_eq_true rfl) rfl (k_ip fun X19 r20 h21 => ?_)
    have raw_in := h21.2.2.2
    have rw10 := h21.2.2.2
    refine GO.if_eq (tgt := 23) dX12_speed_13 (by decide) r20 (fun c22 => ?_) (fun c22 => ?_)
    ·
      have q23 := h21.2.2.1 (by omega)
      refine GO.iload_n dX12_speed_23 rfl rfl ?_
      refine GO.iconst dX12_speed_24 ?_
      refine GO.bipush dX12_speed_25 rfl ?_
      refine GO.callS (N := mX12_in) dX12_speed_27 gS_RX12_371 (t_X12_in r_p0 (ir_c rfl) (ir_c rfl)) rfl [] rfl rfl (Nat.le_of_ble_eq_true rfl) rfl (k_ip fun X24 r25 h26 => ?_)
      have raw_in := h26.2.2.2
      have rw27 := h26.2.2.2
      refine GO.if_eq (tgt := 44) dX12_speed_30 (by decide) r25 (fun c27 => ?_) (fun c27 => ?_)
      ·
        have q28 := h26.2.2.1 (by omega)
        refine GO.iconst dX12_speed_44 ?_
        exact GO.retz rfl rfl dX12_speed_45 (Or.inl rfl) ⟨rfl, _, rfl, (ir_c rfl), ⟨Or.inl rfl, fun h => absurd rfl h, fun h => by omega⟩⟩
      ·
        have q29 := h26.2.1 (by omega)
        refine GO.iload_n dX12_speed_33 rfl rfl ?_
        refine GO.iconst dX12_speed_34 ?_
        refine GO.sipush dX12_speed_35 rfl ?_
        refine GO.callS (N := mX12_in) dX12_speed_38 gS_RX12_371 (t_X12_in r_p1 (ir_c rfl) (ir_c rfl)) rfl [] rfl rfl (Nat.le_of_ble_eq_true rfl) rfl (k_ip fun X30 r31 h32 => ?_)
        have raw_in := h32.2.2.2
        have rw38 := h32.2.2.2
        refine GO.if_ne (tgt := 46) dX12_speed_41 (by decide) r31 (fun c33 => ?_) (fun c33 => ?_)
        ·
          have q34 := h32.2.1 (by omega)
          refine GO.aload_n dX12_speed_46 rfl rfl ?_
          refine GO.getA (n := 10) h_x fl_RX12_301 rfl rfl rfl rfl dX12_speed_47 (fun hv36 h35 => ?_)
          refine GO.iload_n dX12_speed_50 rfl rfl ?_
          refine GO.iload_n dX12_speed_51 rfl rfl ?_
          have q37 : -2147483648 ≤ p0 ∧ p0 ≤ 2147483647 := r_p0
          refine GO.iast (t := 102) rfl rfl (by decide +kernel) h35 r_p0 (by omega) (by omega) r_p1 (r_p1).1 (r_p1).2 dX12_speed_52 (fun V39 e38 => ?_)
          refine GO.iconst dX12_speed_53 ?_
          exact GO.retz rfl rfl dX12_speed_54 (Or.inr rfl) ⟨rfl, _, rfl, (ir_c rfl), ⟨Or.inr rfl, fun h => by omega, fun h => absurd h (by decide)⟩⟩
        ·
          have q40 := h32.2.2.1 (by omega)
          refine GO.iconst dX12_speed_44 ?_
          exact GO.retz rfl rfl dX12_speed_45 (Or.inl rfl) ⟨rfl, _, rfl, (ir_c rfl), ⟨Or.inl rfl, fun h => absurd rfl h, fun h => by omega⟩⟩
    ·
      have q41 := h21.2.1 (by omega)
      refine GO.aload_n dX12_speed_16 rfl rfl ?_
      refine GO.iload_n dX12_speed_17 rfl rfl ?_
      refine GO.putI h_x fp_RX12_280 rfl (by decide +kernel) r_p1 (r_p1).1 (r_p1).2 dX12_speed_18 (fun V43 e42 => ?_)
      refine GO.iconst dX12_speed_21 ?_
      exact GO.retz rfl rfl dX12_speed_22 (Or.inr rfl) ⟨rfl, _, rfl, (ir_c rfl), ⟨Or.inr rfl, fun h => by omega, fun h => absurd h (by decide)⟩⟩

set_option maxHeartbeats 1000000 in
theorem t_X12_birds {K : Kmap} {V : Vmap} {x : Nat} {p0 : Int} {p1 : Int} {p2 : Int} (h_x : K x = some (0, 11)) (r_p0 : ir p0) (r_p1 : ir p1) (r_p2 : ir p2) : MC mX12_birds K V [.ref x, ti p0, ti p1, ti p2] (IS K (fun X V1 => (X = 0 ∨ X = 1) ∧ (X ≠ 0 → True) ∧ (X = 0 → True) ∧ (MKN V x p0 5 (0 ≤ p1 ∧ p1 ≤ 9 ∧ 0 ≤ p2 ∧ p2 ≤ 100000) X))) := by
  refine MC.start 0 (by decide +kernel) rfl rfl rfl (ls0 := [some (.ref x), some (ti p0), some (ti p1), some (ti p2)]) rfl ?_
  refine GO.aload_n dX12_birds_0 rfl rfl ?_
  refine GO.iload_n dX12_birds_1 rfl rfl ?_
  refine GO.iconst dX12_birds_2 ?_
  refine GO.callV (ci := 11) (N := mX12_isPlace) dX12_birds_3 (RX12, TX12, 151) rfl gV_RX12_399 h_x (t_X12_isPlace h_x r_p0 (ir_c rfl)) rfl [] rfl rfl (Nat.le_of_ble_eq_true rfl) rfl (k_ip fun X1 r2 h3 => ?_)
  have raw_isPlace := h3.2.2.2.1
  have rq0_3 := h3.2.2.2.2
  have rw3 := h3.2.2.2.1
  refine GO.if_eq (tgt := 30) dX12_birds_6 (by decide) r2 (fun c4 => ?_) (fun c4 => ?_)
  ·
    refine GO.iconst dX12_birds_30 ?_
    exact GO.retz rfl rfl dX12_birds_31 (Or.inl rfl) ⟨rfl, _, rfl, (ir_c rfl), ⟨Or.inl rfl, fun _ => trivial, fun _ => trivial, (by first | exact MKN.nk rq0_3 (by omega) rfl | exact MKN.np (by omega) rfl | exact MKN.ok rq0_3 (by omega) ⟨by omega, by omega, by omega, by omega⟩ (by omega))⟩⟩
  ·
    have q5 := h3.2.1 (by omega)
    refine GO.iload_n dX12_birds_9 rfl rfl ?_
    refine GO.iconst dX12_birds_10 ?_
    refine GO.bipush dX12_birds_11 rfl ?_
    refine GO.callS (N := mX12_in) dX12_birds_13 gS_RX12_371 (t_X12_in r_p1 (ir_c rfl) (ir_c rfl)) rfl [] rfl rfl (Nat.le_of_ble_eq_true rfl) rfl (k_ip fun X6 r7 h8 => ?_)
    have raw_in := h8.2.2.2
    have rw13 := h8.2.2.2
    refine GO.if_eq (tgt := 30) dX12_birds_16 (by decide) r7 (fun c9 => ?_) (fun c9 => ?_)
    ·
      have q10 := h8.2.2.1 (by omega)
      refine GO.iconst dX12_birds_30 ?_
      exact GO.retz rfl rfl dX12_birds_31 (Or.inl rfl) ⟨rfl, _, rfl, (ir_c rfl), ⟨Or.inl rfl, fun _ => trivial, fun _ => trivial, (by first | exact MKN.nk rq0_3 (by omega) rfl | exact MKN.np (by omega) rfl | exact MKN.ok rq0_3 (by omega) ⟨by omega, by omega, by omega, by omega⟩ (by omega))⟩⟩
    ·
      have q11 := h8.2.1 (by omega)
      refine GO.iload_n dX12_birds_19 rfl rfl ?_
      refine GO.iconst dX12_birds_20 ?_
      refine GO.ldcw (X := 100000) dX12_birds_21 gw_2019 rfl ?_
      refine GO.callS (N := mX12_in) dX12_birds_24 gS_RX12_371 (t_X12_in r_p2 (ir_c rfl) (ir_c rfl)) rfl [] rfl rfl (Nat.le_of_ble_eq_true rfl) rfl (k_ip fun X12 r13 h14 => ?_)
      have raw_in := h14.2.2.2
      have rw24 := h14.2.2.2
      refine GO.if_ne (tgt := 32) dX12_birds_27 (by decide) r13 (fun c15 => ?_) (fun c15 => ?_)
      ·
        have q16 := h14.2.1 (by omega)
        refine GO.aload_n dX12_birds_32 rfl rfl ?_
        refine GO.getA (n := 600) h_x fl_RX12_77 rfl rfl rfl rfl dX12_birds_33 (fun hv18 h17 => ?_)
        refine GO.bipush dX12_birds_36 rfl ?_
        refine GO.iload_n dX12_birds_38 rfl rfl ?_
        refine GO.imul dX12_birds_39 ?_
        refine GO.iload_n dX12_birds_40 rfl rfl ?_
        refine GO.iadd dX12_birds_41 ?_
        refine GO.iload_n dX12_birds_42 rfl rfl ?_
        have q19 : -2147483648 ≤ p1 ∧ p1 ≤ 2147483647 := r_p1
        have q20 : -2147483648 ≤ p0 ∧ p0 ≤ 2147483647 := r_p0
        refine GO.iast (t := 29) rfl rfl (by decide +kernel) h17 ⟨by omega, by omega⟩ (by omega) (by omega) r_p2 (r_p2).1 (r_p2).2 dX12_birds_43 (fun V22 e21 => ?_)
        refine GO.iconst dX12_birds_44 ?_
        exact GO.retz rfl rfl dX12_birds_45 (Or.inr rfl) ⟨rfl, _, rfl, (ir_c rfl), ⟨Or.inr rfl, fun _ => trivial, fun _ => trivial, (by first | exact MKN.nk rq0_3 (by omega) rfl | exact MKN.np (by omega) rfl | exact MKN.ok rq0_3 (by omega) ⟨by omega, by omega, by omega, by omega⟩ (by omega))⟩⟩
      ·
        have q23 := h14.2.2.1 (by omega)
        refine GO.iconst dX12_birds_30 ?_
        exact GO.retz rfl rfl dX12_birds_31 (Or.inl rfl) ⟨rfl, _, rfl, (ir_c rfl), ⟨Or.inl rfl, fun _ => trivial, fun _ => trivial, (by first | exact MKN.nk rq0_3 (by omega) rfl | exact MKN.np (by omega) rfl | exact MKN.ok rq0_3 (by omega) ⟨by omega, by omega, by omega, by omega⟩ (by omega))⟩⟩

set_option maxHeartbeats 1000000 in
theorem t_X12_part {K : Kmap} {V : Vmap} {p0 : Int} {p1 : Int} (r_p0 : ir p0) (r_p1 : ir p1) : MC mX12_part K V [ti p0, ti p1] (IP K V (fun X => True)) := by
  refine MC.start 0 (by decide +kernel) rfl rfl rfl (ls0 := [some (ti p0), some (ti p1)]) rfl ?_
  refine GO.iload_n dX12_part_0 rfl rfl ?_
  refine GO.iload_n dX12_part_1 rfl rfl ?_
  refine GO.imul dX12_part_2 ?_
  refine GO.norm (fun z1 r2 hn3 => ?_)
  refine GO.bipush dX12_part_3 rfl ?_
  refine GO.iadd dX12_part_5 ?_
  refine GO.norm (fun z4 r5 hn6 => ?_)
  refine GO.bipush dX12_part_6 rfl ?_
  refine GO.idiv dX12_part_8 (ir_c rfl) (by omega) ?_
  have q7 : -2147483648 ≤ wdiv z4 100 ∧ wdiv z4 100 ≤ 2147483647 := wdiv_ir
  exact GO.reti rfl rfl dX12_part_9 ⟨rfl, rfl, _, rfl, wdiv_ir, trivial⟩

set_option maxHeartbeats 1000000 in
theorem t_X12_loss {K : Kmap} {V : Vmap} {x : Nat} {p0 : Int} {p1 : Int} {p2 : Int} {p3 : Int} {p4 : Int} (h_x : K x = some (0, 11)) (r_p0 : ir p0) (r_p1 : ir p1) (r_p2 : ir p2) (r_p3 : ir p3) (r_p4 : ir p4) : MC mX12_loss K V [.ref x, ti p0, ti p1, ti p2, ti p3, ti p4] (IP K V (fun X => True)) := by
  refine MC.start 3 (by decide +kernel) rfl rfl rfl (ls0 := [some (.ref x), some (ti p0), some (ti p1), some (ti p2), some (ti p3), some (ti p4), none, none, none]) rfl ?_
  refine GO.aload_n dX12_loss_0 rfl rfl ?_
  refine GO.iload_n dX12_loss_1 rfl rfl ?_
  refine GO.iconst dX12_loss_2 ?_
  refine GO.callV (ci := 11) (N := mX12_isPlace) dX12_loss_3 (RX12, TX12, 151) rfl gV_RX12_399 h_x (t_X12_isPlace h_x r_p0 (ir_c rfl)) rfl [] rfl rfl (Nat.le_of_ble_eq_true rfl) rfl (k_ip fun X1 r2 h3 => ?_)
  have raw_isPlace := h3.2.2.2.1
  have rq0_3 := h3.2.2.2.2
  have rw3 := h3.2.2.2.1
  refine GO.if_eq (tgt := 52) dX12_loss_6 (by decide) r2 (fun c4 => ?_) (fun c4 => ?_)
  ·
    refine GO.ldcw (X := (-1000000)) dX12_loss_52 gw_2322 rfl ?_
    exact GO.reti rfl rfl dX12_loss_55 ⟨rfl, rfl, _, rfl, (ir_c rfl), trivial⟩
  ·
    have q5 := h3.2.1 (by omega)
    refine GO.iload_n dX12_loss_9 rfl rfl ?_
    refine GO.iconst dX12_loss_10 ?_
    refine GO.bipush dX12_loss_11 rfl ?_
    refine GO.callS (N := mX12_in) dX12_loss_13 gS_RX12_371 (t_X12_in r_p1 (ir_c rfl) (ir_c rfl)) rfl [] rfl rfl (Nat.le_of_ble_eq_true rfl) rfl (k_ip fun X6 r7 h8 => ?_)
    have raw_in := h8.2.2.2
    have rw13 := h8.2.2.2
    refine GO.if_eq (tgt := 52) dX12_loss_16 (by decide) r7 (fun c9 => ?_) (fun c9 => ?_)
    ·
      have q10 := h8.2.2.1 (by omega)
      refine GO.ldcw (X := (-1000000)) dX12_loss_52 gw_2322 rfl ?_
      exact GO.reti rfl rfl dX12_loss_55 ⟨rfl, rfl, _, rfl, (ir_c rfl), trivial⟩
    ·
      have q11 := h8.2.1 (by omega)
      refine GO.iload_n dX12_loss_19 rfl rfl ?_
      refine GO.iload_n dX12_loss_20 rfl rfl ?_
      refine GO.iconst dX12_loss_21 ?_
      refine GO.iadd dX12_loss_22 ?_
      refine GO.bipush dX12_loss_23 rfl ?_
      have q12 : -2147483648 ≤ p1 ∧ p1 ≤ 2147483647 := r_p1
      refine GO.callS (N := mX12_in) dX12_loss_25 gS_RX12_371 (t_X12_in r_p2 ⟨by omega, by omega⟩ (ir_c rfl)) rfl [] rfl rfl (Nat.le_of_ble_eq_true rfl) rfl (k_ip fun X13 r14 h15 => ?_)
      have raw_in := h15.2.2.2
      have rw25 := h15.2.2.2
      refine GO.if_eq (tgt := 52) dX12_loss_28 (by decide) r14 (fun c16 => ?_) (fun c16 => ?_)
      ·
        have q17 := h15.2.2.1 (by omega)
        refine GO.ldcw (X := (-1000000)) dX12_loss_52 gw_2322 rfl ?_
        exact GO.reti rfl rfl dX12_loss_55 ⟨rfl, rfl, _, rfl, (ir_c rfl), trivial⟩
      ·
        have q18 := h15.2.1 (by omega)
        refine GO.iload dX12_loss_31 rfl ?_
        refine GO.iconst dX12_loss_33 ?_
        refine GO.bipush dX12_loss_34 rfl ?_
        refine GO.callS (N := mX12_in) dX12_loss_36 gS_RX12_371 (t_X12_in r_p3 (ir_c rfl) (ir_c rfl)) rfl [] rfl rfl (Nat.le_of_ble_eq_true rfl) rfl (k_ip fun X19 r20 h21 => ?_)
        have raw_in := h21.2.2.2
        have rw36 := h21.2.2.2
        refine GO.if_eq (tgt := 52) dX12_loss_39 (by decide) r20 (fun c22 => ?_) (fun c22 => ?_)
        ·
          have q23 := h21.2.2.1 (by omega)
          refine GO.ldcw (X := (-1000000)) dX12_loss_52 gw_2322 rfl ?_
          exact GO.reti rfl rfl dX12_loss_55 ⟨rfl, rfl, _, rfl, (ir_c rfl), trivial⟩
        ·
          have q24 := h21.2.1 (by omega)
          refine GO.iload dX12_loss_42 rfl ?_
          refine GO.iconst dX12_loss_44 ?_
          refine GO.iconst dX12_loss_45 ?_
          refine GO.callS (N := mX12_in) dX12_loss_46 gS_RX12_371 (t_X12_in r_p4 (ir_c rfl) (ir_c rfl)) rfl [] rfl rfl (Nat.le_of_ble_eq_true rfl) rfl (k_ip fun X25 r26 h27 => ?_)
          have raw_in := h27.2.2.2
          have rw46 := h27.2.2.2
          refine GO.if_ne (tgt := 56) dX12_loss_49 (by decide) r26 (fun c28 => ?_) (fun c28 => ?_)
          ·
            have q29 := h27.2.1 (by omega)
            refine GO.aload_n dX12_loss_56 rfl rfl ?_
            refine GO.getA (n := 600) h_x fl_RX12_77 rfl rfl rfl rfl dX12_loss_57 (fun hv31 h30 => ?_)
            refine GO.bipush dX12_loss_60 rfl ?_
            refine GO.iload_n dX12_loss_62 rfl rfl ?_
            refine GO.imul dX12_loss_63 ?_
            refine GO.iload_n dX12_loss_64 rfl rfl ?_
            refine GO.iadd dX12_loss_65 ?_
            have q32 : -2147483648 ≤ p2 ∧ p2 ≤ 2147483647 := r_p2
            have q33 : -2147483648 ≤ p0 ∧ p0 ≤ 2147483647 := r_p0
            refine GO.iald (t := 29) rfl rfl h30 ⟨by omega, by omega⟩ (by omega) (by omega) dX12_loss_66 (fun _ _ => ?_)
            refine GO.name (fun z34 hz35 => ?_)
            have r36 : ir z34 := hz35 ▸ vi_ir
            refine GO.istore (ls1 := [some (.ref x), some (ti p0), some (ti p1), some (ti p2), some (ti p3), some (ti p4), some (ti z34), none, none]) dX12_loss_67 rfl rfl ?_
            refine GO.aload_n dX12_loss_69 rfl rfl ?_
            refine GO.getRaw h_x fl_RX12_77 hv31 dX12_loss_70 ?_
            refine GO.bipush dX12_loss_73 rfl ?_
            refine GO.iload_n dX12_loss_75 rfl rfl ?_
            refine GO.imul dX12_loss_76 ?_
            refine GO.iload_n dX12_loss_77 rfl rfl ?_
            refine GO.iadd dX12_loss_78 ?_
            refine GO.iald (t := 29) rfl rfl h30 ⟨by omega, by omega⟩ (by omega) (by omega) dX12_loss_79 (fun _ _ => ?_)
            refine GO.name (fun z39 hz40 => ?_)
            have r41 : ir z39 := hz40 ▸ vi_ir
            refine GO.istore (ls1 := [some (.ref x), some (ti p0), some (ti p1), some (ti p2), some (ti p3), some (ti p4), some (ti z34), some (ti z39), none]) dX12_loss_80 rfl rfl ?_
            refine GO.iload dX12_loss_82 rfl ?_
            refine GO.iconst dX12_loss_84 ?_
            refine GO.icmp_eq (tgt := 94) dX12_loss_85 (by decide) r36 (ir_c rfl) (fun c42 => ?_) (fun c42 => ?_)
            ·
              refine GO.ldcw (X := (-1000000)) dX12_loss_94 gw_2322 rfl ?_
              exact GO.reti rfl rfl dX12_loss_97 ⟨rfl, rfl, _, rfl, (ir_c rfl), trivial⟩
            ·
              refine GO.iload dX12_loss_88 rfl ?_
              refine GO.iconst dX12_loss_90 ?_
              refine GO.icmp_ne (tgt := 98) dX12_loss_91 (by decide) r41 (ir_c rfl) (fun c43 => ?_) (fun c43 => ?_)
              ·
                refine GO.iload dX12_loss_98 rfl ?_
                refine GO.iload dX12_loss_100 rfl ?_
                refine GO.callS (N := mX12_part) dX12_loss_102 gS_RX12_706 (t_X12_part r36 r_p3) rfl [] rfl rfl (Nat.le_of_ble_eq_true rfl) rfl (k_ip fun X44 r45 h46 => ?_)
                refine GO.iload dX12_loss_105 rfl ?_
                refine GO.iload dX12_loss_107 rfl ?_
                refine GO.callS (N := mX12_part) dX12_loss_109 gS_RX12_706 (t_X12_part r41 r_p3) rfl [ti X44] rfl rfl (Nat.le_of_ble_eq_true rfl) rfl (k_ip fun X47 r48 h49 => ?_)
                refine GO.iadd dX12_loss_112 ?_
                refine GO.norm (fun z50 r51 hn52 => ?_)
                refine GO.istore (ls1 := [some (.ref x), some (ti p0), some (ti p1), some (ti p2), some (ti p3), some (ti p4), some (ti z34), some (ti z39), some (ti z50)]) dX12_loss_113 rfl rfl ?_
                refine GO.iload dX12_loss_115 rfl ?_
                refine GO.if_ne (tgt := 131) dX12_loss_117 (by decide) r_p4 (fun c53 => ?_) (fun c53 => ?_)
                ·
                  refine GO.iload dX12_loss_131 rfl ?_
                  refine GO.iload dX12_loss_133 rfl ?_
                  refine GO.isub dX12_loss_135 ?_
                  refine GO.norm (fun z54 r55 hn56 => ?_)
                  refine GO.iload dX12_loss_136 rfl ?_
                  refine GO.iadd dX12_loss_138 ?_
                  refine GO.norm (fun z57 r58 hn59 => ?_)
                  have q60 : -2147483648 ≤ z57 ∧ z57 ≤ 2147483647 := r58
                  exact GO.reti rfl rfl dX12_loss_139 ⟨rfl, rfl, _, rfl, r58, trivial⟩
                ·
                  refine GO.iload dX12_loss_120 rfl ?_
                  refine GO.iload dX12_loss_122 rfl ?_
                  refine GO.isub dX12_loss_124 ?_
                  refine GO.norm (fun z61 r62 hn63 => ?_)
                  refine GO.iload dX12_loss_125 rfl ?_
                  refine GO.isub dX12_loss_127 ?_
                  refine GO.norm (fun z64 r65 hn66 => ?_)
                  refine GO.goto (tgt := 139) dX12_loss_128 (by decide) ?_
                  have q67 : -2147483648 ≤ z64 ∧ z64 ≤ 2147483647 := r65
                  exact GO.reti rfl rfl dX12_loss_139 ⟨rfl, rfl, _, rfl, r65, trivial⟩
              ·
                refine GO.ldcw (X := (-1000000)) dX12_loss_94 gw_2322 rfl ?_
                exact GO.reti rfl rfl dX12_loss_97 ⟨rfl, rfl, _, rfl, (ir_c rfl), trivial⟩
          ·
            have q68 := h27.2.2.1 (by omega)
            refine GO.ldcw (X := (-1000000)) dX12_loss_52 gw_2322 rfl ?_
            exact GO.reti rfl rfl dX12_loss_55 ⟨rfl, rfl, _, rfl, (ir_c rfl), trivial⟩

set_option maxHeartbeats 1000000 in
theorem t_X12_noise {K : Kmap} {V : Vmap} {x : Nat} {p0 : Int} {p1 : Int} (h_x : K x = some (0, 11)) (r_p0 : ir p0) (r_p1 : ir p1) : MC mX12_noise K V [.ref x, ti p0, ti p1] (IP K V (fun X => True)) := by
  refine MC.start 0 (by decide +kernel) rfl rfl rfl (ls0 := [some (.ref x), some (ti p0), some (ti p1)]) rfl ?_
  refine GO.aload_n dX12_noise_0 rfl rfl ?_
  refine GO.iload_n dX12_noise_1 rfl rfl ?_
  refine GO.iconst dX12_noise_2 ?_
  refine GO.callV (ci := 11) (N := mX12_isPlace) dX12_noise_3 (RX12, TX12, 151) rfl gV_RX12_399 h_x (t_X12_isPlace h_x r_p0 (ir_c rfl)) rfl [] rfl rfl (Nat.le_of_ble_eq_true rfl) rfl (k_ip fun X1 r2 h3 => ?_)
  have raw_isPlace := h3.2.2.2.1
  have rq0_3 := h3.2.2.2.2
  have rw3 := h3.2.2.2.1
  refine GO.if_eq (tgt := 33) dX12_noise_6 (by decide) r2 (fun c4 => ?_) (fun c4 => ?_)
  ·
    refine GO.iconst dX12_noise_33 ?_
    exact GO.reti rfl rfl dX12_noise_34 ⟨rfl, rfl, _, rfl, (ir_c rfl), trivial⟩
  ·
    have q5 := h3.2.1 (by omega)
    refine GO.iload_n dX12_noise_9 rfl rfl ?_
    refine GO.iconst dX12_noise_10 ?_
    refine GO.bipush dX12_noise_11 rfl ?_
    refine GO.callS (N := mX12_in) dX12_noise_13 gS_RX12_371 (t_X12_in r_p1 (ir_c rfl) (ir_c rfl)) rfl [] rfl rfl (Nat.le_of_ble_eq_true rfl) rfl (k_ip fun X6 r7 h8 => ?_)
    have raw_in := h8.2.2.2
    have rw13 := h8.2.2.2
    refine GO.if_eq (tgt := 33) dX12_noise_16 (by decide) r7 (fun c9 => ?_) (fun c9 => ?_)
    ·
      have q10 := h8.2.2.1 (by omega)
      refine GO.iconst dX12_noise_33 ?_
      exact GO.reti rfl rfl dX12_noise_34 ⟨rfl, rfl, _, rfl, (ir_c rfl), trivial⟩
    ·
      have q11 := h8.2.1 (by omega)
      refine GO.aload_n dX12_noise_19 rfl rfl ?_
      refine GO.getA (n := 600) h_x fl_RX12_74 rfl rfl rfl rfl dX12_noise_20 (fun hv13 h12 => ?_)
      refine GO.bipush dX12_noise_23 rfl ?_
      refine GO.iload_n dX12_noise_25 rfl rfl ?_
      refine GO.imul dX12_noise_26 ?_
      refine GO.iload_n dX12_noise_27 rfl rfl ?_
      refine GO.iadd dX12_noise_28 ?_
      have q14 : -2147483648 ≤ p1 ∧ p1 ≤ 2147483647 := r_p1
      have q15 : -2147483648 ≤ p0 ∧ p0 ≤ 2147483647 := r_p0
      refine GO.iald (t := 28) rfl rfl h12 ⟨by omega, by omega⟩ (by omega) (by omega) dX12_noise_29 (fun _ _ => ?_)
      refine GO.goto (tgt := 34) dX12_noise_30 (by decide) ?_
      have q16 : -2147483648 ≤ vi V (vq V x 26) ((10 * p0) + p1).toNat ∧ vi V (vq V x 26) ((10 * p0) + p1).toNat ≤ 2147483647 := vi_ir
      exact GO.reti rfl rfl dX12_noise_34 ⟨rfl, rfl, _, rfl, vi_ir, trivial⟩

set_option maxHeartbeats 1000000 in
theorem t_X12_caught {K : Kmap} {V : Vmap} {x : Nat} {p0 : Int} {p1 : Int} {p2 : Int} {p3 : Int} {p4 : Int} (h_x : K x = some (0, 11)) (r_p0 : ir p0) (r_p1 : ir p1) (r_p2 : ir p2) (r_p3 : ir p3) (r_p4 : ir p4) : MC mX12_caught K V [.ref x, ti p0, ti p1, ti p2, ti p3, ti p4] (IS K (fun X V1 => (((X = (-1) ∧ vi V1 x 120 = vi V x 120 ∧ (vi V x 120 ≥ 200 ∨ p1 < 0 ∨ p1 > 3 ∨ p2 < 0 ∨ p2 > 3 ∨ p3 < 1 ∨ p3 > 1000000 ∨ p0 < 0 ∨ p0 ≥ vi V x 91 ∨ p4 < 0 ∨ p4 > vi V x 2)) ∨ (X = vi V x 120 ∧ vi V1 x 120 = (vi V x 120 + 1) ∧ vi V x 120 < 200 ∧ p1 ≥ 0 ∧ p1 ≤ 3 ∧ p2 ≥ 0 ∧ p2 ≤ 3 ∧ p3 ≥ 1 ∧ p3 ≤ 1000000 ∧ p0 ≥ 0 ∧ p0 < vi V x 91 ∧ p4 ≥ 0 ∧ p4 ≤ vi V x 2))) ∧ (MCC V V1 x p0 p1 p2 p3 p4 X))) := by
  refine MC.start 0 (by decide +kernel) rfl rfl rfl (ls0 := [some (.ref x), some (ti p0), some (ti p1), some (ti p2), some (ti p3), some (ti p4)]) rfl ?_
  refine GO.useWT (fun hW1 => ?_)
  have ak2 := hW1.arr h_x 128 103 (by decide) rfl (by decide)
  have ak3 := hW1.arr h_x 129 104 (by decide) rfl (by decide)
  have ak4 := hW1.arr h_x 130 105 (by decide) rfl (by decide)
  have ak5 := hW1.arr h_x 131 106 (by decide) rfl (by decide)
  have ak6 := hW1.arr h_x 132 107 (by decide) rfl (by decide)
  refine GO.aload_n dX12_caught_0 rfl rfl ?_
  refine GO.iload_n dX12_caught_1 rfl rfl ?_
  refine GO.callV (ci := 11) (N := mX12_isShip) dX12_caught_2 (RX12, TX12, 151) rfl gV_RX12_618 h_x (t_X12_isShip h_x r_p0) rfl [] rfl rfl (Nat.le_of_ble_eq_true rfl) rfl (k_ip fun X7 r8 h9 => ?_)
  refine GO.if_eq (tgt := 59) dX12_caught_5 (by decide) r8 (fun c10 => ?_) (fun c10 => ?_)
  ·
    have q11 := h9.2.2 (by omega)
    refine GO.iconst dX12_caught_59 ?_
    have q12 : -2147483648 ≤ vi V x 120 ∧ vi V x 120 ≤ 2147483647 := vi_ir
    have q13 : -2147483648 ≤ vi V x 91 ∧ vi V x 91 ≤ 2147483647 := vi_ir
    have q14 : -2147483648 ≤ vi V x 2 ∧ vi V x 2 ≤ 2147483647 := vi_ir
    exact GO.reti rfl rfl dX12_caught_60 ⟨rfl, _, rfl, (ir_c rfl), ⟨(by first | exact trivial | omega), (by first | exact MCC.no rfl | exact MCC.ok (by omega) (by omega) (by omega) (rfl : ar 128 V x = ar 128 V x) (rfl : ar 129 V x = ar 129 V x) (rfl : ar 130 V x = ar 130 V x) (rfl : ar 131 V x = ar 131 V x) (rfl : ar 132 V x = ar 132 V x) (by omega) (by omega) (by omega) (by omega) (by omega))⟩⟩
  ·
    have q15 := h9.2.1 (by omega)
    refine GO.iload_n dX12_caught_8 rfl rfl ?_
    refine GO.iconst dX12_caught_9 ?_
    refine GO.iconst dX12_caught_10 ?_
    refine GO.callS (N := mX12_in) dX12_caught_11 gS_RX12_371 (t_X12_in r_p1 (ir_c rfl) (ir_c rfl)) rfl [] rfl rfl (Nat.le_of_ble_eq_true rfl) rfl (k_ip fun X16 r17 h18 => ?_)
    have raw_in := h18.2.2.2
    have rw11 := h18.2.2.2
    refine GO.if_eq (tgt := 59) dX12_caught_14 (by decide) r17 (fun c19 => ?_) (fun c19 => ?_)
    ·
      have q20 := h18.2.2.1 (by omega)
      refine GO.iconst dX12_caught_59 ?_
      have q21 : -2147483648 ≤ vi V x 120 ∧ vi V x 120 ≤ 2147483647 := vi_ir
      have q22 : -2147483648 ≤ vi V x 91 ∧ vi V x 91 ≤ 2147483647 := vi_ir
      have q23 : -2147483648 ≤ p0 ∧ p0 ≤ 2147483647 := r_p0
      have q24 : -2147483648 ≤ vi V x 2 ∧ vi V x 2 ≤ 2147483647 := vi_ir
      exact GO.reti rfl rfl dX12_caught_60 ⟨rfl, _, rfl, (ir_c rfl), ⟨(by first | exact trivial | omega), (by first | exact MCC.no rfl | exact MCC.ok (by omega) (by omega) (by omega) (rfl : ar 128 V x = ar 128 V x) (rfl : ar 129 V x = ar 129 V x) (rfl : ar 130 V x = ar 130 V x) (rfl : ar 131 V x = ar 131 V x) (rfl : ar 132 V x = ar 132 V x) (by omega) (by omega) (by omega) (by omega) (by omega))⟩⟩
    ·
      have q25 := h18.2.1 (by omega)
      refine GO.iload_n dX12_caught_17 rfl rfl ?_
      refine GO.callS (N := mX12_isSea) dX12_caught_18 gS_RX12_615 (t_X12_isSea r_p2) rfl [] rfl rfl (Nat.le_of_ble_eq_true rfl) rfl (k_ip fun X26 r27 h28 => ?_)
      refine GO.if_eq (tgt := 59) dX12_caught_21 (by decide) r27 (fun c29 => ?_) (fun c29 => ?_)
      ·
        have q30 := h28.2.2 (by omega)
        refine GO.iconst dX12_caught_59 ?_
        have q31 : -2147483648 ≤ vi V x 120 ∧ vi V x 120 ≤ 2147483647 := vi_ir
        have q32 : -2147483648 ≤ vi V x 91 ∧ vi V x 91 ≤ 2147483647 := vi_ir
        have q33 : -2147483648 ≤ p0 ∧ p0 ≤ 2147483647 := r_p0
        have q34 : -2147483648 ≤ vi V x 2 ∧ vi V x 2 ≤ 2147483647 := vi_ir
        exact GO.reti rfl rfl dX12_caught_60 ⟨rfl, _, rfl, (ir_c rfl), ⟨(by first | exact trivial | omega), (by first | exact MCC.no rfl | exact MCC.ok (by omega) (by omega) (by omega) (rfl : ar 128 V x = ar 128 V x) (rfl : ar 129 V x = ar 129 V x) (rfl : ar 130 V x = ar 130 V x) (rfl : ar 131 V x = ar 131 V x) (rfl : ar 132 V x = ar 132 V x) (by omega) (by omega) (by omega) (by omega) (by omega))⟩⟩
      ·
        have q35 := h28.2.1 (by omega)
        refine GO.iload dX12_caught_24 rfl ?_
        refine GO.iconst dX12_caught_26 ?_
        refine GO.ldcw (X := 1000000) dX12_caught_27 gw_2291 rfl ?_
        refine GO.callS (N := mX12_in) dX12_caught_30 gS_RX12_371 (t_X12_in r_p3 (ir_c rfl) (ir_c rfl)) rfl [] rfl rfl (Nat.le_of_ble_eq_true rfl) rfl (k_ip fun X36 r37 h38 => ?_)
        have raw_in := h38.2.2.2
        have rw30 := h38.2.2.2
        refine GO.if_eq (tgt := 59) dX12_caught_33 (by decide) r37 (fun c39 => ?_) (fun c39 => ?_)
        ·
          have q40 := h38.2.2.1 (by omega)
          refine GO.iconst dX12_caught_59 ?_
          have q41 : -2147483648 ≤ vi V x 120 ∧ vi V x 120 ≤ 2147483647 := vi_ir
          have q42 : -2147483648 ≤ vi V x 91 ∧ vi V x 91 ≤ 2147483647 := vi_ir
          have q43 : -2147483648 ≤ p0 ∧ p0 ≤ 2147483647 := r_p0
          have q44 : -2147483648 ≤ vi V x 2 ∧ vi V x 2 ≤ 2147483647 := vi_ir
          exact GO.reti rfl rfl dX12_caught_60 ⟨rfl, _, rfl, (ir_c rfl), ⟨(by first | exact trivial | omega), (by first | exact MCC.no rfl | exact MCC.ok (by omega) (by omega) (by omega) (rfl : ar 128 V x = ar 128 V x) (rfl : ar 129 V x = ar 129 V x) (rfl : ar 130 V x = ar 130 V x) (rfl : ar 131 V x = ar 131 V x) (rfl : ar 132 V x = ar 132 V x) (by omega) (by omega) (by omega) (by omega) (by omega))⟩⟩
        ·
          have q45 := h38.2.1 (by omega)
          refine GO.iload dX12_caught_36 rfl ?_
          refine GO.iconst dX12_caught_38 ?_
          refine GO.aload_n dX12_caught_39 rfl rfl ?_
          refine GO.getI h_x fl_RX12_396 rfl rfl dX12_caught_40 (fun l46 u47 => ?_)
          refine GO.callS (N := mX12_in) dX12_caught_43 gS_RX12_371 (t_X12_in r_p4 (ir_c rfl) vi_ir) rfl [] rfl rfl (Nat.le_of_ble_eq_true rfl) rfl (k_ip fun X48 r49 h50 => ?_)
          have raw_in := h50.2.2.2
          have rw43 := h50.2.2.2
          refine GO.if_eq (tgt := 59) dX12_caught_46 (by decide) r49 (fun c51 => ?_) (fun c51 => ?_)
          ·
            have q52 := h50.2.2.1 (by omega)
            refine GO.iconst dX12_caught_59 ?_
            have q53 : -2147483648 ≤ vi V x 120 ∧ vi V x 120 ≤ 2147483647 := vi_ir
            have q54 : -2147483648 ≤ vi V x 91 ∧ vi V x 91 ≤ 2147483647 := vi_ir
            have q55 : -2147483648 ≤ p0 ∧ p0 ≤ 2147483647 := r_p0
            exact GO.reti rfl rfl dX12_caught_60 ⟨rfl, _, rfl, (ir_c rfl), ⟨(by first | exact trivial | omega), (by first | exact MCC.no rfl | exact MCC.ok (by omega) (by omega) (by omega) (rfl : ar 128 V x = ar 128 V x) (rfl : ar 129 V x = ar 129 V x) (rfl : ar 130 V x = ar 130 V x) (rfl : ar 131 V x = ar 131 V x) (rfl : ar 132 V x = ar 132 V x) (by omega) (by omega) (by omega) (by omega) (by omega))⟩⟩
          ·
            have q56 := h50.2.1 (by omega)
            refine GO.aload_n dX12_caught_49 rfl rfl ?_
            refine GO.getI h_x fl_RX12_709 rfl rfl dX12_caught_50 (fun l57 u58 => ?_)
            refine GO.sipush dX12_caught_53 rfl ?_
            refine GO.icmp_ne (tgt := 61) dX12_caught_56 (by decide) vi_ir (ir_c rfl) (fun c59 => ?_) (fun c59 => ?_)
            ·
              refine GO.aload_n dX12_caught_61 rfl rfl ?_
              refine GO.getA (n := 200) h_x fl_RX12_304 rfl rfl rfl rfl dX12_caught_62 (fun hv61 h60 => ?_)
              refine GO.aload_n dX12_caught_65 rfl rfl ?_
              refine GO.getI h_x fl_RX12_709 rfl rfl dX12_caught_66 (fun l62 u63 => ?_)
              refine GO.iload_n dX12_caught_69 rfl rfl ?_
              have q64 : -2147483648 ≤ vi V x 120 ∧ vi V x 120 ≤ 2147483647 := vi_ir
              have q66 : -2147483648 ≤ p0 ∧ p0 ≤ 2147483647 := r_p0
              have q67 : -2147483648 ≤ vi V x 91 ∧ vi V x 91 ≤ 2147483647 := vi_ir
              refine GO.iast (t := 103) rfl rfl (by decide +kernel) h60 vi_ir (by omega) (by omega) r_p0 (by omega) (by omega) dX12_caught_70 (fun V68 e65 => ?_)
              have ak69 := tk_put e65 ak2 h_x (vq_of hv61) r_p0 (rfl : ar 128 V x = ar 128 V x)
              have ak70 := tk_oth e65 ak3 h_x h60 (by decide) (by decide) (rfl : ar 129 V x = ar 129 V x)
              have ak71 := tk_oth e65 ak4 h_x h60 (by decide) (by decide) (rfl : ar 130 V x = ar 130 V x)
              have ak72 := tk_oth e65 ak5 h_x h60 (by decide) (by decide) (rfl : ar 131 V x = ar 131 V x)
              have ak73 := tk_oth e65 ak6 h_x h60 (by decide) (by decide) (rfl : ar 132 V x = ar 132 V x)
              refine GO.aload_n dX12_caught_71 rfl rfl ?_
              refine GO.getA (n := 200) h_x fl_RX12_307 rfl rfl rfl rfl dX12_caught_72 (fun hv75 h74 => ?_)
              refine GO.aload_n dX12_caught_75 rfl rfl ?_
              refine GO.getI h_x fl_RX12_709 rfl rfl dX12_caught_76 (fun l76 u77 => ?_)
              have e78 : vi V68 x 120 = vi V x 120 := vi_up e65 (Or.inl (K_ne h_x h60 (by decide)))
              refine GO.iload_n dX12_caught_79 rfl rfl ?_
              have q80 : -2147483648 ≤ p1 ∧ p1 ≤ 2147483647 := r_p1
              refine GO.iast (t := 104) rfl rfl (by decide +kernel) h74 vi_ir (by omega) (by omega) r_p1 (by omega) (by omega) dX12_caught_80 (fun V81 e79 => ?_)
              have ak82 := tk_oth e79 ak69.1 h_x h74 (by decide) (by decide) ak69.2
              have ak83 := tk_put e79 ak70.1 h_x (vq_of hv75) r_p1 ak70.2
              have ak84 := tk_oth e79 ak71.1 h_x h74 (by decide) (by decide) ak71.2
              have ak85 := tk_oth e79 ak72.1 h_x h74 (by decide) (by decide) ak72.2
              have ak86 := tk_oth e79 ak73.1 h_x h74 (by decide) (by decide) ak73.2
              refine GO.aload_n dX12_caught_81 rfl rfl ?_
              refine GO.getA (n := 200) h_x fl_RX12_310 rfl rfl rfl rfl dX12_caught_82 (fun hv88 h87 => ?_)
              refine GO.aload_n dX12_caught_85 rfl rfl ?_
              refine GO.getI h_x fl_RX12_709 rfl rfl dX12_caught_86 (fun l89 u90 => ?_)
              have e91 : vi V81 x 120 = vi V68 x 120 := vi_up e79 (Or.inl (K_ne h_x h74 (by decide)))
              refine GO.iload_n dX12_caught_89 rfl rfl ?_
              have q93 : -2147483648 ≤ p2 ∧ p2 ≤ 2147483647 := r_p2
              refine GO.iast (t := 105) rfl rfl (by decide +kernel) h87 vi_ir (by omega) (by omega) r_p2 (by omega) (by omega) dX12_caught_90 (fun V94 e92 => ?_)
              have ak95 := tk_oth e92 ak82.1 h_x h87 (by decide) (by decide) ak82.2
              have ak96 := tk_oth e92 ak83.1 h_x h87 (by decide) (by decide) ak83.2
              have ak97 := tk_put e92 ak84.1 h_x (vq_of hv88) r_p2 ak84.2
              have ak98 := tk_oth e92 ak85.1 h_x h87 (by decide) (by decide) ak85.2
              have ak99 := tk_oth e92 ak86.1 h_x h87 (by decide) (by decide) ak86.2
              refine GO.aload_n dX12_caught_91 rfl rfl ?_
              refine GO.getA (n := 200) h_x fl_RX12_313 rfl rfl rfl rfl dX12_caught_92 (fun hv101 h100 => ?_)
              refine GO.aload_n dX12_caught_95 rfl rfl ?_
              refine GO.getI h_x fl_RX12_709 rfl rfl dX12_caught_96 (fun l102 u103 => ?_)
              have e104 : vi V94 x 120 = vi V81 x 120 := vi_up e92 (Or.inl (K_ne h_x h87 (by decide)))
              refine GO.iload dX12_caught_99 rfl ?_
              refine GO.iast (t := 106) rfl rfl (by decide +kernel) h100 vi_ir (by omega) (by omega) r_p3 (r_p3).1 (r_p3).2 dX12_caught_101 (fun V106 e105 => ?_)
              have ak107 := tk_oth e105 ak95.1 h_x h100 (by decide) (by decide) ak95.2
              have ak108 := tk_oth e105 ak96.1 h_x h100 (by decide) (by decide) ak96.2
              have ak109 := tk_oth e105 ak97.1 h_x h100 (by decide) (by decide) ak97.2
              have ak110 := tk_put e105 ak98.1 h_x (vq_of hv101) r_p3 ak98.2
              have ak111 := tk_oth e105 ak99.1 h_x h100 (by decide) (by decide) ak99.2
              refine GO.aload_n dX12_caught_102 rfl rfl ?_
              refine GO.getA (n := 200) h_x fl_RX12_316 rfl rfl rfl rfl dX12_caught_103 (fun hv113 h112 => ?_)
              refine GO.aload_n dX12_caught_106 rfl rfl ?_
              refine GO.getI h_x fl_RX12_709 rfl rfl dX12_caught_107 (fun l114 u115 => ?_)
              have e116 : vi V106 x 120 = vi V94 x 120 := vi_up e105 (Or.inl (K_ne h_x h100 (by decide)))
              refine GO.iload dX12_caught_110 rfl ?_
              have q118 : -2147483648 ≤ p4 ∧ p4 ≤ 2147483647 := r_p4
              refine GO.iast (t := 107) rfl rfl (by decide +kernel) h112 vi_ir (by omega) (by omega) r_p4 (by omega) (by omega) dX12_caught_112 (fun V119 e117 => ?_)
              have ak120 := tk_oth e117 ak107.1 h_x h112 (by decide) (by decide) ak107.2
              have ak121 := tk_oth e117 ak108.1 h_x h112 (by decide) (by decide) ak108.2
              have ak122 := tk_oth e117 ak109.1 h_x h112 (by decide) (by decide) ak109.2
              have ak123 := tk_oth e117 ak110.1 h_x h112 (by decide) (by decide) ak110.2
              have ak124 := tk_put e117 ak111.1 h_x (vq_of hv113) r_p4 ak111.2
              refine GO.aload_n dX12_caught_113 rfl rfl ?_
              refine GO.aload_n dX12_caught_114 rfl rfl ?_
              refine GO.getI h_x fl_RX12_709 rfl rfl dX12_caught_115 (fun l125 u126 => ?_)
              have e127 : vi V119 x 120 = vi V106 x 120 := vi_up e117 (Or.inl (K_ne h_x h112 (by decide)))
              refine GO.iconst dX12_caught_118 ?_
              refine GO.iadd dX12_caught_119 ?_
              refine GO.putI h_x fp_RX12_709 rfl (by decide +kernel) ⟨by omega, by omega⟩ (by omega) (by omega) dX12_caught_120 (fun V129 e128 => ?_)
              have ak130 := tk_fld e128 ak120.1 h_x (by decide) ak120.2
              have ak131 := tk_fld e128 ak121.1 h_x (by decide) ak121.2
              have ak132 := tk_fld e128 ak122.1 h_x (by decide) ak122.2
              have ak133 := tk_fld e128 ak123.1 h_x (by decide) ak123.2
              have ak134 := tk_fld e128 ak124.1 h_x (by decide) ak124.2
              refine GO.aload_n dX12_caught_123 rfl rfl ?_
              refine GO.getI h_x fl_RX12_709 rfl rfl dX12_caught_124 (fun l135 u136 => ?_)
              have e137 : vi V129 x 120 = (vi V119 x 120) + 1 := upd2_int e128 ⟨by omega, by omega⟩
              refine GO.iconst dX12_caught_127 ?_
              refine GO.isub dX12_caught_128 ?_
              exact GO.reti rfl rfl dX12_caught_129 ⟨rfl, _, rfl, ⟨by omega, by omega⟩, ⟨(by first | exact trivial | omega), (by first | exact MCC.no rfl | exact MCC.ok (by omega) (by omega) (by omega) ak130.2 ak131.2 ak132.2 ak133.2 ak134.2 (by omega) (by omega) (by omega) (by omega) (by omega))⟩⟩
            ·
              refine GO.iconst dX12_caught_59 ?_
              have q138 : -2147483648 ≤ vi V x 120 ∧ vi V x 120 ≤ 2147483647 := vi_ir
              have q139 : -2147483648 ≤ vi V x 91 ∧ vi V x 91 ≤ 2147483647 := vi_ir
              have q140 : -2147483648 ≤ p0 ∧ p0 ≤ 2147483647 := r_p0
              have q141 : -2147483648 ≤ p4 ∧ p4 ≤ 2147483647 := r_p4
              exact GO.reti rfl rfl dX12_caught_60 ⟨rfl, _, rfl, (ir_c rfl), ⟨(by first | exact trivial | omega), (by first | exact MCC.no rfl | exact MCC.ok (by omega) (by omega) (by omega) (rfl : ar 128 V x = ar 128 V x) (rfl : ar 129 V x = ar 129 V x) (rfl : ar 130 V x = ar 130 V x) (rfl : ar 131 V x = ar 131 V x) (rfl : ar 132 V x = ar 132 V x) (by omega) (by omega) (by omega) (by omega) (by omega))⟩⟩

set_option maxHeartbeats 1000000 in
theorem t_X12_isAhead {K : Kmap} {V : Vmap} {x : Nat} {p0 : Int} {p1 : Int} (h_x : K x = some (0, 11)) (r_p0 : ir p0) (r_p1 : ir p1) (q_0 : p0 ≥ 0) (q_1 : p0 ≤ 199) (q_2 : p1 ≥ 0) (q_3 : p1 ≤ 199) : MC mX12_isAhead K V [.ref x, ti p0, ti p1] (IP K V (fun X => (X = 0 ∨ X = 1) ∧ (X ≠ 0 → True) ∧ (X = 0 → True) ∧ (X ≠ 0 ↔ (vi V (vq V x 132) (p0).toNat < vi V (vq V x 132) (p1).toNat ∨ (vi V (vq V x 132) (p0).toNat = vi V (vq V x 132) (p1).toNat ∧ p0 ≤ p1))))) := by
  refine MC.start 0 (by decide +kernel) rfl rfl rfl (ls0 := [some (.ref x), some (ti p0), some (ti p1)]) rfl ?_
  refine GO.aload_n dX12_isAhead_0 rfl rfl ?_
  refine GO.getA (n := 200) h_x fl_RX12_316 rfl rfl rfl rfl dX12_isAhead_1 (fun hv2 h1 => ?_)
  refine GO.iload_n dX12_isAhead_4 rfl rfl ?_
  have q3 : -2147483648 ≤ p0 ∧ p0 ≤ 2147483647 := r_p0
  refine GO.iald (t := 107) rfl rfl h1 r_p0 (by omega) (by omega) dX12_isAhead_5 (fun l4 u5 => ?_)
  refine GO.aload_n dX12_isAhead_6 rfl rfl ?_
  refine GO.getRaw h_x fl_RX12_316 hv2 dX12_isAhead_7 ?_
  refine GO.iload_n dX12_isAhead_10 rfl rfl ?_
  have q8 : -2147483648 ≤ p1 ∧ p1 ≤ 2147483647 := r_p1
  refine GO.iald (t := 107) rfl rfl h1 r_p1 (by omega) (by omega) dX12_isAhead_11 (fun l9 u10 => ?_)
  refine GO.icmp_lt (tgt := 35) dX12_isAhead_12 (by decide) vi_ir vi_ir (fun c11 => ?_) (fun c11 => ?_)
  ·
    refine GO.iconst dX12_isAhead_35 ?_
    refine GO.goto (tgt := 40) dX12_isAhead_36 (by decide) ?_
    exact GO.retz rfl rfl dX12_isAhead_40 (Or.inr rfl) ⟨rfl, rfl, _, rfl, (ir_c rfl), ⟨Or.inr rfl, fun _ => trivial, fun _ => trivial, (by constructor <;> intro _ <;> omega)⟩⟩
  ·
    refine GO.aload_n dX12_isAhead_15 rfl rfl ?_
    refine GO.getRaw h_x fl_RX12_316 hv2 dX12_isAhead_16 ?_
    refine GO.iload_n dX12_isAhead_19 rfl rfl ?_
    refine GO.iald (t := 107) rfl rfl h1 r_p0 (by omega) (by omega) dX12_isAhead_20 (fun l14 u15 => ?_)
    refine GO.aload_n dX12_isAhead_21 rfl rfl ?_
    refine GO.getRaw h_x fl_RX12_316 hv2 dX12_isAhead_22 ?_
    refine GO.iload_n dX12_isAhead_25 rfl rfl ?_
    refine GO.iald (t := 107) rfl rfl h1 r_p1 (by omega) (by omega) dX12_isAhead_26 (fun l18 u19 => ?_)
    refine GO.icmp_ne (tgt := 39) dX12_isAhead_27 (by decide) vi_ir vi_ir (fun c20 => ?_) (fun c20 => ?_)
    ·
      refine GO.iconst dX12_isAhead_39 ?_
      exact GO.retz rfl rfl dX12_isAhead_40 (Or.inl rfl) ⟨rfl, rfl, _, rfl, (ir_c rfl), ⟨Or.inl rfl, fun _ => trivial, fun _ => trivial, (by constructor <;> intro _ <;> omega)⟩⟩
    ·
      refine GO.iload_n dX12_isAhead_30 rfl rfl ?_
      refine GO.iload_n dX12_isAhead_31 rfl rfl ?_
      refine GO.icmp_gt (tgt := 39) dX12_isAhead_32 (by decide) r_p0 r_p1 (fun c21 => ?_) (fun c21 => ?_)
      ·
        refine GO.iconst dX12_isAhead_39 ?_
        exact GO.retz rfl rfl dX12_isAhead_40 (Or.inl rfl) ⟨rfl, rfl, _, rfl, (ir_c rfl), ⟨Or.inl rfl, fun _ => trivial, fun _ => trivial, (by constructor <;> intro _ <;> omega)⟩⟩
      ·
        refine GO.iconst dX12_isAhead_35 ?_
        refine GO.goto (tgt := 40) dX12_isAhead_36 (by decide) ?_
        exact GO.retz rfl rfl dX12_isAhead_40 (Or.inr rfl) ⟨rfl, rfl, _, rfl, (ir_c rfl), ⟨Or.inr rfl, fun _ => trivial, fun _ => trivial, (by constructor <;> intro _ <;> omega)⟩⟩

set_option maxHeartbeats 1000000 in
theorem t_X12_over {K : Kmap} {V : Vmap} {x : Nat} (h_x : K x = some (0, 11)) : MC mX12_over K V [.ref x] (IS K (fun X V1 => (X ≥ (-2147483648) ∧ X ≤ 2147483647) ∧ (ROT V x X))) := by
  refine MC.start 6 (by decide +kernel) rfl rfl rfl (ls0 := [some (.ref x), none, none, none, none, none, none]) rfl ?_
  refine GO.useWT (fun hW_0 => ?_)
  have hc0 := (hW_0.int h_x (j := 120) (Nat.le_of_ble_eq_true rfl) rfl).2
  refine GO.iconst dX12_over_0 ?_
  refine GO.istore_n (ls1 := [some (.ref x), some (ti (-1)), none, none, none, none, none]) dX12_over_1 rfl rfl rfl ?_
  refine GO.iconst dX12_over_2 ?_
  refine GO.istore_n (ls1 := [some (.ref x), some (ti (-1)), some (ti 0), none, none, none, none]) dX12_over_3 rfl rfl rfl ?_
  refine GO.loop2 (fun i1 i2 W => (-1) ≤ i1 ∧ i1 ≤ 199 ∧ 0 ≤ i2 ∧ i2 ≤ 200 ∧ (ROV V x i1 i2) ∧ True) (fun i1 i2 => [some (.ref x), some (ti i1), some (ti i2), none, none, none, none]) (fun i1 i2 W => (2147483647 - i2).toNat) (-1) 0 ⟨by omega, by omega, by omega, by omega, (by first | exact ROV.beg (by omega)), trivial⟩ rfl (fun i1 i2 Wi1 hp13264 ih13263 => ?_)
  obtain ⟨l_i1, u_i1, l_i2, u_i2, hrv, -⟩ := hp13264
  have r_i1 : ir i1 := ⟨by omega, by omega⟩
  have r_i2 : ir i2 := ⟨by omega, by omega⟩
  show GO mX12_over K V (IS K (fun X V1 => (X ≥ (-2147483648) ∧ X ≤ 2147483647) ∧ (ROT V x X))) K Wi1 0 0 4 [some (.ref x), some (ti i1), some (ti i2), none, none, none, none] []
  refine GO.useFR (fun hFs => ?_)
  have hre := ROE.fr hFs hW_0 h_x (by decide +kernel) (by decide +kernel) (by decide +kernel) (by decide +kernel)
  refine GO.useWT (fun hWr => ?_)
  have hc120 := (hWr.int h_x (j := 120) (Nat.le_of_ble_eq_true rfl) rfl).2
  refine GO.iload_n dX12_over_4 rfl rfl ?_
  refine GO.aload_n dX12_over_5 rfl rfl ?_
  refine GO.getI h_x fl_RX12_709 rfl rfl dX12_over_6 (fun l13265 u13266 => ?_)
  refine GO.icmp_ge (tgt := 199) dX12_over_9 (by decide) r_i2 vi_ir (fun c13267 => ?_) (fun c13267 => ?_)
  ·
    refine GO.iload_n dX12_over_199 rfl rfl ?_
    exact GO.reti rfl rfl dX12_over_200 ⟨rfl, _, rfl, r_i1, ⟨(by first | exact trivial | omega), ROV.end hrv hre (by omega)⟩⟩
  ·
    refine GO.iload_n dX12_over_12 rfl rfl ?_
    refine GO.iconst dX12_over_13 ?_
    refine GO.icmp_eq (tgt := 29) dX12_over_14 (by decide) r_i1 (ir_c rfl) (fun c13268 => ?_) (fun c13268 => ?_)
    ·
      refine GO.lconst dX12_over_29 rfl ?_
      refine GO.nameL (fun z13269 hz13269 => ?_)
      refine GO.lstore_n (ls1 := [some (.ref x), some (ti i1), some (ti i2), some (.long z13269), none, none, none]) dX12_over_30 rfl rfl rfl ?_
      refine GO.iconst dX12_over_31 ?_
      refine GO.istore (ls1 := [some (.ref x), some (ti i1), some (ti i2), some (.long z13269), none, some (ti 0), none]) dX12_over_32 rfl rfl ?_
      refine GO.loop1M (fun i13271 z13270 W => 0 ≤ i13271 ∧ i13271 ≤ 200 ∧ (ROS W x i2 z13270 i13271) ∧ Wi1 = W) (fun i13271 z13270 => [some (.ref x), some (ti i1), some (ti i2), some (.long z13270), none, some (ti i13271), none]) (fun i13271 W => (2147483647 - i13271).toNat) 0 z13269 ⟨by omega, by omega, (by first | exact ROS.beg (by omega) (by assumption)), rfl⟩ rfl (fun i13271 z13270 V13962 hp13964 ih13963 => ?_)
      obtain ⟨l_i13271, u_i13271, hrs, rfl⟩ := hp13964
      have r_i13271 : ir i13271 := ⟨by omega, by omega⟩
      show GO mX12_over K V (IS K (fun X V1 => (X ≥ (-2147483648) ∧ X ≤ 2147483647) ∧ (ROT V x X))) K Wi1 0 0 34 [some (.ref x), some (ti i1), some (ti i2), some (.long z13270), none, some (ti i13271), none] []
      refine GO.iload dX12_over_34 rfl ?_
      refine GO.aload_n dX12_over_36 rfl rfl ?_
      refine GO.getI h_x fl_RX12_709 rfl rfl dX12_over_37 (fun l13965 u13966 => ?_)
      refine GO.icmp_ge (tgt := 142) dX12_over_40 (by decide) r_i13271 vi_ir (fun c13967 => ?_) (fun c13967 => ?_)
      ·
        refine GO.aload_n dX12_over_142 rfl rfl ?_
        refine GO.aload_n dX12_over_143 rfl rfl ?_
        refine GO.getA (n := 200) h_x fl_RX12_307 rfl rfl rfl rfl dX12_over_144 (fun hv13969 h13968 => ?_)
        refine GO.iload_n dX12_over_147 rfl rfl ?_
        refine GO.iald (t := 104) rfl rfl h13968 r_i2 (by omega) (by omega) dX12_over_148 (fun l13970 u13971 => ?_)
        refine GO.aload_n dX12_over_149 rfl rfl ?_
        refine GO.getA (n := 200) h_x fl_RX12_310 rfl rfl rfl rfl dX12_over_150 (fun hv13973 h13972 => ?_)
        refine GO.iload_n dX12_over_153 rfl rfl ?_
        refine GO.iald (t := 105) rfl rfl h13972 r_i2 (by omega) (by omega) dX12_over_154 (fun l13974 u13975 => ?_)
        refine GO.aload_n dX12_over_155 rfl rfl ?_
        refine GO.getA (n := 10) h_x fl_RX12_208 rfl rfl rfl rfl dX12_over_156 (fun hv13977 h13976 => ?_)
        refine GO.aload_n dX12_over_159 rfl rfl ?_
        refine GO.getA (n := 200) h_x fl_RX12_304 rfl rfl rfl rfl dX12_over_160 (fun hv13979 h13978 => ?_)
        refine GO.iload_n dX12_over_163 rfl rfl ?_
        refine GO.iald (t := 103) rfl rfl h13978 r_i2 (by omega) (by omega) dX12_over_164 (fun l13980 u13981 => ?_)
        refine GO.iald (t := 72) rfl rfl h13976 vi_ir (by omega) (by omega) dX12_over_165 (fun l13982 u13983 => ?_)
        refine GO.aload_n dX12_over_166 rfl rfl ?_
        refine GO.getA (n := 200) h_x fl_RX12_316 rfl rfl rfl rfl dX12_over_167 (fun hv13985 h13984 => ?_)
        refine GO.iload_n dX12_over_170 rfl rfl ?_
        refine GO.iald (t := 107) rfl rfl h13984 r_i2 (by omega) (by omega) dX12_over_171 (fun l13986 u13987 => ?_)
        refine GO.callV (ci := 11) (N := mX12_caughtAtMost) dX12_over_172 (RX12, TX12, 151) rfl gV_RX12_560 h_x (t_X12_caughtAtMost h_x vi_ir vi_ir vi_ir vi_ir (by omega) (by omega)) rfl [] rfl rfl (Nat.le_of_ble_eq_true rfl) rfl (k_is fun X13988 V13992 r13989 h13990 hF13991 => ?_)
        have raw_caughtAtMost := h13990.2
        have rw172 := h13990.2
        refine GO.istore (ls1 := [some (.ref x), some (ti i1), some (ti i2), some (.long z13270), none, some (ti X13988), none]) dX12_over_175 rfl rfl ?_
        refine GO.iload dX12_over_177 rfl ?_
        refine GO.iconst dX12_over_179 ?_
        refine GO.icmp_eq (tgt := 193) dX12_over_180 (by decide) r13989 (ir_c rfl) (fun c13993 => ?_) (fun c13993 => ?_)
        ·
          refine GO.iinc (X := i2) (n := 1) (Y := i2 + 1) (ls1 := [some (.ref x), some (ti i1), some (ti (i2 + 1)), some (.long z13270), none, some (ti X13988), none]) dX12_over_193 rfl rfl rfl rfl ?_
          refine GO.goto (tgt := 4) dX12_over_196 (by decide) ?_
          refine GO.drop [true, true, true, false, true, false, true] rfl ?_
          exact ih13263 i1 (i2 + 1) V13992 ⟨by omega, by omega, by omega, by omega, (by first | exact ROV.beg (by omega) | exact ROV.no hrv hre hrs (by omega) rw172 rfl rfl rfl rfl (by omega) (by omega) (fun q => by first | exact q.1 (by omega) | (have h9 := (lcm_gt (by assumption) (by assumption) (by assumption)).mpr q.2; omega)) (by omega) (by omega) (by omega) | exact ROV.hit hrv hre hrs (by omega) rw172 rfl rfl rfl rfl (by omega) (by omega) ⟨by omega, (lcm_gt (by assumption) (by assumption) (by assumption)).mp (by omega)⟩ (by first | exact Or.inl (by omega)) (by omega) (by omega) (by omega)), trivial⟩ (by show (2147483647 - (i2 + 1)).toNat < (2147483647 - i2).toNat; omega)
        ·
          refine GO.lload_n dX12_over_183 rfl rfl ?_
          refine GO.iload dX12_over_184 rfl ?_
          refine GO.i2l dX12_over_186 ?_
          refine GO.nameL (fun z13994 hz13994 => ?_)
          refine GO.lcmp dX12_over_187 ?_
          refine GO.name (fun z13995 hz13995 => ?_)
          have r13996 : ir z13995 := hz13995 ▸ th_rng _
          refine GO.if_le (tgt := 193) dX12_over_188 (by decide) r13996 (fun c13997 => ?_) (fun c13997 => ?_)
          ·
            refine GO.iinc (X := i2) (n := 1) (Y := i2 + 1) (ls1 := [some (.ref x), some (ti i1), some (ti (i2 + 1)), some (.long z13270), none, some (ti X13988), none]) dX12_over_193 rfl rfl rfl rfl ?_
            refine GO.goto (tgt := 4) dX12_over_196 (by decide) ?_
            refine GO.drop [true, true, true, false, true, false, true] rfl ?_
            exact ih13263 i1 (i2 + 1) V13992 ⟨by omega, by omega, by omega, by omega, (by first | exact ROV.beg (by omega) | exact ROV.no hrv hre hrs (by omega) rw172 rfl rfl rfl rfl (by omega) (by omega) (fun q => by first | exact q.1 (by omega) | (have h9 := (lcm_gt (by assumption) (by assumption) (by assumption)).mpr q.2; omega)) (by omega) (by omega) (by omega) | exact ROV.hit hrv hre hrs (by omega) rw172 rfl rfl rfl rfl (by omega) (by omega) ⟨by omega, (lcm_gt (by assumption) (by assumption) (by assumption)).mp (by omega)⟩ (by first | exact Or.inl (by omega)) (by omega) (by omega) (by omega)), trivial⟩ (by show (2147483647 - (i2 + 1)).toNat < (2147483647 - i2).toNat; omega)
          ·
            refine GO.iload_n dX12_over_191 rfl rfl ?_
            refine GO.istore_n (ls1 := [some (.ref x), some (ti i2), some (ti i2), some (.long z13270), none, some (ti X13988), none]) dX12_over_192 rfl rfl rfl ?_
            refine GO.iinc (X := i2) (n := 1) (Y := i2 + 1) (ls1 := [some (.ref x), some (ti i2), some (ti (i2 + 1)), some (.long z13270), none, some (ti X13988), none]) dX12_over_193 rfl rfl rfl rfl ?_
            refine GO.goto (tgt := 4) dX12_over_196 (by decide) ?_
            refine GO.drop [true, true, true, false, true, false, true] rfl ?_
            exact ih13263 i2 (i2 + 1) V13992 ⟨by omega, by omega, by omega, by omega, (by first | exact ROV.beg (by omega) | exact ROV.no hrv hre hrs (by omega) rw172 rfl rfl rfl rfl (by omega) (by omega) (fun q => by first | exact q.1 (by omega) | (have h9 := (lcm_gt (by assumption) (by assumption) (by assumption)).mpr q.2; omega)) (by omega) (by omega) (by omega) | exact ROV.hit hrv hre hrs (by omega) rw172 rfl rfl rfl rfl (by omega) (by omega) ⟨by omega, (lcm_gt (by assumption) (by assumption) (by assumption)).mp (by omega)⟩ (by first | exact Or.inl (by omega)) (by omega) (by omega) (by omega)), trivial⟩ (by show (2147483647 - (i2 + 1)).toNat < (2147483647 - i2).toNat; omega)
      ·
        refine GO.aload_n dX12_over_43 rfl rfl ?_
        refine GO.getA (n := 200) h_x fl_RX12_307 rfl rfl rfl rfl dX12_over_44 (fun hv13999 h13998 => ?_)
        refine GO.iload dX12_over_47 rfl ?_
        refine GO.iald (t := 104) rfl rfl h13998 r_i13271 (by omega) (by omega) dX12_over_49 (fun l14000 u14001 => ?_)
        refine GO.aload_n dX12_over_50 rfl rfl ?_
        refine GO.getRaw h_x fl_RX12_307 hv13999 dX12_over_51 ?_
        refine GO.iload_n dX12_over_54 rfl rfl ?_
        refine GO.iald (t := 104) rfl rfl h13998 r_i2 (by omega) (by omega) dX12_over_55 (fun l14004 u14005 => ?_)
        refine GO.icmp_ne (tgt := 103) dX12_over_56 (by decide) vi_ir vi_ir (fun c14006 => ?_) (fun c14006 => ?_)
        ·
          refine GO.iconst dX12_over_103 ?_
          refine GO.istore (ls1 := [some (.ref x), some (ti i1), some (ti i2), some (.long z13270), none, some (ti i13271), some (ti 0)]) dX12_over_104 rfl rfl ?_
          refine GO.lload_n dX12_over_106 rfl rfl ?_
          refine GO.iload dX12_over_107 rfl ?_
          refine GO.if_eq (tgt := 132) dX12_over_109 (by decide) (ir_c rfl) (fun c14007 => ?_) (fun h => by exfalso; omega)
          refine GO.iconst dX12_over_132 ?_
          refine GO.i2l dX12_over_133 ?_
          refine GO.nameL (fun z14008 hz14008 => ?_)
          refine GO.ladd dX12_over_134 ?_
          refine GO.nameL (fun z14009 hz14009 => ?_)
          refine GO.lstore_n (ls1 := [some (.ref x), some (ti i1), some (ti i2), some (.long z14009), none, some (ti i13271), some (ti 0)]) dX12_over_135 rfl rfl rfl ?_
          refine GO.iinc (X := i13271) (n := 1) (Y := i13271 + 1) (ls1 := [some (.ref x), some (ti i1), some (ti i2), some (.long z14009), none, some (ti (i13271 + 1)), some (ti 0)]) dX12_over_136 rfl rfl rfl rfl ?_
          refine GO.goto (tgt := 34) dX12_over_139 (by decide) ?_
          refine GO.drop [true, true, true, true, true, true, false] rfl ?_
          exact ih13963 (i13271 + 1) z14009 Wi1 ⟨by omega, by omega, (by first | exact ROS.beg (by omega) (by assumption) | exact ROS.no hrs (by omega) (by omega) (by omega) (by omega) (by assumption) (by assumption) (by omega) (by omega) | exact ROS.hit hrs (by omega) (by omega) (by omega) (by omega) (by assumption) (by assumption) (by omega) (by omega) (by omega) (by omega) (by omega)), rfl⟩ (by show (2147483647 - (i13271 + 1)).toNat < (2147483647 - i13271).toNat; omega)
        ·
          refine GO.aload_n dX12_over_59 rfl rfl ?_
          refine GO.getA (n := 200) h_x fl_RX12_310 rfl rfl rfl rfl dX12_over_60 (fun hv14011 h14010 => ?_)
          refine GO.iload dX12_over_63 rfl ?_
          refine GO.iald (t := 105) rfl rfl h14010 r_i13271 (by omega) (by omega) dX12_over_65 (fun l14012 u14013 => ?_)
          refine GO.aload_n dX12_over_66 rfl rfl ?_
          refine GO.getRaw h_x fl_RX12_310 hv14011 dX12_over_67 ?_
          refine GO.iload_n dX12_over_70 rfl rfl ?_
          refine GO.iald (t := 105) rfl rfl h14010 r_i2 (by omega) (by omega) dX12_over_71 (fun l14016 u14017 => ?_)
          refine GO.icmp_ne (tgt := 103) dX12_over_72 (by decide) vi_ir vi_ir (fun c14018 => ?_) (fun c14018 => ?_)
          ·
            refine GO.iconst dX12_over_103 ?_
            refine GO.istore (ls1 := [some (.ref x), some (ti i1), some (ti i2), some (.long z13270), none, some (ti i13271), some (ti 0)]) dX12_over_104 rfl rfl ?_
            refine GO.lload_n dX12_over_106 rfl rfl ?_
            refine GO.iload dX12_over_107 rfl ?_
            refine GO.if_eq (tgt := 132) dX12_over_109 (by decide) (ir_c rfl) (fun c14019 => ?_) (fun h => by exfalso; omega)
            refine GO.iconst dX12_over_132 ?_
            refine GO.i2l dX12_over_133 ?_
            refine GO.nameL (fun z14020 hz14020 => ?_)
            refine GO.ladd dX12_over_134 ?_
            refine GO.nameL (fun z14021 hz14021 => ?_)
            refine GO.lstore_n (ls1 := [some (.ref x), some (ti i1), some (ti i2), some (.long z14021), none, some (ti i13271), some (ti 0)]) dX12_over_135 rfl rfl rfl ?_
            refine GO.iinc (X := i13271) (n := 1) (Y := i13271 + 1) (ls1 := [some (.ref x), some (ti i1), some (ti i2), some (.long z14021), none, some (ti (i13271 + 1)), some (ti 0)]) dX12_over_136 rfl rfl rfl rfl ?_
            refine GO.goto (tgt := 34) dX12_over_139 (by decide) ?_
            refine GO.drop [true, true, true, true, true, true, false] rfl ?_
            exact ih13963 (i13271 + 1) z14021 Wi1 ⟨by omega, by omega, (by first | exact ROS.beg (by omega) (by assumption) | exact ROS.no hrs (by omega) (by omega) (by omega) (by omega) (by assumption) (by assumption) (by omega) (by omega) | exact ROS.hit hrs (by omega) (by omega) (by omega) (by omega) (by assumption) (by assumption) (by omega) (by omega) (by omega) (by omega) (by omega)), rfl⟩ (by show (2147483647 - (i13271 + 1)).toNat < (2147483647 - i13271).toNat; omega)
          ·
            refine GO.aload_n dX12_over_75 rfl rfl ?_
            refine GO.getA (n := 200) h_x fl_RX12_316 rfl rfl rfl rfl dX12_over_76 (fun hv14023 h14022 => ?_)
            refine GO.iload dX12_over_79 rfl ?_
            refine GO.iald (t := 107) rfl rfl h14022 r_i13271 (by omega) (by omega) dX12_over_81 (fun l14024 u14025 => ?_)
            refine GO.sipush dX12_over_82 rfl ?_
            refine GO.idivP dX12_over_85 vi_ir (ir_c rfl) (by omega) (by omega) ?_
            refine GO.aload_n dX12_over_86 rfl rfl ?_
            refine GO.getRaw h_x fl_RX12_316 hv14023 dX12_over_87 ?_
            refine GO.iload_n dX12_over_90 rfl rfl ?_
            refine GO.iald (t := 107) rfl rfl h14022 r_i2 (by omega) (by omega) dX12_over_91 (fun l14028 u14029 => ?_)
            refine GO.sipush dX12_over_92 rfl ?_
            refine GO.idivP dX12_over_95 vi_ir (ir_c rfl) (by omega) (by omega) ?_
            refine GO.icmp_ne (tgt := 103) dX12_over_96 (by decide) ⟨by omega, by omega⟩ ⟨by omega, by omega⟩ (fun c14030 => ?_) (fun c14030 => ?_)
            ·
              refine GO.iconst dX12_over_103 ?_
              refine GO.istore (ls1 := [some (.ref x), some (ti i1), some (ti i2), some (.long z13270), none, some (ti i13271), some (ti 0)]) dX12_over_104 rfl rfl ?_
              refine GO.lload_n dX12_over_106 rfl rfl ?_
              refine GO.iload dX12_over_107 rfl ?_
              refine GO.if_eq (tgt := 132) dX12_over_109 (by decide) (ir_c rfl) (fun c14031 => ?_) (fun h => by exfalso; omega)
              refine GO.iconst dX12_over_132 ?_
              refine GO.i2l dX12_over_133 ?_
              refine GO.nameL (fun z14032 hz14032 => ?_)
              refine GO.ladd dX12_over_134 ?_
              refine GO.nameL (fun z14033 hz14033 => ?_)
              refine GO.lstore_n (ls1 := [some (.ref x), some (ti i1), some (ti i2), some (.long z14033), none, some (ti i13271), some (ti 0)]) dX12_over_135 rfl rfl rfl ?_
              refine GO.iinc (X := i13271) (n := 1) (Y := i13271 + 1) (ls1 := [some (.ref x), some (ti i1), some (ti i2), some (.long z14033), none, some (ti (i13271 + 1)), some (ti 0)]) dX12_over_136 rfl rfl rfl rfl ?_
              refine GO.goto (tgt := 34) dX12_over_139 (by decide) ?_
              refine GO.drop [true, true, true, true, true, true, false] rfl ?_
              exact ih13963 (i13271 + 1) z14033 Wi1 ⟨by omega, by omega, (by first | exact ROS.beg (by omega) (by assumption) | exact ROS.no hrs (by omega) (by omega) (by omega) (by omega) (by assumption) (by assumption) (by omega) (by omega) | exact ROS.hit hrs (by omega) (by omega) (by omega) (by omega) (by assumption) (by assumption) (by omega) (by omega) (by omega) (by omega) (by omega)), rfl⟩ (by show (2147483647 - (i13271 + 1)).toNat < (2147483647 - i13271).toNat; omega)
            ·
              refine GO.iconst dX12_over_99 ?_
              refine GO.goto (tgt := 104) dX12_over_100 (by decide) ?_
              refine GO.istore (ls1 := [some (.ref x), some (ti i1), some (ti i2), some (.long z13270), none, some (ti i13271), some (ti 1)]) dX12_over_104 rfl rfl ?_
              refine GO.lload_n dX12_over_106 rfl rfl ?_
              refine GO.iload dX12_over_107 rfl ?_
              refine GO.if_eq (tgt := 132) dX12_over_109 (by decide) (ir_c rfl) (fun h => by exfalso; omega) (fun c14034 => ?_)
              refine GO.aload_n dX12_over_112 rfl rfl ?_
              refine GO.iload dX12_over_113 rfl ?_
              refine GO.iload_n dX12_over_115 rfl rfl ?_
              refine GO.callV (ci := 11) (N := mX12_isAhead) dX12_over_116 (RX12, TX12, 151) rfl gV_RX12_712 h_x (t_X12_isAhead h_x r_i13271 r_i2 (by omega) (by omega) (by omega) (by omega)) rfl [.long z13270] rfl rfl (Nat.le_of_ble_eq_true rfl) rfl (k_ip fun X14035 r14036 h14037 => ?_)
              have raw_isAhead := h14037.2.2.2
              have rw116 := h14037.2.2.2
              refine GO.if_eq (tgt := 132) dX12_over_119 (by decide) r14036 (fun c14038 => ?_) (fun c14038 => ?_)
              ·
                refine GO.iconst dX12_over_132 ?_
                refine GO.i2l dX12_over_133 ?_
                refine GO.nameL (fun z14039 hz14039 => ?_)
                refine GO.ladd dX12_over_134 ?_
                refine GO.nameL (fun z14040 hz14040 => ?_)
                refine GO.lstore_n (ls1 := [some (.ref x), some (ti i1), some (ti i2), some (.long z14040), none, some (ti i13271), some (ti 1)]) dX12_over_135 rfl rfl rfl ?_
                refine GO.iinc (X := i13271) (n := 1) (Y := i13271 + 1) (ls1 := [some (.ref x), some (ti i1), some (ti i2), some (.long z14040), none, some (ti (i13271 + 1)), some (ti 1)]) dX12_over_136 rfl rfl rfl rfl ?_
                refine GO.goto (tgt := 34) dX12_over_139 (by decide) ?_
                refine GO.drop [true, true, true, true, true, true, false] rfl ?_
                exact ih13963 (i13271 + 1) z14040 Wi1 ⟨by omega, by omega, (by first | exact ROS.beg (by omega) (by assumption) | exact ROS.no hrs (by omega) (by omega) (by omega) (by omega) (by assumption) (by assumption) (by omega) (by omega) | exact ROS.hit hrs (by omega) (by omega) (by omega) (by omega) (by assumption) (by assumption) (by omega) (by omega) (by omega) (by omega) (by omega)), rfl⟩ (by show (2147483647 - (i13271 + 1)).toNat < (2147483647 - i13271).toNat; omega)
              ·
                refine GO.aload_n dX12_over_122 rfl rfl ?_
                refine GO.getA (n := 200) h_x fl_RX12_313 rfl rfl rfl rfl dX12_over_123 (fun hv14042 h14041 => ?_)
                refine GO.iload dX12_over_126 rfl ?_
                refine GO.iald (t := 106) rfl rfl h14041 r_i13271 (by omega) (by omega) dX12_over_128 (fun _ _ => ?_)
                refine GO.goto (tgt := 133) dX12_over_129 (by decide) ?_
                refine GO.i2l dX12_over_133 ?_
                refine GO.nameL (fun z14043 hz14043 => ?_)
                refine GO.ladd dX12_over_134 ?_
                refine GO.nameL (fun z14044 hz14044 => ?_)
                refine GO.lstore_n (ls1 := [some (.ref x), some (ti i1), some (ti i2), some (.long z14044), none, some (ti i13271), some (ti 1)]) dX12_over_135 rfl rfl rfl ?_
                refine GO.iinc (X := i13271) (n := 1) (Y := i13271 + 1) (ls1 := [some (.ref x), some (ti i1), some (ti i2), some (.long z14044), none, some (ti (i13271 + 1)), some (ti 1)]) dX12_over_136 rfl rfl rfl rfl ?_
                refine GO.goto (tgt := 34) dX12_over_139 (by decide) ?_
                refine GO.drop [true, true, true, true, true, true, false] rfl ?_
                exact ih13963 (i13271 + 1) z14044 Wi1 ⟨by omega, by omega, (by first | exact ROS.beg (by omega) (by assumption) | exact ROS.no hrs (by omega) (by omega) (by omega) (by omega) (by assumption) (by assumption) (by omega) (by omega) | exact ROS.hit hrs (by omega) (by omega) (by omega) (by omega) (by assumption) (by assumption) (by omega) (by omega) (by omega) (by omega) (by omega)), rfl⟩ (by show (2147483647 - (i13271 + 1)).toNat < (2147483647 - i13271).toNat; omega)
    ·
      refine GO.aload_n dX12_over_17 rfl rfl ?_
      refine GO.iload_n dX12_over_18 rfl rfl ?_
      refine GO.iload_n dX12_over_19 rfl rfl ?_
      refine GO.callV (ci := 11) (N := mX12_isAhead) dX12_over_20 (RX12, TX12, 151) rfl gV_RX12_712 h_x (t_X12_isAhead h_x r_i1 r_i2 (by omega) (by omega) (by omega) (by omega)) rfl [] rfl rfl (Nat.le_of_ble_eq_true rfl) rfl (k_ip fun X14045 r14046 h14047 => ?_)
      have raw_isAhead := h14047.2.2.2
      have rw20 := h14047.2.2.2
      refine GO.if_eq (tgt := 29) dX12_over_23 (by decide) r14046 (fun c14048 => ?_) (fun c14048 => ?_)
      ·
        refine GO.lconst dX12_over_29 rfl ?_
        refine GO.nameL (fun z14049 hz14049 => ?_)
        refine GO.lstore_n (ls1 := [some (.ref x), some (ti i1), some (ti i2), some (.long z14049), none, none, none]) dX12_over_30 rfl rfl rfl ?_
        refine GO.iconst dX12_over_31 ?_
        refine GO.istore (ls1 := [some (.ref x), some (ti i1), some (ti i2), some (.long z14049), none, some (ti 0), none]) dX12_over_32 rfl rfl ?_
        refine GO.loop1M (fun i14051 z14050 W => 0 ≤ i14051 ∧ i14051 ≤ 200 ∧ (ROS W x i2 z14050 i14051) ∧ Wi1 = W) (fun i14051 z14050 => [some (.ref x), some (ti i1), some (ti i2), some (.long z14050), none, some (ti i14051), none]) (fun i14051 W => (2147483647 - i14051).toNat) 0 z14049 ⟨by omega, by omega, (by first | exact ROS.beg (by omega) (by assumption)), rfl⟩ rfl (fun i14051 z14050 V14742 hp14744 ih14743 => ?_)
        obtain ⟨l_i14051, u_i14051, hrs, rfl⟩ := hp14744
        have r_i14051 : ir i14051 := ⟨by omega, by omega⟩
        show GO mX12_over K V (IS K (fun X V1 => (X ≥ (-2147483648) ∧ X ≤ 2147483647) ∧ (ROT V x X))) K Wi1 0 0 34 [some (.ref x), some (ti i1), some (ti i2), some (.long z14050), none, some (ti i14051), none] []
        refine GO.iload dX12_over_34 rfl ?_
        refine GO.aload_n dX12_over_36 rfl rfl ?_
        refine GO.getI h_x fl_RX12_709 rfl rfl dX12_over_37 (fun l14745 u14746 => ?_)
        refine GO.icmp_ge (tgt := 142) dX12_over_40 (by decide) r_i14051 vi_ir (fun c14747 => ?_) (fun c14747 => ?_)
        ·
          refine GO.aload_n dX12_over_142 rfl rfl ?_
          refine GO.aload_n dX12_over_143 rfl rfl ?_
          refine GO.getA (n := 200) h_x fl_RX12_307 rfl rfl rfl rfl dX12_over_144 (fun hv14749 h14748 => ?_)
          refine GO.iload_n dX12_over_147 rfl rfl ?_
          refine GO.iald (t := 104) rfl rfl h14748 r_i2 (by omega) (by omega) dX12_over_148 (fun l14750 u14751 => ?_)
          refine GO.aload_n dX12_over_149 rfl rfl ?_
          refine GO.getA (n := 200) h_x fl_RX12_310 rfl rfl rfl rfl dX12_over_150 (fun hv14753 h14752 => ?_)
          refine GO.iload_n dX12_over_153 rfl rfl ?_
          refine GO.iald (t := 105) rfl rfl h14752 r_i2 (by omega) (by omega) dX12_over_154 (fun l14754 u14755 => ?_)
          refine GO.aload_n dX12_over_155 rfl rfl ?_
          refine GO.getA (n := 10) h_x fl_RX12_208 rfl rfl rfl rfl dX12_over_156 (fun hv14757 h14756 => ?_)
          refine GO.aload_n dX12_over_159 rfl rfl ?_
          refine GO.getA (n := 200) h_x fl_RX12_304 rfl rfl rfl rfl dX12_over_160 (fun hv14759 h14758 => ?_)
          refine GO.iload_n dX12_over_163 rfl rfl ?_
          refine GO.iald (t := 103) rfl rfl h14758 r_i2 (by omega) (by omega) dX12_over_164 (fun l14760 u14761 => ?_)
          refine GO.iald (t := 72) rfl rfl h14756 vi_ir (by omega) (by omega) dX12_over_165 (fun l14762 u14763 => ?_)
          refine GO.aload_n dX12_over_166 rfl rfl ?_
          refine GO.getA (n := 200) h_x fl_RX12_316 rfl rfl rfl rfl dX12_over_167 (fun hv14765 h14764 => ?_)
          refine GO.iload_n dX12_over_170 rfl rfl ?_
          refine GO.iald (t := 107) rfl rfl h14764 r_i2 (by omega) (by omega) dX12_over_171 (fun l14766 u14767 => ?_)
          refine GO.callV (ci := 11) (N := mX12_caughtAtMost) dX12_over_172 (RX12, TX12, 151) rfl gV_RX12_560 h_x (t_X12_caughtAtMost h_x vi_ir vi_ir vi_ir vi_ir (by omega) (by omega)) rfl [] rfl rfl (Nat.le_of_ble_eq_true rfl) rfl (k_is fun X14768 V14772 r14769 h14770 hF14771 => ?_)
          have raw_caughtAtMost := h14770.2
          have rw172 := h14770.2
          refine GO.istore (ls1 := [some (.ref x), some (ti i1), some (ti i2), some (.long z14050), none, some (ti X14768), none]) dX12_over_175 rfl rfl ?_
          refine GO.iload dX12_over_177 rfl ?_
          refine GO.iconst dX12_over_179 ?_
          refine GO.icmp_eq (tgt := 193) dX12_over_180 (by decide) r14769 (ir_c rfl) (fun c14773 => ?_) (fun c14773 => ?_)
          ·
            refine GO.iinc (X := i2) (n := 1) (Y := i2 + 1) (ls1 := [some (.ref x), some (ti i1), some (ti (i2 + 1)), some (.long z14050), none, some (ti X14768), none]) dX12_over_193 rfl rfl rfl rfl ?_
            refine GO.goto (tgt := 4) dX12_over_196 (by decide) ?_
            refine GO.drop [true, true, true, false, true, false, true] rfl ?_
            exact ih13263 i1 (i2 + 1) V14772 ⟨by omega, by omega, by omega, by omega, (by first | exact ROV.beg (by omega) | exact ROV.late hrv hre (by omega) (rw20.mp (by omega)) (by omega) (by omega) (by omega) | exact ROV.no hrv hre hrs (by omega) rw172 rfl rfl rfl rfl (by omega) (by omega) (fun q => by first | exact q.1 (by omega) | (have h9 := (lcm_gt (by assumption) (by assumption) (by assumption)).mpr q.2; omega)) (by omega) (by omega) (by omega) | exact ROV.hit hrv hre hrs (by omega) rw172 rfl rfl rfl rfl (by omega) (by omega) ⟨by omega, (lcm_gt (by assumption) (by assumption) (by assumption)).mp (by omega)⟩ (by first | exact Or.inl (by omega) | exact Or.inr (fun q => absurd (rw20.mpr q) (by omega))) (by omega) (by omega) (by omega)), trivial⟩ (by show (2147483647 - (i2 + 1)).toNat < (2147483647 - i2).toNat; omega)
          ·
            refine GO.lload_n dX12_over_183 rfl rfl ?_
            refine GO.iload dX12_over_184 rfl ?_
            refine GO.i2l dX12_over_186 ?_
            refine GO.nameL (fun z14774 hz14774 => ?_)
            refine GO.lcmp dX12_over_187 ?_
            refine GO.name (fun z14775 hz14775 => ?_)
            have r14776 : ir z14775 := hz14775 ▸ th_rng _
            refine GO.if_le (tgt := 193) dX12_over_188 (by decide) r14776 (fun c14777 => ?_) (fun c14777 => ?_)
            ·
              refine GO.iinc (X := i2) (n := 1) (Y := i2 + 1) (ls1 := [some (.ref x), some (ti i1), some (ti (i2 + 1)), some (.long z14050), none, some (ti X14768), none]) dX12_over_193 rfl rfl rfl rfl ?_
              refine GO.goto (tgt := 4) dX12_over_196 (by decide) ?_
              refine GO.drop [true, true, true, false, true, false, true] rfl ?_
              exact ih13263 i1 (i2 + 1) V14772 ⟨by omega, by omega, by omega, by omega, (by first | exact ROV.beg (by omega) | exact ROV.late hrv hre (by omega) (rw20.mp (by omega)) (by omega) (by omega) (by omega) | exact ROV.no hrv hre hrs (by omega) rw172 rfl rfl rfl rfl (by omega) (by omega) (fun q => by first | exact q.1 (by omega) | (have h9 := (lcm_gt (by assumption) (by assumption) (by assumption)).mpr q.2; omega)) (by omega) (by omega) (by omega) | exact ROV.hit hrv hre hrs (by omega) rw172 rfl rfl rfl rfl (by omega) (by omega) ⟨by omega, (lcm_gt (by assumption) (by assumption) (by assumption)).mp (by omega)⟩ (by first | exact Or.inl (by omega) | exact Or.inr (fun q => absurd (rw20.mpr q) (by omega))) (by omega) (by omega) (by omega)), trivial⟩ (by show (2147483647 - (i2 + 1)).toNat < (2147483647 - i2).toNat; omega)
            ·
              refine GO.iload_n dX12_over_191 rfl rfl ?_
              refine GO.istore_n (ls1 := [some (.ref x), some (ti i2), some (ti i2), some (.long z14050), none, some (ti X14768), none]) dX12_over_192 rfl rfl rfl ?_
              refine GO.iinc (X := i2) (n := 1) (Y := i2 + 1) (ls1 := [some (.ref x), some (ti i2), some (ti (i2 + 1)), some (.long z14050), none, some (ti X14768), none]) dX12_over_193 rfl rfl rfl rfl ?_
              refine GO.goto (tgt := 4) dX12_over_196 (by decide) ?_
              refine GO.drop [true, true, true, false, true, false, true] rfl ?_
              exact ih13263 i2 (i2 + 1) V14772 ⟨by omega, by omega, by omega, by omega, (by first | exact ROV.beg (by omega) | exact ROV.late hrv hre (by omega) (rw20.mp (by omega)) (by omega) (by omega) (by omega) | exact ROV.no hrv hre hrs (by omega) rw172 rfl rfl rfl rfl (by omega) (by omega) (fun q => by first | exact q.1 (by omega) | (have h9 := (lcm_gt (by assumption) (by assumption) (by assumption)).mpr q.2; omega)) (by omega) (by omega) (by omega) | exact ROV.hit hrv hre hrs (by omega) rw172 rfl rfl rfl rfl (by omega) (by omega) ⟨by omega, (lcm_gt (by assumption) (by assumption) (by assumption)).mp (by omega)⟩ (by first | exact Or.inl (by omega) | exact Or.inr (fun q => absurd (rw20.mpr q) (by omega))) (by omega) (by omega) (by omega)), trivial⟩ (by show (2147483647 - (i2 + 1)).toNat < (2147483647 - i2).toNat; omega)
        ·
          refine GO.aload_n dX12_over_43 rfl rfl ?_
          refine GO.getA (n := 200) h_x fl_RX12_307 rfl rfl rfl rfl dX12_over_44 (fun hv14779 h14778 => ?_)
          refine GO.iload dX12_over_47 rfl ?_
          refine GO.iald (t := 104) rfl rfl h14778 r_i14051 (by omega) (by omega) dX12_over_49 (fun l14780 u14781 => ?_)
          refine GO.aload_n dX12_over_50 rfl rfl ?_
          refine GO.getRaw h_x fl_RX12_307 hv14779 dX12_over_51 ?_
          refine GO.iload_n dX12_over_54 rfl rfl ?_
          refine GO.iald (t := 104) rfl rfl h14778 r_i2 (by omega) (by omega) dX12_over_55 (fun l14784 u14785 => ?_)
          refine GO.icmp_ne (tgt := 103) dX12_over_56 (by decide) vi_ir vi_ir (fun c14786 => ?_) (fun c14786 => ?_)
          ·
            refine GO.iconst dX12_over_103 ?_
            refine GO.istore (ls1 := [some (.ref x), some (ti i1), some (ti i2), some (.long z14050), none, some (ti i14051), some (ti 0)]) dX12_over_104 rfl rfl ?_
            refine GO.lload_n dX12_over_106 rfl rfl ?_
            refine GO.iload dX12_over_107 rfl ?_
            refine GO.if_eq (tgt := 132) dX12_over_109 (by decide) (ir_c rfl) (fun c14787 => ?_) (fun h => by exfalso; omega)
            refine GO.iconst dX12_over_132 ?_
            refine GO.i2l dX12_over_133 ?_
            refine GO.nameL (fun z14788 hz14788 => ?_)
            refine GO.ladd dX12_over_134 ?_
            refine GO.nameL (fun z14789 hz14789 => ?_)
            refine GO.lstore_n (ls1 := [some (.ref x), some (ti i1), some (ti i2), some (.long z14789), none, some (ti i14051), some (ti 0)]) dX12_over_135 rfl rfl rfl ?_
            refine GO.iinc (X := i14051) (n := 1) (Y := i14051 + 1) (ls1 := [some (.ref x), some (ti i1), some (ti i2), some (.long z14789), none, some (ti (i14051 + 1)), some (ti 0)]) dX12_over_136 rfl rfl rfl rfl ?_
            refine GO.goto (tgt := 34) dX12_over_139 (by decide) ?_
            refine GO.drop [true, true, true, true, true, true, false] rfl ?_
            exact ih14743 (i14051 + 1) z14789 Wi1 ⟨by omega, by omega, (by first | exact ROS.beg (by omega) (by assumption) | exact ROS.no hrs (by omega) (by omega) (by omega) (by omega) (by assumption) (by assumption) (by omega) (by omega) | exact ROS.hit hrs (by omega) (by omega) (by omega) (by omega) (by assumption) (by assumption) (by omega) (by omega) (by omega) (by omega) (by omega)), rfl⟩ (by show (2147483647 - (i14051 + 1)).toNat < (2147483647 - i14051).toNat; omega)
          ·
            refine GO.aload_n dX12_over_59 rfl rfl ?_
            refine GO.getA (n := 200) h_x fl_RX12_310 rfl rfl rfl rfl dX12_over_60 (fun hv14791 h14790 => ?_)
            refine GO.iload dX12_over_63 rfl ?_
            refine GO.iald (t := 105) rfl rfl h14790 r_i14051 (by omega) (by omega) dX12_over_65 (fun l14792 u14793 => ?_)
            refine GO.aload_n dX12_over_66 rfl rfl ?_
            refine GO.getRaw h_x fl_RX12_310 hv14791 dX12_over_67 ?_
            refine GO.iload_n dX12_over_70 rfl rfl ?_
            refine GO.iald (t := 105) rfl rfl h14790 r_i2 (by omega) (by omega) dX12_over_71 (fun l14796 u14797 => ?_)
            refine GO.icmp_ne (tgt := 103) dX12_over_72 (by decide) vi_ir vi_ir (fun c14798 => ?_) (fun c14798 => ?_)
            ·
              refine GO.iconst dX12_over_103 ?_
              refine GO.istore (ls1 := [some (.ref x), some (ti i1), some (ti i2), some (.long z14050), none, some (ti i14051), some (ti 0)]) dX12_over_104 rfl rfl ?_
              refine GO.lload_n dX12_over_106 rfl rfl ?_
              refine GO.iload dX12_over_107 rfl ?_
              refine GO.if_eq (tgt := 132) dX12_over_109 (by decide) (ir_c rfl) (fun c14799 => ?_) (fun h => by exfalso; omega)
              refine GO.iconst dX12_over_132 ?_
              refine GO.i2l dX12_over_133 ?_
              refine GO.nameL (fun z14800 hz14800 => ?_)
              refine GO.ladd dX12_over_134 ?_
              refine GO.nameL (fun z14801 hz14801 => ?_)
              refine GO.lstore_n (ls1 := [some (.ref x), some (ti i1), some (ti i2), some (.long z14801), none, some (ti i14051), some (ti 0)]) dX12_over_135 rfl rfl rfl ?_
              refine GO.iinc (X := i14051) (n := 1) (Y := i14051 + 1) (ls1 := [some (.ref x), some (ti i1), some (ti i2), some (.long z14801), none, some (ti (i14051 + 1)), some (ti 0)]) dX12_over_136 rfl rfl rfl rfl ?_
              refine GO.goto (tgt := 34) dX12_over_139 (by decide) ?_
              refine GO.drop [true, true, true, true, true, true, false] rfl ?_
              exact ih14743 (i14051 + 1) z14801 Wi1 ⟨by omega, by omega, (by first | exact ROS.beg (by omega) (by assumption) | exact ROS.no hrs (by omega) (by omega) (by omega) (by omega) (by assumption) (by assumption) (by omega) (by omega) | exact ROS.hit hrs (by omega) (by omega) (by omega) (by omega) (by assumption) (by assumption) (by omega) (by omega) (by omega) (by omega) (by omega)), rfl⟩ (by show (2147483647 - (i14051 + 1)).toNat < (2147483647 - i14051).toNat; omega)
            ·
              refine GO.aload_n dX12_over_75 rfl rfl ?_
              refine GO.getA (n := 200) h_x fl_RX12_316 rfl rfl rfl rfl dX12_over_76 (fun hv14803 h14802 => ?_)
              refine GO.iload dX12_over_79 rfl ?_
              refine GO.iald (t := 107) rfl rfl h14802 r_i14051 (by omega) (by omega) dX12_over_81 (fun l14804 u14805 => ?_)
              refine GO.sipush dX12_over_82 rfl ?_
              refine GO.idivP dX12_over_85 vi_ir (ir_c rfl) (by omega) (by omega) ?_
              refine GO.aload_n dX12_over_86 rfl rfl ?_
              refine GO.getRaw h_x fl_RX12_316 hv14803 dX12_over_87 ?_
              refine GO.iload_n dX12_over_90 rfl rfl ?_
              refine GO.iald (t := 107) rfl rfl h14802 r_i2 (by omega) (by omega) dX12_over_91 (fun l14808 u14809 => ?_)
              refine GO.sipush dX12_over_92 rfl ?_
              refine GO.idivP dX12_over_95 vi_ir (ir_c rfl) (by omega) (by omega) ?_
              refine GO.icmp_ne (tgt := 103) dX12_over_96 (by decide) ⟨by omega, by omega⟩ ⟨by omega, by omega⟩ (fun c14810 => ?_) (fun c14810 => ?_)
              ·
                refine GO.iconst dX12_over_103 ?_
                refine GO.istore (ls1 := [some (.ref x), some (ti i1), some (ti i2), some (.long z14050), none, some (ti i14051), some (ti 0)]) dX12_over_104 rfl rfl ?_
                refine GO.lload_n dX12_over_106 rfl rfl ?_
                refine GO.iload dX12_over_107 rfl ?_
                refine GO.if_eq (tgt := 132) dX12_over_109 (by decide) (ir_c rfl) (fun c14811 => ?_) (fun h => by exfalso; omega)
                refine GO.iconst dX12_over_132 ?_
                refine GO.i2l dX12_over_133 ?_
                refine GO.nameL (fun z14812 hz14812 => ?_)
                refine GO.ladd dX12_over_134 ?_
                refine GO.nameL (fun z14813 hz14813 => ?_)
                refine GO.lstore_n (ls1 := [some (.ref x), some (ti i1), some (ti i2), some (.long z14813), none, some (ti i14051), some (ti 0)]) dX12_over_135 rfl rfl rfl ?_
                refine GO.iinc (X := i14051) (n := 1) (Y := i14051 + 1) (ls1 := [some (.ref x), some (ti i1), some (ti i2), some (.long z14813), none, some (ti (i14051 + 1)), some (ti 0)]) dX12_over_136 rfl rfl rfl rfl ?_
                refine GO.goto (tgt := 34) dX12_over_139 (by decide) ?_
                refine GO.drop [true, true, true, true, true, true, false] rfl ?_
                exact ih14743 (i14051 + 1) z14813 Wi1 ⟨by omega, by omega, (by first | exact ROS.beg (by omega) (by assumption) | exact ROS.no hrs (by omega) (by omega) (by omega) (by omega) (by assumption) (by assumption) (by omega) (by omega) | exact ROS.hit hrs (by omega) (by omega) (by omega) (by omega) (by assumption) (by assumption) (by omega) (by omega) (by omega) (by omega) (by omega)), rfl⟩ (by show (2147483647 - (i14051 + 1)).toNat < (2147483647 - i14051).toNat; omega)
              ·
                refine GO.iconst dX12_over_99 ?_
                refine GO.goto (tgt := 104) dX12_over_100 (by decide) ?_
                refine GO.istore (ls1 := [some (.ref x), some (ti i1), some (ti i2), some (.long z14050), none, some (ti i14051), some (ti 1)]) dX12_over_104 rfl rfl ?_
                refine GO.lload_n dX12_over_106 rfl rfl ?_
                refine GO.iload dX12_over_107 rfl ?_
                refine GO.if_eq (tgt := 132) dX12_over_109 (by decide) (ir_c rfl) (fun h => by exfalso; omega) (fun c14814 => ?_)
                refine GO.aload_n dX12_over_112 rfl rfl ?_
                refine GO.iload dX12_over_113 rfl ?_
                refine GO.iload_n dX12_over_115 rfl rfl ?_
                refine GO.callV (ci := 11) (N := mX12_isAhead) dX12_over_116 (RX12, TX12, 151) rfl gV_RX12_712 h_x (t_X12_isAhead h_x r_i14051 r_i2 (by omega) (by omega) (by omega) (by omega)) rfl [.long z14050] rfl rfl (Nat.le_of_ble_eq_true rfl) rfl (k_ip fun X14815 r14816 h14817 => ?_)
                have raw_isAhead := h14817.2.2.2
                have rw116 := h14817.2.2.2
                refine GO.if_eq (tgt := 132) dX12_over_119 (by decide) r14816 (fun c14818 => ?_) (fun c14818 => ?_)
                ·
                  refine GO.iconst dX12_over_132 ?_
                  refine GO.i2l dX12_over_133 ?_
                  refine GO.nameL (fun z14819 hz14819 => ?_)
                  refine GO.ladd dX12_over_134 ?_
                  refine GO.nameL (fun z14820 hz14820 => ?_)
                  refine GO.lstore_n (ls1 := [some (.ref x), some (ti i1), some (ti i2), some (.long z14820), none, some (ti i14051), some (ti 1)]) dX12_over_135 rfl rfl rfl ?_
                  refine GO.iinc (X := i14051) (n := 1) (Y := i14051 + 1) (ls1 := [some (.ref x), some (ti i1), some (ti i2), some (.long z14820), none, some (ti (i14051 + 1)), some (ti 1)]) dX12_over_136 rfl rfl rfl rfl ?_
                  refine GO.goto (tgt := 34) dX12_over_139 (by decide) ?_
                  refine GO.drop [true, true, true, true, true, true, false] rfl ?_
                  exact ih14743 (i14051 + 1) z14820 Wi1 ⟨by omega, by omega, (by first | exact ROS.beg (by omega) (by assumption) | exact ROS.no hrs (by omega) (by omega) (by omega) (by omega) (by assumption) (by assumption) (by omega) (by omega) | exact ROS.hit hrs (by omega) (by omega) (by omega) (by omega) (by assumption) (by assumption) (by omega) (by omega) (by omega) (by omega) (by omega)), rfl⟩ (by show (2147483647 - (i14051 + 1)).toNat < (2147483647 - i14051).toNat; omega)
                ·
                  refine GO.aload_n dX12_over_122 rfl rfl ?_
                  refine GO.getA (n := 200) h_x fl_RX12_313 rfl rfl rfl rfl dX12_over_123 (fun hv14822 h14821 => ?_)
                  refine GO.iload dX12_over_126 rfl ?_
                  refine GO.iald (t := 106) rfl rfl h14821 r_i14051 (by omega) (by omega) dX12_over_128 (fun _ _ => ?_)
                  refine GO.goto (tgt := 133) dX12_over_129 (by decide) ?_
                  refine GO.i2l dX12_over_133 ?_
                  refine GO.nameL (fun z14823 hz14823 => ?_)
                  refine GO.ladd dX12_over_134 ?_
                  refine GO.nameL (fun z14824 hz14824 => ?_)
                  refine GO.lstore_n (ls1 := [some (.ref x), some (ti i1), some (ti i2), some (.long z14824), none, some (ti i14051), some (ti 1)]) dX12_over_135 rfl rfl rfl ?_
                  refine GO.iinc (X := i14051) (n := 1) (Y := i14051 + 1) (ls1 := [some (.ref x), some (ti i1), some (ti i2), some (.long z14824), none, some (ti (i14051 + 1)), some (ti 1)]) dX12_over_136 rfl rfl rfl rfl ?_
                  refine GO.goto (tgt := 34) dX12_over_139 (by decide) ?_
                  refine GO.drop [true, true, true, true, true, true, false] rfl ?_
                  exact ih14743 (i14051 + 1) z14824 Wi1 ⟨by omega, by omega, (by first | exact ROS.beg (by omega) (by assumption) | exact ROS.no hrs (by omega) (by omega) (by omega) (by omega) (by assumption) (by assumption) (by omega) (by omega) | exact ROS.hit hrs (by omega) (by omega) (by omega) (by omega) (by assumption) (by assumption) (by omega) (by omega) (by omega) (by omega) (by omega)), rfl⟩ (by show (2147483647 - (i14051 + 1)).toNat < (2147483647 - i14051).toNat; omega)
      ·
        refine GO.goto (tgt := 193) dX12_over_26 (by decide) ?_
        refine GO.iinc (X := i2) (n := 1) (Y := i2 + 1) (ls1 := [some (.ref x), some (ti i1), some (ti (i2 + 1)), none, none, none, none]) dX12_over_193 rfl rfl rfl rfl ?_
        refine GO.goto (tgt := 4) dX12_over_196 (by decide) ?_
        exact ih13263 i1 (i2 + 1) Wi1 ⟨by omega, by omega, by omega, by omega, (by first | exact ROV.beg (by omega) | exact ROV.late hrv hre (by omega) (rw20.mp (by omega)) (by omega) (by omega) (by omega)), trivial⟩ (by show (2147483647 - (i2 + 1)).toNat < (2147483647 - i2).toNat; omega)
