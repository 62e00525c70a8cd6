def mX12_birds : MRec := (RX12, cX12_birds, 4, (some .boolean), yX12_birds, 1, 22, 0, 0, 2037035976334486086268445688409378161051468393665936250636140449354381299763336706183397376)
def mX12_part : MRec := (RX12, cX12_part, 2, (some .int), yX12_part, 0, 0, 0, 0, 0)
def mX12_loss : MRec := (RX12, cX12_loss, 9, (some .int), yX12_loss, 1, 22, 0, 0, 0)
def mX12_noise : MRec := (RX12, cX12_noise, 3, (some .int), yX12_noise, 1, 22, 0, 0, 0)
def mX12_caught : MRec := (RX12, cX12_caught, 6, (some .int), yX12_caught, 1, 22, 0, 0, 1192834171961160991777978753031691433552219552744263684803880705253845464151068000610935013885096624147832548360192)
def mX12_isAhead : MRec := (RX12, cX12_isAhead, 3, (some .boolean), yX12_isAhead, 0, 0, 0, 0, 0)
def mX12_over : MRec := (RX12, cX12_over, 7, (some .int), yX12_over, 3, 77, 0, 0, 410109510896814735819844167584554006003719268292477331829831988701866187349882985604408720691822592)
def mX12_isDoubt : MRec := (RX12, cX12_isDoubt, 4, (some .boolean), yX12_isDoubt, 1, 20, 0, 0, 0)
set_option maxHeartbeats 1000000 in
theorem t_X12_birds {K : Kmap} {V : Vmap} {x : Nat} {p0 : Int} {p1 : Int} {p2 : Int} (h_x : K x = some (0, 11)) (r_p0 : ir p0) (r_p1 : ir p1) (r_p2 : ir p2) : MC mX12_birds K V [.ref x, ti p0, ti p1, ti p2] (IS K (fun X V1 => (X = 0 ∨ X = 1) ∧ (X ≠ 0 → True) ∧ (X = 0 → True) ∧ (MKN V x p0 5 (0 ≤ p1 ∧ p1 ≤ 9 ∧ 0 ≤ p2 ∧ p2 ≤ 100000) X))) := by
  refine MC.start 0 (by decide +kernel) rfl rfl rfl (ls0 := [some (.ref x), some (ti p0), some (ti p1), some (ti p2)]) rfl ?_
  refine GO.aload_n dX12_birds_0 rfl rfl ?_
  refine GO.iload_n dX12_birds_1 rfl rfl ?_
  refine GO.iconst dX12_birds_2 ?_
  refine GO.callV (ci := 11) (N := mX12_isPlace) dX12_birds_3 (RX12, TX12, 151) rfl gV_RX12_399 h_x (t_X12_isPlace h_x r_p0 (ir_c rfl)) rfl [] rfl rfl (Nat.le_of_ble_eq_true rfl) rfl (k_ip fun X1 r2 h3 => ?_)
  have raw_isPlace := h3.2.2.2.1
  have rq0_3 := h3.2.2.2.2
  have rw3 := h3.2.2.2.1
  refine GO.if_eq (tgt := 30) dX12_birds_6 (by decide) r2 (fun c4 => ?_) (fun c4 => ?_)
  ·
    refine GO.iconst dX12_birds_30 ?_
    exact GO.retz rfl rfl dX12_birds_31 (Or.inl rfl) ⟨rfl, _, rfl, (ir_c rfl), ⟨Or.inl rfl, fun _ => trivial, fun _ => trivial, (by first | exact MKN.nk rq0_3 (by omega) rfl | exact MKN.np (by omega) rfl | exact MKN.ok rq0_3 (by omega) ⟨by omega, by omega, by omega, by omega⟩ (by omega))⟩⟩
  ·
    have q5 := h3.2.1 (by omega)
    refine GO.iload_n dX12_birds_9 rfl rfl ?_
    refine GO.iconst dX12_birds_10 ?_
    refine GO.bipush dX12_birds_11 rfl ?_
    refine GO.callS (N := mX12_in) dX12_birds_13 gS_RX12_371 (t_X12_in r_p1 (ir_c rfl) (ir_c rfl)) rfl [] rfl rfl (Nat.le_of_ble_eq_true rfl) rfl (k_ip fun X6 r7 h8 => ?_)
    have raw_in := h8.2.2.2
    have rw13 := h8.2.2.2
    refine GO.if_eq (tgt := 30) dX12_birds_16 (by decide) r7 (fun c9 => ?_) (fun c9 => ?_)
    ·
      have q10 := h8.2.2.1 (by omega)
      refine GO.iconst dX12_birds_30 ?_
      exact GO.retz rfl rfl dX12_birds_31 (Or.inl rfl) ⟨rfl, _, rfl, (ir_c rfl), ⟨Or.inl rfl, fun _ => trivial, fun _ => trivial, (by first | exact MKN.nk rq0_3 (by omega) rfl | exact MKN.np (by omega) rfl | exact MKN.ok rq0_3 (by omega) ⟨by omega, by omega, by omega, by omega⟩ (by omega))⟩⟩
    ·
      have q11 := h8.2.1 (by omega)
      refine GO.iload_n dX12_birds_19 rfl rfl ?_
      refine GO.iconst dX12_birds_20 ?_
      refine GO.ldcw (X := 100000) dX12_birds_21 gw_2019 rfl ?_
      refine GO.callS (N := mX12_in) dX12_birds_24 gS_RX12_371 (t_X12_in r_p2 (ir_c rfl) (ir_c rfl)) rfl [] rfl rfl (Nat.le_of_ble_eq_true rfl) rfl (k_ip fun X12 r13 h14 => ?_)
      have raw_in := h14.2.2.2
      have rw24 := h14.2.2.2
      refine GO.if_ne (tgt := 32) dX12_birds_27 (by decide) r13 (fun c15 => ?_) (fun c15 => ?_)
      ·
        have q16 := h14.2.1 (by omega)
        refine GO.aload_n dX12_birds_32 rfl rfl ?_
        refine GO.getA (n := 600) h_x fl_RX12_77 rfl rfl rfl rfl dX12_birds_33 (fun hv18 h17 => ?_)
        refine GO.bipush dX12_birds_36 rfl ?_
        refine GO.iload_n dX12_birds_38 rfl rfl ?_
        refine GO.imul dX12_birds_39 ?_
        refine GO.iload_n dX12_birds_40 rfl rfl ?_
        refine GO.iadd dX12_birds_41 ?_
        refine GO.iload_n dX12_birds_42 rfl rfl ?_
        have q19 : -2147483648 ≤ p1 ∧ p1 ≤ 2147483647 := r_p1
        have q20 : -2147483648 ≤ p0 ∧ p0 ≤ 2147483647 := r_p0
        refine GO.iast (t := 29) rfl rfl (by decide +kernel) h17 ⟨by omega, by omega⟩ (by omega) (by omega) r_p2 (r_p2).1 (r_p2).2 dX12_birds_43 (fun V22 e21 => ?_)
        refine GO.iconst dX12_birds_44 ?_
        exact GO.retz rfl rfl dX12_birds_45 (Or.inr rfl) ⟨rfl, _, rfl, (ir_c rfl), ⟨Or.inr rfl, fun _ => trivial, fun _ => trivial, (by first | exact MKN.nk rq0_3 (by omega) rfl | exact MKN.np (by omega) rfl | exact MKN.ok rq0_3 (by omega) ⟨by omega, by omega, by omega, by omega⟩ (by omega))⟩⟩
      ·
        have q23 := h14.2.2.1 (by omega)
        refine GO.iconst dX12_birds_30 ?_
        exact GO.retz rfl rfl dX12_birds_31 (Or.inl rfl) ⟨rfl, _, rfl, (ir_c rfl), ⟨Or.inl rfl, fun _ => trivial, fun _ => trivial, (by first | exact MKN.nk rq0_3 (by omega) rfl | exact MKN.np (by omega) rfl | exact MKN.ok rq0_3 (by omega) ⟨by omega, by omega, by omega, by omega⟩ (by omega))⟩⟩

set_option maxHeartbeats 1000000 in
theorem t_X12_part {K : Kmap} {V : Vmap} {p0 : Int} {p1 : Int} (r_p0 : ir p0) (r_p1 : ir p1) : MC mX12_part K V [ti p0, ti p1] (IP K V (fun X => True)) := by
  refine MC.start 0 (by decide +kernel) rfl rfl rfl (ls0 := [some (ti p0), some (ti p1)]) rfl ?_
  refine GO.iload_n dX12_part_0 rfl rfl ?_
  refine GO.iload_n dX12_part_1 rfl rfl ?_
  refine GO.imul dX12_part_2 ?_
  refine GO.norm (fun z1 r2 hn3 => ?_)
  refine GO.bipush dX12_part_3 rfl ?_
  refine GO.iadd dX12_part_5 ?_
  refine GO.norm (fun z4 r5 hn6 => ?_)
  refine GO.bipush dX12_part_6 rfl ?_
  refine GO.idiv dX12_part_8 (ir_c rfl) (by omega) ?_
  have q7 : -2147483648 ≤ wdiv z4 100 ∧ wdiv z4 100 ≤ 2147483647 := wdiv_ir
  exact GO.reti rfl rfl dX12_part_9 ⟨rfl, rfl, _, rfl, wdiv_ir, trivial⟩

set_option maxHeartbeats 1000000 in
theorem t_X12_loss {K : Kmap} {V : Vmap} {x : Nat} {p0 : Int} {p1 : Int} {p2 : Int} {p3 : Int} {p4 : Int} (h_x : K x = some (0, 11)) (r_p0 : ir p0) (r_p1 : ir p1) (r_p2 : ir p2) (r_p3 : ir p3) (r_p4 : ir p4) : MC mX12_loss K V [.ref x, ti p0, ti p1, ti p2, ti p3, ti p4] (IP K V (fun X => True)) := by
  refine MC.start 3 (by decide +kernel) rfl rfl rfl (ls0 := [some (.ref x), some (ti p0), some (ti p1), some (ti p2), some (ti p3), some (ti p4), none, none, none]) rfl ?_
  refine GO.aload_n dX12_loss_0 rfl rfl ?_
  refine GO.iload_n dX12_loss_1 rfl rfl ?_
  refine GO.iconst dX12_loss_2 ?_
  refine GO.callV (ci := 11) (N := mX12_isPlace) dX12_loss_3 (RX12, TX12, 151) rfl gV_RX12_399 h_x (t_X12_isPlace h_x r_p0 (ir_c rfl)) rfl [] rfl rfl (Nat.le_of_ble_eq_true rfl) rfl (k_ip fun X1 r2 h3 => ?_)
  have raw_isPlace := h3.2.2.2.1
  have rq0_3 := h3.2.2.2.2
  have rw3 := h3.2.2.2.1
  refine GO.if_eq (tgt := 52) dX12_loss_6 (by decide) r2 (fun c4 => ?_) (fun c4 => ?_)
  ·
    refine GO.ldcw (X := (-1000000)) dX12_loss_52 gw_2322 rfl ?_
    exact GO.reti rfl rfl dX12_loss_55 ⟨rfl, rfl, _, rfl, (ir_c rfl), trivial⟩
  ·
    have q5 := h3.2.1 (by omega)
    refine GO.iload_n dX12_loss_9 rfl rfl ?_
    refine GO.iconst dX12_loss_10 ?_
    refine GO.bipush dX12_loss_11 rfl ?_
    refine GO.callS (N := mX12_in) dX12_loss_13 gS_RX12_371 (t_X12_in r_p1 (ir_c rfl) (ir_c rfl)) rfl [] rfl rfl (Nat.le_of_ble_eq_true rfl) rfl (k_ip fun X6 r7 h8 => ?_)
    have raw_in := h8.2.2.2
    have rw13 := h8.2.2.2
    refine GO.if_eq (tgt := 52) dX12_loss_16 (by decide) r7 (fun c9 => ?_) (fun c9 => ?_)
    ·
      have q10 := h8.2.2.1 (by omega)
      refine GO.ldcw (X := (-1000000)) dX12_loss_52 gw_2322 rfl ?_
      exact GO.reti rfl rfl dX12_loss_55 ⟨rfl, rfl, _, rfl, (ir_c rfl), trivial⟩
    ·
      have q11 := h8.2.1 (by omega)
      refine GO.iload_n dX12_loss_19 rfl rfl ?_
      refine GO.iload_n dX12_loss_20 rfl rfl ?_
      refine GO.iconst dX12_loss_21 ?_
      refine GO.iadd dX12_loss_22 ?_
      refine GO.bipush dX12_loss_23 rfl ?_
      have q12 : -2147483648 ≤ p1 ∧ p1 ≤ 2147483647 := r_p1
      refine GO.callS (N := mX12_in) dX12_loss_25 gS_RX12_371 (t_X12_in r_p2 ⟨by omega, by omega⟩ (ir_c rfl)) rfl [] rfl rfl (Nat.le_of_ble_eq_true rfl) rfl (k_ip fun X13 r14 h15 => ?_)
      have raw_in := h15.2.2.2
      have rw25 := h15.2.2.2
      refine GO.if_eq (tgt := 52) dX12_loss_28 (by decide) r14 (fun c16 => ?_) (fun c16 => ?_)
      ·
        have q17 := h15.2.2.1 (by omega)
        refine GO.ldcw (X := (-1000000)) dX12_loss_52 gw_2322 rfl ?_
        exact GO.reti rfl rfl dX12_loss_55 ⟨rfl, rfl, _, rfl, (ir_c rfl), trivial⟩
      ·
        have q18 := h15.2.1 (by omega)
        refine GO.iload dX12_loss_31 rfl ?_
        refine GO.iconst dX12_loss_33 ?_
        refine GO.bipush dX12_loss_34 rfl ?_
        refine GO.callS (N := mX12_in) dX12_loss_36 gS_RX12_371 (t_X12_in r_p3 (ir_c rfl) (ir_c rfl)) rfl [] rfl rfl (Nat.le_of_ble_eq_true rfl) rfl (k_ip fun X19 r20 h21 => ?_)
        have raw_in := h21.2.2.2
        have rw36 := h21.2.2.2
        refine GO.if_eq (tgt := 52) dX12_loss_39 (by decide) r20 (fun c22 => ?_) (fun c22 => ?_)
        ·
          have q23 := h21.2.2.1 (by omega)
          refine GO.ldcw (X := (-1000000)) dX12_loss_52 gw_2322 rfl ?_
          exact GO.reti rfl rfl dX12_loss_55 ⟨rfl, rfl, _, rfl, (ir_c rfl), trivial⟩
        ·
          have q24 := h21.2.1 (by omega)
          refine GO.iload dX12_loss_42 rfl ?_
          refine GO.iconst dX12_loss_44 ?_
          refine GO.iconst dX12_loss_45 ?_
          refine GO.callS (N := mX12_in) dX12_loss_46 gS_RX12_371 (t_X12_in r_p4 (ir_c rfl) (ir_c rfl)) rfl [] rfl rfl (Nat.le_of_ble_eq_true rfl) rfl (k_ip fun X25 r26 h27 => ?_)
          have raw_in := h27.2.2.2
          have rw46 := h27.2.2.2
          refine GO.if_ne (tgt := 56) dX12_loss_49 (by decide) r26 (fun c28 => ?_) (fun c28 => ?_)
          ·
            have q29 := h27.2.1 (by omega)
            refine GO.aload_n dX12_loss_56 rfl rfl ?_
            refine GO.getA (n := 600) h_x fl_RX12_77 rfl rfl rfl rfl dX12_loss_57 (fun hv31 h30 => ?_)
            refine GO.bipush dX12_loss_60 rfl ?_
            refine GO.iload_n dX12_loss_62 rfl rfl ?_
            refine GO.imul dX12_loss_63 ?_
            refine GO.iload_n dX12_loss_64 rfl rfl ?_
            refine GO.iadd dX12_loss_65 ?_
            have q32 : -2147483648 ≤ p2 ∧ p2 ≤ 2147483647 := r_p2
            have q33 : -2147483648 ≤ p0 ∧ p0 ≤ 2147483647 := r_p0
            refine GO.iald (t := 29) rfl rfl h30 ⟨by omega, by omega⟩ (by omega) (by omega) dX12_loss_66 (fun _ _ => ?_)
            refine GO.name (fun z34 hz35 => ?_)
            have r36 : ir z34 := hz35 ▸ vi_ir
            refine GO.istore (ls1 := [some (.ref x), some (ti p0), some (ti p1), some (ti p2), some (ti p3), some (ti p4), some (ti z34), none, none]) dX12_loss_67 rfl rfl ?_
            refine GO.aload_n dX12_loss_69 rfl rfl ?_
            refine GO.getRaw h_x fl_RX12_77 hv31 dX12_loss_70 ?_
            refine GO.bipush dX12_loss_73 rfl ?_
            refine GO.iload_n dX12_loss_75 rfl rfl ?_
            refine GO.imul dX12_loss_76 ?_
            refine GO.iload_n dX12_loss_77 rfl rfl ?_
            refine GO.iadd dX12_loss_78 ?_
            refine GO.iald (t := 29) rfl rfl h30 ⟨by omega, by omega⟩ (by omega) (by omega) dX12_loss_79 (fun _ _ => ?_)
            refine GO.name (fun z39 hz40 => ?_)
            have r41 : ir z39 := hz40 ▸ vi_ir
            refine GO.istore (ls1 := [some (.ref x), some (ti p0), some (ti p1), some (ti p2), some (ti p3), some (ti p4), some (ti z34), some (ti z39), none]) dX12_loss_80 rfl rfl ?_
            refine GO.iload dX12_loss_82 rfl ?_
            refine GO.iconst dX12_loss_84 ?_
            refine GO.icmp_eq (tgt := 94) dX12_loss_85 (by decide) r36 (ir_c rfl) (fun c42 => ?_) (fun c42 => ?_)
            ·
              refine GO.ldcw (X := (-1000000)) dX12_loss_94 gw_2322 rfl ?_
              exact GO.reti rfl rfl dX12_loss_97 ⟨rfl, rfl, _, rfl, (ir_c rfl), trivial⟩
            ·
              refine GO.iload dX12_loss_88 rfl ?_
              refine GO.iconst dX12_loss_90 ?_
              refine GO.icmp_ne (tgt := 98) dX12_loss_91 (by decide) r41 (ir_c rfl) (fun c43 => ?_) (fun c43 => ?_)
              ·
                refine GO.iload dX12_loss_98 rfl ?_
                refine GO.iload dX12_loss_100 rfl ?_
                refine GO.callS (N := mX12_part) dX12_loss_102 gS_RX12_706 (t_X12_part r36 r_p3) rfl [] rfl rfl (Nat.le_of_ble_eq_true rfl) rfl (k_ip fun X44 r45 h46 => ?_)
                refine GO.iload dX12_loss_105 rfl ?_
                refine GO.iload dX12_loss_107 rfl ?_
                refine GO.callS (N := mX12_part) dX12_loss_109 gS_RX12_706 (t_X12_part r41 r_p3) rfl [ti X44] rfl rfl (Nat.le_of_ble_eq_true rfl) rfl (k_ip fun X47 r48 h49 => ?_)
                refine GO.iadd dX12_loss_112 ?_
                refine GO.norm (fun z50 r51 hn52 => ?_)
                refine GO.istore (ls1 := [some (.ref x), some (ti p0), some (ti p1), some (ti p2), some (ti p3), some (ti p4), some (ti z34), some (ti z39), some (ti z50)]) dX12_loss_113 rfl rfl ?_
                refine GO.iload dX12_loss_115 rfl ?_
                refine GO.if_ne (tgt := 131) dX12_loss_117 (by decide) r_p4 (fun c53 => ?_) (fun c53 => ?_)
                ·
                  refine GO.iload dX12_loss_131 rfl ?_
                  refine GO.iload dX12_loss_133 rfl ?_
                  refine GO.isub dX12_loss_135 ?_
                  refine GO.norm (fun z54 r55 hn56 => ?_)
                  refine GO.iload dX12_loss_136 rfl ?_
                  refine GO.iadd dX12_loss_138 ?_
                  refine GO.norm (fun z57 r58 hn59 => ?_)
                  have q60 : -2147483648 ≤ z57 ∧ z57 ≤ 2147483647 := r58
                  exact GO.reti rfl rfl dX12_loss_139 ⟨rfl, rfl, _, rfl, r58, trivial⟩
                ·
                  refine GO.iload dX12_loss_120 rfl ?_
                  refine GO.iload dX12_loss_122 rfl ?_
                  refine GO.isub dX12_loss_124 ?_
                  refine GO.norm (fun z61 r62 hn63 => ?_)
                  refine GO.iload dX12_loss_125 rfl ?_
                  refine GO.isub dX12_loss_127 ?_
                  refine GO.norm (fun z64 r65 hn66 => ?_)
                  refine GO.goto (tgt := 139) dX12_loss_128 (by decide) ?_
                  have q67 : -2147483648 ≤ z64 ∧ z64 ≤ 2147483647 := r65
                  exact GO.reti rfl rfl dX12_loss_139 ⟨rfl, rfl, _, rfl, r65, trivial⟩
              ·
                refine GO.ldcw (X := (-1000000)) dX12_loss_94 gw_2322 rfl ?_
                exact GO.reti rfl rfl dX12_loss_97 ⟨rfl, rfl, _, rfl, (ir_c rfl), trivial⟩
          ·
            have q68 := h27.2.2.1 (by omega)
            refine GO.ldcw (X := (-1000000)) dX12_loss_52 gw_2322 rfl ?_
            exact GO.reti rfl rfl dX12_loss_55 ⟨rfl, rfl, _, rfl, (ir_c rfl), trivial⟩

set_option maxHeartbeats 1000000 in
theorem t_X12_noise {K : Kmap} {V : Vmap} {x : Nat} {p0 : Int} {p1 : Int} (h_x : K x = some (0, 11)) (r_p0 : ir p0) (r_p1 : ir p1) : MC mX12_noise K V [.ref x, ti p0, ti p1] (IP K V (fun X => True)) := by
  refine MC.start 0 (by decide +kernel) rfl rfl rfl (ls0 := [some (.ref x), some (ti p0), some (ti p1)]) rfl ?_
  refine GO.aload_n dX12_noise_0 rfl rfl ?_
  refine GO.iload_n dX12_noise_1 rfl rfl ?_
  refine GO.iconst dX12_noise_2 ?_
  refine GO.callV (ci := 11) (N := mX12_isPlace) dX12_noise_3 (RX12, TX12, 151) rfl gV_RX12_399 h_x (t_X12_isPlace h_x r_p0 (ir_c rfl)) rfl [] rfl rfl (Nat.le_of_ble_eq_true rfl) rfl (k_ip fun X1 r2 h3 => ?_)
  have raw_isPlace := h3.2.2.2.1
  have rq0_3 := h3.2.2.2.2
  have rw3 := h3.2.2.2.1
  refine GO.if_eq (tgt := 33) dX12_noise_6 (by decide) r2 (fun c4 => ?_) (fun c4 => ?_)
  ·
    refine GO.iconst dX12_noise_33 ?_
    exact GO.reti rfl rfl dX12_noise_34 ⟨rfl, rfl, _, rfl, (ir_c rfl), trivial⟩
  ·
    have q5 := h3.2.1 (by omega)
    refine GO.iload_n dX12_noise_9 rfl rfl ?_
    refine GO.iconst dX12_noise_10 ?_
    refine GO.bipush dX12_noise_11 rfl ?_
    refine GO.callS (N := mX12_in) dX12_noise_13 gS_RX12_371 (t_X12_in r_p1 (ir_c rfl) (ir_c rfl)) rfl [] rfl rfl (Nat.le_of_ble_eq_true rfl) rfl (k_ip fun X6 r7 h8 => ?_)
    have raw_in := h8.2.2.2
    have rw13 := h8.2.2.2
    refine GO.if_eq (tgt := 33) dX12_noise_16 (by decide) r7 (fun c9 => ?_) (fun c9 => ?_)
    ·
      have q10 := h8.2.2.1 (by omega)
      refine GO.iconst dX12_noise_33 ?_
      exact GO.reti rfl rfl dX12_noise_34 ⟨rfl, rfl, _, rfl, (ir_c rfl), trivial⟩
    ·
      have q11 := h8.2.1 (by omega)
      refine GO.aload_n dX12_noise_19 rfl rfl ?_
      refine GO.getA (n := 600) h_x fl_RX12_74 rfl rfl rfl rfl dX12_noise_20 (fun hv13 h12 => ?_)
      refine GO.bipush dX12_noise_23 rfl ?_
      refine GO.iload_n dX12_noise_25 rfl rfl ?_
      refine GO.imul dX12_noise_26 ?_
      refine GO.iload_n dX12_noise_27 rfl rfl ?_
      refine GO.iadd dX12_noise_28 ?_
      have q14 : -2147483648 ≤ p1 ∧ p1 ≤ 2147483647 := r_p1
      have q15 : -2147483648 ≤ p0 ∧ p0 ≤ 2147483647 := r_p0
      refine GO.iald (t := 28) rfl rfl h12 ⟨by omega, by omega⟩ (by omega) (by omega) dX12_noise_29 (fun _ _ => ?_)
      refine GO.goto (tgt := 34) dX12_noise_30 (by decide) ?_
      have q16 : -2147483648 ≤ vi V (vq V x 26) ((10 * p0) + p1).toNat ∧ vi V (vq V x 26) ((10 * p0) + p1).toNat ≤ 2147483647 := vi_ir
      exact GO.reti rfl rfl dX12_noise_34 ⟨rfl, rfl, _, rfl, vi_ir, trivial⟩

set_option maxHeartbeats 1000000 in
theorem t_X12_caught {K : Kmap} {V : Vmap} {x : Nat} {p0 : Int} {p1 : Int} {p2 : Int} {p3 : Int} {p4 : Int} (h_x : K x = some (0, 11)) (r_p0 : ir p0) (r_p1 : ir p1) (r_p2 : ir p2) (r_p3 : ir p3) (r_p4 : ir p4) : MC mX12_caught K V [.ref x, ti p0, ti p1, ti p2, ti p3, ti p4] (IS K (fun X V1 => ((X = (-1) ∧ vi V1 x 120 = vi V x 120 ∧ (vi V x 120 ≥ 200 ∨ p1 < 0 ∨ p1 > 3 ∨ p2 < 0 ∨ p2 > 3 ∨ p3 < 1 ∨ p3 > 1000000 ∨ p0 < 0 ∨ p0 ≥ vi V x 91 ∨ p4 < 0 ∨ p4 > vi V x 2)) ∨ (X = vi V x 120 ∧ vi V1 x 120 = (vi V x 120 + 1) ∧ vi V x 120 < 200 ∧ p1 ≥ 0 ∧ p1 ≤ 3 ∧ p2 ≥ 0 ∧ p2 ≤ 3 ∧ p3 ≥ 1 ∧ p3 ≤ 1000000 ∧ p0 ≥ 0 ∧ p0 < vi V x 91 ∧ p4 ≥ 0 ∧ p4 ≤ vi V x 2)))) := by
  refine MC.start 0 (by decide +kernel) rfl rfl rfl (ls0 := [some (.ref x), some (ti p0), some (ti p1), some (ti p2), some (ti p3), some (ti p4)]) rfl ?_
  refine GO.aload_n dX12_caught_0 rfl rfl ?_
  refine GO.iload_n dX12_caught_1 rfl rfl ?_
  refine GO.callV (ci := 11) (N := mX12_isShip) dX12_caught_2 (RX12, TX12, 151) rfl gV_RX12_618 h_x (t_X12_isShip h_x r_p0) rfl [] rfl rfl (Nat.le_of_ble_eq_true rfl) rfl (k_ip fun X1 r2 h3 => ?_)
  refine GO.if_eq (tgt := 59) dX12_caught_5 (by decide) r2 (fun c4 => ?_) (fun c4 => ?_)
  ·
    have q5 := h3.2.2 (by omega)
    refine GO.iconst dX12_caught_59 ?_
    have q6 : -2147483648 ≤ vi V x 120 ∧ vi V x 120 ≤ 2147483647 := vi_ir
    have q7 : -2147483648 ≤ vi V x 91 ∧ vi V x 91 ≤ 2147483647 := vi_ir
    have q8 : -2147483648 ≤ vi V x 2 ∧ vi V x 2 ≤ 2147483647 := vi_ir
    exact GO.reti rfl rfl dX12_caught_60 ⟨rfl, _, rfl, (ir_c rfl), by omega⟩
  ·
    have q9 := h3.2.1 (by omega)
    refine GO.iload_n dX12_caught_8 rfl rfl ?_
    refine GO.iconst dX12_caught_9 ?_
    refine GO.iconst dX12_caught_10 ?_
    refine GO.callS (N := mX12_in) dX12_caught_11 gS_RX12_371 (t_X12_in r_p1 (ir_c rfl) (ir_c rfl)) rfl [] rfl rfl (Nat.le_of_ble_eq_true rfl) rfl (k_ip fun X10 r11 h12 => ?_)
    have raw_in := h12.2.2.2
    have rw11 := h12.2.2.2
    refine GO.if_eq (tgt := 59) dX12_caught_14 (by decide) r11 (fun c13 => ?_) (fun c13 => ?_)
    ·
      have q14 := h12.2.2.1 (by omega)
      refine GO.iconst dX12_caught_59 ?_
      have q15 : -2147483648 ≤ vi V x 120 ∧ vi V x 120 ≤ 2147483647 := vi_ir
      have q16 : -2147483648 ≤ vi V x 91 ∧ vi V x 91 ≤ 2147483647 := vi_ir
      have q17 : -2147483648 ≤ p0 ∧ p0 ≤ 2147483647 := r_p0
      have q18 : -2147483648 ≤ vi V x 2 ∧ vi V x 2 ≤ 2147483647 := vi_ir
      exact GO.reti rfl rfl dX12_caught_60 ⟨rfl, _, rfl, (ir_c rfl), by omega⟩
    ·
      have q19 := h12.2.1 (by omega)
      refine GO.iload_n dX12_caught_17 rfl rfl ?_
      refine GO.callS (N := mX12_isSea) dX12_caught_18 gS_RX12_615 (t_X12_isSea r_p2) rfl [] rfl rfl (Nat.le_of_ble_eq_true rfl) rfl (k_ip fun X20 r21 h22 => ?_)
      refine GO.if_eq (tgt := 59) dX12_caught_21 (by decide) r21 (fun c23 => ?_) (fun c23 => ?_)
      ·
        have q24 := h22.2.2 (by omega)
        refine GO.iconst dX12_caught_59 ?_
        have q25 : -2147483648 ≤ vi V x 120 ∧ vi V x 120 ≤ 2147483647 := vi_ir
        have q26 : -2147483648 ≤ vi V x 91 ∧ vi V x 91 ≤ 2147483647 := vi_ir
        have q27 : -2147483648 ≤ p0 ∧ p0 ≤ 2147483647 := r_p0
        have q28 : -2147483648 ≤ vi V x 2 ∧ vi V x 2 ≤ 2147483647 := vi_ir
        exact GO.reti rfl rfl dX12_caught_60 ⟨rfl, _, rfl, (ir_c rfl), by omega⟩
      ·
        have q29 := h22.2.1 (by omega)
        refine GO.iload dX12_caught_24 rfl ?_
        refine GO.iconst dX12_caught_26 ?_
        refine GO.ldcw (X := 1000000) dX12_caught_27 gw_2291 rfl ?_
        refine GO.callS (N := mX12_in) dX12_caught_30 gS_RX12_371 (t_X12_in r_p3 (ir_c rfl) (ir_c rfl)) rfl [] rfl rfl (Nat.le_of_ble_eq_true rfl) rfl (k_ip fun X30 r31 h32 => ?_)
        have raw_in := h32.2.2.2
        have rw30 := h32.2.2.2
        refine GO.if_eq (tgt := 59) dX12_caught_33 (by decide) r31 (fun c33 => ?_) (fun c33 => ?_)
        ·
          have q34 := h32.2.2.1 (by omega)
          refine GO.iconst dX12_caught_59 ?_
          have q35 : -2147483648 ≤ vi V x 120 ∧ vi V x 120 ≤ 2147483647 := vi_ir
          have q36 : -2147483648 ≤ vi V x 91 ∧ vi V x 91 ≤ 2147483647 := vi_ir
          have q37 : -2147483648 ≤ p0 ∧ p0 ≤ 2147483647 := r_p0
          have q38 : -2147483648 ≤ vi V x 2 ∧ vi V x 2 ≤ 2147483647 := vi_ir
          exact GO.reti rfl rfl dX12_caught_60 ⟨rfl, _, rfl, (ir_c rfl), by omega⟩
        ·
          have q39 := h32.2.1 (by omega)
          refine GO.iload dX12_caught_36 rfl ?_
          refine GO.iconst dX12_caught_38 ?_
          refine GO.aload_n dX12_caught_39 rfl rfl ?_
          refine GO.getI h_x fl_RX12_396 rfl rfl dX12_caught_40 (fun l40 u41 => ?_)
          refine GO.callS (N := mX12_in) dX12_caught_43 gS_RX12_371 (t_X12_in r_p4 (ir_c rfl) vi_ir) rfl [] rfl rfl (Nat.le_of_ble_eq_true rfl) rfl (k_ip fun X42 r43 h44 => ?_)
          have raw_in := h44.2.2.2
          have rw43 := h44.2.2.2
          refine GO.if_eq (tgt := 59) dX12_caught_46 (by decide) r43 (fun c45 => ?_) (fun c45 => ?_)
          ·
            have q46 := h44.2.2.1 (by omega)
            refine GO.iconst dX12_caught_59 ?_
            have q47 : -2147483648 ≤ vi V x 120 ∧ vi V x 120 ≤ 2147483647 := vi_ir
            have q48 : -2147483648 ≤ vi V x 91 ∧ vi V x 91 ≤ 2147483647 := vi_ir
            have q49 : -2147483648 ≤ p0 ∧ p0 ≤ 2147483647 := r_p0
            exact GO.reti rfl rfl dX12_caught_60 ⟨rfl, _, rfl, (ir_c rfl), by omega⟩
          ·
            have q50 := h44.2.1 (by omega)
            refine GO.aload_n dX12_caught_49 rfl rfl ?_
            refine GO.getI h_x fl_RX12_709 rfl rfl dX12_caught_50 (fun l51 u52 => ?_)
            refine GO.sipush dX12_caught_53 rfl ?_
            refine GO.icmp_ne (tgt := 61) dX12_caught_56 (by decide) vi_ir (ir_c rfl) (fun c53 => ?_) (fun c53 => ?_)
            ·
              refine GO.aload_n dX12_caught_61 rfl rfl ?_
              refine GO.getA (n := 200) h_x fl_RX12_304 rfl rfl rfl rfl dX12_caught_62 (fun hv55 h54 => ?_)
              refine GO.aload_n dX12_caught_65 rfl rfl ?_
              refine GO.getI h_x fl_RX12_709 rfl rfl dX12_caught_66 (fun l56 u57 => ?_)
              refine GO.iload_n dX12_caught_69 rfl rfl ?_
              have q59 : -2147483648 ≤ p0 ∧ p0 ≤ 2147483647 := r_p0
              have q60 : -2147483648 ≤ vi V x 91 ∧ vi V x 91 ≤ 2147483647 := vi_ir
              refine GO.iast (t := 103) rfl rfl (by decide +kernel) h54 vi_ir (by omega) (by omega) r_p0 (by omega) (by omega) dX12_caught_70 (fun V61 e58 => ?_)
              refine GO.aload_n dX12_caught_71 rfl rfl ?_
              refine GO.getA (n := 200) h_x fl_RX12_307 rfl rfl rfl rfl dX12_caught_72 (fun hv63 h62 => ?_)
              refine GO.aload_n dX12_caught_75 rfl rfl ?_
              refine GO.getI h_x fl_RX12_709 rfl rfl dX12_caught_76 (fun l64 u65 => ?_)
              have e66 : vi V61 x 120 = vi V x 120 := vi_up e58 (Or.inl (K_ne h_x h54 (by decide)))
              refine GO.iload_n dX12_caught_79 rfl rfl ?_
              have q68 : -2147483648 ≤ p1 ∧ p1 ≤ 2147483647 := r_p1
              refine GO.iast (t := 104) rfl rfl (by decide +kernel) h62 vi_ir (by omega) (by omega) r_p1 (by omega) (by omega) dX12_caught_80 (fun V69 e67 => ?_)
              refine GO.aload_n dX12_caught_81 rfl rfl ?_
              refine GO.getA (n := 200) h_x fl_RX12_310 rfl rfl rfl rfl dX12_caught_82 (fun hv71 h70 => ?_)
              refine GO.aload_n dX12_caught_85 rfl rfl ?_
              refine GO.getI h_x fl_RX12_709 rfl rfl dX12_caught_86 (fun l72 u73 => ?_)
              have e74 : vi V69 x 120 = vi V61 x 120 := vi_up e67 (Or.inl (K_ne h_x h62 (by decide)))
              refine GO.iload_n dX12_caught_89 rfl rfl ?_
              have q76 : -2147483648 ≤ p2 ∧ p2 ≤ 2147483647 := r_p2
              refine GO.iast (t := 105) rfl rfl (by decide +kernel) h70 vi_ir (by omega) (by omega) r_p2 (by omega) (by omega) dX12_caught_90 (fun V77 e75 => ?_)
              refine GO.aload_n dX12_caught_91 rfl rfl ?_
              refine GO.getA (n := 200) h_x fl_RX12_313 rfl rfl rfl rfl dX12_caught_92 (fun hv79 h78 => ?_)
              refine GO.aload_n dX12_caught_95 rfl rfl ?_
              refine GO.getI h_x fl_RX12_709 rfl rfl dX12_caught_96 (fun l80 u81 => ?_)
              have e82 : vi V77 x 120 = vi V69 x 120 := vi_up e75 (Or.inl (K_ne h_x h70 (by decide)))
              refine GO.iload dX12_caught_99 rfl ?_
              refine GO.iast (t := 106) rfl rfl (by decide +kernel) h78 vi_ir (by omega) (by omega) r_p3 (r_p3).1 (r_p3).2 dX12_caught_101 (fun V84 e83 => ?_)
              refine GO.aload_n dX12_caught_102 rfl rfl ?_
              refine GO.getA (n := 200) h_x fl_RX12_316 rfl rfl rfl rfl dX12_caught_103 (fun hv86 h85 => ?_)
              refine GO.aload_n dX12_caught_106 rfl rfl ?_
              refine GO.getI h_x fl_RX12_709 rfl rfl dX12_caught_107 (fun l87 u88 => ?_)
              have e89 : vi V84 x 120 = vi V77 x 120 := vi_up e83 (Or.inl (K_ne h_x h78 (by decide)))
              refine GO.iload dX12_caught_110 rfl ?_
              have q91 : -2147483648 ≤ p4 ∧ p4 ≤ 2147483647 := r_p4
              refine GO.iast (t := 107) rfl rfl (by decide +kernel) h85 vi_ir (by omega) (by omega) r_p4 (by omega) (by omega) dX12_caught_112 (fun V92 e90 => ?_)
              refine GO.aload_n dX12_caught_113 rfl rfl ?_
              refine GO.aload_n dX12_caught_114 rfl rfl ?_
              refine GO.getI h_x fl_RX12_709 rfl rfl dX12_caught_115 (fun l93 u94 => ?_)
              have e95 : vi V92 x 120 = vi V84 x 120 := vi_up e90 (Or.inl (K_ne h_x h85 (by decide)))
              refine GO.iconst dX12_caught_118 ?_
              refine GO.iadd dX12_caught_119 ?_
              refine GO.putI h_x fp_RX12_709 rfl (by decide +kernel) ⟨by omega, by omega⟩ (by omega) (by omega) dX12_caught_120 (fun V97 e96 => ?_)
              refine GO.aload_n dX12_caught_123 rfl rfl ?_
              refine GO.getI h_x fl_RX12_709 rfl rfl dX12_caught_124 (fun l98 u99 => ?_)
              have e100 : vi V97 x 120 = (vi V92 x 120) + 1 := upd2_int e96 ⟨by omega, by omega⟩
              refine GO.iconst dX12_caught_127 ?_
              refine GO.isub dX12_caught_128 ?_
              exact GO.reti rfl rfl dX12_caught_129 ⟨rfl, _, rfl, ⟨by omega, by omega⟩, by omega⟩
            ·
              refine GO.iconst dX12_caught_59 ?_
              have q101 : -2147483648 ≤ vi V x 91 ∧ vi V x 91 ≤ 2147483647 := vi_ir
              have q102 : -2147483648 ≤ p0 ∧ p0 ≤ 2147483647 := r_p0
              have q103 : -2147483648 ≤ p4 ∧ p4 ≤ 2147483647 := r_p4
              exact GO.reti rfl rfl dX12_caught_60 ⟨rfl, _, rfl, (ir_c rfl), by omega⟩

set_option maxHeartbeats 1000000 in
theorem t_X12_isAhead {K : Kmap} {V : Vmap} {x : Nat} {p0 : Int} {p1 : Int} (h_x : K x = some (0, 11)) (r_p0 : ir p0) (r_p1 : ir p1) (q_0 : p0 ≥ 0) (q_1 : p0 ≤ 199) (q_2 : p1 ≥ 0) (q_3 : p1 ≤ 199) : MC mX12_isAhead K V [.ref x, ti p0, ti p1] (IP K V (fun X => (X = 0 ∨ X = 1) ∧ (X ≠ 0 → True) ∧ (X = 0 → True))) := by
  refine MC.start 0 (by decide +kernel) rfl rfl rfl (ls0 := [some (.ref x), some (ti p0), some (ti p1)]) rfl ?_
  refine GO.aload_n dX12_isAhead_0 rfl rfl ?_
  refine GO.getA (n := 200) h_x fl_RX12_316 rfl rfl rfl rfl dX12_isAhead_1 (fun hv2 h1 => ?_)
  refine GO.iload_n dX12_isAhead_4 rfl rfl ?_
  have q3 : -2147483648 ≤ p0 ∧ p0 ≤ 2147483647 := r_p0
  refine GO.iald (t := 107) rfl rfl h1 r_p0 (by omega) (by omega) dX12_isAhead_5 (fun l4 u5 => ?_)
  refine GO.aload_n dX12_isAhead_6 rfl rfl ?_
  refine GO.getRaw h_x fl_RX12_316 hv2 dX12_isAhead_7 ?_
  refine GO.iload_n dX12_isAhead_10 rfl rfl ?_
  have q8 : -2147483648 ≤ p1 ∧ p1 ≤ 2147483647 := r_p1
  refine GO.iald (t := 107) rfl rfl h1 r_p1 (by omega) (by omega) dX12_isAhead_11 (fun l9 u10 => ?_)
  refine GO.icmp_lt (tgt := 35) dX12_isAhead_12 (by decide) vi_ir vi_ir (fun c11 => ?_) (fun c11 => ?_)
  ·
    refine GO.iconst dX12_isAhead_35 ?_
    refine GO.goto (tgt := 40) dX12_isAhead_36 (by decide) ?_
    exact GO.retz rfl rfl dX12_isAhead_40 (Or.inr rfl) ⟨rfl, rfl, _, rfl, (ir_c rfl), ⟨Or.inr rfl, fun _ => trivial, fun _ => trivial⟩⟩
  ·
    refine GO.aload_n dX12_isAhead_15 rfl rfl ?_
    refine GO.getRaw h_x fl_RX12_316 hv2 dX12_isAhead_16 ?_
    refine GO.iload_n dX12_isAhead_19 rfl rfl ?_
    refine GO.iald (t := 107) rfl rfl h1 r_p0 (by omega) (by omega) dX12_isAhead_20 (fun l14 u15 => ?_)
    refine GO.aload_n dX12_isAhead_21 rfl rfl ?_
    refine GO.getRaw h_x fl_RX12_316 hv2 dX12_isAhead_22 ?_
    refine GO.iload_n dX12_isAhead_25 rfl rfl ?_
    refine GO.iald (t := 107) rfl rfl h1 r_p1 (by omega) (by omega) dX12_isAhead_26 (fun l18 u19 => ?_)
    refine GO.icmp_ne (tgt := 39) dX12_isAhead_27 (by decide) vi_ir vi_ir (fun c20 => ?_) (fun c20 => ?_)
    ·
      refine GO.iconst dX12_isAhead_39 ?_
      exact GO.retz rfl rfl dX12_isAhead_40 (Or.inl rfl) ⟨rfl, rfl, _, rfl, (ir_c rfl), ⟨Or.inl rfl, fun _ => trivial, fun _ => trivial⟩⟩
    ·
      refine GO.iload_n dX12_isAhead_30 rfl rfl ?_
      refine GO.iload_n dX12_isAhead_31 rfl rfl ?_
      refine GO.icmp_gt (tgt := 39) dX12_isAhead_32 (by decide) r_p0 r_p1 (fun c21 => ?_) (fun c21 => ?_)
      ·
        refine GO.iconst dX12_isAhead_39 ?_
        exact GO.retz rfl rfl dX12_isAhead_40 (Or.inl rfl) ⟨rfl, rfl, _, rfl, (ir_c rfl), ⟨Or.inl rfl, fun _ => trivial, fun _ => trivial⟩⟩
      ·
        refine GO.iconst dX12_isAhead_35 ?_
        refine GO.goto (tgt := 40) dX12_isAhead_36 (by decide) ?_
        exact GO.retz rfl rfl dX12_isAhead_40 (Or.inr rfl) ⟨rfl, rfl, _, rfl, (ir_c rfl), ⟨Or.inr rfl, fun _ => trivial, fun _ => trivial⟩⟩

set_option maxHeartbeats 1000000 in
theorem t_X12_over {K : Kmap} {V : Vmap} {x : Nat} (h_x : K x = some (0, 11)) : MC mX12_over K V [.ref x] (IS K (fun X V1 => True)) := by
  refine MC.start 6 (by decide +kernel) rfl rfl rfl (ls0 := [some (.ref x), none, none, none, none, none, none]) rfl ?_
  refine GO.iconst dX12_over_0 ?_
  refine GO.istore_n (ls1 := [some (.ref x), some (ti (-1)), none, none, none, none, none]) dX12_over_1 rfl rfl rfl ?_
  refine GO.iconst dX12_over_2 ?_
  refine GO.istore_n (ls1 := [some (.ref x), some (ti (-1)), some (ti 0), none, none, none, none]) dX12_over_3 rfl rfl rfl ?_
  refine GO.loop2 (fun i1 i2 W => (-1) ≤ i1 ∧ i1 ≤ 199 ∧ 0 ≤ i2 ∧ i2 ≤ 200 ∧ True) (fun i1 i2 => [some (.ref x), some (ti i1), some (ti i2), none, none, none, none]) (fun i1 i2 W => (2147483647 - i2).toNat) (-1) 0 ⟨by omega, by omega, by omega, by omega, trivial⟩ rfl (fun i1 i2 Wi1 hp10714 ih10713 => ?_)
  obtain ⟨l_i1, u_i1, l_i2, u_i2, -⟩ := hp10714
  have r_i1 : ir i1 := ⟨by omega, by omega⟩
  have r_i2 : ir i2 := ⟨by omega, by omega⟩
  show GO mX12_over K V (IS K (fun X V1 => True)) K Wi1 0 0 4 [some (.ref x), some (ti i1), some (ti i2), none, none, none, none] []
  refine GO.iload_n dX12_over_4 rfl rfl ?_
  refine GO.aload_n dX12_over_5 rfl rfl ?_
  refine GO.getI h_x fl_RX12_709 rfl rfl dX12_over_6 (fun l10715 u10716 => ?_)
  refine GO.icmp_ge (tgt := 199) dX12_over_9 (by decide) r_i2 vi_ir (fun c10717 => ?_) (fun c10717 => ?_)
  ·
    refine GO.iload_n dX12_over_199 rfl rfl ?_
    exact GO.reti rfl rfl dX12_over_200 ⟨rfl, _, rfl, r_i1, trivial⟩
  ·
    refine GO.iload_n dX12_over_12 rfl rfl ?_
    refine GO.iconst dX12_over_13 ?_
    have hj10723 : GO mX12_over K V (IS K (fun X V1 => True)) K Wi1 0 0 29 [some (.ref x), some (ti i1), some (ti i2), none, none, none, none] [] := by
      skip
      refine GO.lconst dX12_over_29 rfl ?_
      refine GO.anyL (fun z10724 => ?_)
      refine GO.anyL (fun z10725 => ?_)
      refine GO.lstore_n (ls1 := [some (.ref x), some (ti i1), some (ti i2), some (.long z10725), none, none, none]) dX12_over_30 rfl rfl rfl ?_
      refine GO.iconst dX12_over_31 ?_
      refine GO.istore (ls1 := [some (.ref x), some (ti i1), some (ti i2), some (.long z10725), none, some (ti 0), none]) dX12_over_32 rfl rfl ?_
      refine GO.loop1L (fun i10727 W => 0 ≤ i10727 ∧ i10727 ≤ 200 ∧ Wi1 = W) (fun i10727 z10726 => [some (.ref x), some (ti i1), some (ti i2), some (.long z10726), none, some (ti i10727), none]) (fun i10727 W => (2147483647 - i10727).toNat) 0 z10725 ⟨by omega, by omega, rfl⟩ rfl (fun i10727 z10726 V11778 hp11780 ih11779 => ?_)
      obtain ⟨l_i10727, u_i10727, rfl⟩ := hp11780
      have r_i10727 : ir i10727 := ⟨by omega, by omega⟩
      show GO mX12_over K V (IS K (fun X V1 => True)) K Wi1 0 0 34 [some (.ref x), some (ti i1), some (ti i2), some (.long z10726), none, some (ti i10727), none] []
      refine GO.iload dX12_over_34 rfl ?_
      refine GO.aload_n dX12_over_36 rfl rfl ?_
      refine GO.getI h_x fl_RX12_709 rfl rfl dX12_over_37 (fun l11781 u11782 => ?_)
      refine GO.icmp_ge (tgt := 142) dX12_over_40 (by decide) r_i10727 vi_ir (fun c11783 => ?_) (fun c11783 => ?_)
      ·
        refine GO.aload_n dX12_over_142 rfl rfl ?_
        refine GO.aload_n dX12_over_143 rfl rfl ?_
        refine GO.getA (n := 200) h_x fl_RX12_307 rfl rfl rfl rfl dX12_over_144 (fun hv11785 h11784 => ?_)
        refine GO.iload_n dX12_over_147 rfl rfl ?_
        refine GO.iald (t := 104) rfl rfl h11784 r_i2 (by omega) (by omega) dX12_over_148 (fun l11786 u11787 => ?_)
        refine GO.aload_n dX12_over_149 rfl rfl ?_
        refine GO.getA (n := 200) h_x fl_RX12_310 rfl rfl rfl rfl dX12_over_150 (fun hv11789 h11788 => ?_)
        refine GO.iload_n dX12_over_153 rfl rfl ?_
        refine GO.iald (t := 105) rfl rfl h11788 r_i2 (by omega) (by omega) dX12_over_154 (fun l11790 u11791 => ?_)
        refine GO.aload_n dX12_over_155 rfl rfl ?_
        refine GO.getA (n := 10) h_x fl_RX12_208 rfl rfl rfl rfl dX12_over_156 (fun hv11793 h11792 => ?_)
        refine GO.aload_n dX12_over_159 rfl rfl ?_
        refine GO.getA (n := 200) h_x fl_RX12_304 rfl rfl rfl rfl dX12_over_160 (fun hv11795 h11794 => ?_)
        refine GO.iload_n dX12_over_163 rfl rfl ?_
        refine GO.iald (t := 103) rfl rfl h11794 r_i2 (by omega) (by omega) dX12_over_164 (fun l11796 u11797 => ?_)
        refine GO.iald (t := 72) rfl rfl h11792 vi_ir (by omega) (by omega) dX12_over_165 (fun l11798 u11799 => ?_)
        refine GO.aload_n dX12_over_166 rfl rfl ?_
        refine GO.getA (n := 200) h_x fl_RX12_316 rfl rfl rfl rfl dX12_over_167 (fun hv11801 h11800 => ?_)
        refine GO.iload_n dX12_over_170 rfl rfl ?_
        refine GO.iald (t := 107) rfl rfl h11800 r_i2 (by omega) (by omega) dX12_over_171 (fun l11802 u11803 => ?_)
        refine GO.callV (ci := 11) (N := mX12_caughtAtMost) dX12_over_172 (RX12, TX12, 151) rfl gV_RX12_560 h_x (t_X12_caughtAtMost h_x vi_ir vi_ir vi_ir vi_ir (by omega) (by omega)) rfl [] rfl rfl (Nat.le_of_ble_eq_true rfl) rfl (k_is fun X11804 V11808 r11805 h11806 hF11807 => ?_)
        have raw_caughtAtMost := h11806.2
        have rw172 := h11806.2
        refine GO.istore (ls1 := [some (.ref x), some (ti i1), some (ti i2), some (.long z10726), none, some (ti X11804), none]) dX12_over_175 rfl rfl ?_
        refine GO.iload dX12_over_177 rfl ?_
        refine GO.iconst dX12_over_179 ?_
        refine GO.icmp_eq (tgt := 193) dX12_over_180 (by decide) r11805 (ir_c rfl) (fun c11809 => ?_) (fun c11809 => ?_)
        ·
          refine GO.iinc (X := i2) (n := 1) (Y := i2 + 1) (ls1 := [some (.ref x), some (ti i1), some (ti (i2 + 1)), some (.long z10726), none, some (ti X11804), none]) dX12_over_193 rfl rfl rfl rfl ?_
          refine GO.goto (tgt := 4) dX12_over_196 (by decide) ?_
          refine GO.drop [true, true, true, false, true, false, true] rfl ?_
          exact ih10713 i1 (i2 + 1) V11808 ⟨by omega, by omega, by omega, by omega, trivial⟩ (by show (2147483647 - (i2 + 1)).toNat < (2147483647 - i2).toNat; omega)
        ·
          refine GO.lload_n dX12_over_183 rfl rfl ?_
          refine GO.iload dX12_over_184 rfl ?_
          refine GO.i2l dX12_over_186 ?_
          refine GO.anyL (fun z11810 => ?_)
          refine GO.lcmp dX12_over_187 ?_
          refine GO.any (th_rng _) (fun z11811 r11812 => ?_)
          refine GO.if_le (tgt := 193) dX12_over_188 (by decide) r11812 (fun c11813 => ?_) (fun c11813 => ?_)
          ·
            refine GO.iinc (X := i2) (n := 1) (Y := i2 + 1) (ls1 := [some (.ref x), some (ti i1), some (ti (i2 + 1)), some (.long z10726), none, some (ti X11804), none]) dX12_over_193 rfl rfl rfl rfl ?_
            refine GO.goto (tgt := 4) dX12_over_196 (by decide) ?_
            refine GO.drop [true, true, true, false, true, false, true] rfl ?_
            exact ih10713 i1 (i2 + 1) V11808 ⟨by omega, by omega, by omega, by omega, trivial⟩ (by show (2147483647 - (i2 + 1)).toNat < (2147483647 - i2).toNat; omega)
          ·
            refine GO.iload_n dX12_over_191 rfl rfl ?_
            refine GO.istore_n (ls1 := [some (.ref x), some (ti i2), some (ti i2), some (.long z10726), none, some (ti X11804), none]) dX12_over_192 rfl rfl rfl ?_
            refine GO.iinc (X := i2) (n := 1) (Y := i2 + 1) (ls1 := [some (.ref x), some (ti i2), some (ti (i2 + 1)), some (.long z10726), none, some (ti X11804), none]) dX12_over_193 rfl rfl rfl rfl ?_
            refine GO.goto (tgt := 4) dX12_over_196 (by decide) ?_
            refine GO.drop [true, true, true, false, true, false, true] rfl ?_
            exact ih10713 i2 (i2 + 1) V11808 ⟨by omega, by omega, by omega, by omega, trivial⟩ (by show (2147483647 - (i2 + 1)).toNat < (2147483647 - i2).toNat; omega)
      ·
        refine GO.aload_n dX12_over_43 rfl rfl ?_
        refine GO.getA (n := 200) h_x fl_RX12_307 rfl rfl rfl rfl dX12_over_44 (fun hv11815 h11814 => ?_)
        refine GO.iload dX12_over_47 rfl ?_
        refine GO.iald (t := 104) rfl rfl h11814 r_i10727 (by omega) (by omega) dX12_over_49 (fun l11816 u11817 => ?_)
        refine GO.aload_n dX12_over_50 rfl rfl ?_
        refine GO.getRaw h_x fl_RX12_307 hv11815 dX12_over_51 ?_
        refine GO.iload_n dX12_over_54 rfl rfl ?_
        refine GO.iald (t := 104) rfl rfl h11814 r_i2 (by omega) (by omega) dX12_over_55 (fun l11820 u11821 => ?_)
        have hj11842 : ∀ (z11841 : Int), ∀ (l11843 : 0 ≤ z11841), ∀ (u11844 : z11841 ≤ 1), GO mX12_over K V (IS K (fun X V1 => True)) K Wi1 0 0 104 [some (.ref x), some (ti i1), some (ti i2), some (.long z10726), none, some (ti i10727), none] [ti z11841] := by
          intro z11841 l11843 u11844
          have r11845 : ir z11841 := ⟨by omega, by omega⟩
          refine GO.istore (ls1 := [some (.ref x), some (ti i1), some (ti i2), some (.long z10726), none, some (ti i10727), some (ti z11841)]) dX12_over_104 rfl rfl ?_
          refine GO.lload_n dX12_over_106 rfl rfl ?_
          refine GO.iload dX12_over_107 rfl ?_
          refine GO.if_eq (tgt := 132) dX12_over_109 (by decide) r11845 (fun c11846 => ?_) (fun c11846 => ?_)
          ·
            refine GO.iconst dX12_over_132 ?_
            refine GO.i2l dX12_over_133 ?_
            refine GO.anyL (fun z11847 => ?_)
            refine GO.ladd dX12_over_134 ?_
            refine GO.anyL (fun z11848 => ?_)
            refine GO.anyL (fun z11849 => ?_)
            refine GO.lstore_n (ls1 := [some (.ref x), some (ti i1), some (ti i2), some (.long z11849), none, some (ti i10727), some (ti z11841)]) dX12_over_135 rfl rfl rfl ?_
            refine GO.iinc (X := i10727) (n := 1) (Y := i10727 + 1) (ls1 := [some (.ref x), some (ti i1), some (ti i2), some (.long z11849), none, some (ti (i10727 + 1)), some (ti z11841)]) dX12_over_136 rfl rfl rfl rfl ?_
            refine GO.goto (tgt := 34) dX12_over_139 (by decide) ?_
            refine GO.drop [true, true, true, true, true, true, false] rfl ?_
            exact ih11779 (i10727 + 1) z11849 Wi1 ⟨by omega, by omega, rfl⟩ (by show (2147483647 - (i10727 + 1)).toNat < (2147483647 - i10727).toNat; omega)
          ·
            refine GO.aload_n dX12_over_112 rfl rfl ?_
            refine GO.iload dX12_over_113 rfl ?_
            refine GO.iload_n dX12_over_115 rfl rfl ?_
            refine GO.callV (ci := 11) (N := mX12_isAhead) dX12_over_116 (RX12, TX12, 151) rfl gV_RX12_712 h_x (t_X12_isAhead h_x r_i10727 r_i2 (by omega) (by omega) (by omega) (by omega)) rfl [.long z10726] rfl rfl (Nat.le_of_ble_eq_true rfl) rfl (k_ip fun X11850 r11851 h11852 => ?_)
            refine GO.if_eq (tgt := 132) dX12_over_119 (by decide) r11851 (fun c11853 => ?_) (fun c11853 => ?_)
            ·
              refine GO.iconst dX12_over_132 ?_
              refine GO.i2l dX12_over_133 ?_
              refine GO.anyL (fun z11854 => ?_)
              refine GO.ladd dX12_over_134 ?_
              refine GO.anyL (fun z11855 => ?_)
              refine GO.anyL (fun z11856 => ?_)
              refine GO.lstore_n (ls1 := [some (.ref x), some (ti i1), some (ti i2), some (.long z11856), none, some (ti i10727), some (ti z11841)]) dX12_over_135 rfl rfl rfl ?_
              refine GO.iinc (X := i10727) (n := 1) (Y := i10727 + 1) (ls1 := [some (.ref x), some (ti i1), some (ti i2), some (.long z11856), none, some (ti (i10727 + 1)), some (ti z11841)]) dX12_over_136 rfl rfl rfl rfl ?_
              refine GO.goto (tgt := 34) dX12_over_139 (by decide) ?_
              refine GO.drop [true, true, true, true, true, true, false] rfl ?_
              exact ih11779 (i10727 + 1) z11856 Wi1 ⟨by omega, by omega, rfl⟩ (by show (2147483647 - (i10727 + 1)).toNat < (2147483647 - i10727).toNat; omega)
            ·
              refine GO.aload_n dX12_over_122 rfl rfl ?_
              refine GO.getA (n := 200) h_x fl_RX12_313 rfl rfl rfl rfl dX12_over_123 (fun hv11858 h11857 => ?_)
              refine GO.iload dX12_over_126 rfl ?_
              refine GO.iald (t := 106) rfl rfl h11857 r_i10727 (by omega) (by omega) dX12_over_128 (fun _ _ => ?_)
              refine GO.goto (tgt := 133) dX12_over_129 (by decide) ?_
              refine GO.i2l dX12_over_133 ?_
              refine GO.anyL (fun z11859 => ?_)
              refine GO.ladd dX12_over_134 ?_
              refine GO.anyL (fun z11860 => ?_)
              refine GO.anyL (fun z11861 => ?_)
              refine GO.lstore_n (ls1 := [some (.ref x), some (ti i1), some (ti i2), some (.long z11861), none, some (ti i10727), some (ti z11841)]) dX12_over_135 rfl rfl rfl ?_
              refine GO.iinc (X := i10727) (n := 1) (Y := i10727 + 1) (ls1 := [some (.ref x), some (ti i1), some (ti i2), some (.long z11861), none, some (ti (i10727 + 1)), some (ti z11841)]) dX12_over_136 rfl rfl rfl rfl ?_
              refine GO.goto (tgt := 34) dX12_over_139 (by decide) ?_
              refine GO.drop [true, true, true, true, true, true, false] rfl ?_
              exact ih11779 (i10727 + 1) z11861 Wi1 ⟨by omega, by omega, rfl⟩ (by show (2147483647 - (i10727 + 1)).toNat < (2147483647 - i10727).toNat; omega)
        have hj11881 : GO mX12_over K V (IS K (fun X V1 => True)) K Wi1 0 0 103 [some (.ref x), some (ti i1), some (ti i2), some (.long z10726), none, some (ti i10727), none] [] := by
          skip
          refine GO.iconst dX12_over_103 ?_
          exact hj11842 0 (by omega) (by omega)
        refine GO.icmp_ne (tgt := 103) dX12_over_56 (by decide) vi_ir vi_ir (fun c11882 => ?_) (fun c11882 => ?_)
        ·
          exact hj11881 
        ·
          refine GO.aload_n dX12_over_59 rfl rfl ?_
          refine GO.getA (n := 200) h_x fl_RX12_310 rfl rfl rfl rfl dX12_over_60 (fun hv11884 h11883 => ?_)
          refine GO.iload dX12_over_63 rfl ?_
          refine GO.iald (t := 105) rfl rfl h11883 r_i10727 (by omega) (by omega) dX12_over_65 (fun l11885 u11886 => ?_)
          refine GO.aload_n dX12_over_66 rfl rfl ?_
          refine GO.getRaw h_x fl_RX12_310 hv11884 dX12_over_67 ?_
          refine GO.iload_n dX12_over_70 rfl rfl ?_
          refine GO.iald (t := 105) rfl rfl h11883 r_i2 (by omega) (by omega) dX12_over_71 (fun l11889 u11890 => ?_)
          refine GO.icmp_ne (tgt := 103) dX12_over_72 (by decide) vi_ir vi_ir (fun c11891 => ?_) (fun c11891 => ?_)
          ·
            exact hj11881 
          ·
            refine GO.aload_n dX12_over_75 rfl rfl ?_
            refine GO.getA (n := 200) h_x fl_RX12_316 rfl rfl rfl rfl dX12_over_76 (fun hv11893 h11892 => ?_)
            refine GO.iload dX12_over_79 rfl ?_
            refine GO.iald (t := 107) rfl rfl h11892 r_i10727 (by omega) (by omega) dX12_over_81 (fun l11894 u11895 => ?_)
            refine GO.sipush dX12_over_82 rfl ?_
            refine GO.idivP dX12_over_85 vi_ir (ir_c rfl) (by omega) (by omega) ?_
            refine GO.aload_n dX12_over_86 rfl rfl ?_
            refine GO.getRaw h_x fl_RX12_316 hv11893 dX12_over_87 ?_
            refine GO.iload_n dX12_over_90 rfl rfl ?_
            refine GO.iald (t := 107) rfl rfl h11892 r_i2 (by omega) (by omega) dX12_over_91 (fun l11898 u11899 => ?_)
            refine GO.sipush dX12_over_92 rfl ?_
            refine GO.idivP dX12_over_95 vi_ir (ir_c rfl) (by omega) (by omega) ?_
            refine GO.icmp_ne (tgt := 103) dX12_over_96 (by decide) ⟨by omega, by omega⟩ ⟨by omega, by omega⟩ (fun c11900 => ?_) (fun c11900 => ?_)
            ·
              exact hj11881 
            ·
              refine GO.iconst dX12_over_99 ?_
              refine GO.goto (tgt := 104) dX12_over_100 (by decide) ?_
              exact hj11842 1 (by omega) (by omega)
    refine GO.icmp_eq (tgt := 29) dX12_over_14 (by decide) r_i1 (ir_c rfl) (fun c11901 => ?_) (fun c11901 => ?_)
    ·
      exact hj10723 
    ·
      refine GO.aload_n dX12_over_17 rfl rfl ?_
      refine GO.iload_n dX12_over_18 rfl rfl ?_
      refine GO.iload_n dX12_over_19 rfl rfl ?_
      refine GO.callV (ci := 11) (N := mX12_isAhead) dX12_over_20 (RX12, TX12, 151) rfl gV_RX12_712 h_x (t_X12_isAhead h_x r_i1 r_i2 (by omega) (by omega) (by omega) (by omega)) rfl [] rfl rfl (Nat.le_of_ble_eq_true rfl) rfl (k_ip fun X11902 r11903 h11904 => ?_)
      refine GO.if_eq (tgt := 29) dX12_over_23 (by decide) r11903 (fun c11905 => ?_) (fun c11905 => ?_)
      ·
        exact hj10723 
      ·
        refine GO.goto (tgt := 193) dX12_over_26 (by decide) ?_
        refine GO.iinc (X := i2) (n := 1) (Y := i2 + 1) (ls1 := [some (.ref x), some (ti i1), some (ti (i2 + 1)), none, none, none, none]) dX12_over_193 rfl rfl rfl rfl ?_
        refine GO.goto (tgt := 4) dX12_over_196 (by decide) ?_
        exact ih10713 i1 (i2 + 1) Wi1 ⟨by omega, by omega, by omega, by omega, trivial⟩ (by show (2147483647 - (i2 + 1)).toNat < (2147483647 - i2).toNat; omega)

set_option maxHeartbeats 1000000 in
theorem t_X12_isDoubt {K : Kmap} {V : Vmap} {x : Nat} {p0 : Int} {p1 : Int} (h_x : K x = some (0, 11)) (r_p0 : ir p0) (r_p1 : ir p1) (q_0 : p0 ≥ 0) (q_1 : p0 ≤ 199) (q_2 : p1 ≥ 0) (q_3 : p1 ≤ 199) : MC mX12_isDoubt K V [.ref x, ti p0, ti p1] (IP K V (fun X => (X = 0 ∨ X = 1) ∧ (X ≠ 0 → True) ∧ (X = 0 → True))) := by
  refine MC.start 1 (by decide +kernel) rfl rfl rfl (ls0 := [some (.ref x), some (ti p0), some (ti p1), none]) rfl ?_
  refine GO.aload_n dX12_isDoubt_0 rfl rfl ?_
  refine GO.getA (n := 200) h_x fl_RX12_316 rfl rfl rfl rfl dX12_isDoubt_1 (fun hv2 h1 => ?_)
  refine GO.iload_n dX12_isDoubt_4 rfl rfl ?_
  have q3 : -2147483648 ≤ p0 ∧ p0 ≤ 2147483647 := r_p0
  refine GO.iald (t := 107) rfl rfl h1 r_p0 (by omega) (by omega) dX12_isDoubt_5 (fun l4 u5 => ?_)
  refine GO.aload_n dX12_isDoubt_6 rfl rfl ?_
  refine GO.getRaw h_x fl_RX12_316 hv2 dX12_isDoubt_7 ?_
  refine GO.iload_n dX12_isDoubt_10 rfl rfl ?_
  have q8 : -2147483648 ≤ p1 ∧ p1 ≤ 2147483647 := r_p1
  refine GO.iald (t := 107) rfl rfl h1 r_p1 (by omega) (by omega) dX12_isDoubt_11 (fun l9 u10 => ?_)
  refine GO.isub dX12_isDoubt_12 ?_
  refine GO.callS (N := mX12_size) dX12_isDoubt_13 gS_RX12_385 (t_X12_size ⟨by omega, by omega⟩ (by omega) (by omega)) rfl [] rfl rfl (Nat.le_of_ble_eq_true rfl) rfl (k_ip fun X11 r12 h13 => ?_)
  refine GO.istore_n (ls1 := [some (.ref x), some (ti p0), some (ti p1), some (ti X11)]) dX12_isDoubt_16 rfl rfl rfl ?_
  refine GO.aload_n dX12_isDoubt_17 rfl rfl ?_
  refine GO.getA (n := 200) h_x fl_RX12_304 rfl rfl rfl rfl dX12_isDoubt_18 (fun hv15 h14 => ?_)
  refine GO.iload_n dX12_isDoubt_21 rfl rfl ?_
  refine GO.iald (t := 103) rfl rfl h14 r_p0 (by omega) (by omega) dX12_isDoubt_22 (fun l16 u17 => ?_)
  refine GO.aload_n dX12_isDoubt_23 rfl rfl ?_
  refine GO.getRaw h_x fl_RX12_304 hv15 dX12_isDoubt_24 ?_
  refine GO.iload_n dX12_isDoubt_27 rfl rfl ?_
  refine GO.iald (t := 103) rfl rfl h14 r_p1 (by omega) (by omega) dX12_isDoubt_28 (fun l20 u21 => ?_)
  refine GO.icmp_ne (tgt := 80) dX12_isDoubt_29 (by decide) vi_ir vi_ir (fun c22 => ?_) (fun c22 => ?_)
  ·
    refine GO.iconst dX12_isDoubt_80 ?_
    exact GO.retz rfl rfl dX12_isDoubt_81 (Or.inl rfl) ⟨rfl, rfl, _, rfl, (ir_c rfl), ⟨Or.inl rfl, fun _ => trivial, fun _ => trivial⟩⟩
  ·
    refine GO.aload_n dX12_isDoubt_32 rfl rfl ?_
    refine GO.getA (n := 200) h_x fl_RX12_310 rfl rfl rfl rfl dX12_isDoubt_33 (fun hv24 h23 => ?_)
    refine GO.iload_n dX12_isDoubt_36 rfl rfl ?_
    refine GO.iald (t := 105) rfl rfl h23 r_p0 (by omega) (by omega) dX12_isDoubt_37 (fun l25 u26 => ?_)
    refine GO.aload_n dX12_isDoubt_38 rfl rfl ?_
    refine GO.getRaw h_x fl_RX12_310 hv24 dX12_isDoubt_39 ?_
    refine GO.iload_n dX12_isDoubt_42 rfl rfl ?_
    refine GO.iald (t := 105) rfl rfl h23 r_p1 (by omega) (by omega) dX12_isDoubt_43 (fun l29 u30 => ?_)
    refine GO.icmp_eq (tgt := 80) dX12_isDoubt_44 (by decide) vi_ir vi_ir (fun c31 => ?_) (fun c31 => ?_)
    ·
      refine GO.iconst dX12_isDoubt_80 ?_
      exact GO.retz rfl rfl dX12_isDoubt_81 (Or.inl rfl) ⟨rfl, rfl, _, rfl, (ir_c rfl), ⟨Or.inl rfl, fun _ => trivial, fun _ => trivial⟩⟩
    ·
      refine GO.iload_n dX12_isDoubt_47 rfl rfl ?_
      refine GO.aload_n dX12_isDoubt_48 rfl rfl ?_
      refine GO.getA (n := 4) h_x fl_RX12_244 rfl rfl rfl rfl dX12_isDoubt_49 (fun hv33 h32 => ?_)
      refine GO.aload_n dX12_isDoubt_52 rfl rfl ?_
      refine GO.getRaw h_x fl_RX12_310 hv24 dX12_isDoubt_53 ?_
      refine GO.iload_n dX12_isDoubt_56 rfl rfl ?_
      refine GO.iald (t := 105) rfl rfl h23 r_p0 (by omega) (by omega) dX12_isDoubt_57 (fun l36 u37 => ?_)
      refine GO.iald (t := 84) rfl rfl h32 vi_ir (by omega) (by omega) dX12_isDoubt_58 (fun _ _ => ?_)
      refine GO.aload_n dX12_isDoubt_59 rfl rfl ?_
      refine GO.getRaw h_x fl_RX12_244 hv33 dX12_isDoubt_60 ?_
      refine GO.aload_n dX12_isDoubt_63 rfl rfl ?_
      refine GO.getRaw h_x fl_RX12_310 hv24 dX12_isDoubt_64 ?_
      refine GO.iload_n dX12_isDoubt_67 rfl rfl ?_
      refine GO.iald (t := 105) rfl rfl h23 r_p1 (by omega) (by omega) dX12_isDoubt_68 (fun l42 u43 => ?_)
      refine GO.iald (t := 84) rfl rfl h32 vi_ir (by omega) (by omega) dX12_isDoubt_69 (fun _ _ => ?_)
      refine GO.iadd dX12_isDoubt_70 ?_
      refine GO.norm (fun z44 r45 hn46 => ?_)
      refine GO.iconst dX12_isDoubt_71 ?_
      refine GO.idiv dX12_isDoubt_72 (ir_c rfl) (by omega) ?_
      refine GO.icmp_ge (tgt := 80) dX12_isDoubt_73 (by decide) r12 wdiv_ir (fun c47 => ?_) (fun c47 => ?_)
      ·
        refine GO.iconst dX12_isDoubt_80 ?_
        exact GO.retz rfl rfl dX12_isDoubt_81 (Or.inl rfl) ⟨rfl, rfl, _, rfl, (ir_c rfl), ⟨Or.inl rfl, fun _ => trivial, fun _ => trivial⟩⟩
      ·
        refine GO.iconst dX12_isDoubt_76 ?_
        refine GO.goto (tgt := 81) dX12_isDoubt_77 (by decide) ?_
        exact GO.retz rfl rfl dX12_isDoubt_81 (Or.inr rfl) ⟨rfl, rfl, _, rfl, (ir_c rfl), ⟨Or.inr rfl, fun _ => trivial, fun _ => trivial⟩⟩
