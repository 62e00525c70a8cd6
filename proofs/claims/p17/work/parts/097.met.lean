def mX11_loss : MRec := (RX11, cX11_loss, 10, (some .int), yX11_loss, 2, 44, 0, 0, 0)
def mX11_noise : MRec := (RX11, cX11_noise, 4, (some .int), yX11_noise, 2, 44, 0, 0, 0)
def mX8_isFull_k26 : MRec := (RX8, cX8_isFull, 1, (some .boolean), yX8_isFull, 0, 0, 0, 0, 0)
def mX8_put_k26 : MRec := (RX8, cX8_put, 6, (none : Option Jvm.ClassFile.FieldType), yX8_put, 0, 0, 0, 0, 1353842624082429130653522550851115089568572790710847937094960732721983060451965636249987502980536903367866802227247837807116288)
def mX8_append_k26 : MRec := (RX8, cX8_append, 7, (some .int), yX8_append, 1, 25, 0, 0, 9343878384890255807777119448474196633381331982845050737826186276657716896285995369993240091100527477861749018579512057020227562230109619003481902348427344645043065629993190484571953593558851649536)
def mX11_caught : MRec := (RX11, cX11_caught, 6, (some .int), yX11_caught, 2, 51, 0, 0, 9343878384890255807777119448474196633381331982845050737826186276657716896285995369993240091100527477861749018579512057020227562230109619003481902348427344645043065629993190484571953593558851649536)
def mX8_get_k26 : MRec := (RX8, cX8_get, 5, (some .int), yX8_get, 0, 0, 0, 0, 0)
def mX11_tonnesUpTo : MRec := (RX11, cX11_tonnesUpTo, 7, (some .int), yX11_tonnesUpTo, 1, 24, 0, 0, 0)
def mX11_isOver : MRec := (RX11, cX11_isOver, 5, (some .boolean), yX11_isOver, 5, 127, 0, 0, 123947994148171612303484120256144569967825878055802728615871649113951085856808377342222976957446615908923352254691881254912)
set_option maxHeartbeats 1000000 in
theorem t_X11_loss {K : Kmap} {V : Vmap} {x : Nat} {p0 : Int} {p1 : Int} {p2 : Int} {p3 : Int} {p4 : Int} (h_x : K x = some (0, 10)) (r_p0 : ir p0) (r_p1 : ir p1) (r_p2 : ir p2) (r_p3 : ir p3) (r_p4 : ir p4) : MC mX11_loss K V [.ref x, ti p0, ti p1, ti p2, ti p3, ti p4] (IP K V (fun X => True)) := by
  refine MC.start 4 (by decide +kernel) rfl rfl rfl (ls0 := [some (.ref x), some (ti p0), some (ti p1), some (ti p2), some (ti p3), some (ti p4), none, none, none, none]) rfl ?_
  refine GO.aload_n dX11_loss_0 rfl rfl ?_
  refine GO.iload_n dX11_loss_1 rfl rfl ?_
  refine GO.iconst dX11_loss_2 ?_
  refine GO.callV (ci := 10) (N := mX11_placeOf) dX11_loss_3 (RX11, TX11, 20) rfl gV_RX11_169 h_x (t_X11_placeOf h_x r_p0 (ir_c rfl)) rfl [] rfl rfl (Nat.le_of_ble_eq_true rfl) rfl (k_rp (fun h3 => ?_) (fun o1 h2 h3 => ?_))
  ·
    refine GO.astoreN (ls1 := [some (.ref x), some (ti p0), some (ti p1), some (ti p2), some (ti p3), some (ti p4), some (.null), none, none, none]) dX11_loss_6 rfl rfl ?_
    refine GO.aloadN dX11_loss_8 rfl ?_
    refine GO.ifnullN (tgt := 53) dX11_loss_10 (by decide) ?_
    refine GO.ldcw (X := (-1000000)) dX11_loss_53 gw_1169 rfl ?_
    exact GO.reti rfl rfl dX11_loss_56 ⟨rfl, rfl, _, rfl, (ir_c rfl), trivial⟩
  ·
    refine GO.astore (ls1 := [some (.ref x), some (ti p0), some (ti p1), some (ti p2), some (ti p3), some (ti p4), some (.ref o1), none, none, none]) dX11_loss_6 rfl rfl ?_
    refine GO.aload dX11_loss_8 rfl ?_
    refine GO.ifnull dX11_loss_10 ?_
    refine GO.iload_n dX11_loss_13 rfl rfl ?_
    refine GO.callS (N := mX11_isYear) dX11_loss_14 gS_RX11_559 (t_X11_isYear r_p1) rfl [] rfl rfl (Nat.le_of_ble_eq_true rfl) rfl (k_ip fun X4 r5 h6 => ?_)
    refine GO.if_eq (tgt := 53) dX11_loss_17 (by decide) r5 (fun c7 => ?_) (fun c7 => ?_)
    ·
      refine GO.ldcw (X := (-1000000)) dX11_loss_53 gw_1169 rfl ?_
      exact GO.reti rfl rfl dX11_loss_56 ⟨rfl, rfl, _, rfl, (ir_c rfl), trivial⟩
    ·
      refine GO.iload_n dX11_loss_20 rfl rfl ?_
      refine GO.callS (N := mX11_isYear) dX11_loss_21 gS_RX11_559 (t_X11_isYear r_p2) rfl [] rfl rfl (Nat.le_of_ble_eq_true rfl) rfl (k_ip fun X8 r9 h10 => ?_)
      refine GO.if_eq (tgt := 53) dX11_loss_24 (by decide) r9 (fun c11 => ?_) (fun c11 => ?_)
      ·
        refine GO.ldcw (X := (-1000000)) dX11_loss_53 gw_1169 rfl ?_
        exact GO.reti rfl rfl dX11_loss_56 ⟨rfl, rfl, _, rfl, (ir_c rfl), trivial⟩
      ·
        refine GO.iload_n dX11_loss_27 rfl rfl ?_
        refine GO.iload_n dX11_loss_28 rfl rfl ?_
        refine GO.icmp_ge (tgt := 53) dX11_loss_29 (by decide) r_p1 r_p2 (fun c12 => ?_) (fun c12 => ?_)
        ·
          refine GO.ldcw (X := (-1000000)) dX11_loss_53 gw_1169 rfl ?_
          exact GO.reti rfl rfl dX11_loss_56 ⟨rfl, rfl, _, rfl, (ir_c rfl), trivial⟩
        ·
          refine GO.iload dX11_loss_32 rfl ?_
          refine GO.iconst dX11_loss_34 ?_
          refine GO.bipush dX11_loss_35 rfl ?_
          refine GO.callS (N := mX11_between) dX11_loss_37 gS_RX11_112 (t_X11_between r_p3 (ir_c rfl) (ir_c rfl)) rfl [] rfl rfl (Nat.le_of_ble_eq_true rfl) rfl (k_ip fun X13 r14 h15 => ?_)
          refine GO.if_eq (tgt := 53) dX11_loss_40 (by decide) r14 (fun c16 => ?_) (fun c16 => ?_)
          ·
            have q17 := h15.2.2 (by omega)
            refine GO.ldcw (X := (-1000000)) dX11_loss_53 gw_1169 rfl ?_
            exact GO.reti rfl rfl dX11_loss_56 ⟨rfl, rfl, _, rfl, (ir_c rfl), trivial⟩
          ·
            have q18 := h15.2.1 (by omega)
            refine GO.iload dX11_loss_43 rfl ?_
            refine GO.iconst dX11_loss_45 ?_
            refine GO.iconst dX11_loss_46 ?_
            refine GO.callS (N := mX11_between) dX11_loss_47 gS_RX11_112 (t_X11_between r_p4 (ir_c rfl) (ir_c rfl)) rfl [] rfl rfl (Nat.le_of_ble_eq_true rfl) rfl (k_ip fun X19 r20 h21 => ?_)
            refine GO.if_ne (tgt := 57) dX11_loss_50 (by decide) r20 (fun c22 => ?_) (fun c22 => ?_)
            ·
              have q23 := h21.2.1 (by omega)
              refine GO.aload dX11_loss_57 rfl ?_
              refine GO.getNB h2 fl_RX11_491 rfl rfl dX11_loss_59 (fun hv25 => ?_) (fun n26 hv25 h24 b27 => ?_)
              ·
                refine GO.iload_n dX11_loss_62 rfl rfl ?_
                refine GO.callS (N := mX4_get_n) dX11_loss_63 gS_RX11_253 (t_X4_get_n r_p1) rfl [] rfl rfl (Nat.le_of_ble_eq_true rfl) rfl (k_ip fun X28 r29 h30 => ?_)
                refine GO.istore (ls1 := [some (.ref x), some (ti p0), some (ti p1), some (ti p2), some (ti p3), some (ti p4), some (.ref o1), some (ti X28), none, none]) dX11_loss_66 rfl rfl ?_
                refine GO.aload dX11_loss_68 rfl ?_
                refine GO.getRaw h2 fl_RX11_491 hv25 dX11_loss_70 ?_
                refine GO.iload_n dX11_loss_73 rfl rfl ?_
                refine GO.callS (N := mX4_get_n) dX11_loss_74 gS_RX11_253 (t_X4_get_n r_p2) rfl [] rfl rfl (Nat.le_of_ble_eq_true rfl) rfl (k_ip fun X33 r34 h35 => ?_)
                refine GO.istore (ls1 := [some (.ref x), some (ti p0), some (ti p1), some (ti p2), some (ti p3), some (ti p4), some (.ref o1), some (ti X28), some (ti X33), none]) dX11_loss_77 rfl rfl ?_
                refine GO.iload dX11_loss_79 rfl ?_
                refine GO.iconst dX11_loss_81 ?_
                have q37 : -2147483648 ≤ X28 ∧ X28 ≤ 2147483647 := r29
                refine GO.icmp_eq (tgt := 91) dX11_loss_82 (by decide) r29 (ir_c rfl) (fun h => by exfalso; omega) (fun c36 => ?_)
                refine GO.iload dX11_loss_85 rfl ?_
                refine GO.iconst dX11_loss_87 ?_
                have q39 : -2147483648 ≤ X33 ∧ X33 ≤ 2147483647 := r34
                refine GO.icmp_ne (tgt := 95) dX11_loss_88 (by decide) r34 (ir_c rfl) (fun c38 => ?_) (fun h => by exfalso; omega)
                refine GO.iload dX11_loss_95 rfl ?_
                refine GO.iload dX11_loss_97 rfl ?_
                refine GO.imul dX11_loss_99 ?_
                have q40 : -2147483648 ≤ p3 ∧ p3 ≤ 2147483647 := r_p3
                have m41 := mul_rng (a := X28) (b := p3) (A := 0) (B := 99) (by omega) (by omega) (by omega) (by omega)
                refine GO.bipush dX11_loss_100 rfl ?_
                refine GO.iadd dX11_loss_102 ?_
                refine GO.bipush dX11_loss_103 rfl ?_
                refine GO.idivP dX11_loss_105 ⟨by omega, by omega⟩ (ir_c rfl) (by omega) (by omega) ?_
                refine GO.iload dX11_loss_106 rfl ?_
                refine GO.iload dX11_loss_108 rfl ?_
                refine GO.imul dX11_loss_110 ?_
                have m42 := mul_rng (a := X33) (b := p3) (A := 0) (B := 99) (by omega) (by omega) (by omega) (by omega)
                refine GO.bipush dX11_loss_111 rfl ?_
                refine GO.iadd dX11_loss_113 ?_
                refine GO.bipush dX11_loss_114 rfl ?_
                refine GO.idivP dX11_loss_116 ⟨by omega, by omega⟩ (ir_c rfl) (by omega) (by omega) ?_
                refine GO.iadd dX11_loss_117 ?_
                refine GO.name (fun z43 hz44 => ?_)
                refine GO.istore (ls1 := [some (.ref x), some (ti p0), some (ti p1), some (ti p2), some (ti p3), some (ti p4), some (.ref o1), some (ti X28), some (ti X33), some (ti z43)]) dX11_loss_118 rfl rfl ?_
                refine GO.iload dX11_loss_120 rfl ?_
                refine GO.iload dX11_loss_122 rfl ?_
                refine GO.isub dX11_loss_124 ?_
                refine GO.iload dX11_loss_125 rfl ?_
                refine GO.if_ne (tgt := 136) dX11_loss_127 (by decide) r_p4 (fun c45 => ?_) (fun c45 => ?_)
                ·
                  refine GO.iload dX11_loss_136 rfl ?_
                  refine GO.iadd dX11_loss_138 ?_
                  exact GO.reti rfl rfl dX11_loss_139 ⟨rfl, rfl, _, rfl, ⟨by omega, by omega⟩, trivial⟩
                ·
                  refine GO.iload dX11_loss_130 rfl ?_
                  refine GO.ineg dX11_loss_132 ?_
                  refine GO.goto (tgt := 138) dX11_loss_133 (by decide) ?_
                  refine GO.iadd dX11_loss_138 ?_
                  exact GO.reti rfl rfl dX11_loss_139 ⟨rfl, rfl, _, rfl, ⟨by omega, by omega⟩, trivial⟩
              ·
                refine GO.iload_n dX11_loss_62 rfl rfl ?_
                refine GO.callS (N := mX4_get) dX11_loss_63 gS_RX11_253 (t_X4_get rfl h24 r_p1) rfl [] rfl rfl (Nat.le_of_ble_eq_true rfl) rfl (k_ip fun X46 r47 h48 => ?_)
                have raw_get := h48.2
                have rw63 := h48.2
                refine GO.istore (ls1 := [some (.ref x), some (ti p0), some (ti p1), some (ti p2), some (ti p3), some (ti p4), some (.ref o1), some (ti X46), none, none]) dX11_loss_66 rfl rfl ?_
                refine GO.aload dX11_loss_68 rfl ?_
                refine GO.getRaw h2 fl_RX11_491 hv25 dX11_loss_70 ?_
                refine GO.iload_n dX11_loss_73 rfl rfl ?_
                refine GO.callS (N := mX4_get) dX11_loss_74 gS_RX11_253 (t_X4_get rfl h24 r_p2) rfl [] rfl rfl (Nat.le_of_ble_eq_true rfl) rfl (k_ip fun X51 r52 h53 => ?_)
                have raw_get := h53.2
                have rw74 := h53.2
                refine GO.istore (ls1 := [some (.ref x), some (ti p0), some (ti p1), some (ti p2), some (ti p3), some (ti p4), some (.ref o1), some (ti X46), some (ti X51), none]) dX11_loss_77 rfl rfl ?_
                refine GO.iload dX11_loss_79 rfl ?_
                refine GO.iconst dX11_loss_81 ?_
                refine GO.icmp_eq (tgt := 91) dX11_loss_82 (by decide) r47 (ir_c rfl) (fun c54 => ?_) (fun c54 => ?_)
                ·
                  refine GO.ldcw (X := (-1000000)) dX11_loss_91 gw_1169 rfl ?_
                  exact GO.reti rfl rfl dX11_loss_94 ⟨rfl, rfl, _, rfl, (ir_c rfl), trivial⟩
                ·
                  refine GO.iload dX11_loss_85 rfl ?_
                  refine GO.iconst dX11_loss_87 ?_
                  refine GO.icmp_ne (tgt := 95) dX11_loss_88 (by decide) r52 (ir_c rfl) (fun c55 => ?_) (fun c55 => ?_)
                  ·
                    refine GO.iload dX11_loss_95 rfl ?_
                    refine GO.iload dX11_loss_97 rfl ?_
                    refine GO.imul dX11_loss_99 ?_
                    refine GO.norm (fun z56 r57 hn58 => ?_)
                    refine GO.bipush dX11_loss_100 rfl ?_
                    refine GO.iadd dX11_loss_102 ?_
                    refine GO.norm (fun z59 r60 hn61 => ?_)
                    refine GO.bipush dX11_loss_103 rfl ?_
                    refine GO.idiv dX11_loss_105 (ir_c rfl) (by omega) ?_
                    refine GO.iload dX11_loss_106 rfl ?_
                    refine GO.iload dX11_loss_108 rfl ?_
                    refine GO.imul dX11_loss_110 ?_
                    refine GO.norm (fun z62 r63 hn64 => ?_)
                    refine GO.bipush dX11_loss_111 rfl ?_
                    refine GO.iadd dX11_loss_113 ?_
                    refine GO.norm (fun z65 r66 hn67 => ?_)
                    refine GO.bipush dX11_loss_114 rfl ?_
                    refine GO.idiv dX11_loss_116 (ir_c rfl) (by omega) ?_
                    refine GO.iadd dX11_loss_117 ?_
                    refine GO.norm (fun z68 r69 hn70 => ?_)
                    refine GO.istore (ls1 := [some (.ref x), some (ti p0), some (ti p1), some (ti p2), some (ti p3), some (ti p4), some (.ref o1), some (ti X46), some (ti X51), some (ti z68)]) dX11_loss_118 rfl rfl ?_
                    refine GO.iload dX11_loss_120 rfl ?_
                    refine GO.iload dX11_loss_122 rfl ?_
                    refine GO.isub dX11_loss_124 ?_
                    refine GO.norm (fun z71 r72 hn73 => ?_)
                    refine GO.iload dX11_loss_125 rfl ?_
                    refine GO.if_ne (tgt := 136) dX11_loss_127 (by decide) r_p4 (fun c74 => ?_) (fun c74 => ?_)
                    ·
                      refine GO.iload dX11_loss_136 rfl ?_
                      refine GO.iadd dX11_loss_138 ?_
                      refine GO.norm (fun z75 r76 hn77 => ?_)
                      have q78 : -2147483648 ≤ z75 ∧ z75 ≤ 2147483647 := r76
                      exact GO.reti rfl rfl dX11_loss_139 ⟨rfl, rfl, _, rfl, r76, trivial⟩
                    ·
                      refine GO.iload dX11_loss_130 rfl ?_
                      refine GO.ineg dX11_loss_132 ?_
                      refine GO.norm (fun z79 r80 hn81 => ?_)
                      refine GO.goto (tgt := 138) dX11_loss_133 (by decide) ?_
                      refine GO.iadd dX11_loss_138 ?_
                      refine GO.norm (fun z82 r83 hn84 => ?_)
                      have q85 : -2147483648 ≤ z82 ∧ z82 ≤ 2147483647 := r83
                      exact GO.reti rfl rfl dX11_loss_139 ⟨rfl, rfl, _, rfl, r83, trivial⟩
                  ·
                    refine GO.ldcw (X := (-1000000)) dX11_loss_91 gw_1169 rfl ?_
                    exact GO.reti rfl rfl dX11_loss_94 ⟨rfl, rfl, _, rfl, (ir_c rfl), trivial⟩
            ·
              have q86 := h21.2.2 (by omega)
              refine GO.ldcw (X := (-1000000)) dX11_loss_53 gw_1169 rfl ?_
              exact GO.reti rfl rfl dX11_loss_56 ⟨rfl, rfl, _, rfl, (ir_c rfl), trivial⟩

set_option maxHeartbeats 1000000 in
theorem t_X11_noise {K : Kmap} {V : Vmap} {x : Nat} {p0 : Int} {p1 : Int} (h_x : K x = some (0, 10)) (r_p0 : ir p0) (r_p1 : ir p1) : MC mX11_noise K V [.ref x, ti p0, ti p1] (IP K V (fun X => True)) := by
  refine MC.start 1 (by decide +kernel) rfl rfl rfl (ls0 := [some (.ref x), some (ti p0), some (ti p1), none]) rfl ?_
  refine GO.aload_n dX11_noise_0 rfl rfl ?_
  refine GO.iload_n dX11_noise_1 rfl rfl ?_
  refine GO.iconst dX11_noise_2 ?_
  refine GO.callV (ci := 10) (N := mX11_placeOf) dX11_noise_3 (RX11, TX11, 20) rfl gV_RX11_169 h_x (t_X11_placeOf h_x r_p0 (ir_c rfl)) rfl [] rfl rfl (Nat.le_of_ble_eq_true rfl) rfl (k_rp (fun h3 => ?_) (fun o1 h2 h3 => ?_))
  ·
    refine GO.astore_nN (ls1 := [some (.ref x), some (ti p0), some (ti p1), some (.null)]) dX11_noise_6 rfl rfl rfl ?_
    refine GO.aload_nN dX11_noise_7 rfl rfl ?_
    refine GO.ifnullN (tgt := 18) dX11_noise_8 (by decide) ?_
    refine GO.iconst dX11_noise_18 ?_
    refine GO.goto (tgt := 30) dX11_noise_19 (by decide) ?_
    exact GO.reti rfl rfl dX11_noise_30 ⟨rfl, rfl, _, rfl, (ir_c rfl), trivial⟩
  ·
    refine GO.astore_n (ls1 := [some (.ref x), some (ti p0), some (ti p1), some (.ref o1)]) dX11_noise_6 rfl rfl rfl ?_
    refine GO.aload_n dX11_noise_7 rfl rfl ?_
    refine GO.ifnull dX11_noise_8 ?_
    refine GO.iload_n dX11_noise_11 rfl rfl ?_
    refine GO.callS (N := mX11_isYear) dX11_noise_12 gS_RX11_559 (t_X11_isYear r_p1) rfl [] rfl rfl (Nat.le_of_ble_eq_true rfl) rfl (k_ip fun X4 r5 h6 => ?_)
    refine GO.if_ne (tgt := 22) dX11_noise_15 (by decide) r5 (fun c7 => ?_) (fun c7 => ?_)
    ·
      refine GO.aload_n dX11_noise_22 rfl rfl ?_
      refine GO.getNB h2 fl_RX11_473 rfl rfl dX11_noise_23 (fun hv9 => ?_) (fun n10 hv9 h8 b11 => ?_)
      ·
        refine GO.iload_n dX11_noise_26 rfl rfl ?_
        refine GO.callS (N := mX4_get_n) dX11_noise_27 gS_RX11_253 (t_X4_get_n r_p1) rfl [] rfl rfl (Nat.le_of_ble_eq_true rfl) rfl (k_ip fun X12 r13 h14 => ?_)
        have q15 : -2147483648 ≤ X12 ∧ X12 ≤ 2147483647 := r13
        exact GO.reti rfl rfl dX11_noise_30 ⟨rfl, rfl, _, rfl, r13, trivial⟩
      ·
        refine GO.iload_n dX11_noise_26 rfl rfl ?_
        refine GO.callS (N := mX4_get) dX11_noise_27 gS_RX11_253 (t_X4_get rfl h8 r_p1) rfl [] rfl rfl (Nat.le_of_ble_eq_true rfl) rfl (k_ip fun X16 r17 h18 => ?_)
        have raw_get := h18.2
        have rw27 := h18.2
        exact GO.reti rfl rfl dX11_noise_30 ⟨rfl, rfl, _, rfl, r17, trivial⟩
    ·
      refine GO.iconst dX11_noise_18 ?_
      refine GO.goto (tgt := 30) dX11_noise_19 (by decide) ?_
      exact GO.reti rfl rfl dX11_noise_30 ⟨rfl, rfl, _, rfl, (ir_c rfl), trivial⟩

set_option maxHeartbeats 1000000 in
theorem t_X8_isFull_k26 {K : Kmap} {V : Vmap} {x : Nat} (h_x : K x = some (0, 26)) : MC mX8_isFull_k26 K V [.ref x] (IP K V (fun X => (X = 0 ∨ X = 1) ∧ (X ≠ 0 → vi V x 3 ≥ 200) ∧ (X = 0 → vi V x 3 ≤ 199))) := by
  refine MC.start 0 (by decide +kernel) rfl rfl rfl (ls0 := [some (.ref x)]) rfl ?_
  refine GO.aload_n dX8_isFull_0 rfl rfl ?_
  refine GO.getI h_x fl_RX8_9_k26 rfl rfl dX8_isFull_1 (fun l1 u2 => ?_)
  refine GO.aload_n dX8_isFull_4 rfl rfl ?_
  refine GO.getI h_x fl_RX8_18_k26 rfl rfl dX8_isFull_5 (fun l3 u4 => ?_)
  refine GO.icmp_lt (tgt := 15) dX8_isFull_8 (by decide) vi_ir vi_ir (fun c5 => ?_) (fun c5 => ?_)
  ·
    refine GO.iconst dX8_isFull_15 ?_
    exact GO.retz rfl rfl dX8_isFull_16 (Or.inl rfl) ⟨rfl, rfl, _, rfl, (ir_c rfl), ⟨Or.inl rfl, fun h => absurd rfl h, fun h => by omega⟩⟩
  ·
    refine GO.iconst dX8_isFull_11 ?_
    refine GO.goto (tgt := 16) dX8_isFull_12 (by decide) ?_
    exact GO.retz rfl rfl dX8_isFull_16 (Or.inr rfl) ⟨rfl, rfl, _, rfl, (ir_c rfl), ⟨Or.inr rfl, fun h => by omega, fun h => absurd h (by decide)⟩⟩

set_option maxHeartbeats 1000000 in
theorem t_X8_put_k26 {K : Kmap} {V : Vmap} {x : Nat} {p0 : Int} {p1 : Int} {p2 : Int} (h_x : K x = some (0, 26)) (r_p0 : ir p0) (r_p1 : ir p1) (r_p2 : ir p2) : MC mX8_put_k26 K V [.ref x, ti p0, ti p1, ti p2] (VS K (fun V1 => (True))) := by
  refine MC.start 2 (by decide +kernel) rfl rfl rfl (ls0 := [some (.ref x), some (ti p0), some (ti p1), some (ti p2), none, none]) rfl ?_
  refine GO.iload_n dX8_put_0 rfl rfl ?_
  refine GO.aload_n dX8_put_1 rfl rfl ?_
  refine GO.getI h_x fl_RX8_15_k26 rfl rfl dX8_put_2 (fun l1 u2 => ?_)
  refine GO.imul dX8_put_5 ?_
  refine GO.norm (fun z3 r4 hn5 => ?_)
  refine GO.iload_n dX8_put_6 rfl rfl ?_
  refine GO.iadd dX8_put_7 ?_
  refine GO.norm (fun z6 r7 hn8 => ?_)
  refine GO.istore (ls1 := [some (.ref x), some (ti p0), some (ti p1), some (ti p2), some (ti z6), none]) dX8_put_8 rfl rfl ?_
  refine GO.iload_n dX8_put_10 rfl rfl ?_
  have hj18 : ∀ (z17 : Int), ∀ (l19 : 0 ≤ z17), ∀ (u20 : z17 ≤ 1), GO mX8_put_k26 K V (VS K (fun V1 => (True))) K V 0 0 39 [some (.ref x), some (ti p0), some (ti p1), some (ti p2), some (ti z6), none] [ti z17] := by
    intro z17 l19 u20
    have r21 : ir z17 := ⟨by omega, by omega⟩
    refine GO.istore (ls1 := [some (.ref x), some (ti p0), some (ti p1), some (ti p2), some (ti z6), some (ti z17)]) dX8_put_39 rfl rfl ?_
    refine GO.iload dX8_put_41 rfl ?_
    refine GO.if_eq (tgt := 69) dX8_put_43 (by decide) r21 (fun c22 => ?_) (fun c22 => ?_)
    ·
      exact GO.retv rfl rfl dX8_put_69 ⟨rfl, rfl, trivial⟩
    ·
      refine GO.iload dX8_put_46 rfl ?_
      refine GO.if_lt (tgt := 69) dX8_put_48 (by decide) r7 (fun c23 => ?_) (fun c23 => ?_)
      ·
        exact GO.retv rfl rfl dX8_put_69 ⟨rfl, rfl, trivial⟩
      ·
        refine GO.iload dX8_put_51 rfl ?_
        refine GO.aload_n dX8_put_53 rfl rfl ?_
        refine GO.getA (n := 1000) h_x fl_RX8_27_k26 rfl rfl rfl rfl dX8_put_54 (fun hv25 h24 => ?_)
        refine GO.alen h24 dX8_put_57 (fun h26 => ?_)
        refine GO.icmp_ge (tgt := 69) dX8_put_58 (by decide) r7 ⟨by omega, by omega⟩ (fun c27 => ?_) (fun c27 => ?_)
        ·
          exact GO.retv rfl rfl dX8_put_69 ⟨rfl, rfl, trivial⟩
        ·
          refine GO.aload_n dX8_put_61 rfl rfl ?_
          refine GO.getRaw h_x fl_RX8_27_k26 hv25 dX8_put_62 ?_
          refine GO.iload dX8_put_65 rfl ?_
          refine GO.iload_n dX8_put_67 rfl rfl ?_
          have q30 : -2147483648 ≤ z6 ∧ z6 ≤ 2147483647 := r7
          refine GO.iast (t := 148) rfl rfl (by decide +kernel) h24 r7 (by omega) (by omega) r_p2 (r_p2).1 (r_p2).2 dX8_put_68 (fun V32 e31 => ?_)
          exact GO.retv rfl rfl dX8_put_69 ⟨rfl, rfl, trivial⟩
  have hj41 : GO mX8_put_k26 K V (VS K (fun V1 => (True))) K V 0 0 38 [some (.ref x), some (ti p0), some (ti p1), some (ti p2), some (ti z6), none] [] := by
    skip
    refine GO.iconst dX8_put_38 ?_
    exact hj18 0 (by omega) (by omega)
  refine GO.if_lt (tgt := 38) dX8_put_11 (by decide) r_p0 (fun c42 => ?_) (fun c42 => ?_)
  ·
    exact hj41 
  ·
    refine GO.iload_n dX8_put_14 rfl rfl ?_
    refine GO.aload_n dX8_put_15 rfl rfl ?_
    refine GO.getI h_x fl_RX8_9_k26 rfl rfl dX8_put_16 (fun l43 u44 => ?_)
    refine GO.icmp_ge (tgt := 38) dX8_put_19 (by decide) r_p0 vi_ir (fun c45 => ?_) (fun c45 => ?_)
    ·
      exact hj41 
    ·
      refine GO.iload_n dX8_put_22 rfl rfl ?_
      refine GO.if_lt (tgt := 38) dX8_put_23 (by decide) r_p1 (fun c46 => ?_) (fun c46 => ?_)
      ·
        exact hj41 
      ·
        refine GO.iload_n dX8_put_26 rfl rfl ?_
        refine GO.aload_n dX8_put_27 rfl rfl ?_
        refine GO.getI h_x fl_RX8_15_k26 rfl rfl dX8_put_28 (fun l47 u48 => ?_)
        refine GO.icmp_ge (tgt := 38) dX8_put_31 (by decide) r_p1 vi_ir (fun c49 => ?_) (fun c49 => ?_)
        ·
          exact hj41 
        ·
          refine GO.iconst dX8_put_34 ?_
          refine GO.goto (tgt := 39) dX8_put_35 (by decide) ?_
          exact hj18 1 (by omega) (by omega)

set_option maxHeartbeats 1000000 in
theorem t_X8_append_k26 {K : Kmap} {V : Vmap} {x : Nat} {p0 : Int} {p1 : Int} {p2 : Int} {p3 : Int} {p4 : Int} (h_x : K x = some (0, 26)) (r_p0 : ir p0) (r_p1 : ir p1) (r_p2 : ir p2) (r_p3 : ir p3) (r_p4 : ir p4) : MC mX8_append_k26 K V [.ref x, ti p0, ti p1, ti p2, ti p3, ti p4] (IS K (fun X V1 => ((X = (-1) ∧ vi V1 x 3 = vi V x 3 ∧ vi V x 3 ≥ 200) ∨ (X = vi V x 3 ∧ vi V1 x 3 = (vi V x 3 + 1) ∧ vi V x 3 < 200)))) := by
  refine MC.start 1 (by decide +kernel) rfl rfl rfl (ls0 := [some (.ref x), some (ti p0), some (ti p1), some (ti p2), some (ti p3), some (ti p4), none]) rfl ?_
  refine GO.aload_n dX8_append_0 rfl rfl ?_
  refine GO.callV (ci := 26) (N := mX8_isFull_k26) dX8_append_1 (RX8, TX8, 4) rfl gV_RX8_31 h_x (t_X8_isFull_k26 h_x) rfl [] rfl rfl (Nat.le_of_ble_eq_true rfl) rfl (k_ip fun X1 r2 h3 => ?_)
  refine GO.if_eq (tgt := 9) dX8_append_4 (by decide) r2 (fun c4 => ?_) (fun c4 => ?_)
  ·
    have q5 := h3.2.2 (by omega)
    refine GO.aload_n dX8_append_9 rfl rfl ?_
    refine GO.getI h_x fl_RX8_9_k26 rfl rfl dX8_append_10 (fun l6 u7 => ?_)
    refine GO.name (fun z8 hz9 => ?_)
    have r10 : ir z8 := hz9 ▸ vi_ir
    refine GO.istore (ls1 := [some (.ref x), some (ti p0), some (ti p1), some (ti p2), some (ti p3), some (ti p4), some (ti z8)]) dX8_append_13 rfl rfl ?_
    refine GO.aload_n dX8_append_15 rfl rfl ?_
    refine GO.dup dX8_append_16 rfl ?_
    refine GO.getI h_x fl_RX8_9_k26 rfl rfl dX8_append_17 (fun l11 u12 => ?_)
    refine GO.iconst dX8_append_20 ?_
    refine GO.iadd dX8_append_21 ?_
    have q14 : -2147483648 ≤ vi V x 3 ∧ vi V x 3 ≤ 2147483647 := vi_ir
    have q15 : -2147483648 ≤ z8 ∧ z8 ≤ 2147483647 := r10
    refine GO.putI h_x fp_RX8_9_k26 rfl (by decide +kernel) ⟨by omega, by omega⟩ (by omega) (by omega) dX8_append_22 (fun V16 e13 => ?_)
    refine GO.aload_n dX8_append_25 rfl rfl ?_
    refine GO.iload dX8_append_26 rfl ?_
    refine GO.iconst dX8_append_28 ?_
    refine GO.iload_n dX8_append_29 rfl rfl ?_
    refine GO.callV (ci := 26) (N := mX8_put_k26) dX8_append_30 (RX8, TX8, 4) rfl gV_RX8_35 h_x (t_X8_put_k26 h_x r10 (ir_c rfl) r_p0) rfl [] rfl rfl (Nat.le_of_ble_eq_true rfl) rfl (k_vs fun V19 h18 hF17 => ?_)
    refine GO.aload_n dX8_append_33 rfl rfl ?_
    refine GO.iload dX8_append_34 rfl ?_
    refine GO.iconst dX8_append_36 ?_
    refine GO.iload_n dX8_append_37 rfl rfl ?_
    refine GO.callV (ci := 26) (N := mX8_put_k26) dX8_append_38 (RX8, TX8, 4) rfl gV_RX8_35 h_x (t_X8_put_k26 h_x r10 (ir_c rfl) r_p1) rfl [] rfl rfl (Nat.le_of_ble_eq_true rfl) rfl (k_vs fun V22 h21 hF20 => ?_)
    refine GO.aload_n dX8_append_41 rfl rfl ?_
    refine GO.iload dX8_append_42 rfl ?_
    refine GO.iconst dX8_append_44 ?_
    refine GO.iload_n dX8_append_45 rfl rfl ?_
    refine GO.callV (ci := 26) (N := mX8_put_k26) dX8_append_46 (RX8, TX8, 4) rfl gV_RX8_35 h_x (t_X8_put_k26 h_x r10 (ir_c rfl) r_p2) rfl [] rfl rfl (Nat.le_of_ble_eq_true rfl) rfl (k_vs fun V25 h24 hF23 => ?_)
    refine GO.aload_n dX8_append_49 rfl rfl ?_
    refine GO.iload dX8_append_50 rfl ?_
    refine GO.iconst dX8_append_52 ?_
    refine GO.iload dX8_append_53 rfl ?_
    refine GO.callV (ci := 26) (N := mX8_put_k26) dX8_append_55 (RX8, TX8, 4) rfl gV_RX8_35 h_x (t_X8_put_k26 h_x r10 (ir_c rfl) r_p3) rfl [] rfl rfl (Nat.le_of_ble_eq_true rfl) rfl (k_vs fun V28 h27 hF26 => ?_)
    refine GO.aload_n dX8_append_58 rfl rfl ?_
    refine GO.iload dX8_append_59 rfl ?_
    refine GO.iconst dX8_append_61 ?_
    refine GO.iload dX8_append_62 rfl ?_
    refine GO.callV (ci := 26) (N := mX8_put_k26) dX8_append_64 (RX8, TX8, 4) rfl gV_RX8_35 h_x (t_X8_put_k26 h_x r10 (ir_c rfl) r_p4) rfl [] rfl rfl (Nat.le_of_ble_eq_true rfl) rfl (k_vs fun V31 h30 hF29 => ?_)
    refine GO.iload dX8_append_67 rfl ?_
    have e37 : vi V16 x 3 = (vi V x 3) + 1 := upd2_int e13 ⟨by omega, by omega⟩
    have e36 : vi V19 x 3 = vi V16 x 3 := vi_fr hF17 h_x h_x (by decide +kernel)
    have e35 : vi V22 x 3 = vi V19 x 3 := vi_fr hF20 h_x h_x (by decide +kernel)
    have e34 : vi V25 x 3 = vi V22 x 3 := vi_fr hF23 h_x h_x (by decide +kernel)
    have e33 : vi V28 x 3 = vi V25 x 3 := vi_fr hF26 h_x h_x (by decide +kernel)
    have e32 : vi V31 x 3 = vi V28 x 3 := vi_fr hF29 h_x h_x (by decide +kernel)
    exact GO.reti rfl rfl dX8_append_69 ⟨rfl, _, rfl, r10, by omega⟩
  ·
    have q38 := h3.2.1 (by omega)
    refine GO.iconst dX8_append_7 ?_
    have q39 : -2147483648 ≤ vi V x 3 ∧ vi V x 3 ≤ 2147483647 := vi_ir
    exact GO.reti rfl rfl dX8_append_8 ⟨rfl, _, rfl, (ir_c rfl), by omega⟩

set_option maxHeartbeats 1000000 in
theorem t_X11_caught {K : Kmap} {V : Vmap} {x : Nat} {p0 : Int} {p1 : Int} {p2 : Int} {p3 : Int} {p4 : Int} (h_x : K x = some (0, 10)) (r_p0 : ir p0) (r_p1 : ir p1) (r_p2 : ir p2) (r_p3 : ir p3) (r_p4 : ir p4) (w_0 : SN V x) : MC mX11_caught K V [.ref x, ti p0, ti p1, ti p2, ti p3, ti p4] (IS K (fun X V1 => (X ≥ (-2147483648) ∧ X ≤ 2147483647) ∧ (CTC V V1 x p0 p1 p2 p3 p4 X))) := by
  refine MC.start 0 (by decide +kernel) rfl rfl rfl (ls0 := [some (.ref x), some (ti p0), some (ti p1), some (ti p2), some (ti p3), some (ti p4)]) rfl ?_
  refine GO.aload_n dX11_caught_0 rfl rfl ?_
  refine GO.iload_n dX11_caught_1 rfl rfl ?_
  refine GO.callV (ci := 10) (N := mX11_shipOf) dX11_caught_2 (RX11, TX11, 20) rfl gV_RX11_403 h_x (t_X11_shipOf h_x r_p0) rfl [] rfl rfl (Nat.le_of_ble_eq_true rfl) rfl (k_rp (fun h3 => ?_) (fun o1 h2 h3 => ?_))
  ·
    have rwn2 := h3.2
    have hn4 : SN V x → p0 < 0 ∨ vi V x 10 ≤ p0 := h3.2
    have hnn5 := hn4 w_0
    refine GO.ifnullN (tgt := 36) dX11_caught_5 (by decide) ?_
    refine GO.iconst dX11_caught_36 ?_
    exact GO.reti rfl rfl dX11_caught_37 ⟨rfl, _, rfl, (ir_c rfl), ⟨(by first | exact trivial | omega), (by first | exact ctc_0 (by omega) | exact ctc_1 (by assumption) h_x (by decide +kernel) (by omega) (by assumption))⟩⟩
  ·
    have hp6 : p0 ≥ 0 ∧ p0 < vi V x 10 := h3.1
    have rwp2 := h3.2
    have hq7 : o1 = vq V (vq V x 9) (p0).toNat := h3.2
    refine GO.ifnull dX11_caught_5 ?_
    refine GO.iload_n dX11_caught_8 rfl rfl ?_
    refine GO.iconst dX11_caught_9 ?_
    refine GO.iconst dX11_caught_10 ?_
    refine GO.callS (N := mX11_between) dX11_caught_11 gS_RX11_112 (t_X11_between r_p1 (ir_c rfl) (ir_c rfl)) rfl [] rfl rfl (Nat.le_of_ble_eq_true rfl) rfl (k_ip fun X8 r9 h10 => ?_)
    refine GO.if_eq (tgt := 36) dX11_caught_14 (by decide) r9 (fun c11 => ?_) (fun c11 => ?_)
    ·
      have q12 := h10.2.2 (by omega)
      refine GO.iconst dX11_caught_36 ?_
      exact GO.reti rfl rfl dX11_caught_37 ⟨rfl, _, rfl, (ir_c rfl), ⟨(by first | exact trivial | omega), (by first | exact ctc_0 (by omega) | exact ctc_1 (by assumption) h_x (by decide +kernel) (by omega) (by assumption))⟩⟩
    ·
      have q13 := h10.2.1 (by omega)
      refine GO.iload_n dX11_caught_17 rfl rfl ?_
      refine GO.callS (N := mX11_isSea) dX11_caught_18 gS_RX11_394 (t_X11_isSea r_p2) rfl [] rfl rfl (Nat.le_of_ble_eq_true rfl) rfl (k_ip fun X14 r15 h16 => ?_)
      refine GO.if_eq (tgt := 36) dX11_caught_21 (by decide) r15 (fun c17 => ?_) (fun c17 => ?_)
      ·
        have q18 := h16.2.2 (by omega)
        refine GO.iconst dX11_caught_36 ?_
        exact GO.reti rfl rfl dX11_caught_37 ⟨rfl, _, rfl, (ir_c rfl), ⟨(by first | exact trivial | omega), (by first | exact ctc_0 (by omega) | exact ctc_1 (by assumption) h_x (by decide +kernel) (by omega) (by assumption))⟩⟩
      ·
        have q19 := h16.2.1 (by omega)
        refine GO.iload dX11_caught_24 rfl ?_
        refine GO.iconst dX11_caught_26 ?_
        refine GO.ldcw (X := 1000000) dX11_caught_27 gw_1159 rfl ?_
        refine GO.callS (N := mX11_between) dX11_caught_30 gS_RX11_112 (t_X11_between r_p3 (ir_c rfl) (ir_c rfl)) rfl [] rfl rfl (Nat.le_of_ble_eq_true rfl) rfl (k_ip fun X20 r21 h22 => ?_)
        refine GO.if_ne (tgt := 38) dX11_caught_33 (by decide) r21 (fun c23 => ?_) (fun c23 => ?_)
        ·
          have q24 := h22.2.1 (by omega)
          refine GO.iload dX11_caught_38 rfl ?_
          refine GO.iconst dX11_caught_40 ?_
          refine GO.aload_n dX11_caught_41 rfl rfl ?_
          refine GO.getR h_x fl_RX11_12 rfl rfl dX11_caught_42 (fun hv26 h25 => ?_)
          refine GO.getI h25 fl_RX11_145 rfl rfl dX11_caught_45 (fun l27 u28 => ?_)
          refine GO.callS (N := mX11_between) dX11_caught_48 gS_RX11_112 (t_X11_between r_p4 (ir_c rfl) vi_ir) rfl [] rfl rfl (Nat.le_of_ble_eq_true rfl) rfl (k_ip fun X29 r30 h31 => ?_)
          refine GO.if_ne (tgt := 56) dX11_caught_51 (by decide) r30 (fun c32 => ?_) (fun c32 => ?_)
          ·
            have q33 := h31.2.1 (by omega)
            refine GO.aload_n dX11_caught_56 rfl rfl ?_
            refine GO.getR h_x fl_RX11_82 rfl rfl dX11_caught_57 (fun hv35 h34 => ?_)
            refine GO.iload_n dX11_caught_60 rfl rfl ?_
            refine GO.iload_n dX11_caught_61 rfl rfl ?_
            refine GO.iload_n dX11_caught_62 rfl rfl ?_
            refine GO.iload dX11_caught_63 rfl ?_
            refine GO.iload dX11_caught_65 rfl ?_
            refine GO.callV (ci := 26) (N := mX8_append_k26) dX11_caught_67 (RX8, TX8, 4) rfl gV_RX11_205 h34 (t_X8_append_k26 h34 r_p0 r_p1 r_p2 r_p3 r_p4) rfl [] rfl rfl (Nat.le_of_ble_eq_true rfl) rfl (k_is fun X36 V40 r37 h38 hF39 => ?_)
            have q42 : -2147483648 ≤ X36 ∧ X36 ≤ 2147483647 := r37
            exact GO.reti rfl rfl dX11_caught_70 ⟨rfl, _, rfl, r37, ⟨(by first | exact trivial | omega), (by first | exact ctc_0 (by omega) | exact ctc_1 (by assumption) h_x (by decide +kernel) (by omega) (by assumption))⟩⟩
          ·
            have q43 := h31.2.2 (by omega)
            refine GO.iconst dX11_caught_54 ?_
            exact GO.reti rfl rfl dX11_caught_55 ⟨rfl, _, rfl, (ir_c rfl), ⟨(by first | exact trivial | omega), (by first | exact ctc_0 (by omega) | exact ctc_1 (by assumption) h_x (by decide +kernel) (by omega) (by assumption))⟩⟩
        ·
          have q44 := h22.2.2 (by omega)
          refine GO.iconst dX11_caught_36 ?_
          exact GO.reti rfl rfl dX11_caught_37 ⟨rfl, _, rfl, (ir_c rfl), ⟨(by first | exact trivial | omega), (by first | exact ctc_0 (by omega) | exact ctc_1 (by assumption) h_x (by decide +kernel) (by omega) (by assumption))⟩⟩

set_option maxHeartbeats 1000000 in
theorem t_X8_get_k26 {K : Kmap} {V : Vmap} {x : Nat} {p0 : Int} {p1 : Int} (h_x : K x = some (0, 26)) (r_p0 : ir p0) (r_p1 : ir p1) : MC mX8_get_k26 K V [.ref x, ti p0, ti p1] (IP K V (fun X => True)) := by
  refine MC.start 2 (by decide +kernel) rfl rfl rfl (ls0 := [some (.ref x), some (ti p0), some (ti p1), none, none]) rfl ?_
  refine GO.iload_n dX8_get_0 rfl rfl ?_
  refine GO.aload_n dX8_get_1 rfl rfl ?_
  refine GO.getI h_x fl_RX8_15_k26 rfl rfl dX8_get_2 (fun l1 u2 => ?_)
  refine GO.imul dX8_get_5 ?_
  refine GO.norm (fun z3 r4 hn5 => ?_)
  refine GO.iload_n dX8_get_6 rfl rfl ?_
  refine GO.iadd dX8_get_7 ?_
  refine GO.norm (fun z6 r7 hn8 => ?_)
  refine GO.istore_n (ls1 := [some (.ref x), some (ti p0), some (ti p1), some (ti z6), none]) dX8_get_8 rfl rfl rfl ?_
  refine GO.iload_n dX8_get_9 rfl rfl ?_
  have hj18 : ∀ (z17 : Int), ∀ (l19 : 0 ≤ z17), ∀ (u20 : z17 ≤ 1), GO mX8_get_k26 K V (IP K V (fun X => True)) K V 0 0 38 [some (.ref x), some (ti p0), some (ti p1), some (ti z6), none] [ti z17] := by
    intro z17 l19 u20
    have r21 : ir z17 := ⟨by omega, by omega⟩
    refine GO.istore (ls1 := [some (.ref x), some (ti p0), some (ti p1), some (ti z6), some (ti z17)]) dX8_get_38 rfl rfl ?_
    refine GO.iload dX8_get_40 rfl ?_
    refine GO.if_eq (tgt := 67) dX8_get_42 (by decide) r21 (fun c22 => ?_) (fun c22 => ?_)
    ·
      refine GO.iconst dX8_get_67 ?_
      exact GO.reti rfl rfl dX8_get_68 ⟨rfl, rfl, _, rfl, (ir_c rfl), trivial⟩
    ·
      refine GO.iload_n dX8_get_45 rfl rfl ?_
      refine GO.if_lt (tgt := 67) dX8_get_46 (by decide) r7 (fun c23 => ?_) (fun c23 => ?_)
      ·
        refine GO.iconst dX8_get_67 ?_
        exact GO.reti rfl rfl dX8_get_68 ⟨rfl, rfl, _, rfl, (ir_c rfl), trivial⟩
      ·
        refine GO.iload_n dX8_get_49 rfl rfl ?_
        refine GO.aload_n dX8_get_50 rfl rfl ?_
        refine GO.getA (n := 1000) h_x fl_RX8_27_k26 rfl rfl rfl rfl dX8_get_51 (fun hv25 h24 => ?_)
        refine GO.alen h24 dX8_get_54 (fun h26 => ?_)
        refine GO.icmp_ge (tgt := 67) dX8_get_55 (by decide) r7 ⟨by omega, by omega⟩ (fun c27 => ?_) (fun c27 => ?_)
        ·
          refine GO.iconst dX8_get_67 ?_
          exact GO.reti rfl rfl dX8_get_68 ⟨rfl, rfl, _, rfl, (ir_c rfl), trivial⟩
        ·
          refine GO.aload_n dX8_get_58 rfl rfl ?_
          refine GO.getRaw h_x fl_RX8_27_k26 hv25 dX8_get_59 ?_
          refine GO.iload_n dX8_get_62 rfl rfl ?_
          have q30 : -2147483648 ≤ z6 ∧ z6 ≤ 2147483647 := r7
          refine GO.iald (t := 148) rfl rfl h24 r7 (by omega) (by omega) dX8_get_63 (fun _ _ => ?_)
          refine GO.goto (tgt := 68) dX8_get_64 (by decide) ?_
          have q31 : -2147483648 ≤ vi V (vq V x 2) (z6).toNat ∧ vi V (vq V x 2) (z6).toNat ≤ 2147483647 := vi_ir
          exact GO.reti rfl rfl dX8_get_68 ⟨rfl, rfl, _, rfl, vi_ir, trivial⟩
  have hj40 : GO mX8_get_k26 K V (IP K V (fun X => True)) K V 0 0 37 [some (.ref x), some (ti p0), some (ti p1), some (ti z6), none] [] := by
    skip
    refine GO.iconst dX8_get_37 ?_
    exact hj18 0 (by omega) (by omega)
  refine GO.if_lt (tgt := 37) dX8_get_10 (by decide) r_p0 (fun c41 => ?_) (fun c41 => ?_)
  ·
    exact hj40 
  ·
    refine GO.iload_n dX8_get_13 rfl rfl ?_
    refine GO.aload_n dX8_get_14 rfl rfl ?_
    refine GO.getI h_x fl_RX8_9_k26 rfl rfl dX8_get_15 (fun l42 u43 => ?_)
    refine GO.icmp_ge (tgt := 37) dX8_get_18 (by decide) r_p0 vi_ir (fun c44 => ?_) (fun c44 => ?_)
    ·
      exact hj40 
    ·
      refine GO.iload_n dX8_get_21 rfl rfl ?_
      refine GO.if_lt (tgt := 37) dX8_get_22 (by decide) r_p1 (fun c45 => ?_) (fun c45 => ?_)
      ·
        exact hj40 
      ·
        refine GO.iload_n dX8_get_25 rfl rfl ?_
        refine GO.aload_n dX8_get_26 rfl rfl ?_
        refine GO.getI h_x fl_RX8_15_k26 rfl rfl dX8_get_27 (fun l46 u47 => ?_)
        refine GO.icmp_ge (tgt := 37) dX8_get_30 (by decide) r_p1 vi_ir (fun c48 => ?_) (fun c48 => ?_)
        ·
          exact hj40 
        ·
          refine GO.iconst dX8_get_33 ?_
          refine GO.goto (tgt := 38) dX8_get_34 (by decide) ?_
          exact hj18 1 (by omega) (by omega)

set_option maxHeartbeats 1000000 in
theorem t_X11_tonnesUpTo {K : Kmap} {V : Vmap} {x : Nat} {p0 : Int} (h_x : K x = some (0, 10)) (r_p0 : ir p0) : MC mX11_tonnesUpTo K V [.ref x, ti p0] (IP K V (fun X => True)) := by
  refine MC.start 5 (by decide +kernel) rfl rfl rfl (ls0 := [some (.ref x), some (ti p0), none, none, none, none, none]) rfl ?_
  refine GO.aload_n dX11_tonnesUpTo_0 rfl rfl ?_
  refine GO.getR h_x fl_RX11_82 rfl rfl dX11_tonnesUpTo_1 (fun hv2 h1 => ?_)
  refine GO.iload_n dX11_tonnesUpTo_4 rfl rfl ?_
  refine GO.iconst dX11_tonnesUpTo_5 ?_
  refine GO.callV (ci := 26) (N := mX8_get_k26) dX11_tonnesUpTo_6 (RX8, TX8, 4) rfl gV_RX11_209 h1 (t_X8_get_k26 h1 r_p0 (ir_c rfl)) rfl [] rfl rfl (Nat.le_of_ble_eq_true rfl) rfl (k_ip fun X3 r4 h5 => ?_)
  refine GO.istore_n (ls1 := [some (.ref x), some (ti p0), some (ti X3), none, none, none, none]) dX11_tonnesUpTo_9 rfl rfl rfl ?_
  refine GO.iconst dX11_tonnesUpTo_10 ?_
  refine GO.istore_n (ls1 := [some (.ref x), some (ti p0), some (ti X3), some (ti 0), none, none, none]) dX11_tonnesUpTo_11 rfl rfl rfl ?_
  refine GO.iconst dX11_tonnesUpTo_12 ?_
  refine GO.istore (ls1 := [some (.ref x), some (ti p0), some (ti X3), some (ti 0), some (ti 0), none, none]) dX11_tonnesUpTo_13 rfl rfl ?_
  refine GO.loop2 (fun i6 i7 W => (-2147483648) ≤ i6 ∧ i6 ≤ 2147483647 ∧ 0 ≤ i7 ∧ i7 ≤ 200 ∧ V = W) (fun i6 i7 => [some (.ref x), some (ti p0), some (ti X3), some (ti i6), some (ti i7), none, none]) (fun i6 i7 W => (2147483647 - i7).toNat) 0 0 ⟨by omega, by omega, by omega, by omega, rfl⟩ rfl (fun i6 i7 V2053 hp2055 ih2054 => ?_)
  obtain ⟨l_i6, u_i6, l_i7, u_i7, rfl⟩ := hp2055
  have r_i6 : ir i6 := ⟨by omega, by omega⟩
  have r_i7 : ir i7 := ⟨by omega, by omega⟩
  show GO mX11_tonnesUpTo K V (IP K V (fun X => True)) K V 0 0 15 [some (.ref x), some (ti p0), some (ti X3), some (ti i6), some (ti i7), none, none] []
  refine GO.iload dX11_tonnesUpTo_15 rfl ?_
  refine GO.aload_n dX11_tonnesUpTo_17 rfl rfl ?_
  refine GO.getRaw h_x fl_RX11_82 hv2 dX11_tonnesUpTo_18 ?_
  refine GO.getI h1 fl_RX11_199_k26 rfl rfl dX11_tonnesUpTo_21 (fun l2058 u2059 => ?_)
  refine GO.icmp_ge (tgt := 146) dX11_tonnesUpTo_24 (by decide) r_i7 vi_ir (fun c2060 => ?_) (fun c2060 => ?_)
  ·
    refine GO.iload_n dX11_tonnesUpTo_146 rfl rfl ?_
    exact GO.reti rfl rfl dX11_tonnesUpTo_147 ⟨rfl, rfl, _, rfl, r_i6, trivial⟩
  ·
    refine GO.aload_n dX11_tonnesUpTo_27 rfl rfl ?_
    refine GO.getRaw h_x fl_RX11_82 hv2 dX11_tonnesUpTo_28 ?_
    refine GO.iload dX11_tonnesUpTo_31 rfl ?_
    refine GO.iconst dX11_tonnesUpTo_33 ?_
    refine GO.callV (ci := 26) (N := mX8_get_k26) dX11_tonnesUpTo_34 (RX8, TX8, 4) rfl gV_RX11_209 h1 (t_X8_get_k26 h1 r_i7 (ir_c rfl)) rfl [] rfl rfl (Nat.le_of_ble_eq_true rfl) rfl (k_ip fun X2063 r2064 h2065 => ?_)
    refine GO.istore (ls1 := [some (.ref x), some (ti p0), some (ti X3), some (ti i6), some (ti i7), some (ti X2063), none]) dX11_tonnesUpTo_37 rfl rfl ?_
    refine GO.iload dX11_tonnesUpTo_39 rfl ?_
    refine GO.iload_n dX11_tonnesUpTo_41 rfl rfl ?_
    have hj2073 : ∀ (z2072 : Int), ∀ (l2074 : 0 ≤ z2072), ∀ (u2075 : z2072 ≤ 1), GO mX11_tonnesUpTo K V (IP K V (fun X => True)) K V 0 0 62 [some (.ref x), some (ti p0), some (ti X3), some (ti i6), some (ti i7), some (ti X2063), none] [ti z2072] := by
      intro z2072 l2074 u2075
      have r2076 : ir z2072 := ⟨by omega, by omega⟩
      refine GO.istore (ls1 := [some (.ref x), some (ti p0), some (ti X3), some (ti i6), some (ti i7), some (ti X2063), some (ti z2072)]) dX11_tonnesUpTo_62 rfl rfl ?_
      refine GO.iload dX11_tonnesUpTo_64 rfl ?_
      refine GO.if_eq (tgt := 140) dX11_tonnesUpTo_66 (by decide) r2076 (fun c2077 => ?_) (fun c2077 => ?_)
      ·
        refine GO.iinc (X := i7) (n := 1) (Y := i7 + 1) (ls1 := [some (.ref x), some (ti p0), some (ti X3), some (ti i6), some (ti (i7 + 1)), some (ti X2063), some (ti z2072)]) dX11_tonnesUpTo_140 rfl rfl rfl rfl ?_
        refine GO.goto (tgt := 15) dX11_tonnesUpTo_143 (by decide) ?_
        refine GO.drop [true, true, true, true, true, false, false] rfl ?_
        exact ih2054 i6 (i7 + 1) V ⟨by omega, by omega, by omega, by omega, rfl⟩ (by show (2147483647 - (i7 + 1)).toNat < (2147483647 - i7).toNat; omega)
      ·
        refine GO.iload dX11_tonnesUpTo_69 rfl ?_
        refine GO.sipush dX11_tonnesUpTo_71 rfl ?_
        refine GO.idiv dX11_tonnesUpTo_74 (ir_c rfl) (by omega) ?_
        refine GO.iload_n dX11_tonnesUpTo_75 rfl rfl ?_
        refine GO.sipush dX11_tonnesUpTo_76 rfl ?_
        refine GO.idiv dX11_tonnesUpTo_79 (ir_c rfl) (by omega) ?_
        refine GO.icmp_ne (tgt := 140) dX11_tonnesUpTo_80 (by decide) wdiv_ir wdiv_ir (fun c2078 => ?_) (fun c2078 => ?_)
        ·
          refine GO.iinc (X := i7) (n := 1) (Y := i7 + 1) (ls1 := [some (.ref x), some (ti p0), some (ti X3), some (ti i6), some (ti (i7 + 1)), some (ti X2063), some (ti z2072)]) dX11_tonnesUpTo_140 rfl rfl rfl rfl ?_
          refine GO.goto (tgt := 15) dX11_tonnesUpTo_143 (by decide) ?_
          refine GO.drop [true, true, true, true, true, false, false] rfl ?_
          exact ih2054 i6 (i7 + 1) V ⟨by omega, by omega, by omega, by omega, rfl⟩ (by show (2147483647 - (i7 + 1)).toNat < (2147483647 - i7).toNat; omega)
        ·
          refine GO.aload_n dX11_tonnesUpTo_83 rfl rfl ?_
          refine GO.getRaw h_x fl_RX11_82 hv2 dX11_tonnesUpTo_84 ?_
          refine GO.iload dX11_tonnesUpTo_87 rfl ?_
          refine GO.iconst dX11_tonnesUpTo_89 ?_
          refine GO.callV (ci := 26) (N := mX8_get_k26) dX11_tonnesUpTo_90 (RX8, TX8, 4) rfl gV_RX11_209 h1 (t_X8_get_k26 h1 r_i7 (ir_c rfl)) rfl [] rfl rfl (Nat.le_of_ble_eq_true rfl) rfl (k_ip fun X2081 r2082 h2083 => ?_)
          refine GO.aload_n dX11_tonnesUpTo_93 rfl rfl ?_
          refine GO.getRaw h_x fl_RX11_82 hv2 dX11_tonnesUpTo_94 ?_
          refine GO.iload_n dX11_tonnesUpTo_97 rfl rfl ?_
          refine GO.iconst dX11_tonnesUpTo_98 ?_
          refine GO.callV (ci := 26) (N := mX8_get_k26) dX11_tonnesUpTo_99 (RX8, TX8, 4) rfl gV_RX11_209 h1 (t_X8_get_k26 h1 r_p0 (ir_c rfl)) rfl [ti X2081] rfl rfl (Nat.le_of_ble_eq_true rfl) rfl (k_ip fun X2086 r2087 h2088 => ?_)
          refine GO.icmp_ne (tgt := 140) dX11_tonnesUpTo_102 (by decide) r2082 r2087 (fun c2089 => ?_) (fun c2089 => ?_)
          ·
            refine GO.iinc (X := i7) (n := 1) (Y := i7 + 1) (ls1 := [some (.ref x), some (ti p0), some (ti X3), some (ti i6), some (ti (i7 + 1)), some (ti X2063), some (ti z2072)]) dX11_tonnesUpTo_140 rfl rfl rfl rfl ?_
            refine GO.goto (tgt := 15) dX11_tonnesUpTo_143 (by decide) ?_
            refine GO.drop [true, true, true, true, true, false, false] rfl ?_
            exact ih2054 i6 (i7 + 1) V ⟨by omega, by omega, by omega, by omega, rfl⟩ (by show (2147483647 - (i7 + 1)).toNat < (2147483647 - i7).toNat; omega)
          ·
            refine GO.aload_n dX11_tonnesUpTo_105 rfl rfl ?_
            refine GO.getRaw h_x fl_RX11_82 hv2 dX11_tonnesUpTo_106 ?_
            refine GO.iload dX11_tonnesUpTo_109 rfl ?_
            refine GO.iconst dX11_tonnesUpTo_111 ?_
            refine GO.callV (ci := 26) (N := mX8_get_k26) dX11_tonnesUpTo_112 (RX8, TX8, 4) rfl gV_RX11_209 h1 (t_X8_get_k26 h1 r_i7 (ir_c rfl)) rfl [] rfl rfl (Nat.le_of_ble_eq_true rfl) rfl (k_ip fun X2092 r2093 h2094 => ?_)
            refine GO.aload_n dX11_tonnesUpTo_115 rfl rfl ?_
            refine GO.getRaw h_x fl_RX11_82 hv2 dX11_tonnesUpTo_116 ?_
            refine GO.iload_n dX11_tonnesUpTo_119 rfl rfl ?_
            refine GO.iconst dX11_tonnesUpTo_120 ?_
            refine GO.callV (ci := 26) (N := mX8_get_k26) dX11_tonnesUpTo_121 (RX8, TX8, 4) rfl gV_RX11_209 h1 (t_X8_get_k26 h1 r_p0 (ir_c rfl)) rfl [ti X2092] rfl rfl (Nat.le_of_ble_eq_true rfl) rfl (k_ip fun X2097 r2098 h2099 => ?_)
            refine GO.icmp_ne (tgt := 140) dX11_tonnesUpTo_124 (by decide) r2093 r2098 (fun c2100 => ?_) (fun c2100 => ?_)
            ·
              refine GO.iinc (X := i7) (n := 1) (Y := i7 + 1) (ls1 := [some (.ref x), some (ti p0), some (ti X3), some (ti i6), some (ti (i7 + 1)), some (ti X2063), some (ti z2072)]) dX11_tonnesUpTo_140 rfl rfl rfl rfl ?_
              refine GO.goto (tgt := 15) dX11_tonnesUpTo_143 (by decide) ?_
              refine GO.drop [true, true, true, true, true, false, false] rfl ?_
              exact ih2054 i6 (i7 + 1) V ⟨by omega, by omega, by omega, by omega, rfl⟩ (by show (2147483647 - (i7 + 1)).toNat < (2147483647 - i7).toNat; omega)
            ·
              refine GO.iload_n dX11_tonnesUpTo_127 rfl rfl ?_
              refine GO.aload_n dX11_tonnesUpTo_128 rfl rfl ?_
              refine GO.getRaw h_x fl_RX11_82 hv2 dX11_tonnesUpTo_129 ?_
              refine GO.iload dX11_tonnesUpTo_132 rfl ?_
              refine GO.iconst dX11_tonnesUpTo_134 ?_
              refine GO.callV (ci := 26) (N := mX8_get_k26) dX11_tonnesUpTo_135 (RX8, TX8, 4) rfl gV_RX11_209 h1 (t_X8_get_k26 h1 r_i7 (ir_c rfl)) rfl [ti i6] rfl rfl (Nat.le_of_ble_eq_true rfl) rfl (k_ip fun X2103 r2104 h2105 => ?_)
              refine GO.iadd dX11_tonnesUpTo_138 ?_
              refine GO.norm (fun z2106 r2107 hn2108 => ?_)
              refine GO.istore_n (ls1 := [some (.ref x), some (ti p0), some (ti X3), some (ti z2106), some (ti i7), some (ti X2063), some (ti z2072)]) dX11_tonnesUpTo_139 rfl rfl rfl ?_
              refine GO.iinc (X := i7) (n := 1) (Y := i7 + 1) (ls1 := [some (.ref x), some (ti p0), some (ti X3), some (ti z2106), some (ti (i7 + 1)), some (ti X2063), some (ti z2072)]) dX11_tonnesUpTo_140 rfl rfl rfl rfl ?_
              refine GO.goto (tgt := 15) dX11_tonnesUpTo_143 (by decide) ?_
              refine GO.drop [true, true, true, true, true, false, false] rfl ?_
              have q2109 : -2147483648 ≤ z2106 ∧ z2106 ≤ 2147483647 := r2107
              exact ih2054 z2106 (i7 + 1) V ⟨by omega, by omega, by omega, by omega, rfl⟩ (by show (2147483647 - (i7 + 1)).toNat < (2147483647 - i7).toNat; omega)
    have hj2116 : GO mX11_tonnesUpTo K V (IP K V (fun X => True)) K V 0 0 57 [some (.ref x), some (ti p0), some (ti X3), some (ti i6), some (ti i7), some (ti X2063), none] [] := by
      skip
      refine GO.iconst dX11_tonnesUpTo_57 ?_
      refine GO.goto (tgt := 62) dX11_tonnesUpTo_58 (by decide) ?_
      exact hj2073 1 (by omega) (by omega)
    refine GO.icmp_lt (tgt := 57) dX11_tonnesUpTo_42 (by decide) r2064 r4 (fun c2117 => ?_) (fun c2117 => ?_)
    ·
      exact hj2116 
    ·
      refine GO.iload dX11_tonnesUpTo_45 rfl ?_
      refine GO.iload_n dX11_tonnesUpTo_47 rfl rfl ?_
      have hj2120 : GO mX11_tonnesUpTo K V (IP K V (fun X => True)) K V 0 0 61 [some (.ref x), some (ti p0), some (ti X3), some (ti i6), some (ti i7), some (ti X2063), none] [] := by
        skip
        refine GO.iconst dX11_tonnesUpTo_61 ?_
        exact hj2073 0 (by omega) (by omega)
      refine GO.icmp_ne (tgt := 61) dX11_tonnesUpTo_48 (by decide) r2064 r4 (fun c2121 => ?_) (fun c2121 => ?_)
      ·
        exact hj2120 
      ·
        refine GO.iload dX11_tonnesUpTo_51 rfl ?_
        refine GO.iload_n dX11_tonnesUpTo_53 rfl rfl ?_
        refine GO.icmp_gt (tgt := 61) dX11_tonnesUpTo_54 (by decide) r_i7 r_p0 (fun c2122 => ?_) (fun c2122 => ?_)
        ·
          exact hj2120 
        ·
          exact hj2116 

set_option maxHeartbeats 1000000 in
theorem t_X11_isOver {K : Kmap} {V : Vmap} {x : Nat} {p0 : Int} (h_x : K x = some (0, 10)) (r_p0 : ir p0) (w_0 : CWI K V x) : MC mX11_isOver K V [.ref x, ti p0] (IS K (fun X V1 => (X = 0 ∨ X = 1) ∧ (X ≠ 0 → True) ∧ (X = 0 → True) ∧ (CWI K V1 x))) := by
  refine MC.start 3 (by decide +kernel) rfl rfl rfl (ls0 := [some (.ref x), some (ti p0), none, none, none]) rfl ?_
  refine GO.useWT (fun hW_0 => ?_)
  refine GO.aload_n dX11_isOver_0 rfl rfl ?_
  refine GO.aload_n dX11_isOver_1 rfl rfl ?_
  refine GO.getR h_x fl_RX11_82 rfl rfl dX11_isOver_2 (fun hv2 h1 => ?_)
  refine GO.iload_n dX11_isOver_5 rfl rfl ?_
  refine GO.iconst dX11_isOver_6 ?_
  refine GO.callV (ci := 26) (N := mX8_get_k26) dX11_isOver_7 (RX8, TX8, 4) rfl gV_RX11_209 h1 (t_X8_get_k26 h1 r_p0 (ir_c rfl)) rfl [.ref x] rfl rfl (Nat.le_of_ble_eq_true rfl) rfl (k_ip fun X3 r4 h5 => ?_)
  refine GO.callV (ci := 10) (N := mX11_shipOf) dX11_isOver_10 (RX11, TX11, 20) rfl gV_RX11_403 h_x (t_X11_shipOf h_x r4) rfl [] rfl rfl (Nat.le_of_ble_eq_true rfl) rfl (k_rp (fun h8 => ?_) (fun o6 h7 h8 => ?_))
  ·
    have rwn10 := h8.2
    have hn9 : SN V x → X3 < 0 ∨ vi V x 10 ≤ X3 := h8.2
    refine GO.astore_nN (ls1 := [some (.ref x), some (ti p0), some (.null), none, none]) dX11_isOver_13 rfl rfl rfl ?_
    refine GO.aload_nN dX11_isOver_14 rfl rfl ?_
    refine GO.ifnonnullN dX11_isOver_15 ?_
    refine GO.null dX11_isOver_18 ?_
    refine GO.goto (tgt := 30) dX11_isOver_19 (by decide) ?_
    refine GO.astore_nN (ls1 := [some (.ref x), some (ti p0), some (.null), some (.null), none]) dX11_isOver_30 rfl rfl rfl ?_
    refine GO.aload_nN dX11_isOver_31 rfl rfl ?_
    refine GO.ifnonnullN dX11_isOver_32 ?_
    refine GO.iconst dX11_isOver_35 ?_
    exact GO.retz rfl rfl dX11_isOver_36 (Or.inl rfl) ⟨rfl, _, rfl, (ir_c rfl), ⟨Or.inl rfl, fun _ => trivial, fun _ => trivial, (by first | exact w_0)⟩⟩
  ·
    have hp10 : X3 ≥ 0 ∧ X3 < vi V x 10 := h8.1
    have rwp10 := h8.2
    have hq11 : o6 = vq V (vq V x 9) (X3).toNat := h8.2
    refine GO.astore_n (ls1 := [some (.ref x), some (ti p0), some (.ref o6), none, none]) dX11_isOver_13 rfl rfl rfl ?_
    refine GO.aload_n dX11_isOver_14 rfl rfl ?_
    refine GO.ifnonnull (tgt := 22) dX11_isOver_15 (by decide) ?_
    refine GO.aload_n dX11_isOver_22 rfl rfl ?_
    refine GO.aload_n dX11_isOver_23 rfl rfl ?_
    refine GO.getI h7 fl_RX11_565 rfl rfl dX11_isOver_24 (fun _ _ => ?_)
    refine GO.callV (ci := 10) (N := mX11_partyOf) dX11_isOver_27 (RX11, TX11, 20) rfl gV_RX11_151 h_x (t_X11_partyOf h_x vi_ir) rfl [] rfl rfl (Nat.le_of_ble_eq_true rfl) rfl (k_rp (fun h14 => ?_) (fun o12 h13 h14 => ?_))
    ·
      have rwn27 := h14.2
      have hn15 : PN V x → (vi V o6 0) < 0 ∨ vi V x 4 ≤ (vi V o6 0) := h14.2
      refine GO.astore_nN (ls1 := [some (.ref x), some (ti p0), some (.ref o6), some (.null), none]) dX11_isOver_30 rfl rfl rfl ?_
      refine GO.aload_nN dX11_isOver_31 rfl rfl ?_
      refine GO.ifnonnullN dX11_isOver_32 ?_
      refine GO.iconst dX11_isOver_35 ?_
      exact GO.retz rfl rfl dX11_isOver_36 (Or.inl rfl) ⟨rfl, _, rfl, (ir_c rfl), ⟨Or.inl rfl, fun _ => trivial, fun _ => trivial, (by first | exact w_0)⟩⟩
    ·
      have hp16 : (vi V o6 0) ≥ 0 ∧ (vi V o6 0) < vi V x 4 := h14.1
      have rwp27 := h14.2
      have hq17 : o12 = vq V (vq V x 3) ((vi V o6 0)).toNat := h14.2
      refine GO.astore_n (ls1 := [some (.ref x), some (ti p0), some (.ref o6), some (.ref o12), none]) dX11_isOver_30 rfl rfl rfl ?_
      refine GO.aload_n dX11_isOver_31 rfl rfl ?_
      refine GO.ifnonnull (tgt := 37) dX11_isOver_32 (by decide) ?_
      refine GO.aload_n dX11_isOver_37 rfl rfl ?_
      refine GO.getR h_x fl_RX11_19 rfl rfl dX11_isOver_38 (fun hv19 h18 => ?_)
      refine GO.aload_n dX11_isOver_41 rfl rfl ?_
      refine GO.getI h7 fl_RX11_565 rfl rfl dX11_isOver_42 (fun _ _ => ?_)
      refine GO.aload_n dX11_isOver_45 rfl rfl ?_
      refine GO.aload_n dX11_isOver_46 rfl rfl ?_
      refine GO.getRaw h_x fl_RX11_82 hv2 dX11_isOver_47 ?_
      refine GO.iload_n dX11_isOver_50 rfl rfl ?_
      refine GO.iconst dX11_isOver_51 ?_
      refine GO.callV (ci := 26) (N := mX8_get_k26) dX11_isOver_52 (RX8, TX8, 4) rfl gV_RX11_209 h1 (t_X8_get_k26 h1 r_p0 (ir_c rfl)) rfl [.ref o12, ti (vi V o6 0), .ref (vq V x 1)] rfl rfl (Nat.le_of_ble_eq_true rfl) rfl (k_ip fun X22 r23 h24 => ?_)
      refine GO.callV (ci := 1) (N := mX1_weigh) dX11_isOver_55 (RX1, TX1, 13) rfl gV_RX11_279 h18 (t_X1_weigh h18 vi_ir h13 r23) rfl [] rfl rfl (Nat.le_of_ble_eq_true rfl) rfl (k_vs fun V27 h26 hF25 => ?_)
      have raw_weigh := h26.2
      have rw55 := h26.2
      have hcw := CWI.weigh w_0 rw55 rfl rwp27 ⟨by omega, by omega⟩ hF25 hW_0 h_x (by decide +kernel) (by decide +kernel)
      refine GO.aload_n dX11_isOver_58 rfl rfl ?_
      refine GO.getRaw h_x fl_RX11_19 (Eq.trans (hF25 _ _ _ h_x h_x (by decide +kernel)) hv19) dX11_isOver_59 ?_
      refine GO.bipush dX11_isOver_62 rfl ?_
      refine GO.aload_n dX11_isOver_64 rfl rfl ?_
      refine GO.getRaw h_x fl_RX11_82 (Eq.trans (hF25 _ _ _ h_x h_x (by decide +kernel)) hv2) dX11_isOver_65 ?_
      refine GO.iload_n dX11_isOver_68 rfl rfl ?_
      refine GO.iconst dX11_isOver_69 ?_
      refine GO.callV (ci := 26) (N := mX8_get_k26) dX11_isOver_70 (RX8, TX8, 4) rfl gV_RX11_209 h1 (t_X8_get_k26 h1 r_p0 (ir_c rfl)) rfl [ti 107, .ref (vq V x 1)] rfl rfl (Nat.le_of_ble_eq_true rfl) rfl (k_ip fun X32 r33 h34 => ?_)
      refine GO.aload_n dX11_isOver_73 rfl rfl ?_
      refine GO.getRaw h_x fl_RX11_82 (Eq.trans (hF25 _ _ _ h_x h_x (by decide +kernel)) hv2) dX11_isOver_74 ?_
      refine GO.iload_n dX11_isOver_77 rfl rfl ?_
      refine GO.iconst dX11_isOver_78 ?_
      refine GO.callV (ci := 26) (N := mX8_get_k26) dX11_isOver_79 (RX8, TX8, 4) rfl gV_RX11_209 h1 (t_X8_get_k26 h1 r_p0 (ir_c rfl)) rfl [ti X32, ti 107, .ref (vq V x 1)] rfl rfl (Nat.le_of_ble_eq_true rfl) rfl (k_ip fun X37 r38 h39 => ?_)
      refine GO.callV (ci := 1) (N := mX1_numberOf) dX11_isOver_82 (RX1, TX1, 13) rfl gV_RX11_292 h18 (t_X1_numberOf h18 (ir_c rfl) r33 r38) rfl [] rfl rfl (Nat.le_of_ble_eq_true rfl) rfl (k_ip fun X40 r41 h42 => ?_)
      have raw_numberOf := h42.2
      have rw82 := h42.2
      refine GO.istore (ls1 := [some (.ref x), some (ti p0), some (.ref o6), some (.ref o12), some (ti X40)]) dX11_isOver_85 rfl rfl ?_
      refine GO.iload dX11_isOver_87 rfl ?_
      refine GO.iconst dX11_isOver_89 ?_
      refine GO.icmp_eq (tgt := 107) dX11_isOver_90 (by decide) r41 (ir_c rfl) (fun c43 => ?_) (fun c43 => ?_)
      ·
        refine GO.iconst dX11_isOver_107 ?_
        exact GO.retz rfl rfl dX11_isOver_108 (Or.inl rfl) ⟨rfl, _, rfl, (ir_c rfl), ⟨Or.inl rfl, fun _ => trivial, fun _ => trivial, (by first | exact w_0 | exact hcw.1)⟩⟩
      ·
        refine GO.aload_n dX11_isOver_93 rfl rfl ?_
        refine GO.iload_n dX11_isOver_94 rfl rfl ?_
        refine GO.callV (ci := 10) (N := mX11_tonnesUpTo) dX11_isOver_95 (RX11, TX11, 20) rfl gV_RX11_566 h_x (t_X11_tonnesUpTo h_x r_p0) rfl [] rfl rfl (Nat.le_of_ble_eq_true rfl) rfl (k_ip fun X44 r45 h46 => ?_)
        refine GO.iload dX11_isOver_98 rfl ?_
        refine GO.icmp_le (tgt := 107) dX11_isOver_100 (by decide) r45 r41 (fun c47 => ?_) (fun c47 => ?_)
        ·
          refine GO.iconst dX11_isOver_107 ?_
          exact GO.retz rfl rfl dX11_isOver_108 (Or.inl rfl) ⟨rfl, _, rfl, (ir_c rfl), ⟨Or.inl rfl, fun _ => trivial, fun _ => trivial, (by first | exact w_0 | exact hcw.1)⟩⟩
        ·
          refine GO.iconst dX11_isOver_103 ?_
          refine GO.goto (tgt := 108) dX11_isOver_104 (by decide) ?_
          exact GO.retz rfl rfl dX11_isOver_108 (Or.inr rfl) ⟨rfl, _, rfl, (ir_c rfl), ⟨Or.inr rfl, fun _ => trivial, fun _ => trivial, (by first | exact w_0 | exact hcw.1)⟩⟩
