def mX8_get_k30 : MRec := (RX8, cX8_get, 5, (some .int), yX8_get, 0, 0, 0, 0, 0)
def mX11_known : MRec := (RX11, cX11_known, 9, (some .int), yX11_known, 2, 44, 0, 0, 0)
def mX11_firstWrong : MRec := (RX11, cX11_firstWrong, 5, (some .int), yX11_firstWrong, 3, 66, 0, 0, 0)
def mX11_check : MRec := (RX11, cX11_check, 3, (some .int), yX11_check, 4, 90, 0, 0, 9797766621314684873895700802803279209044463565243731922466831101232640732633100491228823617617764419367505179450247842283955649007454149170085442756585554871624752266571753841250508572690789992495054848)
def mX11_lookAtStation : MRec := (RX11, cX11_lookAtStation, 3, (some .int), yX11_lookAtStation, 1, 22, 0, 0, 0)
def mX11_look : MRec := (RX11, cX11_look, 4, (some .int), yX11_look, 2, 44, 0, 0, 0)
def mX11_at : MRec := (RX11, cX11_at, 4, (some .int), yX11_at, 1, 21, 0, 0, 0)
def mX11_about : MRec := (RX11, cX11_about, 4, (some .int), yX11_about, 1, 21, 0, 0, 0)
set_option maxHeartbeats 1000000 in
theorem t_X8_get_k30 {K : Kmap} {V : Vmap} {x : Nat} {p0 : Int} {p1 : Int} (h_x : K x = some (0, 30)) (r_p0 : ir p0) (r_p1 : ir p1) : MC mX8_get_k30 K V [.ref x, ti p0, ti p1] (IP K V (fun X => True)) := by
  refine MC.start 2 (by decide +kernel) rfl rfl rfl (ls0 := [some (.ref x), some (ti p0), some (ti p1), none, none]) rfl ?_
  refine GO.iload_n dX8_get_0 rfl rfl ?_
  refine GO.aload_n dX8_get_1 rfl rfl ?_
  refine GO.getI h_x fl_RX8_15_k30 rfl rfl dX8_get_2 (fun l1 u2 => ?_)
  refine GO.imul dX8_get_5 ?_
  refine GO.norm (fun z3 r4 hn5 => ?_)
  refine GO.iload_n dX8_get_6 rfl rfl ?_
  refine GO.iadd dX8_get_7 ?_
  refine GO.norm (fun z6 r7 hn8 => ?_)
  refine GO.istore_n (ls1 := [some (.ref x), some (ti p0), some (ti p1), some (ti z6), none]) dX8_get_8 rfl rfl rfl ?_
  refine GO.iload_n dX8_get_9 rfl rfl ?_
  have hj18 : ∀ (z17 : Int), ∀ (l19 : 0 ≤ z17), ∀ (u20 : z17 ≤ 1), GO mX8_get_k30 K V (IP K V (fun X => True)) K V 0 0 38 [some (.ref x), some (ti p0), some (ti p1), some (ti z6), none] [ti z17] := by
    intro z17 l19 u20
    have r21 : ir z17 := ⟨by omega, by omega⟩
    refine GO.istore (ls1 := [some (.ref x), some (ti p0), some (ti p1), some (ti z6), some (ti z17)]) dX8_get_38 rfl rfl ?_
    refine GO.iload dX8_get_40 rfl ?_
    refine GO.if_eq (tgt := 67) dX8_get_42 (by decide) r21 (fun c22 => ?_) (fun c22 => ?_)
    ·
      refine GO.iconst dX8_get_67 ?_
      exact GO.reti rfl rfl dX8_get_68 ⟨rfl, rfl, _, rfl, (ir_c rfl), trivial⟩
    ·
      refine GO.iload_n dX8_get_45 rfl rfl ?_
      refine GO.if_lt (tgt := 67) dX8_get_46 (by decide) r7 (fun c23 => ?_) (fun c23 => ?_)
      ·
        refine GO.iconst dX8_get_67 ?_
        exact GO.reti rfl rfl dX8_get_68 ⟨rfl, rfl, _, rfl, (ir_c rfl), trivial⟩
      ·
        refine GO.iload_n dX8_get_49 rfl rfl ?_
        refine GO.aload_n dX8_get_50 rfl rfl ?_
        refine GO.getA (n := 1000) h_x fl_RX8_27_k30 rfl rfl rfl rfl dX8_get_51 (fun hv25 h24 => ?_)
        refine GO.alen h24 dX8_get_54 (fun h26 => ?_)
        refine GO.icmp_ge (tgt := 67) dX8_get_55 (by decide) r7 ⟨by omega, by omega⟩ (fun c27 => ?_) (fun c27 => ?_)
        ·
          refine GO.iconst dX8_get_67 ?_
          exact GO.reti rfl rfl dX8_get_68 ⟨rfl, rfl, _, rfl, (ir_c rfl), trivial⟩
        ·
          refine GO.aload_n dX8_get_58 rfl rfl ?_
          refine GO.getRaw h_x fl_RX8_27_k30 hv25 dX8_get_59 ?_
          refine GO.iload_n dX8_get_62 rfl rfl ?_
          have q30 : -2147483648 ≤ z6 ∧ z6 ≤ 2147483647 := r7
          refine GO.iald (t := 152) rfl rfl h24 r7 (by omega) (by omega) dX8_get_63 (fun _ _ => ?_)
          refine GO.goto (tgt := 68) dX8_get_64 (by decide) ?_
          have q31 : -2147483648 ≤ vi V (vq V x 2) (z6).toNat ∧ vi V (vq V x 2) (z6).toNat ≤ 2147483647 := vi_ir
          exact GO.reti rfl rfl dX8_get_68 ⟨rfl, rfl, _, rfl, vi_ir, trivial⟩
  have hj40 : GO mX8_get_k30 K V (IP K V (fun X => True)) K V 0 0 37 [some (.ref x), some (ti p0), some (ti p1), some (ti z6), none] [] := by
    skip
    refine GO.iconst dX8_get_37 ?_
    exact hj18 0 (by omega) (by omega)
  refine GO.if_lt (tgt := 37) dX8_get_10 (by decide) r_p0 (fun c41 => ?_) (fun c41 => ?_)
  ·
    exact hj40 
  ·
    refine GO.iload_n dX8_get_13 rfl rfl ?_
    refine GO.aload_n dX8_get_14 rfl rfl ?_
    refine GO.getI h_x fl_RX8_9_k30 rfl rfl dX8_get_15 (fun l42 u43 => ?_)
    refine GO.icmp_ge (tgt := 37) dX8_get_18 (by decide) r_p0 vi_ir (fun c44 => ?_) (fun c44 => ?_)
    ·
      exact hj40 
    ·
      refine GO.iload_n dX8_get_21 rfl rfl ?_
      refine GO.if_lt (tgt := 37) dX8_get_22 (by decide) r_p1 (fun c45 => ?_) (fun c45 => ?_)
      ·
        exact hj40 
      ·
        refine GO.iload_n dX8_get_25 rfl rfl ?_
        refine GO.aload_n dX8_get_26 rfl rfl ?_
        refine GO.getI h_x fl_RX8_15_k30 rfl rfl dX8_get_27 (fun l46 u47 => ?_)
        refine GO.icmp_ge (tgt := 37) dX8_get_30 (by decide) r_p1 vi_ir (fun c48 => ?_) (fun c48 => ?_)
        ·
          exact hj40 
        ·
          refine GO.iconst dX8_get_33 ?_
          refine GO.goto (tgt := 38) dX8_get_34 (by decide) ?_
          exact hj18 1 (by omega) (by omega)

set_option maxHeartbeats 1000000 in
theorem t_X11_known {K : Kmap} {V : Vmap} {x : Nat} {p0 : Int} {p1 : Int} {p2 : Int} (h_x : K x = some (0, 10)) (r_p0 : ir p0) (r_p1 : ir p1) (r_p2 : ir p2) : MC mX11_known K V [.ref x, ti p0, ti p1, ti p2] (IP K V (fun X => True)) := by
  refine MC.start 5 (by decide +kernel) rfl rfl rfl (ls0 := [some (.ref x), some (ti p0), some (ti p1), some (ti p2), none, none, none, none, none]) rfl ?_
  refine GO.aload_n dX11_known_0 rfl rfl ?_
  refine GO.iload_n dX11_known_1 rfl rfl ?_
  refine GO.iconst dX11_known_2 ?_
  refine GO.callV (ci := 10) (N := mX11_placeOf) dX11_known_3 (RX11, TX11, 20) rfl gV_RX11_169 h_x (t_X11_placeOf h_x r_p0 (ir_c rfl)) rfl [] rfl rfl (Nat.le_of_ble_eq_true rfl) rfl (k_rp (fun h3 => ?_) (fun o1 h2 h3 => ?_))
  ·
    have rwn3 := h3.2
    have hn4 : NN 6 5 V x → ¬ PK V x p0 1 := h3.2
    refine GO.ifnullN (tgt := 23) dX11_known_6 (by decide) ?_
    refine GO.ldcw (X := (-1000001)) dX11_known_23 gw_1426 rfl ?_
    exact GO.reti rfl rfl dX11_known_26 ⟨rfl, rfl, _, rfl, (ir_c rfl), trivial⟩
  ·
    have hp5 : p0 ≥ 0 ∧ p0 < vi V x 6 := h3.1
    have rwp3 := h3.2
    have hq6 : o1 = plO V x (p0).toNat ∧ PK V x p0 1 := h3.2
    refine GO.ifnull dX11_known_6 ?_
    refine GO.iload_n dX11_known_9 rfl rfl ?_
    refine GO.callS (N := mX11_isDay) dX11_known_10 gS_RX11_276 (t_X11_isDay r_p1) rfl [] rfl rfl (Nat.le_of_ble_eq_true rfl) rfl (k_ip fun X7 r8 h9 => ?_)
    refine GO.if_eq (tgt := 23) dX11_known_13 (by decide) r8 (fun c10 => ?_) (fun c10 => ?_)
    ·
      have q11 := h9.2.2 (by omega)
      refine GO.ldcw (X := (-1000001)) dX11_known_23 gw_1426 rfl ?_
      exact GO.reti rfl rfl dX11_known_26 ⟨rfl, rfl, _, rfl, (ir_c rfl), trivial⟩
    ·
      have q12 := h9.2.1 (by omega)
      refine GO.iload_n dX11_known_16 rfl rfl ?_
      refine GO.callS (N := mX11_isDay) dX11_known_17 gS_RX11_276 (t_X11_isDay r_p2) rfl [] rfl rfl (Nat.le_of_ble_eq_true rfl) rfl (k_ip fun X13 r14 h15 => ?_)
      refine GO.if_ne (tgt := 27) dX11_known_20 (by decide) r14 (fun c16 => ?_) (fun c16 => ?_)
      ·
        have q17 := h15.2.1 (by omega)
        refine GO.iconst dX11_known_27 ?_
        refine GO.istore (ls1 := [some (.ref x), some (ti p0), some (ti p1), some (ti p2), some (ti (-1)), none, none, none, none]) dX11_known_28 rfl rfl ?_
        refine GO.iconst dX11_known_30 ?_
        refine GO.istore (ls1 := [some (.ref x), some (ti p0), some (ti p1), some (ti p2), some (ti (-1)), some (ti (-1)), none, none, none]) dX11_known_31 rfl rfl ?_
        refine GO.iconst dX11_known_33 ?_
        refine GO.istore (ls1 := [some (.ref x), some (ti p0), some (ti p1), some (ti p2), some (ti (-1)), some (ti (-1)), some (ti 0), none, none]) dX11_known_34 rfl rfl ?_
        refine GO.loop3 (fun i18 i19 i20 W => (-1) ≤ i18 ∧ i18 ≤ 199 ∧ (-1) ≤ i19 ∧ i19 ≤ 199 ∧ 0 ≤ i20 ∧ i20 ≤ 200 ∧ V = W) (fun i18 i19 i20 => [some (.ref x), some (ti p0), some (ti p1), some (ti p2), some (ti i18), some (ti i19), some (ti i20), none, none]) (fun i18 i19 i20 W => (2147483647 - i20).toNat) (-1) (-1) 0 ⟨by omega, by omega, by omega, by omega, by omega, by omega, rfl⟩ rfl (fun i18 i19 i20 V542 hp544 ih543 => ?_)
        obtain ⟨l_i18, u_i18, l_i19, u_i19, l_i20, u_i20, rfl⟩ := hp544
        have r_i18 : ir i18 := ⟨by omega, by omega⟩
        have r_i19 : ir i19 := ⟨by omega, by omega⟩
        have r_i20 : ir i20 := ⟨by omega, by omega⟩
        show GO mX11_known K V (IP K V (fun X => True)) K V 0 0 36 [some (.ref x), some (ti p0), some (ti p1), some (ti p2), some (ti i18), some (ti i19), some (ti i20), none, none] []
        refine GO.iload dX11_known_36 rfl ?_
        refine GO.aload_n dX11_known_38 rfl rfl ?_
        refine GO.getR h_x fl_RX11_85 rfl rfl dX11_known_39 (fun hv546 h545 => ?_)
        refine GO.getI h545 fl_RX11_199_k30 rfl rfl dX11_known_42 (fun l547 u548 => ?_)
        refine GO.icmp_ge (tgt := 176) dX11_known_45 (by decide) r_i20 vi_ir (fun c549 => ?_) (fun c549 => ?_)
        ·
          refine GO.iload dX11_known_176 rfl ?_
          refine GO.iconst dX11_known_178 ?_
          refine GO.icmp_eq (tgt := 187) dX11_known_179 (by decide) r_i18 (ir_c rfl) (fun c550 => ?_) (fun c550 => ?_)
          ·
            refine GO.iload dX11_known_187 rfl ?_
            refine GO.istore (ls1 := [some (.ref x), some (ti p0), some (ti p1), some (ti p2), some (ti i18), some (ti i19), some (ti i19), none, none]) dX11_known_189 rfl rfl ?_
            refine GO.iload dX11_known_191 rfl ?_
            refine GO.iconst dX11_known_193 ?_
            refine GO.icmp_ne (tgt := 203) dX11_known_194 (by decide) r_i19 (ir_c rfl) (fun c551 => ?_) (fun c551 => ?_)
            ·
              refine GO.aload_n dX11_known_203 rfl rfl ?_
              refine GO.getRaw h_x fl_RX11_85 hv546 dX11_known_204 ?_
              refine GO.iload dX11_known_207 rfl ?_
              refine GO.iconst dX11_known_209 ?_
              refine GO.callV (ci := 30) (N := mX8_get_k30) dX11_known_210 (RX8, TX8, 4) rfl gV_RX11_209 h545 (t_X8_get_k30 h545 r_i19 (ir_c rfl)) rfl [] rfl rfl (Nat.le_of_ble_eq_true rfl) rfl (k_ip fun X554 r555 h556 => ?_)
              have q557 : -2147483648 ≤ X554 ∧ X554 ≤ 2147483647 := r555
              exact GO.reti rfl rfl dX11_known_213 ⟨rfl, rfl, _, rfl, r555, trivial⟩
            ·
              refine GO.ldcw (X := (-1000001)) dX11_known_197 gw_1426 rfl ?_
              refine GO.goto (tgt := 213) dX11_known_200 (by decide) ?_
              exact GO.reti rfl rfl dX11_known_213 ⟨rfl, rfl, _, rfl, (ir_c rfl), trivial⟩
          ·
            refine GO.iload dX11_known_182 rfl ?_
            refine GO.goto (tgt := 189) dX11_known_184 (by decide) ?_
            refine GO.istore (ls1 := [some (.ref x), some (ti p0), some (ti p1), some (ti p2), some (ti i18), some (ti i19), some (ti i18), none, none]) dX11_known_189 rfl rfl ?_
            refine GO.iload dX11_known_191 rfl ?_
            refine GO.iconst dX11_known_193 ?_
            refine GO.icmp_ne (tgt := 203) dX11_known_194 (by decide) r_i18 (ir_c rfl) (fun c558 => ?_) (fun h => by exfalso; omega)
            refine GO.aload_n dX11_known_203 rfl rfl ?_
            refine GO.getRaw h_x fl_RX11_85 hv546 dX11_known_204 ?_
            refine GO.iload dX11_known_207 rfl ?_
            refine GO.iconst dX11_known_209 ?_
            refine GO.callV (ci := 30) (N := mX8_get_k30) dX11_known_210 (RX8, TX8, 4) rfl gV_RX11_209 h545 (t_X8_get_k30 h545 r_i18 (ir_c rfl)) rfl [] rfl rfl (Nat.le_of_ble_eq_true rfl) rfl (k_ip fun X561 r562 h563 => ?_)
            have q564 : -2147483648 ≤ X561 ∧ X561 ≤ 2147483647 := r562
            exact GO.reti rfl rfl dX11_known_213 ⟨rfl, rfl, _, rfl, r562, trivial⟩
        ·
          refine GO.aload_n dX11_known_48 rfl rfl ?_
          refine GO.getRaw h_x fl_RX11_85 hv546 dX11_known_49 ?_
          refine GO.iload dX11_known_52 rfl ?_
          refine GO.iconst dX11_known_54 ?_
          refine GO.callV (ci := 30) (N := mX8_get_k30) dX11_known_55 (RX8, TX8, 4) rfl gV_RX11_209 h545 (t_X8_get_k30 h545 r_i20 (ir_c rfl)) rfl [] rfl rfl (Nat.le_of_ble_eq_true rfl) rfl (k_ip fun X567 r568 h569 => ?_)
          refine GO.iload_n dX11_known_58 rfl rfl ?_
          refine GO.icmp_ne (tgt := 170) dX11_known_59 (by decide) r568 r_p0 (fun c570 => ?_) (fun c570 => ?_)
          ·
            refine GO.iinc (X := i20) (n := 1) (Y := i20 + 1) (ls1 := [some (.ref x), some (ti p0), some (ti p1), some (ti p2), some (ti i18), some (ti i19), some (ti (i20 + 1)), none, none]) dX11_known_170 rfl rfl rfl rfl ?_
            refine GO.goto (tgt := 36) dX11_known_173 (by decide) ?_
            exact ih543 i18 i19 (i20 + 1) V ⟨by omega, by omega, by omega, by omega, by omega, by omega, rfl⟩ (by show (2147483647 - (i20 + 1)).toNat < (2147483647 - i20).toNat; omega)
          ·
            refine GO.aload_n dX11_known_62 rfl rfl ?_
            refine GO.getRaw h_x fl_RX11_85 hv546 dX11_known_63 ?_
            refine GO.iload dX11_known_66 rfl ?_
            refine GO.iconst dX11_known_68 ?_
            refine GO.callV (ci := 30) (N := mX8_get_k30) dX11_known_69 (RX8, TX8, 4) rfl gV_RX11_209 h545 (t_X8_get_k30 h545 r_i20 (ir_c rfl)) rfl [] rfl rfl (Nat.le_of_ble_eq_true rfl) rfl (k_ip fun X573 r574 h575 => ?_)
            refine GO.iload_n dX11_known_72 rfl rfl ?_
            refine GO.icmp_le (tgt := 79) dX11_known_73 (by decide) r574 r_p2 (fun c576 => ?_) (fun c576 => ?_)
            ·
              refine GO.aload_n dX11_known_79 rfl rfl ?_
              refine GO.getRaw h_x fl_RX11_85 hv546 dX11_known_80 ?_
              refine GO.iload dX11_known_83 rfl ?_
              refine GO.iconst dX11_known_85 ?_
              refine GO.callV (ci := 30) (N := mX8_get_k30) dX11_known_86 (RX8, TX8, 4) rfl gV_RX11_209 h545 (t_X8_get_k30 h545 r_i20 (ir_c rfl)) rfl [] rfl rfl (Nat.le_of_ble_eq_true rfl) rfl (k_ip fun X579 r580 h581 => ?_)
              refine GO.istore (ls1 := [some (.ref x), some (ti p0), some (ti p1), some (ti p2), some (ti i18), some (ti i19), some (ti i20), some (ti X579), none]) dX11_known_89 rfl rfl ?_
              refine GO.aload_n dX11_known_91 rfl rfl ?_
              refine GO.getRaw h_x fl_RX11_85 hv546 dX11_known_92 ?_
              refine GO.iload dX11_known_95 rfl ?_
              refine GO.iconst dX11_known_97 ?_
              refine GO.callV (ci := 30) (N := mX8_get_k30) dX11_known_98 (RX8, TX8, 4) rfl gV_RX11_209 h545 (t_X8_get_k30 h545 r_i20 (ir_c rfl)) rfl [] rfl rfl (Nat.le_of_ble_eq_true rfl) rfl (k_ip fun X584 r585 h586 => ?_)
              refine GO.iconst dX11_known_101 ?_
              have hj589 : ∀ (z588 : Int), ∀ (l590 : 0 ≤ z588), ∀ (u591 : z588 ≤ 1), GO mX11_known K V (IP K V (fun X => True)) K V 0 0 110 [some (.ref x), some (ti p0), some (ti p1), some (ti p2), some (ti i18), some (ti i19), some (ti i20), some (ti X579), none] [ti z588] := by
                intro z588 l590 u591
                have r592 : ir z588 := ⟨by omega, by omega⟩
                refine GO.istore (ls1 := [some (.ref x), some (ti p0), some (ti p1), some (ti p2), some (ti i18), some (ti i19), some (ti i20), some (ti X579), some (ti z588)]) dX11_known_110 rfl rfl ?_
                refine GO.iload dX11_known_112 rfl ?_
                refine GO.iload_n dX11_known_114 rfl rfl ?_
                refine GO.icmp_ne (tgt := 134) dX11_known_115 (by decide) r580 r_p1 (fun c593 => ?_) (fun c593 => ?_)
                ·
                  refine GO.iload dX11_known_134 rfl ?_
                  refine GO.iload_n dX11_known_136 rfl rfl ?_
                  refine GO.icmp_ge (tgt := 170) dX11_known_137 (by decide) r580 r_p1 (fun c594 => ?_) (fun c594 => ?_)
                  ·
                    refine GO.iinc (X := i20) (n := 1) (Y := i20 + 1) (ls1 := [some (.ref x), some (ti p0), some (ti p1), some (ti p2), some (ti i18), some (ti i19), some (ti (i20 + 1)), some (ti X579), some (ti z588)]) dX11_known_170 rfl rfl rfl rfl ?_
                    refine GO.goto (tgt := 36) dX11_known_173 (by decide) ?_
                    refine GO.drop [true, true, true, true, true, true, true, false, false] rfl ?_
                    exact ih543 i18 i19 (i20 + 1) V ⟨by omega, by omega, by omega, by omega, by omega, by omega, rfl⟩ (by show (2147483647 - (i20 + 1)).toNat < (2147483647 - i20).toNat; omega)
                  ·
                    refine GO.iload dX11_known_140 rfl ?_
                    refine GO.if_eq (tgt := 170) dX11_known_142 (by decide) r592 (fun c595 => ?_) (fun c595 => ?_)
                    ·
                      refine GO.iinc (X := i20) (n := 1) (Y := i20 + 1) (ls1 := [some (.ref x), some (ti p0), some (ti p1), some (ti p2), some (ti i18), some (ti i19), some (ti (i20 + 1)), some (ti X579), some (ti z588)]) dX11_known_170 rfl rfl rfl rfl ?_
                      refine GO.goto (tgt := 36) dX11_known_173 (by decide) ?_
                      refine GO.drop [true, true, true, true, true, true, true, false, false] rfl ?_
                      exact ih543 i18 i19 (i20 + 1) V ⟨by omega, by omega, by omega, by omega, by omega, by omega, rfl⟩ (by show (2147483647 - (i20 + 1)).toNat < (2147483647 - i20).toNat; omega)
                    ·
                      refine GO.iload dX11_known_145 rfl ?_
                      refine GO.iconst dX11_known_147 ?_
                      refine GO.icmp_eq (tgt := 166) dX11_known_148 (by decide) r_i19 (ir_c rfl) (fun c596 => ?_) (fun c596 => ?_)
                      ·
                        refine GO.iload dX11_known_166 rfl ?_
                        refine GO.istore (ls1 := [some (.ref x), some (ti p0), some (ti p1), some (ti p2), some (ti i18), some (ti i20), some (ti i20), some (ti X579), some (ti z588)]) dX11_known_168 rfl rfl ?_
                        refine GO.iinc (X := i20) (n := 1) (Y := i20 + 1) (ls1 := [some (.ref x), some (ti p0), some (ti p1), some (ti p2), some (ti i18), some (ti i20), some (ti (i20 + 1)), some (ti X579), some (ti z588)]) dX11_known_170 rfl rfl rfl rfl ?_
                        refine GO.goto (tgt := 36) dX11_known_173 (by decide) ?_
                        refine GO.drop [true, true, true, true, true, true, true, false, false] rfl ?_
                        exact ih543 i18 i20 (i20 + 1) V ⟨by omega, by omega, by omega, by omega, by omega, by omega, rfl⟩ (by show (2147483647 - (i20 + 1)).toNat < (2147483647 - i20).toNat; omega)
                      ·
                        refine GO.iload dX11_known_151 rfl ?_
                        refine GO.aload_n dX11_known_153 rfl rfl ?_
                        refine GO.getRaw h_x fl_RX11_85 hv546 dX11_known_154 ?_
                        refine GO.iload dX11_known_157 rfl ?_
                        refine GO.iconst dX11_known_159 ?_
                        refine GO.callV (ci := 30) (N := mX8_get_k30) dX11_known_160 (RX8, TX8, 4) rfl gV_RX11_209 h545 (t_X8_get_k30 h545 r_i19 (ir_c rfl)) rfl [ti X579] rfl rfl (Nat.le_of_ble_eq_true rfl) rfl (k_ip fun X599 r600 h601 => ?_)
                        refine GO.icmp_lt (tgt := 170) dX11_known_163 (by decide) r580 r600 (fun c602 => ?_) (fun c602 => ?_)
                        ·
                          refine GO.iinc (X := i20) (n := 1) (Y := i20 + 1) (ls1 := [some (.ref x), some (ti p0), some (ti p1), some (ti p2), some (ti i18), some (ti i19), some (ti (i20 + 1)), some (ti X579), some (ti z588)]) dX11_known_170 rfl rfl rfl rfl ?_
                          refine GO.goto (tgt := 36) dX11_known_173 (by decide) ?_
                          refine GO.drop [true, true, true, true, true, true, true, false, false] rfl ?_
                          exact ih543 i18 i19 (i20 + 1) V ⟨by omega, by omega, by omega, by omega, by omega, by omega, rfl⟩ (by show (2147483647 - (i20 + 1)).toNat < (2147483647 - i20).toNat; omega)
                        ·
                          refine GO.iload dX11_known_166 rfl ?_
                          refine GO.istore (ls1 := [some (.ref x), some (ti p0), some (ti p1), some (ti p2), some (ti i18), some (ti i20), some (ti i20), some (ti X579), some (ti z588)]) dX11_known_168 rfl rfl ?_
                          refine GO.iinc (X := i20) (n := 1) (Y := i20 + 1) (ls1 := [some (.ref x), some (ti p0), some (ti p1), some (ti p2), some (ti i18), some (ti i20), some (ti (i20 + 1)), some (ti X579), some (ti z588)]) dX11_known_170 rfl rfl rfl rfl ?_
                          refine GO.goto (tgt := 36) dX11_known_173 (by decide) ?_
                          refine GO.drop [true, true, true, true, true, true, true, false, false] rfl ?_
                          exact ih543 i18 i20 (i20 + 1) V ⟨by omega, by omega, by omega, by omega, by omega, by omega, rfl⟩ (by show (2147483647 - (i20 + 1)).toNat < (2147483647 - i20).toNat; omega)
                ·
                  refine GO.iload dX11_known_118 rfl ?_
                  refine GO.if_eq (tgt := 128) dX11_known_120 (by decide) r592 (fun c603 => ?_) (fun c603 => ?_)
                  ·
                    refine GO.iconst dX11_known_128 ?_
                    refine GO.istore (ls1 := [some (.ref x), some (ti p0), some (ti p1), some (ti p2), some (ti (-1)), some (ti i19), some (ti i20), some (ti X579), some (ti z588)]) dX11_known_129 rfl rfl ?_
                    refine GO.goto (tgt := 170) dX11_known_131 (by decide) ?_
                    refine GO.iinc (X := i20) (n := 1) (Y := i20 + 1) (ls1 := [some (.ref x), some (ti p0), some (ti p1), some (ti p2), some (ti (-1)), some (ti i19), some (ti (i20 + 1)), some (ti X579), some (ti z588)]) dX11_known_170 rfl rfl rfl rfl ?_
                    refine GO.goto (tgt := 36) dX11_known_173 (by decide) ?_
                    refine GO.drop [true, true, true, true, true, true, true, false, false] rfl ?_
                    exact ih543 (-1) i19 (i20 + 1) V ⟨by omega, by omega, by omega, by omega, by omega, by omega, rfl⟩ (by show (2147483647 - (i20 + 1)).toNat < (2147483647 - i20).toNat; omega)
                  ·
                    refine GO.iload dX11_known_123 rfl ?_
                    refine GO.goto (tgt := 129) dX11_known_125 (by decide) ?_
                    refine GO.istore (ls1 := [some (.ref x), some (ti p0), some (ti p1), some (ti p2), some (ti i20), some (ti i19), some (ti i20), some (ti X579), some (ti z588)]) dX11_known_129 rfl rfl ?_
                    refine GO.goto (tgt := 170) dX11_known_131 (by decide) ?_
                    refine GO.iinc (X := i20) (n := 1) (Y := i20 + 1) (ls1 := [some (.ref x), some (ti p0), some (ti p1), some (ti p2), some (ti i20), some (ti i19), some (ti (i20 + 1)), some (ti X579), some (ti z588)]) dX11_known_170 rfl rfl rfl rfl ?_
                    refine GO.goto (tgt := 36) dX11_known_173 (by decide) ?_
                    refine GO.drop [true, true, true, true, true, true, true, false, false] rfl ?_
                    exact ih543 i20 i19 (i20 + 1) V ⟨by omega, by omega, by omega, by omega, by omega, by omega, rfl⟩ (by show (2147483647 - (i20 + 1)).toNat < (2147483647 - i20).toNat; omega)
              refine GO.icmp_ne (tgt := 109) dX11_known_102 (by decide) r585 (ir_c rfl) (fun c604 => ?_) (fun c604 => ?_)
              ·
                refine GO.iconst dX11_known_109 ?_
                exact hj589 0 (by omega) (by omega)
              ·
                refine GO.iconst dX11_known_105 ?_
                refine GO.goto (tgt := 110) dX11_known_106 (by decide) ?_
                exact hj589 1 (by omega) (by omega)
            ·
              refine GO.goto (tgt := 170) dX11_known_76 (by decide) ?_
              refine GO.iinc (X := i20) (n := 1) (Y := i20 + 1) (ls1 := [some (.ref x), some (ti p0), some (ti p1), some (ti p2), some (ti i18), some (ti i19), some (ti (i20 + 1)), none, none]) dX11_known_170 rfl rfl rfl rfl ?_
              refine GO.goto (tgt := 36) dX11_known_173 (by decide) ?_
              exact ih543 i18 i19 (i20 + 1) V ⟨by omega, by omega, by omega, by omega, by omega, by omega, rfl⟩ (by show (2147483647 - (i20 + 1)).toNat < (2147483647 - i20).toNat; omega)
      ·
        have q605 := h15.2.2 (by omega)
        refine GO.ldcw (X := (-1000001)) dX11_known_23 gw_1426 rfl ?_
        exact GO.reti rfl rfl dX11_known_26 ⟨rfl, rfl, _, rfl, (ir_c rfl), trivial⟩

set_option maxHeartbeats 1000000 in
theorem t_X11_firstWrong {K : Kmap} {V : Vmap} {x : Nat} {p0 : Int} (h_x : K x = some (0, 10)) (r_p0 : ir p0) : MC mX11_firstWrong K V [.ref x, ti p0] (IP K V (fun X => True)) := by
  refine MC.start 3 (by decide +kernel) rfl rfl rfl (ls0 := [some (.ref x), some (ti p0), none, none, none]) rfl ?_
  refine GO.iconst dX11_firstWrong_0 ?_
  refine GO.istore_n (ls1 := [some (.ref x), some (ti p0), some (ti 0), none, none]) dX11_firstWrong_1 rfl rfl rfl ?_
  refine GO.iconst dX11_firstWrong_2 ?_
  refine GO.istore_n (ls1 := [some (.ref x), some (ti p0), some (ti 0), some (ti 0), none]) dX11_firstWrong_3 rfl rfl rfl ?_
  refine GO.loop2 (fun i1 i2 W => (-2147483648) ≤ i1 ∧ i1 ≤ 2147483647 ∧ 0 ≤ i2 ∧ i2 ≤ 60 ∧ V = W) (fun i1 i2 => [some (.ref x), some (ti p0), some (ti i1), some (ti i2), none]) (fun i1 i2 W => (2147483647 - i2).toNat) 0 0 ⟨by omega, by omega, by omega, by omega, rfl⟩ rfl (fun i1 i2 V847 hp849 ih848 => ?_)
  obtain ⟨l_i1, u_i1, l_i2, u_i2, rfl⟩ := hp849
  have r_i1 : ir i1 := ⟨by omega, by omega⟩
  have r_i2 : ir i2 := ⟨by omega, by omega⟩
  show GO mX11_firstWrong K V (IP K V (fun X => True)) K V 0 0 4 [some (.ref x), some (ti p0), some (ti i1), some (ti i2), none] []
  refine GO.iload_n dX11_firstWrong_4 rfl rfl ?_
  refine GO.aload_n dX11_firstWrong_5 rfl rfl ?_
  refine GO.getI h_x fl_RX11_46 rfl rfl dX11_firstWrong_6 (fun l850 u851 => ?_)
  refine GO.icmp_ge (tgt := 77) dX11_firstWrong_9 (by decide) r_i2 vi_ir (fun c852 => ?_) (fun c852 => ?_)
  ·
    refine GO.iload_n dX11_firstWrong_77 rfl rfl ?_
    refine GO.iload_n dX11_firstWrong_78 rfl rfl ?_
    refine GO.icmp_ge (tgt := 86) dX11_firstWrong_79 (by decide) r_i1 r_p0 (fun c853 => ?_) (fun c853 => ?_)
    ·
      refine GO.iconst dX11_firstWrong_86 ?_
      exact GO.reti rfl rfl dX11_firstWrong_87 ⟨rfl, rfl, _, rfl, (ir_c rfl), trivial⟩
    ·
      refine GO.iload_n dX11_firstWrong_82 rfl rfl ?_
      refine GO.goto (tgt := 87) dX11_firstWrong_83 (by decide) ?_
      have q854 : -2147483648 ≤ p0 ∧ p0 ≤ 2147483647 := r_p0
      exact GO.reti rfl rfl dX11_firstWrong_87 ⟨rfl, rfl, _, rfl, r_i1, trivial⟩
  ·
    refine GO.aload_n dX11_firstWrong_12 rfl rfl ?_
    refine GO.iload_n dX11_firstWrong_13 rfl rfl ?_
    refine GO.callV (ci := 10) (N := mX11_standingStation) dX11_firstWrong_14 (RX11, TX11, 20) rfl gV_RX11_195 h_x (t_X11_standingStation h_x r_i2) rfl [] rfl rfl (Nat.le_of_ble_eq_true rfl) rfl (k_rp (fun h857 => ?_) (fun o855 h856 h857 => ?_))
    ·
      have rwn14 := h857.2
      have hn858 : NN 6 5 V x → ¬ STN V x i2 := h857.2
      refine GO.astoreN (ls1 := [some (.ref x), some (ti p0), some (ti i1), some (ti i2), some (.null)]) dX11_firstWrong_17 rfl rfl ?_
      refine GO.aloadN dX11_firstWrong_19 rfl ?_
      refine GO.ifnonnullN dX11_firstWrong_21 ?_
      refine GO.goto (tgt := 71) dX11_firstWrong_24 (by decide) ?_
      refine GO.iinc (X := i2) (n := 1) (Y := i2 + 1) (ls1 := [some (.ref x), some (ti p0), some (ti i1), some (ti (i2 + 1)), some (.null)]) dX11_firstWrong_71 rfl rfl rfl rfl ?_
      refine GO.goto (tgt := 4) dX11_firstWrong_74 (by decide) ?_
      refine GO.drop [true, true, true, true, false] rfl ?_
      exact ih848 i1 (i2 + 1) V ⟨by omega, by omega, by omega, by omega, rfl⟩ (by show (2147483647 - (i2 + 1)).toNat < (2147483647 - i2).toNat; omega)
    ·
      have hp859 : i2 ≥ 0 ∧ i2 < vi V x 6 := h857.1
      have rwp14 := h857.2
      have hq860 : o855 = plO V x (i2).toNat ∧ STN V x i2 := h857.2
      refine GO.astore (ls1 := [some (.ref x), some (ti p0), some (ti i1), some (ti i2), some (.ref o855)]) dX11_firstWrong_17 rfl rfl ?_
      refine GO.aload dX11_firstWrong_19 rfl ?_
      refine GO.ifnonnull (tgt := 27) dX11_firstWrong_21 (by decide) ?_
      refine GO.iload_n dX11_firstWrong_27 rfl rfl ?_
      refine GO.iload_n dX11_firstWrong_28 rfl rfl ?_
      refine GO.icmp_ge (tgt := 41) dX11_firstWrong_29 (by decide) r_i1 r_p0 (fun c861 => ?_) (fun c861 => ?_)
      ·
        refine GO.iload_n dX11_firstWrong_41 rfl rfl ?_
        have q862 : -2147483648 ≤ p0 ∧ p0 ≤ 2147483647 := r_p0
        exact GO.reti rfl rfl dX11_firstWrong_42 ⟨rfl, rfl, _, rfl, r_i1, trivial⟩
      ·
        refine GO.aload_n dX11_firstWrong_32 rfl rfl ?_
        refine GO.iload_n dX11_firstWrong_33 rfl rfl ?_
        refine GO.callV (ci := 10) (N := mX11_fedNumber) dX11_firstWrong_34 (RX11, TX11, 20) rfl gV_RX11_630 h_x (t_X11_fedNumber h_x r_i1) rfl [] rfl rfl (Nat.le_of_ble_eq_true rfl) rfl (k_ip fun X863 r864 h865 => ?_)
        refine GO.iload_n dX11_firstWrong_37 rfl rfl ?_
        refine GO.icmp_eq (tgt := 43) dX11_firstWrong_38 (by decide) r864 r_i2 (fun c866 => ?_) (fun c866 => ?_)
        ·
          refine GO.aload_n dX11_firstWrong_43 rfl rfl ?_
          refine GO.iload_n dX11_firstWrong_44 rfl rfl ?_
          refine GO.iconst dX11_firstWrong_45 ?_
          refine GO.iadd dX11_firstWrong_46 ?_
          have q867 : -2147483648 ≤ p0 ∧ p0 ≤ 2147483647 := r_p0
          refine GO.callV (ci := 10) (N := mX11_fedNumber) dX11_firstWrong_47 (RX11, TX11, 20) rfl gV_RX11_630 h_x (t_X11_fedNumber h_x ⟨by omega, by omega⟩) rfl [] rfl rfl (Nat.le_of_ble_eq_true rfl) rfl (k_ip fun X868 r869 h870 => ?_)
          refine GO.aload dX11_firstWrong_50 rfl ?_
          refine GO.getI h856 fl_RX11_186 rfl rfl dX11_firstWrong_52 (fun _ _ => ?_)
          refine GO.aload dX11_firstWrong_55 rfl ?_
          refine GO.getI h856 fl_RX11_421 rfl rfl dX11_firstWrong_57 (fun _ _ => ?_)
          refine GO.iadd dX11_firstWrong_60 ?_
          refine GO.norm (fun z871 r872 hn873 => ?_)
          refine GO.icmp_eq (tgt := 68) dX11_firstWrong_61 (by decide) r869 r872 (fun c874 => ?_) (fun c874 => ?_)
          ·
            refine GO.iincN (X := i1) (n := 2) dX11_firstWrong_68 rfl rfl (fun z875 r876 => ?_)
            show GO mX11_firstWrong K V (IP K V (fun X => True)) K V 0 0 71 [some (.ref x), some (ti p0), some (ti z875), some (ti i2), some (.ref o855)] []
            refine GO.iinc (X := i2) (n := 1) (Y := i2 + 1) (ls1 := [some (.ref x), some (ti p0), some (ti z875), some (ti (i2 + 1)), some (.ref o855)]) dX11_firstWrong_71 rfl rfl rfl rfl ?_
            refine GO.goto (tgt := 4) dX11_firstWrong_74 (by decide) ?_
            refine GO.drop [true, true, true, true, false] rfl ?_
            have q877 : -2147483648 ≤ X863 ∧ X863 ≤ 2147483647 := r864
            have q878 : -2147483648 ≤ z875 ∧ z875 ≤ 2147483647 := r876
            exact ih848 z875 (i2 + 1) V ⟨by omega, by omega, by omega, by omega, rfl⟩ (by show (2147483647 - (i2 + 1)).toNat < (2147483647 - i2).toNat; omega)
          ·
            refine GO.iload_n dX11_firstWrong_64 rfl rfl ?_
            refine GO.iconst dX11_firstWrong_65 ?_
            refine GO.iadd dX11_firstWrong_66 ?_
            exact GO.reti rfl rfl dX11_firstWrong_67 ⟨rfl, rfl, _, rfl, ⟨by omega, by omega⟩, trivial⟩
        ·
          refine GO.iload_n dX11_firstWrong_41 rfl rfl ?_
          have q879 : -2147483648 ≤ p0 ∧ p0 ≤ 2147483647 := r_p0
          exact GO.reti rfl rfl dX11_firstWrong_42 ⟨rfl, rfl, _, rfl, r_i1, trivial⟩

set_option maxHeartbeats 1000000 in
theorem t_X11_check {K : Kmap} {V : Vmap} {x : Nat} {p0 : Int} (h_x : K x = some (0, 10)) (r_p0 : ir p0) : MC mX11_check K V [.ref x, ti p0] (IS K (fun X V1 => (X ≥ (-2147483648) ∧ X ≤ 2147483647) ∧ (CKC V V1 x p0))) := by
  refine MC.start 1 (by decide +kernel) rfl rfl rfl (ls0 := [some (.ref x), some (ti p0), none]) rfl ?_
  refine GO.useWT (fun hW_0 => ?_)
  have htp := tp_rng h_x hW_0
  unfold tpN tpO at htp
  refine GO.iload_n dX11_check_0 rfl rfl ?_
  refine GO.if_lt (tgt := 18) dX11_check_1 (by decide) r_p0 (fun c1 => ?_) (fun c1 => ?_)
  ·
    refine GO.bipush dX11_check_18 rfl ?_
    exact GO.reti rfl rfl dX11_check_20 ⟨rfl, _, rfl, (ir_c rfl), ⟨(by first | exact trivial | omega), (by first | exact CKC.no (by unfold tpN tpO; omega) | exact CKC.mk (by omega) (by unfold tpN tpO; omega) h_x hW_0 (by assumption))⟩⟩
  ·
    refine GO.iload_n dX11_check_4 rfl rfl ?_
    refine GO.aload_n dX11_check_5 rfl rfl ?_
    refine GO.getR h_x fl_RX11_91 rfl rfl dX11_check_6 (fun hv3 h2 => ?_)
    refine GO.getI h2 fl_RX11_199_k31 rfl rfl dX11_check_9 (fun l4 u5 => ?_)
    refine GO.bipush dX11_check_12 rfl ?_
    refine GO.idivP dX11_check_14 vi_ir (ir_c rfl) (by omega) (by omega) ?_
    refine GO.icmp_le (tgt := 21) dX11_check_15 (by decide) r_p0 ⟨by omega, by omega⟩ (fun c6 => ?_) (fun c6 => ?_)
    ·
      refine GO.aload_n dX11_check_21 rfl rfl ?_
      refine GO.iconst dX11_check_22 ?_
      refine GO.iload_n dX11_check_23 rfl rfl ?_
      refine GO.imul dX11_check_24 ?_
      have q7 : -2147483648 ≤ p0 ∧ p0 ≤ 2147483647 := r_p0
      refine GO.callV (ci := 10) (N := mX11_firstWrong) dX11_check_25 (RX11, TX11, 20) rfl gV_RX11_627 h_x (t_X11_firstWrong h_x ⟨by omega, by omega⟩) rfl [] rfl rfl (Nat.le_of_ble_eq_true rfl) rfl (k_ip fun X8 r9 h10 => ?_)
      refine GO.istore_n (ls1 := [some (.ref x), some (ti p0), some (ti X8)]) dX11_check_28 rfl rfl rfl ?_
      refine GO.aload_n dX11_check_29 rfl rfl ?_
      refine GO.getRaw h_x fl_RX11_91 hv3 dX11_check_30 ?_
      refine GO.iconst dX11_check_33 ?_
      refine GO.putI h2 fp_RX11_199_k31 rfl (by decide +kernel) (ir_c rfl) (by decide) (by decide) dX11_check_34 (fun V14 e13 => ?_)
      refine GO.iload_n dX11_check_37 rfl rfl ?_
      have q15 : -2147483648 ≤ X8 ∧ X8 ≤ 2147483647 := r9
      exact GO.reti rfl rfl dX11_check_38 ⟨rfl, _, rfl, r9, ⟨(by first | exact trivial | omega), (by first | exact CKC.no (by unfold tpN tpO; omega) | exact CKC.mk (by omega) (by unfold tpN tpO; omega) h_x hW_0 (by assumption))⟩⟩
    ·
      refine GO.bipush dX11_check_18 rfl ?_
      exact GO.reti rfl rfl dX11_check_20 ⟨rfl, _, rfl, (ir_c rfl), ⟨(by first | exact trivial | omega), (by first | exact CKC.no (by unfold tpN tpO; omega) | exact CKC.mk (by omega) (by unfold tpN tpO; omega) h_x hW_0 (by assumption))⟩⟩

set_option maxHeartbeats 1000000 in
theorem t_X11_lookAtStation {K : Kmap} {V : Vmap} {x : Nat} {p0 : Nat} {p1 : Int} (h_x : K x = some (0, 10)) (h_p0 : K p0 = some (0, 3)) (r_p1 : ir p1) : MC mX11_lookAtStation K V [.ref x, .ref p0, ti p1] (IP K V (fun X => True)) := by
  refine MC.start 0 (by decide +kernel) rfl rfl rfl (ls0 := [some (.ref x), some (.ref p0), some (ti p1)]) rfl ?_
  refine GO.iload_n dX11_lookAtStation_0 rfl rfl ?_
  have q1 : -2147483648 ≤ p1 ∧ p1 ≤ 2147483647 := r_p1
  rcases (show (p1 < 6 ∨ 9 < p1) ∨ p1 = 6 ∨ p1 = 7 ∨ p1 = 8 ∨ p1 = 9 by omega) with c2 | c2 | c2 | c2 | c2
  ·
    refine GO.tableOut (tgt := 52) dX11_lookAtStation_1 r_p1 c2 (by decide) ?_
    refine GO.iload_n dX11_lookAtStation_52 rfl rfl ?_
    refine GO.bipush dX11_lookAtStation_53 rfl ?_
    refine GO.bipush dX11_lookAtStation_55 rfl ?_
    refine GO.callS (N := mX11_between) dX11_lookAtStation_57 gS_RX11_112 (t_X11_between r_p1 (ir_c rfl) (ir_c rfl)) rfl [] rfl rfl (Nat.le_of_ble_eq_true rfl) rfl (k_ip fun X3 r4 h5 => ?_)
    refine GO.if_eq (tgt := 77) dX11_lookAtStation_60 (by decide) r4 (fun c6 => ?_) (fun c6 => ?_)
    ·
      have q7 := h5.2.2 (by omega)
      refine GO.iconst dX11_lookAtStation_77 ?_
      exact GO.reti rfl rfl dX11_lookAtStation_78 ⟨rfl, rfl, _, rfl, (ir_c rfl), trivial⟩
    ·
      have q8 := h5.2.1 (by omega)
      refine GO.aload_n dX11_lookAtStation_63 rfl rfl ?_
      refine GO.getNB h_p0 fl_RX11_491 rfl rfl dX11_lookAtStation_64 (fun hv10 => ?_) (fun n11 hv10 h9 b12 => ?_)
      ·
        refine GO.iload_n dX11_lookAtStation_67 rfl rfl ?_
        refine GO.bipush dX11_lookAtStation_68 rfl ?_
        refine GO.isub dX11_lookAtStation_70 ?_
        refine GO.callS (N := mX4_get_n) dX11_lookAtStation_71 gS_RX11_253 (t_X4_get_n ⟨by omega, by omega⟩) rfl [] rfl rfl (Nat.le_of_ble_eq_true rfl) rfl (k_ip fun X13 r14 h15 => ?_)
        refine GO.goto (tgt := 78) dX11_lookAtStation_74 (by decide) ?_
        have q16 : -2147483648 ≤ X13 ∧ X13 ≤ 2147483647 := r14
        exact GO.reti rfl rfl dX11_lookAtStation_78 ⟨rfl, rfl, _, rfl, r14, trivial⟩
      ·
        refine GO.iload_n dX11_lookAtStation_67 rfl rfl ?_
        refine GO.bipush dX11_lookAtStation_68 rfl ?_
        refine GO.isub dX11_lookAtStation_70 ?_
        refine GO.callS (N := mX4_get) dX11_lookAtStation_71 gS_RX11_253 (t_X4_get rfl h9 ⟨by omega, by omega⟩) rfl [] rfl rfl (Nat.le_of_ble_eq_true rfl) rfl (k_ip fun X17 r18 h19 => ?_)
        have raw_get := h19.2
        have rw71 := h19.2
        refine GO.goto (tgt := 78) dX11_lookAtStation_74 (by decide) ?_
        exact GO.reti rfl rfl dX11_lookAtStation_78 ⟨rfl, rfl, _, rfl, r18, trivial⟩
  ·
    refine GO.tableAt (n := 6) (tgt := 32) dX11_lookAtStation_1 (ir_c rfl) c2 (by decide) (by decide) rfl (by decide) ?_
    refine GO.aload_n dX11_lookAtStation_32 rfl rfl ?_
    refine GO.getI h_p0 fl_RX11_183 rfl rfl dX11_lookAtStation_33 (fun _ _ => ?_)
    have q20 : -2147483648 ≤ vi V p0 6 ∧ vi V p0 6 ≤ 2147483647 := vi_ir
    exact GO.reti rfl rfl dX11_lookAtStation_36 ⟨rfl, rfl, _, rfl, vi_ir, trivial⟩
  ·
    refine GO.tableAt (n := 7) (tgt := 37) dX11_lookAtStation_1 (ir_c rfl) c2 (by decide) (by decide) rfl (by decide) ?_
    refine GO.aload_n dX11_lookAtStation_37 rfl rfl ?_
    refine GO.getI h_p0 fl_RX11_186 rfl rfl dX11_lookAtStation_38 (fun _ _ => ?_)
    have q21 : -2147483648 ≤ vi V p0 7 ∧ vi V p0 7 ≤ 2147483647 := vi_ir
    exact GO.reti rfl rfl dX11_lookAtStation_41 ⟨rfl, rfl, _, rfl, vi_ir, trivial⟩
  ·
    refine GO.tableAt (n := 8) (tgt := 42) dX11_lookAtStation_1 (ir_c rfl) c2 (by decide) (by decide) rfl (by decide) ?_
    refine GO.aload_n dX11_lookAtStation_42 rfl rfl ?_
    refine GO.getI h_p0 fl_RX11_421 rfl rfl dX11_lookAtStation_43 (fun _ _ => ?_)
    have q22 : -2147483648 ≤ vi V p0 8 ∧ vi V p0 8 ≤ 2147483647 := vi_ir
    exact GO.reti rfl rfl dX11_lookAtStation_46 ⟨rfl, rfl, _, rfl, vi_ir, trivial⟩
  ·
    refine GO.tableAt (n := 9) (tgt := 47) dX11_lookAtStation_1 (ir_c rfl) c2 (by decide) (by decide) rfl (by decide) ?_
    refine GO.aload_n dX11_lookAtStation_47 rfl rfl ?_
    refine GO.getI h_p0 fl_RX11_501 rfl rfl dX11_lookAtStation_48 (fun _ _ => ?_)
    have q23 : -2147483648 ≤ vi V p0 9 ∧ vi V p0 9 ≤ 2147483647 := vi_ir
    exact GO.reti rfl rfl dX11_lookAtStation_51 ⟨rfl, rfl, _, rfl, vi_ir, trivial⟩

set_option maxHeartbeats 1000000 in
theorem t_X11_look {K : Kmap} {V : Vmap} {x : Nat} {p0 : Int} {p1 : Int} (h_x : K x = some (0, 10)) (r_p0 : ir p0) (r_p1 : ir p1) : MC mX11_look K V [.ref x, ti p0, ti p1] (IP K V (fun X => True)) := by
  refine MC.start 1 (by decide +kernel) rfl rfl rfl (ls0 := [some (.ref x), some (ti p0), some (ti p1), none]) rfl ?_
  refine GO.aload_n dX11_look_0 rfl rfl ?_
  refine GO.iload_n dX11_look_1 rfl rfl ?_
  refine GO.callV (ci := 10) (N := mX11_anyPlace) dX11_look_2 (RX11, TX11, 20) rfl gV_RX11_384 h_x (t_X11_anyPlace h_x r_p0) rfl [] rfl rfl (Nat.le_of_ble_eq_true rfl) rfl (k_rp (fun h3 => ?_) (fun o1 h2 h3 => ?_))
  ·
    have rwn2 := h3.2
    have hn4 : NN 6 5 V x → p0 < 0 ∨ vi V x 6 ≤ p0 := h3.2
    refine GO.astore_nN (ls1 := [some (.ref x), some (ti p0), some (ti p1), some (.null)]) dX11_look_5 rfl rfl rfl ?_
    refine GO.aload_nN dX11_look_6 rfl rfl ?_
    refine GO.ifnonnullN dX11_look_7 ?_
    refine GO.iconst dX11_look_10 ?_
    exact GO.reti rfl rfl dX11_look_11 ⟨rfl, rfl, _, rfl, (ir_c rfl), trivial⟩
  ·
    have hp5 : p0 ≥ 0 ∧ p0 < vi V x 6 := h3.1
    have rwp2 := h3.2
    have hq6 : o1 = plO V x (p0).toNat := h3.2
    refine GO.astore_n (ls1 := [some (.ref x), some (ti p0), some (ti p1), some (.ref o1)]) dX11_look_5 rfl rfl rfl ?_
    refine GO.aload_n dX11_look_6 rfl rfl ?_
    refine GO.ifnonnull (tgt := 12) dX11_look_7 (by decide) ?_
    refine GO.iload_n dX11_look_12 rfl rfl ?_
    have q7 : -2147483648 ≤ p1 ∧ p1 ≤ 2147483647 := r_p1
    rcases (show (p1 < 0 ∨ 5 < p1) ∨ p1 = 0 ∨ p1 = 1 ∨ p1 = 2 ∨ p1 = 3 ∨ p1 = 4 ∨ p1 = 5 by omega) with c8 | c8 | c8 | c8 | c8 | c8 | c8
    ·
      refine GO.tableOut (tgt := 90) dX11_look_13 r_p1 c8 (by decide) ?_
      refine GO.aload_n dX11_look_90 rfl rfl ?_
      refine GO.getI h2 fl_RX11_387 rfl rfl dX11_look_91 (fun _ _ => ?_)
      refine GO.iconst dX11_look_94 ?_
      refine GO.icmp_ne (tgt := 107) dX11_look_95 (by decide) vi_ir (ir_c rfl) (fun c9 => ?_) (fun c9 => ?_)
      ·
        refine GO.iconst dX11_look_107 ?_
        exact GO.reti rfl rfl dX11_look_108 ⟨rfl, rfl, _, rfl, (ir_c rfl), trivial⟩
      ·
        refine GO.aload_n dX11_look_98 rfl rfl ?_
        refine GO.aload_n dX11_look_99 rfl rfl ?_
        refine GO.iload_n dX11_look_100 rfl rfl ?_
        refine GO.callV (ci := 10) (N := mX11_lookAtStation) dX11_look_101 (RX11, TX11, 20) rfl gV_RX11_633 h_x (t_X11_lookAtStation h_x h2 r_p1) rfl [] rfl rfl (Nat.le_of_ble_eq_true rfl) rfl (k_ip fun X10 r11 h12 => ?_)
        refine GO.goto (tgt := 108) dX11_look_104 (by decide) ?_
        have q13 : -2147483648 ≤ X10 ∧ X10 ≤ 2147483647 := r11
        exact GO.reti rfl rfl dX11_look_108 ⟨rfl, rfl, _, rfl, r11, trivial⟩
    ·
      refine GO.tableAt (n := 0) (tgt := 52) dX11_look_13 (ir_c rfl) c8 (by decide) (by decide) rfl (by decide) ?_
      refine GO.aload_n dX11_look_52 rfl rfl ?_
      refine GO.getI h2 fl_RX11_387 rfl rfl dX11_look_53 (fun _ _ => ?_)
      have q14 : -2147483648 ≤ vi V o1 0 ∧ vi V o1 0 ≤ 2147483647 := vi_ir
      exact GO.reti rfl rfl dX11_look_56 ⟨rfl, rfl, _, rfl, vi_ir, trivial⟩
    ·
      refine GO.tableAt (n := 1) (tgt := 57) dX11_look_13 (ir_c rfl) c8 (by decide) (by decide) rfl (by decide) ?_
      refine GO.aload_n dX11_look_57 rfl rfl ?_
      refine GO.getI h2 fl_RX11_173 rfl rfl dX11_look_58 (fun _ _ => ?_)
      have q15 : -2147483648 ≤ vi V o1 1 ∧ vi V o1 1 ≤ 2147483647 := vi_ir
      exact GO.reti rfl rfl dX11_look_61 ⟨rfl, rfl, _, rfl, vi_ir, trivial⟩
    ·
      refine GO.tableAt (n := 2) (tgt := 62) dX11_look_13 (ir_c rfl) c8 (by decide) (by decide) rfl (by decide) ?_
      refine GO.aload_n dX11_look_62 rfl rfl ?_
      refine GO.getI h2 fl_RX11_344 rfl rfl dX11_look_63 (fun _ _ => ?_)
      have q16 : -2147483648 ≤ vi V o1 2 ∧ vi V o1 2 ≤ 2147483647 := vi_ir
      exact GO.reti rfl rfl dX11_look_66 ⟨rfl, rfl, _, rfl, vi_ir, trivial⟩
    ·
      refine GO.tableAt (n := 3) (tgt := 67) dX11_look_13 (ir_c rfl) c8 (by decide) (by decide) rfl (by decide) ?_
      refine GO.aload_n dX11_look_67 rfl rfl ?_
      refine GO.getI h2 fl_RX11_347 rfl rfl dX11_look_68 (fun _ _ => ?_)
      have q17 : -2147483648 ≤ vi V o1 3 ∧ vi V o1 3 ≤ 2147483647 := vi_ir
      exact GO.reti rfl rfl dX11_look_71 ⟨rfl, rfl, _, rfl, vi_ir, trivial⟩
    ·
      refine GO.tableAt (n := 4) (tgt := 72) dX11_look_13 (ir_c rfl) c8 (by decide) (by decide) rfl (by decide) ?_
      refine GO.aload_n dX11_look_72 rfl rfl ?_
      refine GO.getI h2 fl_RX11_176 rfl rfl dX11_look_73 (fun _ _ => ?_)
      have q18 : -2147483648 ≤ vi V o1 4 ∧ vi V o1 4 ≤ 2147483647 := vi_ir
      exact GO.reti rfl rfl dX11_look_76 ⟨rfl, rfl, _, rfl, vi_ir, trivial⟩
    ·
      refine GO.tableAt (n := 5) (tgt := 77) dX11_look_13 (ir_c rfl) c8 (by decide) (by decide) rfl (by decide) ?_
      refine GO.aload_n dX11_look_77 rfl rfl ?_
      refine GO.getI h2 fl_RX11_511 rfl rfl dX11_look_78 (fun l19 u20 => ?_)
      refine GO.if_eq (tgt := 88) dX11_look_81 (by decide) vi_ir (fun c21 => ?_) (fun c21 => ?_)
      ·
        refine GO.iconst dX11_look_88 ?_
        exact GO.reti rfl rfl dX11_look_89 ⟨rfl, rfl, _, rfl, (ir_c rfl), trivial⟩
      ·
        refine GO.iconst dX11_look_84 ?_
        refine GO.goto (tgt := 89) dX11_look_85 (by decide) ?_
        exact GO.reti rfl rfl dX11_look_89 ⟨rfl, rfl, _, rfl, (ir_c rfl), trivial⟩

set_option maxHeartbeats 1000000 in
theorem t_X11_at {K : Kmap} {V : Vmap} {x : Nat} {p0 : Int} {p1 : Int} (h_x : K x = some (0, 10)) (r_p0 : ir p0) (r_p1 : ir p1) : MC mX11_at K V [.ref x, ti p0, ti p1] (IP K V (fun X => True)) := by
  refine MC.start 1 (by decide +kernel) rfl rfl rfl (ls0 := [some (.ref x), some (ti p0), some (ti p1), none]) rfl ?_
  refine GO.aload_n dX11_at_0 rfl rfl ?_
  refine GO.iload_n dX11_at_1 rfl rfl ?_
  refine GO.callV (ci := 10) (N := mX11_shipOf) dX11_at_2 (RX11, TX11, 20) rfl gV_RX11_403 h_x (t_X11_shipOf h_x r_p0) rfl [] rfl rfl (Nat.le_of_ble_eq_true rfl) rfl (k_rp (fun h3 => ?_) (fun o1 h2 h3 => ?_))
  ·
    have rwn2 := h3.2
    have hn4 : SN V x → p0 < 0 ∨ vi V x 10 ≤ p0 := h3.2
    refine GO.astore_nN (ls1 := [some (.ref x), some (ti p0), some (ti p1), some (.null)]) dX11_at_5 rfl rfl rfl ?_
    refine GO.aload_nN dX11_at_6 rfl rfl ?_
    refine GO.ifnonnullN dX11_at_7 ?_
    refine GO.iconst dX11_at_10 ?_
    exact GO.reti rfl rfl dX11_at_11 ⟨rfl, rfl, _, rfl, (ir_c rfl), trivial⟩
  ·
    have hp5 : p0 ≥ 0 ∧ p0 < vi V x 10 := h3.1
    have rwp2 := h3.2
    have hq6 : o1 = vq V (vq V x 9) (p0).toNat := h3.2
    refine GO.astore_n (ls1 := [some (.ref x), some (ti p0), some (ti p1), some (.ref o1)]) dX11_at_5 rfl rfl rfl ?_
    refine GO.aload_n dX11_at_6 rfl rfl ?_
    refine GO.ifnonnull (tgt := 12) dX11_at_7 (by decide) ?_
    refine GO.iload_n dX11_at_12 rfl rfl ?_
    have q7 : -2147483648 ≤ p1 ∧ p1 ≤ 2147483647 := r_p1
    rcases (show (p1 < 0 ∨ 4 < p1) ∨ p1 = 0 ∨ p1 = 1 ∨ p1 = 2 ∨ p1 = 3 ∨ p1 = 4 by omega) with c8 | c8 | c8 | c8 | c8 | c8
    ·
      refine GO.tableOut (tgt := 93) dX11_at_13 r_p1 c8 (by decide) ?_
      refine GO.iconst dX11_at_93 ?_
      exact GO.reti rfl rfl dX11_at_94 ⟨rfl, rfl, _, rfl, (ir_c rfl), trivial⟩
    ·
      refine GO.tableAt (n := 0) (tgt := 48) dX11_at_13 (ir_c rfl) c8 (by decide) (by decide) rfl (by decide) ?_
      refine GO.aload_n dX11_at_48 rfl rfl ?_
      refine GO.getI h2 fl_RX11_410 rfl rfl dX11_at_49 (fun _ _ => ?_)
      have q9 : -2147483648 ≤ vi V o1 3 ∧ vi V o1 3 ≤ 2147483647 := vi_ir
      exact GO.reti rfl rfl dX11_at_52 ⟨rfl, rfl, _, rfl, vi_ir, trivial⟩
    ·
      refine GO.tableAt (n := 1) (tgt := 53) dX11_at_13 (ir_c rfl) c8 (by decide) (by decide) rfl (by decide) ?_
      refine GO.aload_n dX11_at_53 rfl rfl ?_
      refine GO.getI h2 fl_RX11_552 rfl rfl dX11_at_54 (fun _ _ => ?_)
      have q10 : -2147483648 ≤ vi V o1 6 ∧ vi V o1 6 ≤ 2147483647 := vi_ir
      exact GO.reti rfl rfl dX11_at_57 ⟨rfl, rfl, _, rfl, vi_ir, trivial⟩
    ·
      refine GO.tableAt (n := 2) (tgt := 58) dX11_at_13 (ir_c rfl) c8 (by decide) (by decide) rfl (by decide) ?_
      refine GO.aload_n dX11_at_58 rfl rfl ?_
      refine GO.getI h2 fl_RX11_553 rfl rfl dX11_at_59 (fun _ _ => ?_)
      have q11 : -2147483648 ≤ vi V o1 7 ∧ vi V o1 7 ≤ 2147483647 := vi_ir
      exact GO.reti rfl rfl dX11_at_62 ⟨rfl, rfl, _, rfl, vi_ir, trivial⟩
    ·
      refine GO.tableAt (n := 3) (tgt := 63) dX11_at_13 (ir_c rfl) c8 (by decide) (by decide) rfl (by decide) ?_
      refine GO.aload_n dX11_at_63 rfl rfl ?_
      refine GO.getI h2 fl_RX11_410 rfl rfl dX11_at_64 (fun _ _ => ?_)
      refine GO.iconst dX11_at_67 ?_
      refine GO.icmp_eq (tgt := 79) dX11_at_68 (by decide) vi_ir (ir_c rfl) (fun c12 => ?_) (fun c12 => ?_)
      ·
        refine GO.aload_n dX11_at_79 rfl rfl ?_
        refine GO.getI h2 fl_RX11_522 rfl rfl dX11_at_80 (fun _ _ => ?_)
        refine GO.goto (tgt := 87) dX11_at_83 (by decide) ?_
        have q13 : -2147483648 ≤ vi V o1 8 ∧ vi V o1 8 ≤ 2147483647 := vi_ir
        exact GO.reti rfl rfl dX11_at_87 ⟨rfl, rfl, _, rfl, vi_ir, trivial⟩
      ·
        refine GO.aload_n dX11_at_71 rfl rfl ?_
        refine GO.getI h2 fl_RX11_410 rfl rfl dX11_at_72 (fun _ _ => ?_)
        refine GO.iconst dX11_at_75 ?_
        refine GO.icmp_ne (tgt := 86) dX11_at_76 (by decide) vi_ir (ir_c rfl) (fun c14 => ?_) (fun c14 => ?_)
        ·
          refine GO.iconst dX11_at_86 ?_
          exact GO.reti rfl rfl dX11_at_87 ⟨rfl, rfl, _, rfl, (ir_c rfl), trivial⟩
        ·
          refine GO.aload_n dX11_at_79 rfl rfl ?_
          refine GO.getI h2 fl_RX11_522 rfl rfl dX11_at_80 (fun _ _ => ?_)
          refine GO.goto (tgt := 87) dX11_at_83 (by decide) ?_
          have q15 : -2147483648 ≤ vi V o1 8 ∧ vi V o1 8 ≤ 2147483647 := vi_ir
          exact GO.reti rfl rfl dX11_at_87 ⟨rfl, rfl, _, rfl, vi_ir, trivial⟩
    ·
      refine GO.tableAt (n := 4) (tgt := 88) dX11_at_13 (ir_c rfl) c8 (by decide) (by decide) rfl (by decide) ?_
      refine GO.aload_n dX11_at_88 rfl rfl ?_
      refine GO.getI h2 fl_RX11_546 rfl rfl dX11_at_89 (fun _ _ => ?_)
      have q16 : -2147483648 ≤ vi V o1 9 ∧ vi V o1 9 ≤ 2147483647 := vi_ir
      exact GO.reti rfl rfl dX11_at_92 ⟨rfl, rfl, _, rfl, vi_ir, trivial⟩

set_option maxHeartbeats 1000000 in
theorem t_X11_about {K : Kmap} {V : Vmap} {x : Nat} {p0 : Int} {p1 : Int} (h_x : K x = some (0, 10)) (r_p0 : ir p0) (r_p1 : ir p1) : MC mX11_about K V [.ref x, ti p0, ti p1] (IP K V (fun X => True)) := by
  refine MC.start 1 (by decide +kernel) rfl rfl rfl (ls0 := [some (.ref x), some (ti p0), some (ti p1), none]) rfl ?_
  refine GO.aload_n dX11_about_0 rfl rfl ?_
  refine GO.iload_n dX11_about_1 rfl rfl ?_
  refine GO.callV (ci := 10) (N := mX11_workOf) dX11_about_2 (RX11, TX11, 20) rfl gV_RX11_309 h_x (t_X11_workOf h_x r_p0) rfl [] rfl rfl (Nat.le_of_ble_eq_true rfl) rfl (k_rp (fun h3 => ?_) (fun o1 h2 h3 => ?_))
  ·
    have rwn2 := h3.2
    have hn4 : NN 8 7 V x → p0 < 0 ∨ vi V x 8 ≤ p0 := h3.2
    refine GO.astore_nN (ls1 := [some (.ref x), some (ti p0), some (ti p1), some (.null)]) dX11_about_5 rfl rfl rfl ?_
    refine GO.aload_nN dX11_about_6 rfl rfl ?_
    refine GO.ifnonnullN dX11_about_7 ?_
    refine GO.iconst dX11_about_10 ?_
    exact GO.reti rfl rfl dX11_about_11 ⟨rfl, rfl, _, rfl, (ir_c rfl), trivial⟩
  ·
    have hp5 : p0 ≥ 0 ∧ p0 < vi V x 8 := h3.1
    have rwp2 := h3.2
    have hq6 : o1 = wkO V x (p0).toNat ∧ 0 ≤ p0 ∧ p0 < vi V x 8 := h3.2
    refine GO.astore_n (ls1 := [some (.ref x), some (ti p0), some (ti p1), some (.ref o1)]) dX11_about_5 rfl rfl rfl ?_
    refine GO.aload_n dX11_about_6 rfl rfl ?_
    refine GO.ifnonnull (tgt := 12) dX11_about_7 (by decide) ?_
    refine GO.iload_n dX11_about_12 rfl rfl ?_
    have q7 : -2147483648 ≤ p1 ∧ p1 ≤ 2147483647 := r_p1
    rcases (show (p1 < 0 ∨ 10 < p1) ∨ p1 = 0 ∨ p1 = 1 ∨ p1 = 2 ∨ p1 = 3 ∨ p1 = 4 ∨ p1 = 5 ∨ p1 = 6 ∨ p1 = 7 ∨ p1 = 8 ∨ p1 = 9 ∨ p1 = 10 by omega) with c8 | c8 | c8 | c8 | c8 | c8 | c8 | c8 | c8 | c8 | c8 | c8
    ·
      refine GO.tableOut (tgt := 127) dX11_about_13 r_p1 c8 (by decide) ?_
      refine GO.iconst dX11_about_127 ?_
      exact GO.reti rfl rfl dX11_about_128 ⟨rfl, rfl, _, rfl, (ir_c rfl), trivial⟩
    ·
      refine GO.tableAt (n := 0) (tgt := 72) dX11_about_13 (ir_c rfl) c8 (by decide) (by decide) rfl (by decide) ?_
      refine GO.aload_n dX11_about_72 rfl rfl ?_
      refine GO.getI h2 fl_RX11_375 rfl rfl dX11_about_73 (fun _ _ => ?_)
      have q9 : -2147483648 ≤ vi V o1 0 ∧ vi V o1 0 ≤ 2147483647 := vi_ir
      exact GO.reti rfl rfl dX11_about_76 ⟨rfl, rfl, _, rfl, vi_ir, trivial⟩
    ·
      refine GO.tableAt (n := 1) (tgt := 77) dX11_about_13 (ir_c rfl) c8 (by decide) (by decide) rfl (by decide) ?_
      refine GO.aload_n dX11_about_77 rfl rfl ?_
      refine GO.getI h2 fl_RX11_353 rfl rfl dX11_about_78 (fun _ _ => ?_)
      have q10 : -2147483648 ≤ vi V o1 1 ∧ vi V o1 1 ≤ 2147483647 := vi_ir
      exact GO.reti rfl rfl dX11_about_81 ⟨rfl, rfl, _, rfl, vi_ir, trivial⟩
    ·
      refine GO.tableAt (n := 2) (tgt := 82) dX11_about_13 (ir_c rfl) c8 (by decide) (by decide) rfl (by decide) ?_
      refine GO.aload_n dX11_about_82 rfl rfl ?_
      refine GO.getI h2 fl_RX11_378 rfl rfl dX11_about_83 (fun _ _ => ?_)
      have q11 : -2147483648 ≤ vi V o1 2 ∧ vi V o1 2 ≤ 2147483647 := vi_ir
      exact GO.reti rfl rfl dX11_about_86 ⟨rfl, rfl, _, rfl, vi_ir, trivial⟩
    ·
      refine GO.tableAt (n := 3) (tgt := 87) dX11_about_13 (ir_c rfl) c8 (by decide) (by decide) rfl (by decide) ?_
      refine GO.aload_n dX11_about_87 rfl rfl ?_
      refine GO.getI h2 fl_RX11_452 rfl rfl dX11_about_88 (fun _ _ => ?_)
      have q12 : -2147483648 ≤ vi V o1 3 ∧ vi V o1 3 ≤ 2147483647 := vi_ir
      exact GO.reti rfl rfl dX11_about_91 ⟨rfl, rfl, _, rfl, vi_ir, trivial⟩
    ·
      refine GO.tableAt (n := 4) (tgt := 92) dX11_about_13 (ir_c rfl) c8 (by decide) (by decide) rfl (by decide) ?_
      refine GO.aload_n dX11_about_92 rfl rfl ?_
      refine GO.getI h2 fl_RX11_455 rfl rfl dX11_about_93 (fun _ _ => ?_)
      have q13 : -2147483648 ≤ vi V o1 4 ∧ vi V o1 4 ≤ 2147483647 := vi_ir
      exact GO.reti rfl rfl dX11_about_96 ⟨rfl, rfl, _, rfl, vi_ir, trivial⟩
    ·
      refine GO.tableAt (n := 5) (tgt := 97) dX11_about_13 (ir_c rfl) c8 (by decide) (by decide) rfl (by decide) ?_
      refine GO.aload_n dX11_about_97 rfl rfl ?_
      refine GO.getI h2 fl_RX11_461 rfl rfl dX11_about_98 (fun _ _ => ?_)
      have q14 : -2147483648 ≤ vi V o1 7 ∧ vi V o1 7 ≤ 2147483647 := vi_ir
      exact GO.reti rfl rfl dX11_about_101 ⟨rfl, rfl, _, rfl, vi_ir, trivial⟩
    ·
      refine GO.tableAt (n := 6) (tgt := 102) dX11_about_13 (ir_c rfl) c8 (by decide) (by decide) rfl (by decide) ?_
      refine GO.aload_n dX11_about_102 rfl rfl ?_
      refine GO.getI h2 fl_RX11_458 rfl rfl dX11_about_103 (fun _ _ => ?_)
      have q15 : -2147483648 ≤ vi V o1 8 ∧ vi V o1 8 ≤ 2147483647 := vi_ir
      exact GO.reti rfl rfl dX11_about_106 ⟨rfl, rfl, _, rfl, vi_ir, trivial⟩
    ·
      refine GO.tableAt (n := 7) (tgt := 107) dX11_about_13 (ir_c rfl) c8 (by decide) (by decide) rfl (by decide) ?_
      refine GO.aload_n dX11_about_107 rfl rfl ?_
      refine GO.getI h2 fl_RX11_313 rfl rfl dX11_about_108 (fun _ _ => ?_)
      have q16 : -2147483648 ≤ vi V o1 9 ∧ vi V o1 9 ≤ 2147483647 := vi_ir
      exact GO.reti rfl rfl dX11_about_111 ⟨rfl, rfl, _, rfl, vi_ir, trivial⟩
    ·
      refine GO.tableAt (n := 8) (tgt := 112) dX11_about_13 (ir_c rfl) c8 (by decide) (by decide) rfl (by decide) ?_
      refine GO.aload_n dX11_about_112 rfl rfl ?_
      refine GO.getI h2 fl_RX11_316 rfl rfl dX11_about_113 (fun _ _ => ?_)
      have q17 : -2147483648 ≤ vi V o1 10 ∧ vi V o1 10 ≤ 2147483647 := vi_ir
      exact GO.reti rfl rfl dX11_about_116 ⟨rfl, rfl, _, rfl, vi_ir, trivial⟩
    ·
      refine GO.tableAt (n := 9) (tgt := 117) dX11_about_13 (ir_c rfl) c8 (by decide) (by decide) rfl (by decide) ?_
      refine GO.aload_n dX11_about_117 rfl rfl ?_
      refine GO.getI h2 fl_RX11_319 rfl rfl dX11_about_118 (fun _ _ => ?_)
      have q18 : -2147483648 ≤ vi V o1 11 ∧ vi V o1 11 ≤ 2147483647 := vi_ir
      exact GO.reti rfl rfl dX11_about_121 ⟨rfl, rfl, _, rfl, vi_ir, trivial⟩
    ·
      refine GO.tableAt (n := 10) (tgt := 122) dX11_about_13 (ir_c rfl) c8 (by decide) (by decide) rfl (by decide) ?_
      refine GO.aload_n dX11_about_122 rfl rfl ?_
      refine GO.getI h2 fl_RX11_322 rfl rfl dX11_about_123 (fun _ _ => ?_)
      have q19 : -2147483648 ≤ vi V o1 12 ∧ vi V o1 12 ≤ 2147483647 := vi_ir
      exact GO.reti rfl rfl dX11_about_126 ⟨rfl, rfl, _, rfl, vi_ir, trivial⟩
