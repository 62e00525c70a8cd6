def mX12_binds : MRec := (RX12, cX12_binds, 7, (none : Option Jvm.ClassFile.FieldType), yX12_binds, 1, 27, 0, 0, 410109510896814735819844167584554006003719268292477331829831988701866187349882985604408720691822592)
def mX12_isAsleep : MRec := (RX12, cX12_isAsleep, 3, (some .boolean), yX12_isAsleep, 2, 53, 0, 0, 410109510896814735819844167584554006003719268292477331829831988701866187349882985604408720691822592)
def mX12_claim : MRec := (RX12, cX12_claim, 5, (some .int), yX12_claim, 3, 75, 0, 0, 410109510904647576793298307198501276412031696524059516204890895816287336862877174431570984892891136)
def mX12_title : MRec := (RX12, cX12_title, 3, (some .boolean), yX12_title, 3, 75, 0, 0, 410109510898804028765483314153175534996306551652879156433021379571628043257455623592458854193954816)
def mX12_station : MRec := (RX12, cX12_station, 5, (some .int), yX12_station, 1, 25, 0, 0, 31704356321123898437405618325787580733440040715499445920928070813954656658895037567860736)
def mX12_field : MRec := (RX12, cX12_field, 3, (some .int), yX12_field, 3, 64, 0, 0, 7832840973454139613947270408312428231582184375058907114421149512994188827162264201068544)
def mX12_reserve : MRec := (RX12, cX12_reserve, 4, (some .int), yX12_reserve, 2, 43, 0, 0, 7832840973454139613947270408312428231582184375058907114421149512994188827162264201068544)
def mX12_site : MRec := (RX12, cX12_site, 3, (some .int), yX12_site, 1, 25, 0, 0, 7832840973454139613947270408312428231582184375058907114421149512994188827162264201068544)
def mX12_types : MRec := (RX12, cX12_types, 3, (none : Option Jvm.ClassFile.FieldType), yX12_types, 0, 0, 0, 0, 8148143905337944345073782753637512644205873575377368848897541737946668183778094392924962816)
def mX12_feed : MRec := (RX12, cX12_feed, 6, (some .int), yX12_feed, 1, 22, 0, 0, 8148143905337944345073782753637512644205873575377368848897541737946668183778094392924962816)
def mX12_sign : MRec := (RX12, cX12_sign, 1, (some .int), yX12_sign, 0, 0, 0, 0, 0)
def mX12_isDigit : MRec := (RX12, cX12_isDigit, 1, (some .boolean), yX12_isDigit, 1, 20, 0, 0, 0)
set_option maxHeartbeats 1000000 in
theorem t_X12_binds {K : Kmap} {V : Vmap} {x : Nat} {p0 : Int} {p1 : Int} (h_x : K x = some (0, 11)) (r_p0 : ir p0) (r_p1 : ir p1) (q_0 : p0 ≥ 0) (q_1 : p0 ≤ 8) : MC mX12_binds K V [.ref x, ti p0, ti p1] (VS K (fun V1 => (True))) := by
  refine MC.start 4 (by decide +kernel) rfl rfl rfl (ls0 := [some (.ref x), some (ti p0), some (ti p1), none, none, none, none]) rfl ?_
  refine GO.iconst dX12_binds_0 ?_
  refine GO.istore_n (ls1 := [some (.ref x), some (ti p0), some (ti p1), some (ti 0), none, none, none]) dX12_binds_1 rfl rfl rfl ?_
  refine GO.loop1 (fun i1 W => 0 ≤ i1 ∧ i1 ≤ 20 ∧ True) (fun i1 => [some (.ref x), some (ti p0), some (ti p1), some (ti i1), none, none, none]) (fun i1 W => (2147483647 - i1).toNat) 0 ⟨by omega, by omega, trivial⟩ rfl (fun i1 Wi1 hp558 ih557 => ?_)
  obtain ⟨l_i1, u_i1, -⟩ := hp558
  have r_i1 : ir i1 := ⟨by omega, by omega⟩
  show GO mX12_binds K V (VS K (fun V1 => (True))) K Wi1 0 0 2 [some (.ref x), some (ti p0), some (ti p1), some (ti i1), none, none, none] []
  refine GO.iload_n dX12_binds_2 rfl rfl ?_
  refine GO.aload_n dX12_binds_3 rfl rfl ?_
  refine GO.getI h_x fl_RX12_535 rfl rfl dX12_binds_4 (fun l559 u560 => ?_)
  refine GO.icmp_ge (tgt := 122) dX12_binds_7 (by decide) r_i1 vi_ir (fun c561 => ?_) (fun c561 => ?_)
  ·
    refine GO.aload_n dX12_binds_122 rfl rfl ?_
    refine GO.aload_n dX12_binds_123 rfl rfl ?_
    refine GO.getI h_x fl_RX12_535 rfl rfl dX12_binds_124 (fun l562 u563 => ?_)
    refine GO.callV (ci := 11) (N := mX12_strikes) dX12_binds_127 (RX12, TX12, 151) rfl gV_RX12_550 h_x (t_X12_strikes h_x vi_ir (by omega) (by omega)) rfl [] rfl rfl (Nat.le_of_ble_eq_true rfl) rfl (k_vs fun V566 h565 hF564 => ?_)
    exact GO.retv rfl rfl dX12_binds_130 ⟨rfl, rfl, trivial⟩
  ·
    refine GO.iload_n dX12_binds_10 rfl rfl ?_
    refine GO.aload_n dX12_binds_11 rfl rfl ?_
    refine GO.getA (n := 20) h_x fl_RX12_118 rfl rfl rfl rfl dX12_binds_12 (fun hv568 h567 => ?_)
    refine GO.iload_n dX12_binds_15 rfl rfl ?_
    refine GO.iald (t := 42) rfl rfl h567 r_i1 (by omega) (by omega) dX12_binds_16 (fun _ _ => ?_)
    refine GO.aload_n dX12_binds_17 rfl rfl ?_
    refine GO.getA (n := 20) h_x fl_RX12_121 rfl rfl rfl rfl dX12_binds_18 (fun hv570 h569 => ?_)
    refine GO.iload_n dX12_binds_21 rfl rfl ?_
    refine GO.iald (t := 43) rfl rfl h569 r_i1 (by omega) (by omega) dX12_binds_22 (fun _ _ => ?_)
    refine GO.callS (N := mX12_in) dX12_binds_23 gS_RX12_371 (t_X12_in r_p1 vi_ir vi_ir) rfl [] rfl rfl (Nat.le_of_ble_eq_true rfl) rfl (k_ip fun X571 r572 h573 => ?_)
    refine GO.istore (ls1 := [some (.ref x), some (ti p0), some (ti p1), some (ti i1), some (ti X571), none, none]) dX12_binds_26 rfl rfl ?_
    refine GO.aload_n dX12_binds_28 rfl rfl ?_
    refine GO.getA (n := 180) h_x fl_RX12_142 rfl rfl rfl rfl dX12_binds_29 (fun hv575 h574 => ?_)
    refine GO.bipush dX12_binds_32 rfl ?_
    refine GO.iload_n dX12_binds_34 rfl rfl ?_
    refine GO.imul dX12_binds_35 ?_
    refine GO.iload_n dX12_binds_36 rfl rfl ?_
    refine GO.iadd dX12_binds_37 ?_
    have q576 : -2147483648 ≤ p0 ∧ p0 ≤ 2147483647 := r_p0
    refine GO.iald (t := 50) rfl rfl h574 ⟨by omega, by omega⟩ (by omega) (by omega) dX12_binds_38 (fun _ _ => ?_)
    refine GO.name (fun z577 hz578 => ?_)
    have r579 : ir z577 := hz578 ▸ vi_ir
    refine GO.istore (ls1 := [some (.ref x), some (ti p0), some (ti p1), some (ti i1), some (ti X571), some (ti z577), none]) dX12_binds_39 rfl rfl ?_
    refine GO.iload_n dX12_binds_41 rfl rfl ?_
    refine GO.if_le (tgt := 101) dX12_binds_42 (by decide) r_i1 (fun c580 => ?_) (fun c580 => ?_)
    ·
      refine GO.iload_n dX12_binds_101 rfl rfl ?_
      refine GO.if_le (tgt := 108) dX12_binds_102 (by decide) r_i1 (fun c581 => ?_) (fun h => by exfalso; omega)
      refine GO.aload_n dX12_binds_108 rfl rfl ?_
      refine GO.getA (n := 20) h_x fl_RX12_157 rfl rfl rfl rfl dX12_binds_109 (fun hv583 h582 => ?_)
      refine GO.iload_n dX12_binds_112 rfl rfl ?_
      refine GO.iload dX12_binds_113 rfl ?_
      refine GO.zast (t := 55) rfl rfl (by decide +kernel) h582 r_i1 (by omega) (by omega) (by omega) (by omega) (by omega) dX12_binds_115 (fun V585 e584 => ?_)
      refine GO.iinc (X := i1) (n := 1) (Y := i1 + 1) (ls1 := [some (.ref x), some (ti p0), some (ti p1), some (ti (i1 + 1)), some (ti X571), some (ti z577), none]) dX12_binds_116 rfl rfl rfl rfl ?_
      refine GO.goto (tgt := 2) dX12_binds_119 (by decide) ?_
      refine GO.drop [true, true, true, true, false, false, true] rfl ?_
      exact ih557 (i1 + 1) V585 ⟨by omega, by omega, trivial⟩ (by show (2147483647 - (i1 + 1)).toNat < (2147483647 - i1).toNat; omega)
    ·
      refine GO.iload dX12_binds_45 rfl ?_
      refine GO.if_eq (tgt := 101) dX12_binds_47 (by decide) r572 (fun c586 => ?_) (fun c586 => ?_)
      ·
        have q587 := h573.2.2 (by omega)
        refine GO.iload_n dX12_binds_101 rfl rfl ?_
        refine GO.if_le (tgt := 108) dX12_binds_102 (by decide) r_i1 (fun h => by exfalso; omega) (fun c588 => ?_)
        refine GO.iconst dX12_binds_105 ?_
        refine GO.istore (ls1 := [some (.ref x), some (ti p0), some (ti p1), some (ti i1), some (ti 0), some (ti z577), none]) dX12_binds_106 rfl rfl ?_
        refine GO.aload_n dX12_binds_108 rfl rfl ?_
        refine GO.getA (n := 20) h_x fl_RX12_157 rfl rfl rfl rfl dX12_binds_109 (fun hv590 h589 => ?_)
        refine GO.iload_n dX12_binds_112 rfl rfl ?_
        refine GO.iload dX12_binds_113 rfl ?_
        refine GO.zast (t := 55) rfl rfl (by decide +kernel) h589 r_i1 (by omega) (by omega) (by omega) (by omega) (by omega) dX12_binds_115 (fun V592 e591 => ?_)
        refine GO.iinc (X := i1) (n := 1) (Y := i1 + 1) (ls1 := [some (.ref x), some (ti p0), some (ti p1), some (ti (i1 + 1)), some (ti 0), some (ti z577), none]) dX12_binds_116 rfl rfl rfl rfl ?_
        refine GO.goto (tgt := 2) dX12_binds_119 (by decide) ?_
        refine GO.drop [true, true, true, true, false, false, true] rfl ?_
        exact ih557 (i1 + 1) V592 ⟨by omega, by omega, trivial⟩ (by show (2147483647 - (i1 + 1)).toNat < (2147483647 - i1).toNat; omega)
      ·
        have q593 := h573.2.1 (by omega)
        refine GO.iload dX12_binds_50 rfl ?_
        refine GO.iconst dX12_binds_52 ?_
        refine GO.icmp_eq (tgt := 101) dX12_binds_53 (by decide) r579 (ir_c rfl) (fun c594 => ?_) (fun c594 => ?_)
        ·
          refine GO.iload_n dX12_binds_101 rfl rfl ?_
          refine GO.if_le (tgt := 108) dX12_binds_102 (by decide) r_i1 (fun h => by exfalso; omega) (fun c595 => ?_)
          refine GO.iconst dX12_binds_105 ?_
          refine GO.istore (ls1 := [some (.ref x), some (ti p0), some (ti p1), some (ti i1), some (ti 0), some (ti z577), none]) dX12_binds_106 rfl rfl ?_
          refine GO.aload_n dX12_binds_108 rfl rfl ?_
          refine GO.getA (n := 20) h_x fl_RX12_157 rfl rfl rfl rfl dX12_binds_109 (fun hv597 h596 => ?_)
          refine GO.iload_n dX12_binds_112 rfl rfl ?_
          refine GO.iload dX12_binds_113 rfl ?_
          refine GO.zast (t := 55) rfl rfl (by decide +kernel) h596 r_i1 (by omega) (by omega) (by omega) (by omega) (by omega) dX12_binds_115 (fun V599 e598 => ?_)
          refine GO.iinc (X := i1) (n := 1) (Y := i1 + 1) (ls1 := [some (.ref x), some (ti p0), some (ti p1), some (ti (i1 + 1)), some (ti 0), some (ti z577), none]) dX12_binds_116 rfl rfl rfl rfl ?_
          refine GO.goto (tgt := 2) dX12_binds_119 (by decide) ?_
          refine GO.drop [true, true, true, true, false, false, true] rfl ?_
          exact ih557 (i1 + 1) V599 ⟨by omega, by omega, trivial⟩ (by show (2147483647 - (i1 + 1)).toNat < (2147483647 - i1).toNat; omega)
        ·
          refine GO.aload_n dX12_binds_56 rfl rfl ?_
          refine GO.iload_n dX12_binds_57 rfl rfl ?_
          refine GO.callV (ci := 11) (N := mX12_strikes) dX12_binds_58 (RX12, TX12, 151) rfl gV_RX12_550 h_x (t_X12_strikes h_x r_i1 (by omega) (by omega)) rfl [] rfl rfl (Nat.le_of_ble_eq_true rfl) rfl (k_vs fun V602 h601 hF600 => ?_)
          refine GO.aload_n dX12_binds_61 rfl rfl ?_
          refine GO.bipush dX12_binds_62 rfl ?_
          refine GO.iconst dX12_binds_64 ?_
          refine GO.iconst dX12_binds_65 ?_
          refine GO.iload_n dX12_binds_66 rfl rfl ?_
          refine GO.callV (ci := 11) (N := mX12_numberBy) dX12_binds_67 (RX12, TX12, 151) rfl gV_RX12_553 h_x (t_X12_numberBy h_x (ir_c rfl) (ir_c rfl) (ir_c rfl) r_i1 (by omega) (by omega)) rfl [] rfl rfl (Nat.le_of_ble_eq_true rfl) rfl (k_ip fun X603 r604 h605 => ?_)
          refine GO.istore (ls1 := [some (.ref x), some (ti p0), some (ti p1), some (ti i1), some (ti X571), some (ti z577), some (ti X603)]) dX12_binds_70 rfl rfl ?_
          refine GO.iload_n dX12_binds_72 rfl rfl ?_
          refine GO.iload dX12_binds_73 rfl ?_
          refine GO.isub dX12_binds_75 ?_
          refine GO.norm (fun z606 r607 _ => ?_)
          refine GO.iload dX12_binds_76 rfl ?_
          refine GO.iconst dX12_binds_78 ?_
          have hj610 : ∀ (z609 : Int), ∀ (l611 : (-2147483648) ≤ z609), ∀ (u612 : z609 ≤ 2147483647), GO mX12_binds K V (VS K (fun V1 => (True))) K V602 0 0 88 [some (.ref x), some (ti p0), some (ti p1), some (ti i1), some (ti X571), some (ti z577), some (ti X603)] [ti z609, ti z606] := by
            intro z609 l611 u612
            have r613 : ir z609 := ⟨by omega, by omega⟩
            refine GO.icmp_lt (tgt := 95) dX12_binds_88 (by decide) r607 r613 (fun c614 => ?_) (fun c614 => ?_)
            ·
              refine GO.iconst dX12_binds_95 ?_
              refine GO.istore (ls1 := [some (.ref x), some (ti p0), some (ti p1), some (ti i1), some (ti 0), some (ti z577), some (ti X603)]) dX12_binds_96 rfl rfl ?_
              refine GO.goto (tgt := 108) dX12_binds_98 (by decide) ?_
              refine GO.aload_n dX12_binds_108 rfl rfl ?_
              refine GO.getA (n := 20) h_x fl_RX12_157 rfl rfl rfl rfl dX12_binds_109 (fun hv616 h615 => ?_)
              refine GO.iload_n dX12_binds_112 rfl rfl ?_
              refine GO.iload dX12_binds_113 rfl ?_
              refine GO.zast (t := 55) rfl rfl (by decide +kernel) h615 r_i1 (by omega) (by omega) (by omega) (by omega) (by omega) dX12_binds_115 (fun V618 e617 => ?_)
              refine GO.iinc (X := i1) (n := 1) (Y := i1 + 1) (ls1 := [some (.ref x), some (ti p0), some (ti p1), some (ti (i1 + 1)), some (ti 0), some (ti z577), some (ti X603)]) dX12_binds_116 rfl rfl rfl rfl ?_
              refine GO.goto (tgt := 2) dX12_binds_119 (by decide) ?_
              refine GO.drop [true, true, true, true, false, false, false] rfl ?_
              exact ih557 (i1 + 1) V618 ⟨by omega, by omega, trivial⟩ (by show (2147483647 - (i1 + 1)).toNat < (2147483647 - i1).toNat; omega)
            ·
              refine GO.iconst dX12_binds_91 ?_
              refine GO.goto (tgt := 96) dX12_binds_92 (by decide) ?_
              refine GO.istore (ls1 := [some (.ref x), some (ti p0), some (ti p1), some (ti i1), some (ti 1), some (ti z577), some (ti X603)]) dX12_binds_96 rfl rfl ?_
              refine GO.goto (tgt := 108) dX12_binds_98 (by decide) ?_
              refine GO.aload_n dX12_binds_108 rfl rfl ?_
              refine GO.getA (n := 20) h_x fl_RX12_157 rfl rfl rfl rfl dX12_binds_109 (fun hv620 h619 => ?_)
              refine GO.iload_n dX12_binds_112 rfl rfl ?_
              refine GO.iload dX12_binds_113 rfl ?_
              refine GO.zast (t := 55) rfl rfl (by decide +kernel) h619 r_i1 (by omega) (by omega) (by omega) (by omega) (by omega) dX12_binds_115 (fun V622 e621 => ?_)
              refine GO.iinc (X := i1) (n := 1) (Y := i1 + 1) (ls1 := [some (.ref x), some (ti p0), some (ti p1), some (ti (i1 + 1)), some (ti 1), some (ti z577), some (ti X603)]) dX12_binds_116 rfl rfl rfl rfl ?_
              refine GO.goto (tgt := 2) dX12_binds_119 (by decide) ?_
              refine GO.drop [true, true, true, true, false, false, false] rfl ?_
              exact ih557 (i1 + 1) V622 ⟨by omega, by omega, trivial⟩ (by show (2147483647 - (i1 + 1)).toNat < (2147483647 - i1).toNat; omega)
          refine GO.icmp_ne (tgt := 86) dX12_binds_79 (by decide) r604 (ir_c rfl) (fun c623 => ?_) (fun c623 => ?_)
          ·
            refine GO.iload dX12_binds_86 rfl ?_
            have q624 : -2147483648 ≤ X603 ∧ X603 ≤ 2147483647 := r604
            exact hj610 X603 (by omega) (by omega)
          ·
            refine GO.iconst dX12_binds_82 ?_
            refine GO.goto (tgt := 88) dX12_binds_83 (by decide) ?_
            exact hj610 0 (by omega) (by omega)

set_option maxHeartbeats 1000000 in
theorem t_X12_isAsleep {K : Kmap} {V : Vmap} {x : Nat} {p0 : Int} {p1 : Int} (h_x : K x = some (0, 11)) (r_p0 : ir p0) (r_p1 : ir p1) (q_0 : p0 ≥ 0) (q_1 : p0 ≤ 8) : MC mX12_isAsleep K V [.ref x, ti p0, ti p1] (IS K (fun X V1 => (X = 0 ∨ X = 1) ∧ (X ≠ 0 → True) ∧ (X = 0 → True))) := by
  refine MC.start 0 (by decide +kernel) rfl rfl rfl (ls0 := [some (.ref x), some (ti p0), some (ti p1)]) rfl ?_
  refine GO.aload_n dX12_isAsleep_0 rfl rfl ?_
  refine GO.iload_n dX12_isAsleep_1 rfl rfl ?_
  refine GO.iload_n dX12_isAsleep_2 rfl rfl ?_
  have q1 : -2147483648 ≤ p0 ∧ p0 ≤ 2147483647 := r_p0
  refine GO.callV (ci := 11) (N := mX12_binds) dX12_isAsleep_3 (RX12, TX12, 151) rfl gV_RX12_557 h_x (t_X12_binds h_x r_p0 r_p1 (by omega) (by omega)) rfl [] rfl rfl (Nat.le_of_ble_eq_true rfl) rfl (k_vs fun V4 h3 hF2 => ?_)
  refine GO.aload_n dX12_isAsleep_6 rfl rfl ?_
  refine GO.bipush dX12_isAsleep_7 rfl ?_
  refine GO.iconst dX12_isAsleep_9 ?_
  refine GO.iconst dX12_isAsleep_10 ?_
  refine GO.aload_n dX12_isAsleep_11 rfl rfl ?_
  refine GO.getI h_x fl_RX12_535 rfl rfl dX12_isAsleep_12 (fun l5 u6 => ?_)
  refine GO.callV (ci := 11) (N := mX12_numberBy) dX12_isAsleep_15 (RX12, TX12, 151) rfl gV_RX12_553 h_x (t_X12_numberBy h_x (ir_c rfl) (ir_c rfl) (ir_c rfl) vi_ir (by omega) (by omega)) rfl [] rfl rfl (Nat.le_of_ble_eq_true rfl) rfl (k_ip fun X8 r9 h10 => ?_)
  refine GO.iconst dX12_isAsleep_18 ?_
  refine GO.icmp_eq (tgt := 26) dX12_isAsleep_19 (by decide) r9 (ir_c rfl) (fun c11 => ?_) (fun c11 => ?_)
  ·
    refine GO.iconst dX12_isAsleep_26 ?_
    exact GO.retz rfl rfl dX12_isAsleep_27 (Or.inl rfl) ⟨rfl, _, rfl, (ir_c rfl), ⟨Or.inl rfl, fun _ => trivial, fun _ => trivial⟩⟩
  ·
    refine GO.iconst dX12_isAsleep_22 ?_
    refine GO.goto (tgt := 27) dX12_isAsleep_23 (by decide) ?_
    exact GO.retz rfl rfl dX12_isAsleep_27 (Or.inr rfl) ⟨rfl, _, rfl, (ir_c rfl), ⟨Or.inr rfl, fun _ => trivial, fun _ => trivial⟩⟩

set_option maxHeartbeats 1000000 in
theorem t_X12_claim {K : Kmap} {V : Vmap} {x : Nat} {p0 : Int} {p1 : Int} {p2 : Int} {p3 : Int} (h_x : K x = some (0, 11)) (r_p0 : ir p0) (r_p1 : ir p1) (r_p2 : ir p2) (r_p3 : ir p3) (w_0 : PX0 V x) : MC mX12_claim K V [.ref x, ti p0, ti p1, ti p2, ti p3] (IS K (fun X V1 => (X ≥ (-2147483648) ∧ X ≤ 2147483647) ∧ (PX0 V1 x))) := by
  refine MC.start 0 (by decide +kernel) rfl rfl rfl (ls0 := [some (.ref x), some (ti p0), some (ti p1), some (ti p2), some (ti p3)]) rfl ?_
  refine GO.useWT (fun hW1 => ?_)
  have ak2 := hW1.arr h_x 13 15 (by decide) rfl (by decide)
  have ak3 := hW1.arr h_x 14 16 (by decide) rfl (by decide)
  refine GO.aload_n dX12_claim_0 rfl rfl ?_
  refine GO.iload_n dX12_claim_1 rfl rfl ?_
  refine GO.callV (ci := 11) (N := mX12_isParty) dX12_claim_2 (RX12, TX12, 151) rfl gV_RX12_406 h_x (t_X12_isParty h_x r_p0) rfl [] rfl rfl (Nat.le_of_ble_eq_true rfl) rfl (k_ip fun X4 r5 h6 => ?_)
  refine GO.if_eq (tgt := 50) dX12_claim_5 (by decide) r5 (fun c7 => ?_) (fun c7 => ?_)
  ·
    refine GO.iconst dX12_claim_50 ?_
    exact GO.reti rfl rfl dX12_claim_51 ⟨rfl, _, rfl, (ir_c rfl), ⟨(by first | exact trivial | omega), (by first | exact w_0 | exact PX0.mk w_0 (by omega) (rfl : ar 13 V x = ar 13 V x) (rfl : ar 14 V x = ar 14 V x))⟩⟩
  ·
    have q8 := h6.2.1 (by omega)
    refine GO.aload_n dX12_claim_8 rfl rfl ?_
    refine GO.iload_n dX12_claim_9 rfl rfl ?_
    refine GO.iload_n dX12_claim_10 rfl rfl ?_
    refine GO.callV (ci := 11) (N := mX12_isRectangle) dX12_claim_11 (RX12, TX12, 151) rfl gV_RX12_415 h_x (t_X12_isRectangle h_x r_p1 r_p2) rfl [] rfl rfl (Nat.le_of_ble_eq_true rfl) rfl (k_ip fun X9 r10 h11 => ?_)
    refine GO.if_eq (tgt := 50) dX12_claim_14 (by decide) r10 (fun c12 => ?_) (fun c12 => ?_)
    ·
      refine GO.iconst dX12_claim_50 ?_
      exact GO.reti rfl rfl dX12_claim_51 ⟨rfl, _, rfl, (ir_c rfl), ⟨(by first | exact trivial | omega), (by first | exact w_0 | exact PX0.mk w_0 (by omega) (rfl : ar 13 V x = ar 13 V x) (rfl : ar 14 V x = ar 14 V x))⟩⟩
    ·
      have q13 := h11.2.1 (by omega)
      refine GO.iload dX12_claim_17 rfl ?_
      refine GO.iconst dX12_claim_19 ?_
      refine GO.sipush dX12_claim_20 rfl ?_
      refine GO.callS (N := mX12_in) dX12_claim_23 gS_RX12_371 (t_X12_in r_p3 (ir_c rfl) (ir_c rfl)) rfl [] rfl rfl (Nat.le_of_ble_eq_true rfl) rfl (k_ip fun X14 r15 h16 => ?_)
      refine GO.if_eq (tgt := 50) dX12_claim_26 (by decide) r15 (fun c17 => ?_) (fun c17 => ?_)
      ·
        have q18 := h16.2.2 (by omega)
        refine GO.iconst dX12_claim_50 ?_
        exact GO.reti rfl rfl dX12_claim_51 ⟨rfl, _, rfl, (ir_c rfl), ⟨(by first | exact trivial | omega), (by first | exact w_0 | exact PX0.mk w_0 (by omega) (rfl : ar 13 V x = ar 13 V x) (rfl : ar 14 V x = ar 14 V x))⟩⟩
      ·
        have q19 := h16.2.1 (by omega)
        refine GO.aload_n dX12_claim_29 rfl rfl ?_
        refine GO.getI h_x fl_RX12_375 rfl rfl dX12_claim_30 (fun l20 u21 => ?_)
        refine GO.bipush dX12_claim_33 rfl ?_
        refine GO.icmp_eq (tgt := 50) dX12_claim_35 (by decide) vi_ir (ir_c rfl) (fun c22 => ?_) (fun c22 => ?_)
        ·
          refine GO.iconst dX12_claim_50 ?_
          exact GO.reti rfl rfl dX12_claim_51 ⟨rfl, _, rfl, (ir_c rfl), ⟨(by first | exact trivial | omega), (by first | exact w_0 | exact PX0.mk w_0 (by omega) (rfl : ar 13 V x = ar 13 V x) (rfl : ar 14 V x = ar 14 V x))⟩⟩
        ·
          refine GO.aload_n dX12_claim_38 rfl rfl ?_
          refine GO.iload_n dX12_claim_39 rfl rfl ?_
          refine GO.aload_n dX12_claim_40 rfl rfl ?_
          refine GO.getI h_x fl_RX12_396 rfl rfl dX12_claim_41 (fun l23 u24 => ?_)
          have q25 : -2147483648 ≤ p0 ∧ p0 ≤ 2147483647 := r_p0
          refine GO.callV (ci := 11) (N := mX12_isAsleep) dX12_claim_44 (RX12, TX12, 151) rfl gV_RX12_418 h_x (t_X12_isAsleep h_x r_p0 vi_ir (by omega) (by omega)) rfl [] rfl rfl (Nat.le_of_ble_eq_true rfl) rfl (k_is fun X26 V30 r27 h28 hF29 => ?_)
          have ak31 := tk_fr hF29 ak2 h_x (by decide +kernel) (by decide +kernel) (rfl : ar 13 V x = ar 13 V x)
          have ak32 := tk_fr hF29 ak3 h_x (by decide +kernel) (by decide +kernel) (rfl : ar 14 V x = ar 14 V x)
          refine GO.if_eq (tgt := 52) dX12_claim_47 (by decide) r27 (fun c33 => ?_) (fun c33 => ?_)
          ·
            refine GO.aload_n dX12_claim_52 rfl rfl ?_
            refine GO.iconst dX12_claim_53 ?_
            refine GO.iload_n dX12_claim_54 rfl rfl ?_
            refine GO.iload_n dX12_claim_55 rfl rfl ?_
            refine GO.iload_n dX12_claim_56 rfl rfl ?_
            refine GO.iload dX12_claim_57 rfl ?_
            have q34 : -2147483648 ≤ p1 ∧ p1 ≤ 2147483647 := r_p1
            have q35 : -2147483648 ≤ p2 ∧ p2 ≤ 2147483647 := r_p2
            have e36 : vi V30 x 10 = vi V x 10 := vi_fr hF29 h_x h_x (by decide +kernel)
            refine GO.callV (ci := 11) (N := mX12_place) dX12_claim_59 (RX12, TX12, 151) rfl gV_RX12_421 h_x (t_X12_place h_x (ir_c rfl) r_p0 r_p1 r_p2 r_p3 (by omega) (by omega) (by omega) (by omega) (by omega) (by omega) (by omega) (by omega) (by omega) ((by first | exact w_0 | exact PX0.mk w_0 (by omega) ak31.2 ak32.2)) ⟨by omega, by omega⟩) rfl [] rfl rfl (Nat.le_of_ble_eq_true rfl) rfl (k_is fun X37 V41 r38 h39 hF40 => ?_)
            refine GO.useWT (fun hW42 => ?_)
            have ak43 := hW42.arr h_x 13 15 (by decide) rfl (by decide)
            have ak44 := hW42.arr h_x 14 16 (by decide) rfl (by decide)
            have raw_place := h39.2
            exact GO.reti rfl rfl dX12_claim_62 ⟨rfl, _, rfl, r38, ⟨(by first | exact trivial | omega), (by first | exact raw_place | exact w_0 | exact PX0.mk w_0 (by omega) (rfl : ar 13 V41 x = ar 13 V41 x) (rfl : ar 14 V41 x = ar 14 V41 x))⟩⟩
          ·
            refine GO.iconst dX12_claim_50 ?_
            have e46 : vi V30 x 10 = vi V x 10 := vi_fr hF29 h_x h_x (by decide +kernel)
            exact GO.reti rfl rfl dX12_claim_51 ⟨rfl, _, rfl, (ir_c rfl), ⟨(by first | exact trivial | omega), (by first | exact w_0 | exact PX0.mk w_0 (by omega) ak31.2 ak32.2)⟩⟩

set_option maxHeartbeats 1000000 in
theorem t_X12_title {K : Kmap} {V : Vmap} {x : Nat} {p0 : Int} {p1 : Int} (h_x : K x = some (0, 11)) (r_p0 : ir p0) (r_p1 : ir p1) (w_0 : PX0 V x) : MC mX12_title K V [.ref x, ti p0, ti p1] (IS K (fun X V1 => (X = 0 ∨ X = 1) ∧ (X ≠ 0 → True) ∧ (X = 0 → True))) := by
  refine MC.start 0 (by decide +kernel) rfl rfl rfl (ls0 := [some (.ref x), some (ti p0), some (ti p1)]) rfl ?_
  refine GO.aload_n dX12_title_0 rfl rfl ?_
  refine GO.iload_n dX12_title_1 rfl rfl ?_
  refine GO.iconst dX12_title_2 ?_
  refine GO.callV (ci := 11) (N := mX12_isPlace) dX12_title_3 (RX12, TX12, 151) rfl gV_RX12_399 h_x (t_X12_isPlace h_x r_p0 (ir_c rfl)) rfl [] rfl rfl (Nat.le_of_ble_eq_true rfl) rfl (k_ip fun X1 r2 h3 => ?_)
  have raw_isPlace := h3.2.2.2
  refine GO.if_eq (tgt := 47) dX12_title_6 (by decide) r2 (fun c4 => ?_) (fun c4 => ?_)
  ·
    refine GO.iconst dX12_title_47 ?_
    exact GO.retz rfl rfl dX12_title_48 (Or.inl rfl) ⟨rfl, _, rfl, (ir_c rfl), ⟨Or.inl rfl, fun _ => trivial, fun _ => trivial⟩⟩
  ·
    have q5 := h3.2.1 (by omega)
    refine GO.iload_n dX12_title_9 rfl rfl ?_
    refine GO.iconst dX12_title_10 ?_
    refine GO.sipush dX12_title_11 rfl ?_
    refine GO.callS (N := mX12_in) dX12_title_14 gS_RX12_371 (t_X12_in r_p1 (ir_c rfl) (ir_c rfl)) rfl [] rfl rfl (Nat.le_of_ble_eq_true rfl) rfl (k_ip fun X6 r7 h8 => ?_)
    refine GO.if_eq (tgt := 47) dX12_title_17 (by decide) r7 (fun c9 => ?_) (fun c9 => ?_)
    ·
      have q10 := h8.2.2 (by omega)
      refine GO.iconst dX12_title_47 ?_
      exact GO.retz rfl rfl dX12_title_48 (Or.inl rfl) ⟨rfl, _, rfl, (ir_c rfl), ⟨Or.inl rfl, fun _ => trivial, fun _ => trivial⟩⟩
    ·
      have q11 := h8.2.1 (by omega)
      refine GO.iload_n dX12_title_20 rfl rfl ?_
      refine GO.aload_n dX12_title_21 rfl rfl ?_
      refine GO.getA (n := 60) h_x fl_RX12_47 rfl rfl rfl rfl dX12_title_22 (fun hv13 h12 => ?_)
      refine GO.iload_n dX12_title_25 rfl rfl ?_
      have q14 : -2147483648 ≤ p0 ∧ p0 ≤ 2147483647 := r_p0
      refine GO.iald (t := 19) rfl rfl h12 r_p0 (by omega) (by omega) dX12_title_26 (fun _ _ => ?_)
      refine GO.icmp_le (tgt := 49) dX12_title_27 (by decide) r_p1 vi_ir (fun c15 => ?_) (fun c15 => ?_)
      ·
        refine GO.aload_n dX12_title_49 rfl rfl ?_
        refine GO.getRaw h_x fl_RX12_47 hv13 dX12_title_50 ?_
        refine GO.iload_n dX12_title_53 rfl rfl ?_
        refine GO.iload_n dX12_title_54 rfl rfl ?_
        refine GO.iast (t := 19) rfl rfl (by decide +kernel) h12 r_p0 (by omega) (by omega) r_p1 (r_p1).1 (r_p1).2 dX12_title_55 (fun V19 e18 => ?_)
        refine GO.iconst dX12_title_56 ?_
        exact GO.retz rfl rfl dX12_title_57 (Or.inr rfl) ⟨rfl, _, rfl, (ir_c rfl), ⟨Or.inr rfl, fun _ => trivial, fun _ => trivial⟩⟩
      ·
        have hp := PX0.at w_0 (k := p0) (by omega) (raw_isPlace (by omega)).1 (raw_isPlace (by omega)).2
        refine GO.aload_n dX12_title_30 rfl rfl ?_
        refine GO.aload_n dX12_title_31 rfl rfl ?_
        refine GO.getA (n := 60) h_x fl_RX12_38 rfl rfl rfl rfl dX12_title_32 (fun hv21 h20 => ?_)
        refine GO.iload_n dX12_title_35 rfl rfl ?_
        refine GO.iald (t := 16) rfl rfl h20 r_p0 (by omega) (by omega) dX12_title_36 (fun l22 u23 => ?_)
        refine GO.aload_n dX12_title_37 rfl rfl ?_
        refine GO.getI h_x fl_RX12_396 rfl rfl dX12_title_38 (fun l24 u25 => ?_)
        refine GO.callV (ci := 11) (N := mX12_isAsleep) dX12_title_41 (RX12, TX12, 151) rfl gV_RX12_418 h_x (t_X12_isAsleep h_x vi_ir vi_ir (by omega) (by omega)) rfl [] rfl rfl (Nat.le_of_ble_eq_true rfl) rfl (k_is fun X26 V30 r27 h28 hF29 => ?_)
        refine GO.if_eq (tgt := 49) dX12_title_44 (by decide) r27 (fun c31 => ?_) (fun c31 => ?_)
        ·
          refine GO.aload_n dX12_title_49 rfl rfl ?_
          refine GO.getRaw h_x fl_RX12_47 (Eq.trans (hF29 _ _ _ h_x h_x (by decide +kernel)) hv13) dX12_title_50 ?_
          refine GO.iload_n dX12_title_53 rfl rfl ?_
          refine GO.iload_n dX12_title_54 rfl rfl ?_
          refine GO.iast (t := 19) rfl rfl (by decide +kernel) h12 r_p0 (by omega) (by omega) r_p1 (r_p1).1 (r_p1).2 dX12_title_55 (fun V35 e34 => ?_)
          refine GO.iconst dX12_title_56 ?_
          exact GO.retz rfl rfl dX12_title_57 (Or.inr rfl) ⟨rfl, _, rfl, (ir_c rfl), ⟨Or.inr rfl, fun _ => trivial, fun _ => trivial⟩⟩
        ·
          refine GO.iconst dX12_title_47 ?_
          exact GO.retz rfl rfl dX12_title_48 (Or.inl rfl) ⟨rfl, _, rfl, (ir_c rfl), ⟨Or.inl rfl, fun _ => trivial, fun _ => trivial⟩⟩

set_option maxHeartbeats 1000000 in
theorem t_X12_station {K : Kmap} {V : Vmap} {x : Nat} {p0 : Int} {p1 : Int} {p2 : Int} {p3 : Int} (h_x : K x = some (0, 11)) (r_p0 : ir p0) (r_p1 : ir p1) (r_p2 : ir p2) (r_p3 : ir p3) (w_0 : PX0 V x) : MC mX12_station K V [.ref x, ti p0, ti p1, ti p2, ti p3] (IS K (fun X V1 => (X ≥ (-2147483648) ∧ X ≤ 2147483647) ∧ (PX0 V1 x))) := by
  refine MC.start 0 (by decide +kernel) rfl rfl rfl (ls0 := [some (.ref x), some (ti p0), some (ti p1), some (ti p2), some (ti p3)]) rfl ?_
  refine GO.useWT (fun hW1 => ?_)
  have ak2 := hW1.arr h_x 13 15 (by decide) rfl (by decide)
  have ak3 := hW1.arr h_x 14 16 (by decide) rfl (by decide)
  refine GO.aload_n dX12_station_0 rfl rfl ?_
  refine GO.iload_n dX12_station_1 rfl rfl ?_
  refine GO.callV (ci := 11) (N := mX12_isParty) dX12_station_2 (RX12, TX12, 151) rfl gV_RX12_406 h_x (t_X12_isParty h_x r_p0) rfl [] rfl rfl (Nat.le_of_ble_eq_true rfl) rfl (k_ip fun X4 r5 h6 => ?_)
  refine GO.if_eq (tgt := 56) dX12_station_5 (by decide) r5 (fun c7 => ?_) (fun c7 => ?_)
  ·
    refine GO.iconst dX12_station_56 ?_
    exact GO.reti rfl rfl dX12_station_57 ⟨rfl, _, rfl, (ir_c rfl), ⟨(by first | exact trivial | omega), (by first | exact w_0 | exact PX0.mk w_0 (by omega) (rfl : ar 13 V x = ar 13 V x) (rfl : ar 14 V x = ar 14 V x))⟩⟩
  ·
    have q8 := h6.2.1 (by omega)
    refine GO.aload_n dX12_station_8 rfl rfl ?_
    refine GO.iload_n dX12_station_9 rfl rfl ?_
    refine GO.callV (ci := 11) (N := mX12_isCell) dX12_station_10 (RX12, TX12, 151) rfl gV_RX12_381 h_x (t_X12_isCell h_x r_p1) rfl [] rfl rfl (Nat.le_of_ble_eq_true rfl) rfl (k_ip fun X9 r10 h11 => ?_)
    refine GO.if_eq (tgt := 56) dX12_station_13 (by decide) r10 (fun c12 => ?_) (fun c12 => ?_)
    ·
      refine GO.iconst dX12_station_56 ?_
      exact GO.reti rfl rfl dX12_station_57 ⟨rfl, _, rfl, (ir_c rfl), ⟨(by first | exact trivial | omega), (by first | exact w_0 | exact PX0.mk w_0 (by omega) (rfl : ar 13 V x = ar 13 V x) (rfl : ar 14 V x = ar 14 V x))⟩⟩
    ·
      have q13 := h11.2.1 (by omega)
      refine GO.aload_n dX12_station_16 rfl rfl ?_
      refine GO.iload_n dX12_station_17 rfl rfl ?_
      have q14 : -2147483648 ≤ p1 ∧ p1 ≤ 2147483647 := r_p1
      refine GO.callV (ci := 11) (N := mX12_isLand) dX12_station_18 (RX12, TX12, 151) rfl gV_RX12_425 h_x (t_X12_isLand h_x r_p1 (by omega) (by omega)) rfl [] rfl rfl (Nat.le_of_ble_eq_true rfl) rfl (k_ip fun X15 r16 h17 => ?_)
      refine GO.if_eq (tgt := 56) dX12_station_21 (by decide) r16 (fun c18 => ?_) (fun c18 => ?_)
      ·
        refine GO.iconst dX12_station_56 ?_
        exact GO.reti rfl rfl dX12_station_57 ⟨rfl, _, rfl, (ir_c rfl), ⟨(by first | exact trivial | omega), (by first | exact w_0 | exact PX0.mk w_0 (by omega) (rfl : ar 13 V x = ar 13 V x) (rfl : ar 14 V x = ar 14 V x))⟩⟩
      ·
        refine GO.iload_n dX12_station_24 rfl rfl ?_
        refine GO.iconst dX12_station_25 ?_
        refine GO.sipush dX12_station_26 rfl ?_
        refine GO.callS (N := mX12_in) dX12_station_29 gS_RX12_371 (t_X12_in r_p2 (ir_c rfl) (ir_c rfl)) rfl [] rfl rfl (Nat.le_of_ble_eq_true rfl) rfl (k_ip fun X19 r20 h21 => ?_)
        refine GO.if_eq (tgt := 56) dX12_station_32 (by decide) r20 (fun c22 => ?_) (fun c22 => ?_)
        ·
          have q23 := h21.2.2 (by omega)
          refine GO.iconst dX12_station_56 ?_
          exact GO.reti rfl rfl dX12_station_57 ⟨rfl, _, rfl, (ir_c rfl), ⟨(by first | exact trivial | omega), (by first | exact w_0 | exact PX0.mk w_0 (by omega) (rfl : ar 13 V x = ar 13 V x) (rfl : ar 14 V x = ar 14 V x))⟩⟩
        ·
          have q24 := h21.2.1 (by omega)
          refine GO.iload dX12_station_35 rfl ?_
          refine GO.iconst dX12_station_37 ?_
          refine GO.ldcw (X := 100000) dX12_station_38 gw_2019 rfl ?_
          refine GO.callS (N := mX12_in) dX12_station_41 gS_RX12_371 (t_X12_in r_p3 (ir_c rfl) (ir_c rfl)) rfl [] rfl rfl (Nat.le_of_ble_eq_true rfl) rfl (k_ip fun X25 r26 h27 => ?_)
          refine GO.if_eq (tgt := 56) dX12_station_44 (by decide) r26 (fun c28 => ?_) (fun c28 => ?_)
          ·
            have q29 := h27.2.2 (by omega)
            refine GO.iconst dX12_station_56 ?_
            exact GO.reti rfl rfl dX12_station_57 ⟨rfl, _, rfl, (ir_c rfl), ⟨(by first | exact trivial | omega), (by first | exact w_0 | exact PX0.mk w_0 (by omega) (rfl : ar 13 V x = ar 13 V x) (rfl : ar 14 V x = ar 14 V x))⟩⟩
          ·
            have q30 := h27.2.1 (by omega)
            refine GO.aload_n dX12_station_47 rfl rfl ?_
            refine GO.getI h_x fl_RX12_375 rfl rfl dX12_station_48 (fun l31 u32 => ?_)
            refine GO.bipush dX12_station_51 rfl ?_
            refine GO.icmp_ne (tgt := 58) dX12_station_53 (by decide) vi_ir (ir_c rfl) (fun c33 => ?_) (fun c33 => ?_)
            ·
              refine GO.aload_n dX12_station_58 rfl rfl ?_
              refine GO.getA (n := 60) h_x fl_RX12_53 rfl rfl rfl rfl dX12_station_59 (fun hv35 h34 => ?_)
              refine GO.aload_n dX12_station_62 rfl rfl ?_
              refine GO.getI h_x fl_RX12_375 rfl rfl dX12_station_63 (fun l36 u37 => ?_)
              refine GO.iload_n dX12_station_66 rfl rfl ?_
              have q39 : -2147483648 ≤ p2 ∧ p2 ≤ 2147483647 := r_p2
              refine GO.iast (t := 21) rfl rfl (by decide +kernel) h34 vi_ir (by omega) (by omega) r_p2 (by omega) (by omega) dX12_station_67 (fun V40 e38 => ?_)
              have ak41 := tk_oth e38 ak2 h_x h34 (by decide) (by decide) (rfl : ar 13 V x = ar 13 V x)
              have ak42 := tk_oth e38 ak3 h_x h34 (by decide) (by decide) (rfl : ar 14 V x = ar 14 V x)
              refine GO.aload_n dX12_station_68 rfl rfl ?_
              refine GO.getA (n := 60) h_x fl_RX12_56 rfl rfl rfl rfl dX12_station_69 (fun hv44 h43 => ?_)
              refine GO.aload_n dX12_station_72 rfl rfl ?_
              refine GO.getI h_x fl_RX12_375 rfl rfl dX12_station_73 (fun l45 u46 => ?_)
              have e47 : vi V40 x 10 = vi V x 10 := vi_up e38 (Or.inl (K_ne h_x h34 (by decide)))
              refine GO.iload dX12_station_76 rfl ?_
              refine GO.iast (t := 22) rfl rfl (by decide +kernel) h43 vi_ir (by omega) (by omega) r_p3 (r_p3).1 (r_p3).2 dX12_station_78 (fun V49 e48 => ?_)
              have ak50 := tk_oth e48 ak41.1 h_x h43 (by decide) (by decide) ak41.2
              have ak51 := tk_oth e48 ak42.1 h_x h43 (by decide) (by decide) ak42.2
              refine GO.aload_n dX12_station_79 rfl rfl ?_
              refine GO.aload_n dX12_station_80 rfl rfl ?_
              refine GO.getL h_x fl_RX12_429 rfl rfl dX12_station_81 ?_
              refine GO.anyL (fun z52 => ?_)
              refine GO.iload dX12_station_84 rfl ?_
              refine GO.i2l dX12_station_86 ?_
              refine GO.anyL (fun z53 => ?_)
              refine GO.ladd dX12_station_87 ?_
              refine GO.anyL (fun z54 => ?_)
              refine GO.putL h_x fp_RX12_429 rfl (by decide +kernel) dX12_station_88 (fun V56 e55 => ?_)
              have ak57 := tk_fld e55 ak50.1 h_x (by decide) ak50.2
              have ak58 := tk_fld e55 ak51.1 h_x (by decide) ak51.2
              refine GO.aload_n dX12_station_91 rfl rfl ?_
              refine GO.iconst dX12_station_92 ?_
              refine GO.iload_n dX12_station_93 rfl rfl ?_
              refine GO.iload_n dX12_station_94 rfl rfl ?_
              refine GO.iconst dX12_station_95 ?_
              refine GO.iconst dX12_station_96 ?_
              have q59 : -2147483648 ≤ p0 ∧ p0 ≤ 2147483647 := r_p0
              have e61 : vi V49 x 10 = vi V40 x 10 := vi_up e48 (Or.inl (K_ne h_x h43 (by decide)))
              have e60 : vi V56 x 10 = vi V49 x 10 := vi_up e55 (Or.inr (by decide))
              refine GO.callV (ci := 11) (N := mX12_place) dX12_station_97 (RX12, TX12, 151) rfl gV_RX12_421 h_x (t_X12_place h_x (ir_c rfl) r_p0 r_p1 (ir_c rfl) (ir_c rfl) (by omega) (by omega) (by omega) (by omega) (by omega) (by omega) (by omega) (by omega) (by omega) ((by first | exact w_0 | exact PX0.mk w_0 (by omega) ak57.2 ak58.2)) ⟨by omega, by omega⟩) rfl [] rfl rfl (Nat.le_of_ble_eq_true rfl) rfl (k_is fun X62 V66 r63 h64 hF65 => ?_)
              refine GO.useWT (fun hW67 => ?_)
              have ak68 := hW67.arr h_x 13 15 (by decide) rfl (by decide)
              have ak69 := hW67.arr h_x 14 16 (by decide) rfl (by decide)
              have raw_place := h64.2
              exact GO.reti rfl rfl dX12_station_100 ⟨rfl, _, rfl, r63, ⟨(by first | exact trivial | omega), (by first | exact raw_place | exact w_0 | exact PX0.mk w_0 (by omega) (rfl : ar 13 V66 x = ar 13 V66 x) (rfl : ar 14 V66 x = ar 14 V66 x))⟩⟩
            ·
              refine GO.iconst dX12_station_56 ?_
              exact GO.reti rfl rfl dX12_station_57 ⟨rfl, _, rfl, (ir_c rfl), ⟨(by first | exact trivial | omega), (by first | exact w_0 | exact PX0.mk w_0 (by omega) (rfl : ar 13 V x = ar 13 V x) (rfl : ar 14 V x = ar 14 V x))⟩⟩

set_option maxHeartbeats 1000000 in
theorem t_X12_field {K : Kmap} {V : Vmap} {x : Nat} {p0 : Int} {p1 : Int} (h_x : K x = some (0, 11)) (r_p0 : ir p0) (r_p1 : ir p1) (w_0 : PX0 V x) : MC mX12_field K V [.ref x, ti p0, ti p1] (IS K (fun X V1 => (X ≥ (-2147483648) ∧ X ≤ 2147483647) ∧ (PX0 V1 x))) := by
  refine MC.start 0 (by decide +kernel) rfl rfl rfl (ls0 := [some (.ref x), some (ti p0), some (ti p1)]) rfl ?_
  refine GO.useWT (fun hW1 => ?_)
  have ak2 := hW1.arr h_x 13 15 (by decide) rfl (by decide)
  have ak3 := hW1.arr h_x 14 16 (by decide) rfl (by decide)
  refine GO.aload_n dX12_field_0 rfl rfl ?_
  refine GO.iload_n dX12_field_1 rfl rfl ?_
  refine GO.callV (ci := 11) (N := mX12_stands) dX12_field_2 (RX12, TX12, 151) rfl gV_RX12_433 h_x (t_X12_stands h_x r_p0) rfl [] rfl rfl (Nat.le_of_ble_eq_true rfl) rfl (k_ip fun X4 r5 h6 => ?_)
  refine GO.if_eq (tgt := 33) dX12_field_5 (by decide) r5 (fun c7 => ?_) (fun c7 => ?_)
  ·
    refine GO.iconst dX12_field_33 ?_
    exact GO.reti rfl rfl dX12_field_34 ⟨rfl, _, rfl, (ir_c rfl), ⟨(by first | exact trivial | omega), (by first | exact w_0 | exact PX0.mk w_0 (by omega) (rfl : ar 13 V x = ar 13 V x) (rfl : ar 14 V x = ar 14 V x))⟩⟩
  ·
    have q8 := h6.2.1 (by omega)
    refine GO.aload_n dX12_field_8 rfl rfl ?_
    refine GO.iload_n dX12_field_9 rfl rfl ?_
    refine GO.callV (ci := 11) (N := mX12_isCell) dX12_field_10 (RX12, TX12, 151) rfl gV_RX12_381 h_x (t_X12_isCell h_x r_p1) rfl [] rfl rfl (Nat.le_of_ble_eq_true rfl) rfl (k_ip fun X9 r10 h11 => ?_)
    refine GO.if_eq (tgt := 33) dX12_field_13 (by decide) r10 (fun c12 => ?_) (fun c12 => ?_)
    ·
      refine GO.iconst dX12_field_33 ?_
      exact GO.reti rfl rfl dX12_field_34 ⟨rfl, _, rfl, (ir_c rfl), ⟨(by first | exact trivial | omega), (by first | exact w_0 | exact PX0.mk w_0 (by omega) (rfl : ar 13 V x = ar 13 V x) (rfl : ar 14 V x = ar 14 V x))⟩⟩
    ·
      have q13 := h11.2.1 (by omega)
      refine GO.aload_n dX12_field_16 rfl rfl ?_
      refine GO.iload_n dX12_field_17 rfl rfl ?_
      have q14 : -2147483648 ≤ p1 ∧ p1 ≤ 2147483647 := r_p1
      refine GO.callV (ci := 11) (N := mX12_isLand) dX12_field_18 (RX12, TX12, 151) rfl gV_RX12_425 h_x (t_X12_isLand h_x r_p1 (by omega) (by omega)) rfl [] rfl rfl (Nat.le_of_ble_eq_true rfl) rfl (k_ip fun X15 r16 h17 => ?_)
      refine GO.if_eq (tgt := 33) dX12_field_21 (by decide) r16 (fun c18 => ?_) (fun c18 => ?_)
      ·
        refine GO.iconst dX12_field_33 ?_
        exact GO.reti rfl rfl dX12_field_34 ⟨rfl, _, rfl, (ir_c rfl), ⟨(by first | exact trivial | omega), (by first | exact w_0 | exact PX0.mk w_0 (by omega) (rfl : ar 13 V x = ar 13 V x) (rfl : ar 14 V x = ar 14 V x))⟩⟩
      ·
        refine GO.aload_n dX12_field_24 rfl rfl ?_
        refine GO.getI h_x fl_RX12_375 rfl rfl dX12_field_25 (fun l19 u20 => ?_)
        refine GO.bipush dX12_field_28 rfl ?_
        refine GO.icmp_ne (tgt := 35) dX12_field_30 (by decide) vi_ir (ir_c rfl) (fun c21 => ?_) (fun c21 => ?_)
        ·
          refine GO.aload_n dX12_field_35 rfl rfl ?_
          refine GO.iconst dX12_field_36 ?_
          refine GO.aload_n dX12_field_37 rfl rfl ?_
          refine GO.getA (n := 60) h_x fl_RX12_38 rfl rfl rfl rfl dX12_field_38 (fun hv23 h22 => ?_)
          refine GO.iload_n dX12_field_41 rfl rfl ?_
          have q24 : -2147483648 ≤ p0 ∧ p0 ≤ 2147483647 := r_p0
          refine GO.iald (t := 16) rfl rfl h22 r_p0 (by omega) (by omega) dX12_field_42 (fun l25 u26 => ?_)
          refine GO.iload_n dX12_field_43 rfl rfl ?_
          refine GO.iconst dX12_field_44 ?_
          refine GO.iload_n dX12_field_45 rfl rfl ?_
          refine GO.callV (ci := 11) (N := mX12_place) dX12_field_46 (RX12, TX12, 151) rfl gV_RX12_421 h_x (t_X12_place h_x (ir_c rfl) vi_ir r_p1 (ir_c rfl) r_p0 (by omega) (by omega) (by omega) (by omega) (by omega) (by omega) (by omega) (by omega) (by omega) ((by first | exact w_0 | exact PX0.mk w_0 (by omega) (rfl : ar 13 V x = ar 13 V x) (rfl : ar 14 V x = ar 14 V x))) ⟨by omega, by omega⟩) rfl [] rfl rfl (Nat.le_of_ble_eq_true rfl) rfl (k_is fun X27 V31 r28 h29 hF30 => ?_)
          refine GO.useWT (fun hW32 => ?_)
          have ak33 := hW32.arr h_x 13 15 (by decide) rfl (by decide)
          have ak34 := hW32.arr h_x 14 16 (by decide) rfl (by decide)
          have raw_place := h29.2
          exact GO.reti rfl rfl dX12_field_49 ⟨rfl, _, rfl, r28, ⟨(by first | exact trivial | omega), (by first | exact raw_place | exact w_0 | exact PX0.mk w_0 (by omega) (rfl : ar 13 V31 x = ar 13 V31 x) (rfl : ar 14 V31 x = ar 14 V31 x))⟩⟩
        ·
          refine GO.iconst dX12_field_33 ?_
          exact GO.reti rfl rfl dX12_field_34 ⟨rfl, _, rfl, (ir_c rfl), ⟨(by first | exact trivial | omega), (by first | exact w_0 | exact PX0.mk w_0 (by omega) (rfl : ar 13 V x = ar 13 V x) (rfl : ar 14 V x = ar 14 V x))⟩⟩

set_option maxHeartbeats 1000000 in
theorem t_X12_reserve {K : Kmap} {V : Vmap} {x : Nat} {p0 : Int} {p1 : Int} {p2 : Int} (h_x : K x = some (0, 11)) (r_p0 : ir p0) (r_p1 : ir p1) (r_p2 : ir p2) (w_0 : PX0 V x) : MC mX12_reserve K V [.ref x, ti p0, ti p1, ti p2] (IS K (fun X V1 => (X ≥ (-2147483648) ∧ X ≤ 2147483647) ∧ (PX0 V1 x))) := by
  refine MC.start 0 (by decide +kernel) rfl rfl rfl (ls0 := [some (.ref x), some (ti p0), some (ti p1), some (ti p2)]) rfl ?_
  refine GO.useWT (fun hW1 => ?_)
  have ak2 := hW1.arr h_x 13 15 (by decide) rfl (by decide)
  have ak3 := hW1.arr h_x 14 16 (by decide) rfl (by decide)
  refine GO.aload_n dX12_reserve_0 rfl rfl ?_
  refine GO.iload_n dX12_reserve_1 rfl rfl ?_
  refine GO.iload_n dX12_reserve_2 rfl rfl ?_
  refine GO.callV (ci := 11) (N := mX12_isRectangle) dX12_reserve_3 (RX12, TX12, 151) rfl gV_RX12_415 h_x (t_X12_isRectangle h_x r_p0 r_p1) rfl [] rfl rfl (Nat.le_of_ble_eq_true rfl) rfl (k_ip fun X4 r5 h6 => ?_)
  refine GO.if_eq (tgt := 28) dX12_reserve_6 (by decide) r5 (fun c7 => ?_) (fun c7 => ?_)
  ·
    refine GO.iconst dX12_reserve_28 ?_
    exact GO.reti rfl rfl dX12_reserve_29 ⟨rfl, _, rfl, (ir_c rfl), ⟨(by first | exact trivial | omega), (by first | exact w_0 | exact PX0.mk w_0 (by omega) (rfl : ar 13 V x = ar 13 V x) (rfl : ar 14 V x = ar 14 V x))⟩⟩
  ·
    have q8 := h6.2.1 (by omega)
    refine GO.iload_n dX12_reserve_9 rfl rfl ?_
    refine GO.iconst dX12_reserve_10 ?_
    refine GO.bipush dX12_reserve_11 rfl ?_
    refine GO.callS (N := mX12_in) dX12_reserve_13 gS_RX12_371 (t_X12_in r_p2 (ir_c rfl) (ir_c rfl)) rfl [] rfl rfl (Nat.le_of_ble_eq_true rfl) rfl (k_ip fun X9 r10 h11 => ?_)
    refine GO.if_eq (tgt := 28) dX12_reserve_16 (by decide) r10 (fun c12 => ?_) (fun c12 => ?_)
    ·
      have q13 := h11.2.2 (by omega)
      refine GO.iconst dX12_reserve_28 ?_
      exact GO.reti rfl rfl dX12_reserve_29 ⟨rfl, _, rfl, (ir_c rfl), ⟨(by first | exact trivial | omega), (by first | exact w_0 | exact PX0.mk w_0 (by omega) (rfl : ar 13 V x = ar 13 V x) (rfl : ar 14 V x = ar 14 V x))⟩⟩
    ·
      have q14 := h11.2.1 (by omega)
      refine GO.aload_n dX12_reserve_19 rfl rfl ?_
      refine GO.getI h_x fl_RX12_375 rfl rfl dX12_reserve_20 (fun l15 u16 => ?_)
      refine GO.bipush dX12_reserve_23 rfl ?_
      refine GO.icmp_ne (tgt := 30) dX12_reserve_25 (by decide) vi_ir (ir_c rfl) (fun c17 => ?_) (fun c17 => ?_)
      ·
        refine GO.aload_n dX12_reserve_30 rfl rfl ?_
        refine GO.iconst dX12_reserve_31 ?_
        refine GO.iconst dX12_reserve_32 ?_
        refine GO.iload_n dX12_reserve_33 rfl rfl ?_
        refine GO.iload_n dX12_reserve_34 rfl rfl ?_
        refine GO.iload_n dX12_reserve_35 rfl rfl ?_
        have q18 : -2147483648 ≤ p0 ∧ p0 ≤ 2147483647 := r_p0
        have q19 : -2147483648 ≤ p1 ∧ p1 ≤ 2147483647 := r_p1
        refine GO.callV (ci := 11) (N := mX12_place) dX12_reserve_36 (RX12, TX12, 151) rfl gV_RX12_421 h_x (t_X12_place h_x (ir_c rfl) (ir_c rfl) r_p0 r_p1 r_p2 (by omega) (by omega) (by omega) (by omega) (by omega) (by omega) (by omega) (by omega) (by omega) ((by first | exact w_0 | exact PX0.mk w_0 (by omega) (rfl : ar 13 V x = ar 13 V x) (rfl : ar 14 V x = ar 14 V x))) ⟨by omega, by omega⟩) rfl [] rfl rfl (Nat.le_of_ble_eq_true rfl) rfl (k_is fun X20 V24 r21 h22 hF23 => ?_)
        refine GO.useWT (fun hW25 => ?_)
        have ak26 := hW25.arr h_x 13 15 (by decide) rfl (by decide)
        have ak27 := hW25.arr h_x 14 16 (by decide) rfl (by decide)
        have raw_place := h22.2
        exact GO.reti rfl rfl dX12_reserve_39 ⟨rfl, _, rfl, r21, ⟨(by first | exact trivial | omega), (by first | exact raw_place | exact w_0 | exact PX0.mk w_0 (by omega) (rfl : ar 13 V24 x = ar 13 V24 x) (rfl : ar 14 V24 x = ar 14 V24 x))⟩⟩
      ·
        refine GO.iconst dX12_reserve_28 ?_
        exact GO.reti rfl rfl dX12_reserve_29 ⟨rfl, _, rfl, (ir_c rfl), ⟨(by first | exact trivial | omega), (by first | exact w_0 | exact PX0.mk w_0 (by omega) (rfl : ar 13 V x = ar 13 V x) (rfl : ar 14 V x = ar 14 V x))⟩⟩

set_option maxHeartbeats 1000000 in
theorem t_X12_site {K : Kmap} {V : Vmap} {x : Nat} {p0 : Int} {p1 : Int} (h_x : K x = some (0, 11)) (r_p0 : ir p0) (r_p1 : ir p1) (z_p1 : p1 = 0 ∨ p1 = 1) (w_0 : PX0 V x) : MC mX12_site K V [.ref x, ti p0, ti p1] (IS K (fun X V1 => (X ≥ (-2147483648) ∧ X ≤ 2147483647) ∧ (PX0 V1 x))) := by
  refine MC.start 0 (by decide +kernel) rfl rfl rfl (ls0 := [some (.ref x), some (ti p0), some (ti p1)]) rfl ?_
  refine GO.useWT (fun hW1 => ?_)
  have ak2 := hW1.arr h_x 13 15 (by decide) rfl (by decide)
  have ak3 := hW1.arr h_x 14 16 (by decide) rfl (by decide)
  refine GO.aload_n dX12_site_0 rfl rfl ?_
  refine GO.iload_n dX12_site_1 rfl rfl ?_
  refine GO.callV (ci := 11) (N := mX12_isCell) dX12_site_2 (RX12, TX12, 151) rfl gV_RX12_381 h_x (t_X12_isCell h_x r_p0) rfl [] rfl rfl (Nat.le_of_ble_eq_true rfl) rfl (k_ip fun X4 r5 h6 => ?_)
  refine GO.if_eq (tgt := 17) dX12_site_5 (by decide) r5 (fun c7 => ?_) (fun c7 => ?_)
  ·
    refine GO.iconst dX12_site_17 ?_
    exact GO.reti rfl rfl dX12_site_18 ⟨rfl, _, rfl, (ir_c rfl), ⟨(by first | exact trivial | omega), (by first | exact w_0 | exact PX0.mk w_0 (by omega) (rfl : ar 13 V x = ar 13 V x) (rfl : ar 14 V x = ar 14 V x))⟩⟩
  ·
    have q8 := h6.2.1 (by omega)
    refine GO.aload_n dX12_site_8 rfl rfl ?_
    refine GO.getI h_x fl_RX12_375 rfl rfl dX12_site_9 (fun l9 u10 => ?_)
    refine GO.bipush dX12_site_12 rfl ?_
    refine GO.icmp_ne (tgt := 19) dX12_site_14 (by decide) vi_ir (ir_c rfl) (fun c11 => ?_) (fun c11 => ?_)
    ·
      refine GO.aload_n dX12_site_19 rfl rfl ?_
      refine GO.iload_n dX12_site_20 rfl rfl ?_
      refine GO.if_eq (tgt := 28) dX12_site_21 (by decide) r_p1 (fun c12 => ?_) (fun c12 => ?_)
      ·
        refine GO.iconst dX12_site_28 ?_
        refine GO.iconst dX12_site_29 ?_
        refine GO.iload_n dX12_site_30 rfl rfl ?_
        refine GO.iconst dX12_site_31 ?_
        refine GO.iconst dX12_site_32 ?_
        have q13 : -2147483648 ≤ p0 ∧ p0 ≤ 2147483647 := r_p0
        refine GO.callV (ci := 11) (N := mX12_place) dX12_site_33 (RX12, TX12, 151) rfl gV_RX12_421 h_x (t_X12_place h_x (ir_c rfl) (ir_c rfl) r_p0 (ir_c rfl) (ir_c rfl) (by omega) (by omega) (by omega) (by omega) (by omega) (by omega) (by omega) (by omega) (by omega) ((by first | exact w_0 | exact PX0.mk w_0 (by omega) (rfl : ar 13 V x = ar 13 V x) (rfl : ar 14 V x = ar 14 V x))) ⟨by omega, by omega⟩) rfl [] rfl rfl (Nat.le_of_ble_eq_true rfl) rfl (k_is fun X14 V18 r15 h16 hF17 => ?_)
        refine GO.useWT (fun hW19 => ?_)
        have ak20 := hW19.arr h_x 13 15 (by decide) rfl (by decide)
        have ak21 := hW19.arr h_x 14 16 (by decide) rfl (by decide)
        have raw_place := h16.2
        exact GO.reti rfl rfl dX12_site_36 ⟨rfl, _, rfl, r15, ⟨(by first | exact trivial | omega), (by first | exact raw_place | exact w_0 | exact PX0.mk w_0 (by omega) (rfl : ar 13 V18 x = ar 13 V18 x) (rfl : ar 14 V18 x = ar 14 V18 x))⟩⟩
      ·
        refine GO.iconst dX12_site_24 ?_
        refine GO.goto (tgt := 29) dX12_site_25 (by decide) ?_
        refine GO.iconst dX12_site_29 ?_
        refine GO.iload_n dX12_site_30 rfl rfl ?_
        refine GO.iconst dX12_site_31 ?_
        refine GO.iconst dX12_site_32 ?_
        have q23 : -2147483648 ≤ p0 ∧ p0 ≤ 2147483647 := r_p0
        refine GO.callV (ci := 11) (N := mX12_place) dX12_site_33 (RX12, TX12, 151) rfl gV_RX12_421 h_x (t_X12_place h_x (ir_c rfl) (ir_c rfl) r_p0 (ir_c rfl) (ir_c rfl) (by omega) (by omega) (by omega) (by omega) (by omega) (by omega) (by omega) (by omega) (by omega) ((by first | exact w_0 | exact PX0.mk w_0 (by omega) (rfl : ar 13 V x = ar 13 V x) (rfl : ar 14 V x = ar 14 V x))) ⟨by omega, by omega⟩) rfl [] rfl rfl (Nat.le_of_ble_eq_true rfl) rfl (k_is fun X24 V28 r25 h26 hF27 => ?_)
        refine GO.useWT (fun hW29 => ?_)
        have ak30 := hW29.arr h_x 13 15 (by decide) rfl (by decide)
        have ak31 := hW29.arr h_x 14 16 (by decide) rfl (by decide)
        have raw_place := h26.2
        exact GO.reti rfl rfl dX12_site_36 ⟨rfl, _, rfl, r25, ⟨(by first | exact trivial | omega), (by first | exact raw_place | exact w_0 | exact PX0.mk w_0 (by omega) (rfl : ar 13 V28 x = ar 13 V28 x) (rfl : ar 14 V28 x = ar 14 V28 x))⟩⟩
    ·
      refine GO.iconst dX12_site_17 ?_
      exact GO.reti rfl rfl dX12_site_18 ⟨rfl, _, rfl, (ir_c rfl), ⟨(by first | exact trivial | omega), (by first | exact w_0 | exact PX0.mk w_0 (by omega) (rfl : ar 13 V x = ar 13 V x) (rfl : ar 14 V x = ar 14 V x))⟩⟩

set_option maxHeartbeats 1000000 in
theorem t_X12_types {K : Kmap} {V : Vmap} {x : Nat} {p0 : Int} (h_x : K x = some (0, 11)) (r_p0 : ir p0) (v_30 : 0 ≤ vi V x 30 ∧ vi V x 30 ≤ 396) : MC mX12_types K V [.ref x, ti p0] (VS K (fun V1 => (vi V1 x 30 = (vi V x 30 + 4)))) := by
  refine MC.start 1 (by decide +kernel) rfl rfl rfl (ls0 := [some (.ref x), some (ti p0), none]) rfl ?_
  refine GO.iconst dX12_types_0 ?_
  refine GO.istore_n (ls1 := [some (.ref x), some (ti p0), some (ti 3)]) dX12_types_1 rfl rfl rfl ?_
  refine GO.loop1 (fun i1 W => (-1) ≤ i1 ∧ i1 ≤ 3 ∧ ((vi W x 30 + i1) = (vi V x 30 + 3)) ∧ True) (fun i1 => [some (.ref x), some (ti p0), some (ti i1)]) (fun i1 W => (i1 + 2147483648).toNat) 3 ⟨by omega, by omega, by omega, trivial⟩ rfl (fun i1 Wi1 hp69 ih68 => ?_)
  obtain ⟨l_i1, u_i1, n_i1, -⟩ := hp69
  have r_i1 : ir i1 := ⟨by omega, by omega⟩
  show GO mX12_types K V (VS K (fun V1 => (vi V1 x 30 = (vi V x 30 + 4)))) K Wi1 0 0 2 [some (.ref x), some (ti p0), some (ti i1)] []
  refine GO.iload_n dX12_types_2 rfl rfl ?_
  refine GO.if_lt (tgt := 38) dX12_types_3 (by decide) r_i1 (fun c70 => ?_) (fun c70 => ?_)
  ·
    have q71 : -2147483648 ≤ vi Wi1 x 30 ∧ vi Wi1 x 30 ≤ 2147483647 := vi_ir
    exact GO.retv rfl rfl dX12_types_38 ⟨rfl, rfl, by omega⟩
  ·
    refine GO.aload_n dX12_types_6 rfl rfl ?_
    refine GO.getA (n := 400) h_x fl_RX12_84 rfl rfl rfl rfl dX12_types_7 (fun hv73 h72 => ?_)
    refine GO.aload_n dX12_types_10 rfl rfl ?_
    refine GO.getI h_x fl_RX12_436 rfl rfl dX12_types_11 (fun l74 u75 => ?_)
    refine GO.iload_n dX12_types_14 rfl rfl ?_
    refine GO.bipush dX12_types_15 rfl ?_
    refine GO.iload_n dX12_types_17 rfl rfl ?_
    refine GO.imul dX12_types_18 ?_
    refine GO.ishr dX12_types_19 ?_
    refine GO.i2b dX12_types_20 ?_
    have q76 : -2147483648 ≤ vi Wi1 x 30 ∧ vi Wi1 x 30 ≤ 2147483647 := vi_ir
    refine GO.bast (t := 31) rfl rfl (by decide +kernel) h72 vi_ir (by omega) (by omega) dX12_types_21 (fun V78 e77 => ?_)
    refine GO.aload_n dX12_types_22 rfl rfl ?_
    refine GO.aload_n dX12_types_23 rfl rfl ?_
    refine GO.getI h_x fl_RX12_436 rfl rfl dX12_types_24 (fun l79 u80 => ?_)
    have e81 : vi V78 x 30 = vi Wi1 x 30 := vi_up e77 (Or.inl (K_ne h_x h72 (by decide)))
    refine GO.iconst dX12_types_27 ?_
    refine GO.iadd dX12_types_28 ?_
    refine GO.putI h_x fp_RX12_436 rfl (by decide +kernel) ⟨by omega, by omega⟩ (by omega) (by omega) dX12_types_29 (fun V83 e82 => ?_)
    refine GO.iinc (X := i1) (n := (-1)) (Y := i1 + (-1)) (ls1 := [some (.ref x), some (ti p0), some (ti (i1 + (-1)))]) dX12_types_32 rfl rfl rfl rfl ?_
    refine GO.goto (tgt := 2) dX12_types_35 (by decide) ?_
    have e84 : vi V83 x 30 = (vi V78 x 30) + 1 := upd2_int e82 ⟨by omega, by omega⟩
    exact ih68 (i1 + (-1)) V83 ⟨by omega, by omega, by omega, trivial⟩ (by show ((i1 + (-1)) + 2147483648).toNat < (i1 + 2147483648).toNat; omega)

set_option maxHeartbeats 1000000 in
theorem t_X12_feed {K : Kmap} {V : Vmap} {x : Nat} {p0 : Int} {p1 : Int} {p2 : Int} {p3 : Int} {p4 : Int} (h_x : K x = some (0, 11)) (r_p0 : ir p0) (r_p1 : ir p1) (r_p2 : ir p2) (r_p3 : ir p3) (r_p4 : ir p4) : MC mX12_feed K V [.ref x, ti p0, ti p1, ti p2, ti p3, ti p4] (IS K (fun X V1 => True)) := by
  refine MC.start 0 (by decide +kernel) rfl rfl rfl (ls0 := [some (.ref x), some (ti p0), some (ti p1), some (ti p2), some (ti p3), some (ti p4)]) rfl ?_
  refine GO.aload_n dX12_feed_0 rfl rfl ?_
  refine GO.getI h_x fl_RX12_436 rfl rfl dX12_feed_1 (fun l1 u2 => ?_)
  refine GO.bipush dX12_feed_4 rfl ?_
  refine GO.iadd dX12_feed_6 ?_
  refine GO.sipush dX12_feed_7 rfl ?_
  refine GO.icmp_le (tgt := 15) dX12_feed_10 (by decide) ⟨by omega, by omega⟩ (ir_c rfl) (fun c3 => ?_) (fun c3 => ?_)
  ·
    refine GO.aload_n dX12_feed_15 rfl rfl ?_
    refine GO.iload_n dX12_feed_16 rfl rfl ?_
    refine GO.callV (ci := 11) (N := mX12_types) dX12_feed_17 (RX12, TX12, 151) rfl gV_RX12_439 h_x (t_X12_types h_x r_p0 ⟨by omega, by omega⟩) rfl [] rfl rfl (Nat.le_of_ble_eq_true rfl) rfl (k_vs fun V6 h5 hF4 => ?_)
    refine GO.aload_n dX12_feed_20 rfl rfl ?_
    refine GO.iload_n dX12_feed_21 rfl rfl ?_
    refine GO.callV (ci := 11) (N := mX12_types) dX12_feed_22 (RX12, TX12, 151) rfl gV_RX12_439 h_x (t_X12_types h_x r_p1 ⟨by omega, by omega⟩) rfl [] rfl rfl (Nat.le_of_ble_eq_true rfl) rfl (k_vs fun V10 h9 hF8 => ?_)
    refine GO.aload_n dX12_feed_25 rfl rfl ?_
    refine GO.iload_n dX12_feed_26 rfl rfl ?_
    refine GO.callV (ci := 11) (N := mX12_types) dX12_feed_27 (RX12, TX12, 151) rfl gV_RX12_439 h_x (t_X12_types h_x r_p2 ⟨by omega, by omega⟩) rfl [] rfl rfl (Nat.le_of_ble_eq_true rfl) rfl (k_vs fun V14 h13 hF12 => ?_)
    refine GO.aload_n dX12_feed_30 rfl rfl ?_
    refine GO.iload dX12_feed_31 rfl ?_
    refine GO.callV (ci := 11) (N := mX12_types) dX12_feed_33 (RX12, TX12, 151) rfl gV_RX12_439 h_x (t_X12_types h_x r_p3 ⟨by omega, by omega⟩) rfl [] rfl rfl (Nat.le_of_ble_eq_true rfl) rfl (k_vs fun V18 h17 hF16 => ?_)
    refine GO.aload_n dX12_feed_36 rfl rfl ?_
    refine GO.iload dX12_feed_37 rfl ?_
    refine GO.callV (ci := 11) (N := mX12_types) dX12_feed_39 (RX12, TX12, 151) rfl gV_RX12_439 h_x (t_X12_types h_x r_p4 ⟨by omega, by omega⟩) rfl [] rfl rfl (Nat.le_of_ble_eq_true rfl) rfl (k_vs fun V22 h21 hF20 => ?_)
    refine GO.aload_n dX12_feed_42 rfl rfl ?_
    refine GO.getI h_x fl_RX12_436 rfl rfl dX12_feed_43 (fun l24 u25 => ?_)
    have q26 : -2147483648 ≤ vi V22 x 30 ∧ vi V22 x 30 ≤ 2147483647 := vi_ir
    have q27 : -2147483648 ≤ vi V18 x 30 ∧ vi V18 x 30 ≤ 2147483647 := vi_ir
    have q28 : -2147483648 ≤ vi V14 x 30 ∧ vi V14 x 30 ≤ 2147483647 := vi_ir
    have q29 : -2147483648 ≤ vi V10 x 30 ∧ vi V10 x 30 ≤ 2147483647 := vi_ir
    have q30 : -2147483648 ≤ vi V6 x 30 ∧ vi V6 x 30 ≤ 2147483647 := vi_ir
    exact GO.reti rfl rfl dX12_feed_46 ⟨rfl, _, rfl, vi_ir, trivial⟩
  ·
    refine GO.iconst dX12_feed_13 ?_
    exact GO.reti rfl rfl dX12_feed_14 ⟨rfl, _, rfl, (ir_c rfl), trivial⟩

set_option maxHeartbeats 1000000 in
theorem t_X12_sign {K : Kmap} {V : Vmap} {x : Nat} (h_x : K x = some (0, 11)) : MC mX12_sign K V [.ref x] (IP K V (fun X => X ≥ (-1) ∧ X ≤ 255 ∧ X = sgn V x ∧ (X ≠ (-1) → vi V x 31 < vi V x 32))) := by
  refine MC.start 0 (by decide +kernel) rfl rfl rfl (ls0 := [some (.ref x)]) rfl ?_
  refine GO.aload_n dX12_sign_0 rfl rfl ?_
  refine GO.getI h_x fl_RX12_443 rfl rfl dX12_sign_1 (fun l1 u2 => ?_)
  refine GO.aload_n dX12_sign_4 rfl rfl ?_
  refine GO.getI h_x fl_RX12_446 rfl rfl dX12_sign_5 (fun l3 u4 => ?_)
  refine GO.icmp_ge (tgt := 27) dX12_sign_8 (by decide) vi_ir vi_ir (fun c5 => ?_) (fun c5 => ?_)
  ·
    have hs := sgn_no (V := V) (x := x) (by omega)
    refine GO.iconst dX12_sign_27 ?_
    exact GO.reti rfl rfl dX12_sign_28 ⟨rfl, rfl, _, rfl, (ir_c rfl), by omega⟩
  ·
    refine GO.aload_n dX12_sign_11 rfl rfl ?_
    refine GO.getA (n := 400) h_x fl_RX12_84 rfl rfl rfl rfl dX12_sign_12 (fun hv7 h6 => ?_)
    refine GO.aload_n dX12_sign_15 rfl rfl ?_
    refine GO.getI h_x fl_RX12_443 rfl rfl dX12_sign_16 (fun l8 u9 => ?_)
    refine GO.bald (t := 31) rfl rfl h6 vi_ir (by omega) (by omega) dX12_sign_19 (fun l10 u11 => ?_)
    refine GO.sipush dX12_sign_20 rfl ?_
    refine GO.iand dX12_sign_23 ?_
    have h12 := wand_rng (X := vi V (vq V x 29) (vi V x 31).toNat)
    have hs := sgn_yes (V := V) (x := x) rfl (by omega)
    refine GO.goto (tgt := 28) dX12_sign_24 (by decide) ?_
    exact GO.reti rfl rfl dX12_sign_28 ⟨rfl, rfl, _, rfl, wand_ir, by omega⟩

set_option maxHeartbeats 1000000 in
theorem t_X12_isDigit {K : Kmap} {V : Vmap} {x : Nat} (h_x : K x = some (0, 11)) : MC mX12_isDigit K V [.ref x] (IP K V (fun X => (X = 0 ∨ X = 1) ∧ (X ≠ 0 → sgn V x ≥ 48 ∧ sgn V x ≤ 57 ∧ vi V x 31 < vi V x 32) ∧ (X = 0 → True) ∧ (X = 0 → sgn V x < 48 ∨ 57 < sgn V x))) := by
  refine MC.start 0 (by decide +kernel) rfl rfl rfl (ls0 := [some (.ref x)]) rfl ?_
  refine GO.aload_n dX12_isDigit_0 rfl rfl ?_
  refine GO.callV (ci := 11) (N := mX12_sign) dX12_isDigit_1 (RX12, TX12, 151) rfl gV_RX12_449 h_x (t_X12_sign h_x) rfl [] rfl rfl (Nat.le_of_ble_eq_true rfl) rfl (k_ip fun X1 r2 h3 => ?_)
  refine GO.bipush dX12_isDigit_4 rfl ?_
  refine GO.icmp_lt (tgt := 22) dX12_isDigit_6 (by decide) r2 (ir_c rfl) (fun c4 => ?_) (fun c4 => ?_)
  ·
    refine GO.iconst dX12_isDigit_22 ?_
    have q5 : -2147483648 ≤ vi V x 31 ∧ vi V x 31 ≤ 2147483647 := vi_ir
    have q6 : -2147483648 ≤ vi V x 32 ∧ vi V x 32 ≤ 2147483647 := vi_ir
    exact GO.retz rfl rfl dX12_isDigit_23 (Or.inl rfl) ⟨rfl, rfl, _, rfl, (ir_c rfl), ⟨Or.inl rfl, fun h => absurd rfl h, fun _ => trivial, by omega⟩⟩
  ·
    refine GO.aload_n dX12_isDigit_9 rfl rfl ?_
    refine GO.callV (ci := 11) (N := mX12_sign) dX12_isDigit_10 (RX12, TX12, 151) rfl gV_RX12_449 h_x (t_X12_sign h_x) rfl [] rfl rfl (Nat.le_of_ble_eq_true rfl) rfl (k_ip fun X7 r8 h9 => ?_)
    refine GO.bipush dX12_isDigit_13 rfl ?_
    refine GO.icmp_gt (tgt := 22) dX12_isDigit_15 (by decide) r8 (ir_c rfl) (fun c10 => ?_) (fun c10 => ?_)
    ·
      refine GO.iconst dX12_isDigit_22 ?_
      have q11 : -2147483648 ≤ vi V x 31 ∧ vi V x 31 ≤ 2147483647 := vi_ir
      have q12 : -2147483648 ≤ vi V x 32 ∧ vi V x 32 ≤ 2147483647 := vi_ir
      exact GO.retz rfl rfl dX12_isDigit_23 (Or.inl rfl) ⟨rfl, rfl, _, rfl, (ir_c rfl), ⟨Or.inl rfl, fun h => absurd rfl h, fun _ => trivial, by omega⟩⟩
    ·
      refine GO.iconst dX12_isDigit_18 ?_
      refine GO.goto (tgt := 23) dX12_isDigit_19 (by decide) ?_
      have q13 : -2147483648 ≤ vi V x 31 ∧ vi V x 31 ≤ 2147483647 := vi_ir
      have q14 : -2147483648 ≤ vi V x 32 ∧ vi V x 32 ≤ 2147483647 := vi_ir
      exact GO.retz rfl rfl dX12_isDigit_23 (Or.inr rfl) ⟨rfl, rfl, _, rfl, (ir_c rfl), ⟨Or.inr rfl, fun h => by omega, fun _ => trivial, by omega⟩⟩
