def mX12_clauseHolds : MRec := (RX12, cX12_clauseHolds, 6, (some .int), yX12_clauseHolds, 6, 142, 0, 0, 8958978968711216842229769122273777112486581988938598139599956403855167484720643781523509973086428463104)
def mX12_barOf : MRec := (RX12, cX12_barOf, 6, (some .int), yX12_barOf, 7, 167, 0, 0, 8958978968711216842229769122273777112486581988938598139599956403855167484720643781523509973086428463104)
def mX12_mayOn : MRec := (RX12, cX12_mayOn, 8, (some .int), yX12_mayOn, 8, 192, 0, 0, 8959389078222113656965588966441361666492588922082979134912337319768054033233198708915101947392790888448)
def mX12_may : MRec := (RX12, cX12_may, 4, (some .int), yX12_may, 9, 219, 0, 0, 8959389078222113656965588966441361666492588922082979134912337319768054033233198708915101947392790888448)
def mX12_why : MRec := (RX12, cX12_why, 5, (some .int), yX12_why, 9, 219, 0, 0, 8959389078222113656965588966441361666492588922082979134912337319768054033233198708915101947392790888448)
def mX12_whose : MRec := (RX12, cX12_whose, 5, (some .int), yX12_whose, 3, 78, 0, 0, 410109510896814735819844167584554006003719268292477331829831988701866187349882985604408720691822592)
def mX12_isShip : MRec := (RX12, cX12_isShip, 2, (some .boolean), yX12_isShip, 0, 0, 0, 0, 0)
def mX12_isSea : MRec := (RX12, cX12_isSea, 1, (some .boolean), yX12_isSea, 0, 0, 0, 0, 0)
def mX12_ship : MRec := (RX12, cX12_ship, 4, (some .int), yX12_ship, 1, 22, 0, 0, 1272175013556992791596627215362876349973096287933838257029235964316616340180836399712204049758136190369792)
set_option maxHeartbeats 1000000 in
theorem t_X12_clauseHolds {K : Kmap} {V : Vmap} {x : Nat} {p0 : Int} {p1 : Int} {p2 : Int} {p3 : Int} (h_x : K x = some (0, 11)) (r_p0 : ir p0) (r_p1 : ir p1) (r_p2 : ir p2) (r_p3 : ir p3) (z_p3 : p3 = 0 ∨ p3 = 1) (q_0 : p0 ≥ 0) (q_1 : p0 ≤ 239) (q_2 : p1 ≥ 0) (q_3 : p1 ≤ 99) (w_0 : GX V x) (w_1 : HX V x p0) : MC mX12_clauseHolds K V [.ref x, ti p0, ti p1, ti p2, ti p3] (IS K (fun X V1 => True)) := by
  refine MC.start 1 (by decide +kernel) rfl rfl rfl (ls0 := [some (.ref x), some (ti p0), some (ti p1), some (ti p2), some (ti p3), none]) rfl ?_
  refine GO.useWT (fun hW_0 => ?_)
  refine GO.aload_n dX12_clauseHolds_0 rfl rfl ?_
  refine GO.getI h_x fl_RX12_547 rfl rfl dX12_clauseHolds_1 (fun l1 u2 => ?_)
  refine GO.iconst dX12_clauseHolds_4 ?_
  refine GO.isub dX12_clauseHolds_5 ?_
  refine GO.name (fun z3 hz4 => ?_)
  refine GO.istore (ls1 := [some (.ref x), some (ti p0), some (ti p1), some (ti p2), some (ti p3), some (ti z3)]) dX12_clauseHolds_6 rfl rfl ?_
  refine GO.loop1 (fun i5 W => (-1) ≤ i5 ∧ i5 ≤ 19 ∧ (i5 < vi W x 48) ∧ V = W) (fun i5 => [some (.ref x), some (ti p0), some (ti p1), some (ti p2), some (ti p3), some (ti i5)]) (fun i5 W => (i5 + 2147483648).toNat) z3 ⟨by omega, by omega, by omega, rfl⟩ rfl (fun i5 V67 hp69 ih68 => ?_)
  obtain ⟨l_i5, u_i5, n_i5, rfl⟩ := hp69
  have r_i5 : ir i5 := ⟨by omega, by omega⟩
  show GO mX12_clauseHolds K V (IS K (fun X V1 => True)) K V 0 0 8 [some (.ref x), some (ti p0), some (ti p1), some (ti p2), some (ti p3), some (ti i5)] []
  refine GO.iload dX12_clauseHolds_8 rfl ?_
  refine GO.if_lt (tgt := 85) dX12_clauseHolds_10 (by decide) r_i5 (fun c70 => ?_) (fun c70 => ?_)
  ·
    refine GO.aload_n dX12_clauseHolds_85 rfl rfl ?_
    refine GO.aload_n dX12_clauseHolds_86 rfl rfl ?_
    refine GO.getA (n := 4400) h_x fl_RX12_112 rfl rfl rfl rfl dX12_clauseHolds_87 (fun hv72 h71 => ?_)
    refine GO.sipush dX12_clauseHolds_90 rfl ?_
    refine GO.iload_n dX12_clauseHolds_93 rfl rfl ?_
    refine GO.bipush dX12_clauseHolds_94 rfl ?_
    have q73 : -2147483648 ≤ p0 ∧ p0 ≤ 2147483647 := r_p0
    refine GO.idivP dX12_clauseHolds_96 r_p0 (ir_c rfl) (by omega) (by omega) ?_
    refine GO.imul dX12_clauseHolds_97 ?_
    refine GO.aload_n dX12_clauseHolds_98 rfl rfl ?_
    refine GO.getA (n := 240) h_x fl_RX12_127 rfl rfl rfl rfl dX12_clauseHolds_99 (fun hv75 h74 => ?_)
    refine GO.iload_n dX12_clauseHolds_102 rfl rfl ?_
    refine GO.iald (t := 45) rfl rfl h74 r_p0 (by omega) (by omega) dX12_clauseHolds_103 (fun l76 u77 => ?_)
    refine GO.aload_n dX12_clauseHolds_104 rfl rfl ?_
    refine GO.getA (n := 240) h_x fl_RX12_130 rfl rfl rfl rfl dX12_clauseHolds_105 (fun hv79 h78 => ?_)
    refine GO.iload_n dX12_clauseHolds_108 rfl rfl ?_
    refine GO.iald (t := 46) rfl rfl h78 r_p0 (by omega) (by omega) dX12_clauseHolds_109 (fun l80 u81 => ?_)
    refine GO.iload_n dX12_clauseHolds_110 rfl rfl ?_
    refine GO.iload_n dX12_clauseHolds_111 rfl rfl ?_
    have q82 : -2147483648 ≤ p1 ∧ p1 ≤ 2147483647 := r_p1
    refine GO.callV (ci := 11) (N := mX12_holds) dX12_clauseHolds_112 (RX12, TX12, 151) rfl gV_RX12_591 h_x (t_X12_holds h_x rfl h71 ⟨by omega, by omega⟩ vi_ir vi_ir r_p1 r_p2 (by omega) (by omega) ((by first | exact GX.own w_0.2 (by omega) (by omega) | exact w_1)) (by decide)) rfl [] rfl rfl (Nat.le_of_ble_eq_true rfl) rfl (k_is fun X83 V87 r84 h85 hF86 => ?_)
    have q88 : -2147483648 ≤ X83 ∧ X83 ≤ 2147483647 := r84
    exact GO.reti rfl rfl dX12_clauseHolds_115 ⟨rfl, _, rfl, r84, trivial⟩
  ·
    refine GO.iload dX12_clauseHolds_13 rfl ?_
    refine GO.if_eq (tgt := 85) dX12_clauseHolds_15 (by decide) r_p3 (fun c89 => ?_) (fun c89 => ?_)
    ·
      refine GO.aload_n dX12_clauseHolds_85 rfl rfl ?_
      refine GO.aload_n dX12_clauseHolds_86 rfl rfl ?_
      refine GO.getA (n := 4400) h_x fl_RX12_112 rfl rfl rfl rfl dX12_clauseHolds_87 (fun hv91 h90 => ?_)
      refine GO.sipush dX12_clauseHolds_90 rfl ?_
      refine GO.iload_n dX12_clauseHolds_93 rfl rfl ?_
      refine GO.bipush dX12_clauseHolds_94 rfl ?_
      have q92 : -2147483648 ≤ p0 ∧ p0 ≤ 2147483647 := r_p0
      refine GO.idivP dX12_clauseHolds_96 r_p0 (ir_c rfl) (by omega) (by omega) ?_
      refine GO.imul dX12_clauseHolds_97 ?_
      refine GO.aload_n dX12_clauseHolds_98 rfl rfl ?_
      refine GO.getA (n := 240) h_x fl_RX12_127 rfl rfl rfl rfl dX12_clauseHolds_99 (fun hv94 h93 => ?_)
      refine GO.iload_n dX12_clauseHolds_102 rfl rfl ?_
      refine GO.iald (t := 45) rfl rfl h93 r_p0 (by omega) (by omega) dX12_clauseHolds_103 (fun l95 u96 => ?_)
      refine GO.aload_n dX12_clauseHolds_104 rfl rfl ?_
      refine GO.getA (n := 240) h_x fl_RX12_130 rfl rfl rfl rfl dX12_clauseHolds_105 (fun hv98 h97 => ?_)
      refine GO.iload_n dX12_clauseHolds_108 rfl rfl ?_
      refine GO.iald (t := 46) rfl rfl h97 r_p0 (by omega) (by omega) dX12_clauseHolds_109 (fun l99 u100 => ?_)
      refine GO.iload_n dX12_clauseHolds_110 rfl rfl ?_
      refine GO.iload_n dX12_clauseHolds_111 rfl rfl ?_
      have q101 : -2147483648 ≤ p1 ∧ p1 ≤ 2147483647 := r_p1
      refine GO.callV (ci := 11) (N := mX12_holds) dX12_clauseHolds_112 (RX12, TX12, 151) rfl gV_RX12_591 h_x (t_X12_holds h_x rfl h90 ⟨by omega, by omega⟩ vi_ir vi_ir r_p1 r_p2 (by omega) (by omega) ((by first | exact GX.own w_0.2 (by omega) (by omega) | exact w_1)) (by decide)) rfl [] rfl rfl (Nat.le_of_ble_eq_true rfl) rfl (k_is fun X102 V106 r103 h104 hF105 => ?_)
      have q107 : -2147483648 ≤ X102 ∧ X102 ≤ 2147483647 := r103
      exact GO.reti rfl rfl dX12_clauseHolds_115 ⟨rfl, _, rfl, r103, trivial⟩
    ·
      refine GO.aload_n dX12_clauseHolds_18 rfl rfl ?_
      refine GO.getA (n := 20) h_x fl_RX12_151 rfl rfl rfl rfl dX12_clauseHolds_19 (fun hv109 h108 => ?_)
      refine GO.iload dX12_clauseHolds_22 rfl ?_
      refine GO.iald (t := 53) rfl rfl h108 r_i5 (by omega) (by omega) dX12_clauseHolds_24 (fun _ _ => ?_)
      refine GO.aload_n dX12_clauseHolds_25 rfl rfl ?_
      refine GO.getA (n := 100) h_x fl_RX12_166 rfl rfl rfl rfl dX12_clauseHolds_26 (fun hv111 h110 => ?_)
      refine GO.iload_n dX12_clauseHolds_29 rfl rfl ?_
      have q112 : -2147483648 ≤ p1 ∧ p1 ≤ 2147483647 := r_p1
      refine GO.iald (t := 58) rfl rfl h110 r_p1 (by omega) (by omega) dX12_clauseHolds_30 (fun l113 u114 => ?_)
      refine GO.icmp_ne (tgt := 79) dX12_clauseHolds_31 (by decide) vi_ir vi_ir (fun c115 => ?_) (fun c115 => ?_)
      ·
        refine GO.iinc (X := i5) (n := (-1)) (Y := i5 + (-1)) (ls1 := [some (.ref x), some (ti p0), some (ti p1), some (ti p2), some (ti p3), some (ti (i5 + (-1)))]) dX12_clauseHolds_79 rfl rfl rfl rfl ?_
        refine GO.goto (tgt := 8) dX12_clauseHolds_82 (by decide) ?_
        exact ih68 (i5 + (-1)) V ⟨by omega, by omega, by omega, rfl⟩ (by show ((i5 + (-1)) + 2147483648).toNat < (i5 + 2147483648).toNat; omega)
      ·
        refine GO.aload_n dX12_clauseHolds_34 rfl rfl ?_
        refine GO.getA (n := 20) h_x fl_RX12_154 rfl rfl rfl rfl dX12_clauseHolds_35 (fun hv117 h116 => ?_)
        refine GO.iload dX12_clauseHolds_38 rfl ?_
        refine GO.iald (t := 54) rfl rfl h116 r_i5 (by omega) (by omega) dX12_clauseHolds_40 (fun _ _ => ?_)
        refine GO.iload_n dX12_clauseHolds_41 rfl rfl ?_
        refine GO.icmp_ne (tgt := 79) dX12_clauseHolds_42 (by decide) vi_ir r_p0 (fun c118 => ?_) (fun c118 => ?_)
        ·
          refine GO.iinc (X := i5) (n := (-1)) (Y := i5 + (-1)) (ls1 := [some (.ref x), some (ti p0), some (ti p1), some (ti p2), some (ti p3), some (ti (i5 + (-1)))]) dX12_clauseHolds_79 rfl rfl rfl rfl ?_
          refine GO.goto (tgt := 8) dX12_clauseHolds_82 (by decide) ?_
          exact ih68 (i5 + (-1)) V ⟨by omega, by omega, by omega, rfl⟩ (by show ((i5 + (-1)) + 2147483648).toNat < (i5 + 2147483648).toNat; omega)
        ·
          refine GO.aload_n dX12_clauseHolds_45 rfl rfl ?_
          refine GO.aload_n dX12_clauseHolds_46 rfl rfl ?_
          refine GO.getA (n := 2200) h_x fl_RX12_145 rfl rfl rfl rfl dX12_clauseHolds_47 (fun hv120 h119 => ?_)
          refine GO.bipush dX12_clauseHolds_50 rfl ?_
          refine GO.iload dX12_clauseHolds_52 rfl ?_
          refine GO.imul dX12_clauseHolds_54 ?_
          refine GO.bipush dX12_clauseHolds_55 rfl ?_
          refine GO.iload dX12_clauseHolds_57 rfl ?_
          refine GO.imul dX12_clauseHolds_59 ?_
          refine GO.bipush dX12_clauseHolds_60 rfl ?_
          refine GO.iload dX12_clauseHolds_62 rfl ?_
          refine GO.imul dX12_clauseHolds_64 ?_
          refine GO.aload_n dX12_clauseHolds_65 rfl rfl ?_
          refine GO.getA (n := 20) h_x fl_RX12_148 rfl rfl rfl rfl dX12_clauseHolds_66 (fun hv122 h121 => ?_)
          refine GO.iload dX12_clauseHolds_69 rfl ?_
          refine GO.iald (t := 52) rfl rfl h121 r_i5 (by omega) (by omega) dX12_clauseHolds_71 (fun l123 u124 => ?_)
          refine GO.iadd dX12_clauseHolds_72 ?_
          refine GO.iload_n dX12_clauseHolds_73 rfl rfl ?_
          refine GO.iload_n dX12_clauseHolds_74 rfl rfl ?_
          refine GO.callV (ci := 11) (N := mX12_holds) dX12_clauseHolds_75 (RX12, TX12, 151) rfl gV_RX12_591 h_x (t_X12_holds h_x rfl h119 ⟨by omega, by omega⟩ ⟨by omega, by omega⟩ ⟨by omega, by omega⟩ r_p1 r_p2 (by omega) (by omega) ((by first | exact GX.own w_0.2 (by omega) (by omega) | exact w_1)) (by decide)) rfl [] rfl rfl (Nat.le_of_ble_eq_true rfl) rfl (k_is fun X125 V129 r126 h127 hF128 => ?_)
          have q130 : -2147483648 ≤ X125 ∧ X125 ≤ 2147483647 := r126
          exact GO.reti rfl rfl dX12_clauseHolds_78 ⟨rfl, _, rfl, r126, trivial⟩

set_option maxHeartbeats 1000000 in
theorem t_X12_barOf {K : Kmap} {V : Vmap} {x : Nat} {p0 : Int} {p1 : Int} {p2 : Int} {p3 : Int} (h_x : K x = some (0, 11)) (r_p0 : ir p0) (r_p1 : ir p1) (r_p2 : ir p2) (r_p3 : ir p3) (z_p3 : p3 = 0 ∨ p3 = 1) (q_0 : p0 ≥ 0) (q_1 : p0 ≤ 239) (q_2 : p1 ≥ 0) (q_3 : p1 ≤ 99) (w_0 : GX V x) (w_1 : HX V x p0) : MC mX12_barOf K V [.ref x, ti p0, ti p1, ti p2, ti p3] (IS K (fun X V1 => True)) := by
  refine MC.start 1 (by decide +kernel) rfl rfl rfl (ls0 := [some (.ref x), some (ti p0), some (ti p1), some (ti p2), some (ti p3), none]) rfl ?_
  refine GO.useWT (fun hW_0 => ?_)
  refine GO.aload_n dX12_barOf_0 rfl rfl ?_
  refine GO.iload_n dX12_barOf_1 rfl rfl ?_
  refine GO.iload_n dX12_barOf_2 rfl rfl ?_
  refine GO.iload_n dX12_barOf_3 rfl rfl ?_
  refine GO.iload dX12_barOf_4 rfl ?_
  have q1 : -2147483648 ≤ p0 ∧ p0 ≤ 2147483647 := r_p0
  have q2 : -2147483648 ≤ p1 ∧ p1 ≤ 2147483647 := r_p1
  refine GO.callV (ci := 11) (N := mX12_clauseHolds) dX12_barOf_6 (RX12, TX12, 151) rfl gV_RX12_595 h_x (t_X12_clauseHolds h_x r_p0 r_p1 r_p2 r_p3 (by omega) (by omega) (by omega) (by omega) (by omega) w_0 (w_1)) rfl [] rfl rfl (Nat.le_of_ble_eq_true rfl) rfl (k_is fun X3 V7 r4 h5 hF6 => ?_)
  refine GO.istore (ls1 := [some (.ref x), some (ti p0), some (ti p1), some (ti p2), some (ti p3), some (ti X3)]) dX12_barOf_9 rfl rfl ?_
  refine GO.iload dX12_barOf_11 rfl ?_
  refine GO.iconst dX12_barOf_13 ?_
  refine GO.icmp_ne (tgt := 20) dX12_barOf_14 (by decide) r4 (ir_c rfl) (fun c8 => ?_) (fun c8 => ?_)
  ·
    refine GO.iload dX12_barOf_20 rfl ?_
    refine GO.if_ne (tgt := 27) dX12_barOf_22 (by decide) r4 (fun c9 => ?_) (fun c9 => ?_)
    ·
      refine GO.aload_n dX12_barOf_27 rfl rfl ?_
      refine GO.getA (n := 240) h_x fl_RX12_124 rfl rfl rfl rfl dX12_barOf_28 (fun hv11 h10 => ?_)
      refine GO.iload_n dX12_barOf_31 rfl rfl ?_
      refine GO.iald (t := 44) rfl rfl h10 r_p0 (by omega) (by omega) dX12_barOf_32 (fun _ _ => ?_)
      by_cases c13 : vi V7 (vq V7 x 53) (p0).toNat = 102
      ·
        refine GO.lookupK (n := 102) (tgt := 76) dX12_barOf_33 (ir_c rfl) c13 (by decide) rfl (by decide) ?_
        refine GO.iconst dX12_barOf_76 ?_
        exact GO.reti rfl rfl dX12_barOf_77 ⟨rfl, _, rfl, (ir_c rfl), trivial⟩
      by_cases c14 : vi V7 (vq V7 x 53) (p0).toNat = 108
      ·
        refine GO.lookupK (n := 108) (tgt := 78) dX12_barOf_33 (ir_c rfl) c14 (by decide) rfl (by decide) ?_
        refine GO.aload_n dX12_barOf_78 rfl rfl ?_
        refine GO.getA (n := 100) h_x fl_RX12_193 rfl rfl rfl rfl dX12_barOf_79 (fun hv16 h15 => ?_)
        refine GO.iload_n dX12_barOf_82 rfl rfl ?_
        refine GO.iald (t := 67) rfl rfl h15 r_p1 (by omega) (by omega) dX12_barOf_83 (fun _ _ => ?_)
        refine GO.iconst dX12_barOf_84 ?_
        refine GO.icmp_eq (tgt := 102) dX12_barOf_85 (by decide) vi_ir (ir_c rfl) (fun c18 => ?_) (fun c18 => ?_)
        ·
          refine GO.iconst dX12_barOf_102 ?_
          exact GO.reti rfl rfl dX12_barOf_103 ⟨rfl, _, rfl, (ir_c rfl), trivial⟩
        ·
          refine GO.aload_n dX12_barOf_88 rfl rfl ?_
          refine GO.getRaw h_x fl_RX12_193 hv16 dX12_barOf_89 ?_
          refine GO.iload_n dX12_barOf_92 rfl rfl ?_
          refine GO.iald (t := 67) rfl rfl h15 r_p1 (by omega) (by omega) dX12_barOf_93 (fun _ _ => ?_)
          refine GO.iload_n dX12_barOf_94 rfl rfl ?_
          refine GO.icmp_gt (tgt := 102) dX12_barOf_95 (by decide) vi_ir r_p2 (fun c21 => ?_) (fun c21 => ?_)
          ·
            refine GO.iconst dX12_barOf_102 ?_
            exact GO.reti rfl rfl dX12_barOf_103 ⟨rfl, _, rfl, (ir_c rfl), trivial⟩
          ·
            refine GO.iconst dX12_barOf_98 ?_
            refine GO.goto (tgt := 103) dX12_barOf_99 (by decide) ?_
            exact GO.reti rfl rfl dX12_barOf_103 ⟨rfl, _, rfl, (ir_c rfl), trivial⟩
      by_cases c22 : vi V7 (vq V7 x 53) (p0).toNat = 110
      ·
        refine GO.lookupK (n := 110) (tgt := 104) dX12_barOf_33 (ir_c rfl) c22 (by decide) rfl (by decide) ?_
        refine GO.aload_n dX12_barOf_104 rfl rfl ?_
        refine GO.getA (n := 100) h_x fl_RX12_190 rfl rfl rfl rfl dX12_barOf_105 (fun hv24 h23 => ?_)
        refine GO.iload_n dX12_barOf_108 rfl rfl ?_
        refine GO.iald (t := 66) rfl rfl h23 r_p1 (by omega) (by omega) dX12_barOf_109 (fun _ _ => ?_)
        refine GO.iconst dX12_barOf_110 ?_
        refine GO.icmp_eq (tgt := 140) dX12_barOf_111 (by decide) vi_ir (ir_c rfl) (fun c26 => ?_) (fun c26 => ?_)
        ·
          refine GO.iconst dX12_barOf_140 ?_
          exact GO.reti rfl rfl dX12_barOf_141 ⟨rfl, _, rfl, (ir_c rfl), trivial⟩
        ·
          refine GO.aload_n dX12_barOf_114 rfl rfl ?_
          refine GO.getRaw h_x fl_RX12_190 hv24 dX12_barOf_115 ?_
          refine GO.iload_n dX12_barOf_118 rfl rfl ?_
          refine GO.iald (t := 66) rfl rfl h23 r_p1 (by omega) (by omega) dX12_barOf_119 (fun _ _ => ?_)
          refine GO.aload_n dX12_barOf_120 rfl rfl ?_
          refine GO.getA (n := 240) h_x fl_RX12_133 rfl rfl rfl rfl dX12_barOf_121 (fun hv30 h29 => ?_)
          refine GO.iload_n dX12_barOf_124 rfl rfl ?_
          refine GO.iald (t := 47) rfl rfl h29 r_p0 (by omega) (by omega) dX12_barOf_125 (fun _ _ => ?_)
          refine GO.iadd dX12_barOf_126 ?_
          refine GO.norm (fun z32 r33 hn34 => ?_)
          refine GO.aload_n dX12_barOf_127 rfl rfl ?_
          refine GO.getA (n := 100) h_x fl_RX12_172 rfl rfl rfl rfl dX12_barOf_128 (fun hv36 h35 => ?_)
          refine GO.iload_n dX12_barOf_131 rfl rfl ?_
          refine GO.iald (t := 60) rfl rfl h35 r_p1 (by omega) (by omega) dX12_barOf_132 (fun _ _ => ?_)
          refine GO.icmp_gt (tgt := 140) dX12_barOf_133 (by decide) r33 vi_ir (fun c38 => ?_) (fun c38 => ?_)
          ·
            refine GO.iconst dX12_barOf_140 ?_
            exact GO.reti rfl rfl dX12_barOf_141 ⟨rfl, _, rfl, (ir_c rfl), trivial⟩
          ·
            refine GO.iconst dX12_barOf_136 ?_
            refine GO.goto (tgt := 141) dX12_barOf_137 (by decide) ?_
            exact GO.reti rfl rfl dX12_barOf_141 ⟨rfl, _, rfl, (ir_c rfl), trivial⟩
      by_cases c39 : vi V7 (vq V7 x 53) (p0).toNat = 115
      ·
        refine GO.lookupK (n := 115) (tgt := 142) dX12_barOf_33 (ir_c rfl) c39 (by decide) rfl (by decide) ?_
        refine GO.aload_n dX12_barOf_142 rfl rfl ?_
        refine GO.getA (n := 100) h_x fl_RX12_196 rfl rfl rfl rfl dX12_barOf_143 (fun hv41 h40 => ?_)
        refine GO.iload_n dX12_barOf_146 rfl rfl ?_
        refine GO.iald (t := 68) rfl rfl h40 r_p1 (by omega) (by omega) dX12_barOf_147 (fun _ _ => ?_)
        refine GO.iconst dX12_barOf_148 ?_
        refine GO.icmp_eq (tgt := 178) dX12_barOf_149 (by decide) vi_ir (ir_c rfl) (fun c43 => ?_) (fun c43 => ?_)
        ·
          refine GO.iconst dX12_barOf_178 ?_
          exact GO.reti rfl rfl dX12_barOf_179 ⟨rfl, _, rfl, (ir_c rfl), trivial⟩
        ·
          refine GO.aload_n dX12_barOf_152 rfl rfl ?_
          refine GO.getRaw h_x fl_RX12_196 hv41 dX12_barOf_153 ?_
          refine GO.iload_n dX12_barOf_156 rfl rfl ?_
          refine GO.iald (t := 68) rfl rfl h40 r_p1 (by omega) (by omega) dX12_barOf_157 (fun _ _ => ?_)
          refine GO.aload_n dX12_barOf_158 rfl rfl ?_
          refine GO.getA (n := 240) h_x fl_RX12_133 rfl rfl rfl rfl dX12_barOf_159 (fun hv47 h46 => ?_)
          refine GO.iload_n dX12_barOf_162 rfl rfl ?_
          refine GO.iald (t := 47) rfl rfl h46 r_p0 (by omega) (by omega) dX12_barOf_163 (fun _ _ => ?_)
          refine GO.iadd dX12_barOf_164 ?_
          refine GO.norm (fun z49 r50 hn51 => ?_)
          refine GO.aload_n dX12_barOf_165 rfl rfl ?_
          refine GO.getA (n := 100) h_x fl_RX12_172 rfl rfl rfl rfl dX12_barOf_166 (fun hv53 h52 => ?_)
          refine GO.iload_n dX12_barOf_169 rfl rfl ?_
          refine GO.iald (t := 60) rfl rfl h52 r_p1 (by omega) (by omega) dX12_barOf_170 (fun _ _ => ?_)
          refine GO.icmp_gt (tgt := 178) dX12_barOf_171 (by decide) r50 vi_ir (fun c55 => ?_) (fun c55 => ?_)
          ·
            refine GO.iconst dX12_barOf_178 ?_
            exact GO.reti rfl rfl dX12_barOf_179 ⟨rfl, _, rfl, (ir_c rfl), trivial⟩
          ·
            refine GO.iconst dX12_barOf_174 ?_
            refine GO.goto (tgt := 179) dX12_barOf_175 (by decide) ?_
            exact GO.reti rfl rfl dX12_barOf_179 ⟨rfl, _, rfl, (ir_c rfl), trivial⟩
      refine GO.lookup (off := 147) (tgt := 180) dX12_barOf_33 vi_ir (by decide) (by simp [Op.lookupswitch.offset, Ne.symm c13, Ne.symm c14, Ne.symm c22, Ne.symm c39, c13, c14, c22, c39]) (by decide) ?_
      refine GO.aload_n dX12_barOf_180 rfl rfl ?_
      refine GO.iload_n dX12_barOf_181 rfl rfl ?_
      refine GO.iload_n dX12_barOf_182 rfl rfl ?_
      refine GO.callV (ci := 11) (N := mX12_isConsented) dX12_barOf_183 (RX12, TX12, 151) rfl gV_RX12_599 h_x (t_X12_isConsented h_x r_p1 r_p2 (by omega) (by omega)) rfl [] rfl rfl (Nat.le_of_ble_eq_true rfl) rfl (k_ip fun X56 r57 h58 => ?_)
      refine GO.if_eq (tgt := 193) dX12_barOf_186 (by decide) r57 (fun c59 => ?_) (fun c59 => ?_)
      ·
        refine GO.iconst dX12_barOf_193 ?_
        exact GO.reti rfl rfl dX12_barOf_194 ⟨rfl, _, rfl, (ir_c rfl), trivial⟩
      ·
        refine GO.iconst dX12_barOf_189 ?_
        refine GO.goto (tgt := 194) dX12_barOf_190 (by decide) ?_
        exact GO.reti rfl rfl dX12_barOf_194 ⟨rfl, _, rfl, (ir_c rfl), trivial⟩
    ·
      refine GO.iconst dX12_barOf_25 ?_
      exact GO.reti rfl rfl dX12_barOf_26 ⟨rfl, _, rfl, (ir_c rfl), trivial⟩
  ·
    refine GO.bipush dX12_barOf_17 rfl ?_
    exact GO.reti rfl rfl dX12_barOf_19 ⟨rfl, _, rfl, (ir_c rfl), trivial⟩

set_option maxHeartbeats 1000000 in
theorem t_X12_mayOn {K : Kmap} {V : Vmap} {x : Nat} {p0 : Int} {p1 : Int} {p2 : Int} (h_x : K x = some (0, 11)) (r_p0 : ir p0) (r_p1 : ir p1) (r_p2 : ir p2) (z_p2 : p2 = 0 ∨ p2 = 1) (q_0 : p0 ≥ 0) (q_1 : p0 ≤ 99) (w_0 : GX V x) : MC mX12_mayOn K V [.ref x, ti p0, ti p1, ti p2] (IS K (fun X V1 => True)) := by
  refine MC.start 4 (by decide +kernel) rfl rfl rfl (ls0 := [some (.ref x), some (ti p0), some (ti p1), some (ti p2), none, none, none, none]) rfl ?_
  refine GO.useWT (fun hW_0 => ?_)
  refine GO.aload_n dX12_mayOn_0 rfl rfl ?_
  refine GO.aload_n dX12_mayOn_1 rfl rfl ?_
  refine GO.getA (n := 100) h_x fl_RX12_166 rfl rfl rfl rfl dX12_mayOn_2 (fun hv2 h1 => ?_)
  refine GO.iload_n dX12_mayOn_5 rfl rfl ?_
  have q3 : -2147483648 ≤ p0 ∧ p0 ≤ 2147483647 := r_p0
  refine GO.iald (t := 58) rfl rfl h1 r_p0 (by omega) (by omega) dX12_mayOn_6 (fun l4 u5 => ?_)
  refine GO.iload_n dX12_mayOn_7 rfl rfl ?_
  refine GO.callV (ci := 11) (N := mX12_binds) dX12_mayOn_8 (RX12, TX12, 151) rfl gV_RX12_557 h_x (t_X12_binds h_x vi_ir r_p1 (by omega) (by omega)) rfl [] rfl rfl (Nat.le_of_ble_eq_true rfl) rfl (k_vs fun V8 h7 hF6 => ?_)
  have raw_binds := h7.2
  have rw8 := h7.2
  refine GO.iconst dX12_mayOn_11 ?_
  refine GO.istore (ls1 := [some (.ref x), some (ti p0), some (ti p1), some (ti p2), some (ti 0), none, none, none]) dX12_mayOn_12 rfl rfl ?_
  refine GO.loop1 (fun i9 W => 0 ≤ i9 ∧ i9 ≤ 20 ∧ True) (fun i9 => [some (.ref x), some (ti p0), some (ti p1), some (ti p2), some (ti i9), none, none, none]) (fun i9 W => (2147483647 - i9).toNat) 0 ⟨by omega, by omega, trivial⟩ rfl (fun i9 Wi9 hp3584 ih3583 => ?_)
  obtain ⟨l_i9, u_i9, -⟩ := hp3584
  have r_i9 : ir i9 := ⟨by omega, by omega⟩
  show GO mX12_mayOn K V (IS K (fun X V1 => True)) K Wi9 0 0 14 [some (.ref x), some (ti p0), some (ti p1), some (ti p2), some (ti i9), none, none, none] []
  refine GO.iload dX12_mayOn_14 rfl ?_
  refine GO.aload_n dX12_mayOn_16 rfl rfl ?_
  refine GO.getI h_x fl_RX12_535 rfl rfl dX12_mayOn_17 (fun l3585 u3586 => ?_)
  refine GO.icmp_ge (tgt := 124) dX12_mayOn_20 (by decide) r_i9 vi_ir (fun c3587 => ?_) (fun c3587 => ?_)
  ·
    refine GO.iconst dX12_mayOn_124 ?_
    exact GO.reti rfl rfl dX12_mayOn_125 ⟨rfl, _, rfl, (ir_c rfl), trivial⟩
  ·
    refine GO.iconst dX12_mayOn_23 ?_
    refine GO.istore (ls1 := [some (.ref x), some (ti p0), some (ti p1), some (ti p2), some (ti i9), some (ti 0), none, none]) dX12_mayOn_24 rfl rfl ?_
    refine GO.loop1 (fun i3588 W => 0 ≤ i3588 ∧ i3588 ≤ 12 ∧ (i9 < vi W x 47) ∧ True) (fun i3588 => [some (.ref x), some (ti p0), some (ti p1), some (ti p2), some (ti i9), some (ti i3588), none, none]) (fun i3588 W => (2147483647 - i3588).toNat) 0 ⟨by omega, by omega, by omega, trivial⟩ rfl (fun i3588 Wi3588 hp3941 ih3940 => ?_)
    obtain ⟨l_i3588, u_i3588, n_i3588, -⟩ := hp3941
    have r_i3588 : ir i3588 := ⟨by omega, by omega⟩
    show GO mX12_mayOn K V (IS K (fun X V1 => True)) K Wi3588 0 0 26 [some (.ref x), some (ti p0), some (ti p1), some (ti p2), some (ti i9), some (ti i3588), none, none] []
    refine GO.iload dX12_mayOn_26 rfl ?_
    refine GO.aload_n dX12_mayOn_28 rfl rfl ?_
    refine GO.getA (n := 20) h_x fl_RX12_115 rfl rfl rfl rfl dX12_mayOn_29 (fun hv3943 h3942 => ?_)
    refine GO.iload dX12_mayOn_32 rfl ?_
    have q3944 : -2147483648 ≤ vi Wi3588 x 47 ∧ vi Wi3588 x 47 ≤ 2147483647 := vi_ir
    refine GO.iald (t := 41) rfl rfl h3942 r_i9 (by omega) (by omega) dX12_mayOn_34 (fun l3945 u3946 => ?_)
    refine GO.icmp_ge (tgt := 118) dX12_mayOn_35 (by decide) r_i3588 vi_ir (fun c3947 => ?_) (fun c3947 => ?_)
    ·
      refine GO.iinc (X := i9) (n := 1) (Y := i9 + 1) (ls1 := [some (.ref x), some (ti p0), some (ti p1), some (ti p2), some (ti (i9 + 1)), some (ti i3588), none, none]) dX12_mayOn_118 rfl rfl rfl rfl ?_
      refine GO.goto (tgt := 14) dX12_mayOn_121 (by decide) ?_
      refine GO.drop [true, true, true, true, true, false, true, true] rfl ?_
      exact ih3583 (i9 + 1) Wi3588 ⟨by omega, by omega, trivial⟩ (by show (2147483647 - (i9 + 1)).toNat < (2147483647 - i9).toNat; omega)
    ·
      refine GO.aload_n dX12_mayOn_38 rfl rfl ?_
      refine GO.getA (n := 20) h_x fl_RX12_157 rfl rfl rfl rfl dX12_mayOn_39 (fun hv3949 h3948 => ?_)
      refine GO.iload dX12_mayOn_42 rfl ?_
      refine GO.zald (t := 55) rfl rfl h3948 r_i9 (by omega) (by omega) dX12_mayOn_44 (fun l3950 u3951 => ?_)
      refine GO.if_eq (tgt := 118) dX12_mayOn_45 (by decide) vi_ir (fun c3952 => ?_) (fun c3952 => ?_)
      ·
        refine GO.iinc (X := i9) (n := 1) (Y := i9 + 1) (ls1 := [some (.ref x), some (ti p0), some (ti p1), some (ti p2), some (ti (i9 + 1)), some (ti i3588), none, none]) dX12_mayOn_118 rfl rfl rfl rfl ?_
        refine GO.goto (tgt := 14) dX12_mayOn_121 (by decide) ?_
        refine GO.drop [true, true, true, true, true, false, true, true] rfl ?_
        exact ih3583 (i9 + 1) Wi3588 ⟨by omega, by omega, trivial⟩ (by show (2147483647 - (i9 + 1)).toNat < (2147483647 - i9).toNat; omega)
      ·
        refine GO.bipush dX12_mayOn_48 rfl ?_
        refine GO.iload dX12_mayOn_50 rfl ?_
        refine GO.imul dX12_mayOn_52 ?_
        refine GO.iload dX12_mayOn_53 rfl ?_
        refine GO.iadd dX12_mayOn_55 ?_
        refine GO.name (fun z3953 hz3954 => ?_)
        refine GO.istore (ls1 := [some (.ref x), some (ti p0), some (ti p1), some (ti p2), some (ti i9), some (ti i3588), some (ti z3953), none]) dX12_mayOn_56 rfl rfl ?_
        refine GO.aload_n dX12_mayOn_58 rfl rfl ?_
        refine GO.getA (n := 240) h_x fl_RX12_160 rfl rfl rfl rfl dX12_mayOn_59 (fun hv3956 h3955 => ?_)
        refine GO.iload dX12_mayOn_62 rfl ?_
        refine GO.zald (t := 56) rfl rfl h3955 ⟨by omega, by omega⟩ (by omega) (by omega) dX12_mayOn_64 (fun l3957 u3958 => ?_)
        refine GO.if_ne (tgt := 112) dX12_mayOn_65 (by decide) vi_ir (fun c3959 => ?_) (fun c3959 => ?_)
        ·
          refine GO.iinc (X := i3588) (n := 1) (Y := i3588 + 1) (ls1 := [some (.ref x), some (ti p0), some (ti p1), some (ti p2), some (ti i9), some (ti (i3588 + 1)), some (ti z3953), none]) dX12_mayOn_112 rfl rfl rfl rfl ?_
          refine GO.goto (tgt := 26) dX12_mayOn_115 (by decide) ?_
          refine GO.drop [true, true, true, true, true, true, false, true] rfl ?_
          exact ih3940 (i3588 + 1) Wi3588 ⟨by omega, by omega, by omega, trivial⟩ (by show (2147483647 - (i3588 + 1)).toNat < (2147483647 - i3588).toNat; omega)
        ·
          refine GO.aload_n dX12_mayOn_68 rfl rfl ?_
          refine GO.getA (n := 240) h_x fl_RX12_124 rfl rfl rfl rfl dX12_mayOn_69 (fun hv3961 h3960 => ?_)
          refine GO.iload dX12_mayOn_72 rfl ?_
          refine GO.iald (t := 44) rfl rfl h3960 ⟨by omega, by omega⟩ (by omega) (by omega) dX12_mayOn_74 (fun _ _ => ?_)
          refine GO.callS (N := mX12_isAsking) dX12_mayOn_75 gS_RX12_520 (t_X12_isAsking vi_ir) rfl [] rfl rfl (Nat.le_of_ble_eq_true rfl) rfl (k_ip fun X3962 r3963 h3964 => ?_)
          have raw_isAsking := h3964.2.2.2
          have rw75 := h3964.2.2.2
          refine GO.if_ne (tgt := 84) dX12_mayOn_78 (by decide) r3963 (fun c3965 => ?_) (fun c3965 => ?_)
          ·
            have q3966 := h3964.2.1 (by omega)
            refine GO.aload_n dX12_mayOn_84 rfl rfl ?_
            refine GO.iload dX12_mayOn_85 rfl ?_
            refine GO.iload_n dX12_mayOn_87 rfl rfl ?_
            refine GO.iload_n dX12_mayOn_88 rfl rfl ?_
            refine GO.iload_n dX12_mayOn_89 rfl rfl ?_
            refine GO.useFR (fun hF3967 => ?_)
            have hg3968 := GX.fr hF3967 w_0 hW_0 h_x (by decide +kernel)
            have hgx := hg3968
            have hhx := HX.of (i := i9) (j := i3588) (c := z3953) hgx (by omega) (by omega) (by omega) (by assumption) (by omega) (by omega) (raw_isAsking.1 (by omega))
            refine GO.useFR (fun hF3969 => ?_)
            have hg3970 := GX.fr hF3969 w_0 hW_0 h_x (by decide +kernel)
            refine GO.callV (ci := 11) (N := mX12_barOf) dX12_mayOn_90 (RX12, TX12, 151) rfl gV_RX12_602 h_x (t_X12_barOf h_x ⟨by omega, by omega⟩ r_p0 r_p1 r_p2 (by omega) (by omega) (by omega) (by omega) (by omega) (hg3970) (hhx)) rfl [] rfl rfl (Nat.le_of_ble_eq_true rfl) rfl (k_is fun X3971 V3975 r3972 h3973 hF3974 => ?_)
            refine GO.istore (ls1 := [some (.ref x), some (ti p0), some (ti p1), some (ti p2), some (ti i9), some (ti i3588), some (ti z3953), some (ti X3971)]) dX12_mayOn_93 rfl rfl ?_
            refine GO.iload dX12_mayOn_95 rfl ?_
            refine GO.if_ne (tgt := 103) dX12_mayOn_97 (by decide) r3972 (fun c3976 => ?_) (fun c3976 => ?_)
            ·
              refine GO.aload_n dX12_mayOn_103 rfl rfl ?_
              refine GO.iload dX12_mayOn_104 rfl ?_
              refine GO.putI h_x fp_RX12_605 rfl (by decide +kernel) ⟨by omega, by omega⟩ (by omega) (by omega) dX12_mayOn_106 (fun V3978 e3977 => ?_)
              refine GO.iload dX12_mayOn_109 rfl ?_
              have q3979 : -2147483648 ≤ X3971 ∧ X3971 ≤ 2147483647 := r3972
              exact GO.reti rfl rfl dX12_mayOn_111 ⟨rfl, _, rfl, r3972, trivial⟩
            ·
              refine GO.goto (tgt := 112) dX12_mayOn_100 (by decide) ?_
              refine GO.iinc (X := i3588) (n := 1) (Y := i3588 + 1) (ls1 := [some (.ref x), some (ti p0), some (ti p1), some (ti p2), some (ti i9), some (ti (i3588 + 1)), some (ti z3953), some (ti X3971)]) dX12_mayOn_112 rfl rfl rfl rfl ?_
              refine GO.goto (tgt := 26) dX12_mayOn_115 (by decide) ?_
              refine GO.drop [true, true, true, true, true, true, false, false] rfl ?_
              have e3980 : vi V3975 x 47 = vi Wi3588 x 47 := vi_fr hF3974 h_x h_x (by decide +kernel)
              exact ih3940 (i3588 + 1) V3975 ⟨by omega, by omega, by omega, trivial⟩ (by show (2147483647 - (i3588 + 1)).toNat < (2147483647 - i3588).toNat; omega)
          ·
            have q3981 := h3964.2.2.1 (by omega)
            refine GO.goto (tgt := 112) dX12_mayOn_81 (by decide) ?_
            refine GO.iinc (X := i3588) (n := 1) (Y := i3588 + 1) (ls1 := [some (.ref x), some (ti p0), some (ti p1), some (ti p2), some (ti i9), some (ti (i3588 + 1)), some (ti z3953), none]) dX12_mayOn_112 rfl rfl rfl rfl ?_
            refine GO.goto (tgt := 26) dX12_mayOn_115 (by decide) ?_
            refine GO.drop [true, true, true, true, true, true, false, true] rfl ?_
            exact ih3940 (i3588 + 1) Wi3588 ⟨by omega, by omega, by omega, trivial⟩ (by show (2147483647 - (i3588 + 1)).toNat < (2147483647 - i3588).toNat; omega)

set_option maxHeartbeats 1000000 in
theorem t_X12_may {K : Kmap} {V : Vmap} {x : Nat} {p0 : Int} {p1 : Int} {p2 : Int} (h_x : K x = some (0, 11)) (r_p0 : ir p0) (r_p1 : ir p1) (r_p2 : ir p2) (z_p2 : p2 = 0 ∨ p2 = 1) (w_0 : GX V x) : MC mX12_may K V [.ref x, ti p0, ti p1, ti p2] (IS K (fun X V1 => True)) := by
  refine MC.start 0 (by decide +kernel) rfl rfl rfl (ls0 := [some (.ref x), some (ti p0), some (ti p1), some (ti p2)]) rfl ?_
  refine GO.useWT (fun hW_0 => ?_)
  refine GO.aload_n dX12_may_0 rfl rfl ?_
  refine GO.iload_n dX12_may_1 rfl rfl ?_
  refine GO.callV (ci := 11) (N := mX12_isWork) dX12_may_2 (RX12, TX12, 151) rfl gV_RX12_566 h_x (t_X12_isWork h_x r_p0) rfl [] rfl rfl (Nat.le_of_ble_eq_true rfl) rfl (k_ip fun X1 r2 h3 => ?_)
  refine GO.if_eq (tgt := 25) dX12_may_5 (by decide) r2 (fun c4 => ?_) (fun c4 => ?_)
  ·
    have q5 := h3.2.2 (by omega)
    refine GO.iconst dX12_may_25 ?_
    exact GO.reti rfl rfl dX12_may_26 ⟨rfl, _, rfl, (ir_c rfl), trivial⟩
  ·
    have q6 := h3.2.1 (by omega)
    refine GO.iload_n dX12_may_8 rfl rfl ?_
    refine GO.callS (N := mX12_isDay) dX12_may_9 gS_RX12_409 (t_X12_isDay r_p1) rfl [] rfl rfl (Nat.le_of_ble_eq_true rfl) rfl (k_ip fun X7 r8 h9 => ?_)
    refine GO.if_eq (tgt := 25) dX12_may_12 (by decide) r8 (fun c10 => ?_) (fun c10 => ?_)
    ·
      have q11 := h9.2.2 (by omega)
      refine GO.iconst dX12_may_25 ?_
      exact GO.reti rfl rfl dX12_may_26 ⟨rfl, _, rfl, (ir_c rfl), trivial⟩
    ·
      have q12 := h9.2.1 (by omega)
      refine GO.aload_n dX12_may_15 rfl rfl ?_
      refine GO.iload_n dX12_may_16 rfl rfl ?_
      refine GO.iload_n dX12_may_17 rfl rfl ?_
      refine GO.iload_n dX12_may_18 rfl rfl ?_
      have q13 : -2147483648 ≤ p0 ∧ p0 ≤ 2147483647 := r_p0
      have q14 : -2147483648 ≤ vi V x 66 ∧ vi V x 66 ≤ 2147483647 := vi_ir
      refine GO.callV (ci := 11) (N := mX12_mayOn) dX12_may_19 (RX12, TX12, 151) rfl gV_RX12_608 h_x (t_X12_mayOn h_x r_p0 r_p1 r_p2 (by omega) (by omega) (by omega) w_0) rfl [] rfl rfl (Nat.le_of_ble_eq_true rfl) rfl (k_is fun X15 V19 r16 h17 hF18 => ?_)
      refine GO.goto (tgt := 26) dX12_may_22 (by decide) ?_
      have q20 : -2147483648 ≤ X15 ∧ X15 ≤ 2147483647 := r16
      exact GO.reti rfl rfl dX12_may_26 ⟨rfl, _, rfl, r16, trivial⟩

set_option maxHeartbeats 1000000 in
theorem t_X12_why {K : Kmap} {V : Vmap} {x : Nat} {p0 : Int} {p1 : Int} {p2 : Int} {p3 : Int} (h_x : K x = some (0, 11)) (r_p0 : ir p0) (r_p1 : ir p1) (r_p2 : ir p2) (z_p2 : p2 = 0 ∨ p2 = 1) (r_p3 : ir p3) (w_0 : GX V x) : MC mX12_why K V [.ref x, ti p0, ti p1, ti p2, ti p3] (IS K (fun X V1 => True)) := by
  refine MC.start 0 (by decide +kernel) rfl rfl rfl (ls0 := [some (.ref x), some (ti p0), some (ti p1), some (ti p2), some (ti p3)]) rfl ?_
  refine GO.useWT (fun hW_0 => ?_)
  refine GO.aload_n dX12_why_0 rfl rfl ?_
  refine GO.iload_n dX12_why_1 rfl rfl ?_
  refine GO.callV (ci := 11) (N := mX12_isWork) dX12_why_2 (RX12, TX12, 151) rfl gV_RX12_566 h_x (t_X12_isWork h_x r_p0) rfl [] rfl rfl (Nat.le_of_ble_eq_true rfl) rfl (k_ip fun X1 r2 h3 => ?_)
  refine GO.if_eq (tgt := 35) dX12_why_5 (by decide) r2 (fun c4 => ?_) (fun c4 => ?_)
  ·
    have q5 := h3.2.2 (by omega)
    refine GO.iconst dX12_why_35 ?_
    exact GO.reti rfl rfl dX12_why_36 ⟨rfl, _, rfl, (ir_c rfl), trivial⟩
  ·
    have q6 := h3.2.1 (by omega)
    refine GO.iload_n dX12_why_8 rfl rfl ?_
    refine GO.callS (N := mX12_isDay) dX12_why_9 gS_RX12_409 (t_X12_isDay r_p1) rfl [] rfl rfl (Nat.le_of_ble_eq_true rfl) rfl (k_ip fun X7 r8 h9 => ?_)
    refine GO.if_eq (tgt := 35) dX12_why_12 (by decide) r8 (fun c10 => ?_) (fun c10 => ?_)
    ·
      have q11 := h9.2.2 (by omega)
      refine GO.iconst dX12_why_35 ?_
      exact GO.reti rfl rfl dX12_why_36 ⟨rfl, _, rfl, (ir_c rfl), trivial⟩
    ·
      have q12 := h9.2.1 (by omega)
      refine GO.iload dX12_why_15 rfl ?_
      refine GO.iconst dX12_why_17 ?_
      refine GO.iconst dX12_why_18 ?_
      refine GO.callS (N := mX12_in) dX12_why_19 gS_RX12_371 (t_X12_in r_p3 (ir_c rfl) (ir_c rfl)) rfl [] rfl rfl (Nat.le_of_ble_eq_true rfl) rfl (k_ip fun X13 r14 h15 => ?_)
      have raw_in := h15.2.2.2
      have rw19 := h15.2.2.2
      refine GO.if_eq (tgt := 35) dX12_why_22 (by decide) r14 (fun c16 => ?_) (fun c16 => ?_)
      ·
        have q17 := h15.2.2.1 (by omega)
        refine GO.iconst dX12_why_35 ?_
        exact GO.reti rfl rfl dX12_why_36 ⟨rfl, _, rfl, (ir_c rfl), trivial⟩
      ·
        have q18 := h15.2.1 (by omega)
        refine GO.aload_n dX12_why_25 rfl rfl ?_
        refine GO.iload_n dX12_why_26 rfl rfl ?_
        refine GO.iload_n dX12_why_27 rfl rfl ?_
        refine GO.iload_n dX12_why_28 rfl rfl ?_
        have q19 : -2147483648 ≤ p0 ∧ p0 ≤ 2147483647 := r_p0
        have q20 : -2147483648 ≤ vi V x 66 ∧ vi V x 66 ≤ 2147483647 := vi_ir
        refine GO.callV (ci := 11) (N := mX12_mayOn) dX12_why_29 (RX12, TX12, 151) rfl gV_RX12_608 h_x (t_X12_mayOn h_x r_p0 r_p1 r_p2 (by omega) (by omega) (by omega) w_0) rfl [] rfl rfl (Nat.le_of_ble_eq_true rfl) rfl (k_is fun X21 V25 r22 h23 hF24 => ?_)
        refine GO.if_ne (tgt := 37) dX12_why_32 (by decide) r22 (fun c26 => ?_) (fun c26 => ?_)
        ·
          refine GO.iload dX12_why_37 rfl ?_
          refine GO.if_ne (tgt := 52) dX12_why_39 (by decide) r_p3 (fun c27 => ?_) (fun c27 => ?_)
          ·
            refine GO.aload_n dX12_why_52 rfl rfl ?_
            refine GO.getI h_x fl_RX12_605 rfl rfl dX12_why_53 (fun _ _ => ?_)
            refine GO.bipush dX12_why_56 rfl ?_
            refine GO.irem dX12_why_58 (ir_c rfl) (by omega) ?_
            have q29 : -2147483648 ≤ wrem (vi V25 x 82) 12 ∧ wrem (vi V25 x 82) 12 ≤ 2147483647 := wrem_ir
            exact GO.reti rfl rfl dX12_why_59 ⟨rfl, _, rfl, wrem_ir, trivial⟩
          ·
            refine GO.aload_n dX12_why_42 rfl rfl ?_
            refine GO.getI h_x fl_RX12_605 rfl rfl dX12_why_43 (fun _ _ => ?_)
            refine GO.bipush dX12_why_46 rfl ?_
            refine GO.idiv dX12_why_48 (ir_c rfl) (by omega) ?_
            refine GO.goto (tgt := 59) dX12_why_49 (by decide) ?_
            have q31 : -2147483648 ≤ wdiv (vi V25 x 82) 12 ∧ wdiv (vi V25 x 82) 12 ≤ 2147483647 := wdiv_ir
            exact GO.reti rfl rfl dX12_why_59 ⟨rfl, _, rfl, wdiv_ir, trivial⟩
        ·
          refine GO.iconst dX12_why_35 ?_
          exact GO.reti rfl rfl dX12_why_36 ⟨rfl, _, rfl, (ir_c rfl), trivial⟩

set_option maxHeartbeats 1000000 in
theorem t_X12_whose {K : Kmap} {V : Vmap} {x : Nat} {p0 : Int} {p1 : Int} (h_x : K x = some (0, 11)) (r_p0 : ir p0) (r_p1 : ir p1) : MC mX12_whose K V [.ref x, ti p0, ti p1] (IS K (fun X V1 => True)) := by
  refine MC.start 2 (by decide +kernel) rfl rfl rfl (ls0 := [some (.ref x), some (ti p0), some (ti p1), none, none]) rfl ?_
  refine GO.aload_n dX12_whose_0 rfl rfl ?_
  refine GO.iload_n dX12_whose_1 rfl rfl ?_
  refine GO.callV (ci := 11) (N := mX12_isParty) dX12_whose_2 (RX12, TX12, 151) rfl gV_RX12_406 h_x (t_X12_isParty h_x r_p0) rfl [] rfl rfl (Nat.le_of_ble_eq_true rfl) rfl (k_ip fun X1 r2 h3 => ?_)
  refine GO.if_eq (tgt := 16) dX12_whose_5 (by decide) r2 (fun c4 => ?_) (fun c4 => ?_)
  ·
    have q5 := h3.2.2 (by omega)
    refine GO.iconst dX12_whose_16 ?_
    exact GO.reti rfl rfl dX12_whose_17 ⟨rfl, _, rfl, (ir_c rfl), trivial⟩
  ·
    have q6 := h3.2.1 (by omega)
    refine GO.aload_n dX12_whose_8 rfl rfl ?_
    refine GO.iload_n dX12_whose_9 rfl rfl ?_
    refine GO.callV (ci := 11) (N := mX12_isCell) dX12_whose_10 (RX12, TX12, 151) rfl gV_RX12_381 h_x (t_X12_isCell h_x r_p1) rfl [] rfl rfl (Nat.le_of_ble_eq_true rfl) rfl (k_ip fun X7 r8 h9 => ?_)
    have raw_isCell := h9.2.2.2
    have rw10 := h9.2.2.2
    refine GO.if_ne (tgt := 18) dX12_whose_13 (by decide) r8 (fun c10 => ?_) (fun c10 => ?_)
    ·
      have q11 := h9.2.1 (by omega)
      refine GO.aload_n dX12_whose_18 rfl rfl ?_
      refine GO.iload_n dX12_whose_19 rfl rfl ?_
      refine GO.aload_n dX12_whose_20 rfl rfl ?_
      refine GO.getI h_x fl_RX12_396 rfl rfl dX12_whose_21 (fun l12 u13 => ?_)
      have q14 : -2147483648 ≤ p0 ∧ p0 ≤ 2147483647 := r_p0
      have q15 : -2147483648 ≤ vi V x 9 ∧ vi V x 9 ≤ 2147483647 := vi_ir
      refine GO.callV (ci := 11) (N := mX12_decidesOn) dX12_whose_24 (RX12, TX12, 151) rfl gV_RX12_412 h_x (t_X12_decidesOn h_x r_p0 vi_ir (by omega) (by omega)) rfl [] rfl rfl (Nat.le_of_ble_eq_true rfl) rfl (k_ip fun X16 r17 h18 => ?_)
      refine GO.if_eq (tgt := 56) dX12_whose_27 (by decide) r17 (fun c19 => ?_) (fun c19 => ?_)
      ·
        refine GO.bipush dX12_whose_56 rfl ?_
        exact GO.reti rfl rfl dX12_whose_58 ⟨rfl, _, rfl, (ir_c rfl), trivial⟩
      ·
        refine GO.aload_n dX12_whose_30 rfl rfl ?_
        refine GO.getI h_x fl_RX12_396 rfl rfl dX12_whose_31 (fun l20 u21 => ?_)
        refine GO.aload_n dX12_whose_34 rfl rfl ?_
        refine GO.getA (n := 9) h_x fl_RX12_29 rfl rfl rfl rfl dX12_whose_35 (fun hv23 h22 => ?_)
        refine GO.iload_n dX12_whose_38 rfl rfl ?_
        refine GO.iald (t := 13) rfl rfl h22 r_p0 (by omega) (by omega) dX12_whose_39 (fun _ _ => ?_)
        refine GO.isub dX12_whose_40 ?_
        refine GO.norm (fun z24 r25 hn26 => ?_)
        refine GO.aload_n dX12_whose_41 rfl rfl ?_
        refine GO.bipush dX12_whose_42 rfl ?_
        refine GO.iload_n dX12_whose_44 rfl rfl ?_
        refine GO.aload_n dX12_whose_45 rfl rfl ?_
        refine GO.getI h_x fl_RX12_396 rfl rfl dX12_whose_46 (fun l27 u28 => ?_)
        refine GO.iconst dX12_whose_49 ?_
        refine GO.callV (ci := 11) (N := mX12_asked) dX12_whose_50 (RX12, TX12, 151) rfl gV_RX12_563 h_x (t_X12_asked h_x (ir_c rfl) r_p0 vi_ir (ir_c rfl) (by omega) (by omega)) rfl [ti z24] rfl rfl (Nat.le_of_ble_eq_true rfl) rfl (k_is fun X29 V33 r30 h31 hF32 => ?_)
        have raw_asked := h31.2
        have rw50 := h31.2
        refine GO.icmp_ge (tgt := 59) dX12_whose_53 (by decide) r25 r30 (fun c34 => ?_) (fun c34 => ?_)
        ·
          refine GO.iconst dX12_whose_59 ?_
          refine GO.istore_n (ls1 := [some (.ref x), some (ti p0), some (ti p1), some (ti (-1)), none]) dX12_whose_60 rfl rfl rfl ?_
          refine GO.iconst dX12_whose_61 ?_
          refine GO.istore (ls1 := [some (.ref x), some (ti p0), some (ti p1), some (ti (-1)), some (ti 0)]) dX12_whose_62 rfl rfl ?_
          refine GO.loop2 (fun i35 i36 W => (-1) ≤ i35 ∧ i35 ≤ 59 ∧ 0 ≤ i36 ∧ i36 ≤ 60 ∧ V33 = W) (fun i35 i36 => [some (.ref x), some (ti p0), some (ti p1), some (ti i35), some (ti i36)]) (fun i35 i36 W => (2147483647 - i36).toNat) (-1) 0 ⟨by omega, by omega, by omega, by omega, rfl⟩ rfl (fun i35 i36 V237 hp239 ih238 => ?_)
          obtain ⟨l_i35, u_i35, l_i36, u_i36, rfl⟩ := hp239
          have r_i35 : ir i35 := ⟨by omega, by omega⟩
          have r_i36 : ir i36 := ⟨by omega, by omega⟩
          show GO mX12_whose K V (IS K (fun X V1 => True)) K V33 0 0 64 [some (.ref x), some (ti p0), some (ti p1), some (ti i35), some (ti i36)] []
          refine GO.iload dX12_whose_64 rfl ?_
          refine GO.aload_n dX12_whose_66 rfl rfl ?_
          refine GO.getI h_x fl_RX12_375 rfl rfl dX12_whose_67 (fun l240 u241 => ?_)
          refine GO.icmp_ge (tgt := 123) dX12_whose_70 (by decide) r_i36 vi_ir (fun c243 => ?_) (fun c243 => ?_)
          ·
            refine GO.iload_n dX12_whose_123 rfl rfl ?_
            exact GO.reti rfl rfl dX12_whose_124 ⟨rfl, _, rfl, r_i35, trivial⟩
          ·
            refine GO.aload_n dX12_whose_73 rfl rfl ?_
            refine GO.getA (n := 60) h_x fl_RX12_35 rfl rfl rfl rfl dX12_whose_74 (fun hv245 h244 => ?_)
            refine GO.iload dX12_whose_77 rfl ?_
            refine GO.iald (t := 15) rfl rfl h244 r_i36 (by omega) (by omega) dX12_whose_79 (fun l246 u247 => ?_)
            refine GO.if_ne (tgt := 117) dX12_whose_80 (by decide) vi_ir (fun c249 => ?_) (fun c249 => ?_)
            ·
              refine GO.iinc (X := i36) (n := 1) (Y := i36 + 1) (ls1 := [some (.ref x), some (ti p0), some (ti p1), some (ti i35), some (ti (i36 + 1))]) dX12_whose_117 rfl rfl rfl rfl ?_
              refine GO.goto (tgt := 64) dX12_whose_120 (by decide) ?_
              exact ih238 i35 (i36 + 1) V33 ⟨by omega, by omega, by omega, by omega, rfl⟩ (by show (2147483647 - (i36 + 1)).toNat < (2147483647 - i36).toNat; omega)
            ·
              refine GO.aload_n dX12_whose_83 rfl rfl ?_
              refine GO.iload_n dX12_whose_84 rfl rfl ?_
              refine GO.iload dX12_whose_85 rfl ?_
              have q250 : -2147483648 ≤ p1 ∧ p1 ≤ 2147483647 := r_p1
              refine GO.callV (ci := 11) (N := mX12_isIn) dX12_whose_87 (RX12, TX12, 151) rfl gV_RX12_569 h_x (t_X12_isIn h_x r_p1 r_i36 (by omega) (by omega) (by omega) (by omega)) rfl [] rfl rfl (Nat.le_of_ble_eq_true rfl) rfl (k_ip fun X251 r252 h253 => ?_)
              refine GO.if_eq (tgt := 117) dX12_whose_90 (by decide) r252 (fun c254 => ?_) (fun c254 => ?_)
              ·
                refine GO.iinc (X := i36) (n := 1) (Y := i36 + 1) (ls1 := [some (.ref x), some (ti p0), some (ti p1), some (ti i35), some (ti (i36 + 1))]) dX12_whose_117 rfl rfl rfl rfl ?_
                refine GO.goto (tgt := 64) dX12_whose_120 (by decide) ?_
                exact ih238 i35 (i36 + 1) V33 ⟨by omega, by omega, by omega, by omega, rfl⟩ (by show (2147483647 - (i36 + 1)).toNat < (2147483647 - i36).toNat; omega)
              ·
                refine GO.iload_n dX12_whose_93 rfl rfl ?_
                refine GO.iconst dX12_whose_94 ?_
                refine GO.icmp_eq (tgt := 114) dX12_whose_95 (by decide) r_i35 (ir_c rfl) (fun c255 => ?_) (fun c255 => ?_)
                ·
                  refine GO.iload dX12_whose_114 rfl ?_
                  refine GO.istore_n (ls1 := [some (.ref x), some (ti p0), some (ti p1), some (ti i36), some (ti i36)]) dX12_whose_116 rfl rfl rfl ?_
                  refine GO.iinc (X := i36) (n := 1) (Y := i36 + 1) (ls1 := [some (.ref x), some (ti p0), some (ti p1), some (ti i36), some (ti (i36 + 1))]) dX12_whose_117 rfl rfl rfl rfl ?_
                  refine GO.goto (tgt := 64) dX12_whose_120 (by decide) ?_
                  exact ih238 i36 (i36 + 1) V33 ⟨by omega, by omega, by omega, by omega, rfl⟩ (by show (2147483647 - (i36 + 1)).toNat < (2147483647 - i36).toNat; omega)
                ·
                  refine GO.aload_n dX12_whose_98 rfl rfl ?_
                  refine GO.getA (n := 60) h_x fl_RX12_47 rfl rfl rfl rfl dX12_whose_99 (fun hv257 h256 => ?_)
                  refine GO.iload dX12_whose_102 rfl ?_
                  refine GO.iald (t := 19) rfl rfl h256 r_i36 (by omega) (by omega) dX12_whose_104 (fun _ _ => ?_)
                  refine GO.aload_n dX12_whose_105 rfl rfl ?_
                  refine GO.getRaw h_x fl_RX12_47 hv257 dX12_whose_106 ?_
                  refine GO.iload_n dX12_whose_109 rfl rfl ?_
                  refine GO.iald (t := 19) rfl rfl h256 r_i35 (by omega) (by omega) dX12_whose_110 (fun _ _ => ?_)
                  refine GO.icmp_le (tgt := 117) dX12_whose_111 (by decide) vi_ir vi_ir (fun c262 => ?_) (fun c262 => ?_)
                  ·
                    refine GO.iinc (X := i36) (n := 1) (Y := i36 + 1) (ls1 := [some (.ref x), some (ti p0), some (ti p1), some (ti i35), some (ti (i36 + 1))]) dX12_whose_117 rfl rfl rfl rfl ?_
                    refine GO.goto (tgt := 64) dX12_whose_120 (by decide) ?_
                    exact ih238 i35 (i36 + 1) V33 ⟨by omega, by omega, by omega, by omega, rfl⟩ (by show (2147483647 - (i36 + 1)).toNat < (2147483647 - i36).toNat; omega)
                  ·
                    refine GO.iload dX12_whose_114 rfl ?_
                    refine GO.istore_n (ls1 := [some (.ref x), some (ti p0), some (ti p1), some (ti i36), some (ti i36)]) dX12_whose_116 rfl rfl rfl ?_
                    refine GO.iinc (X := i36) (n := 1) (Y := i36 + 1) (ls1 := [some (.ref x), some (ti p0), some (ti p1), some (ti i36), some (ti (i36 + 1))]) dX12_whose_117 rfl rfl rfl rfl ?_
                    refine GO.goto (tgt := 64) dX12_whose_120 (by decide) ?_
                    exact ih238 i36 (i36 + 1) V33 ⟨by omega, by omega, by omega, by omega, rfl⟩ (by show (2147483647 - (i36 + 1)).toNat < (2147483647 - i36).toNat; omega)
        ·
          refine GO.bipush dX12_whose_56 rfl ?_
          exact GO.reti rfl rfl dX12_whose_58 ⟨rfl, _, rfl, (ir_c rfl), trivial⟩
    ·
      refine GO.iconst dX12_whose_16 ?_
      exact GO.reti rfl rfl dX12_whose_17 ⟨rfl, _, rfl, (ir_c rfl), trivial⟩

set_option maxHeartbeats 1000000 in
theorem t_X12_isShip {K : Kmap} {V : Vmap} {x : Nat} {p0 : Int} (h_x : K x = some (0, 11)) (r_p0 : ir p0) : MC mX12_isShip K V [.ref x, ti p0] (IP K V (fun X => (X = 0 ∨ X = 1) ∧ (X ≠ 0 → p0 ≥ 0 ∧ p0 ≤ 9 ∧ p0 < vi V x 91) ∧ (X = 0 → (p0 < 0 ∨ p0 ≥ vi V x 91)))) := by
  refine MC.start 0 (by decide +kernel) rfl rfl rfl (ls0 := [some (.ref x), some (ti p0)]) rfl ?_
  refine GO.iload_n dX12_isShip_0 rfl rfl ?_
  refine GO.if_lt (tgt := 16) dX12_isShip_1 (by decide) r_p0 (fun c1 => ?_) (fun c1 => ?_)
  ·
    refine GO.iconst dX12_isShip_16 ?_
    have q2 : -2147483648 ≤ vi V x 91 ∧ vi V x 91 ≤ 2147483647 := vi_ir
    exact GO.retz rfl rfl dX12_isShip_17 (Or.inl rfl) ⟨rfl, rfl, _, rfl, (ir_c rfl), ⟨Or.inl rfl, fun h => absurd rfl h, fun h => by omega⟩⟩
  ·
    refine GO.iload_n dX12_isShip_4 rfl rfl ?_
    refine GO.aload_n dX12_isShip_5 rfl rfl ?_
    refine GO.getI h_x fl_RX12_612 rfl rfl dX12_isShip_6 (fun l3 u4 => ?_)
    refine GO.icmp_ge (tgt := 16) dX12_isShip_9 (by decide) r_p0 vi_ir (fun c5 => ?_) (fun c5 => ?_)
    ·
      refine GO.iconst dX12_isShip_16 ?_
      have q6 : -2147483648 ≤ p0 ∧ p0 ≤ 2147483647 := r_p0
      exact GO.retz rfl rfl dX12_isShip_17 (Or.inl rfl) ⟨rfl, rfl, _, rfl, (ir_c rfl), ⟨Or.inl rfl, fun h => absurd rfl h, fun h => by omega⟩⟩
    ·
      refine GO.iconst dX12_isShip_12 ?_
      refine GO.goto (tgt := 17) dX12_isShip_13 (by decide) ?_
      have q7 : -2147483648 ≤ p0 ∧ p0 ≤ 2147483647 := r_p0
      exact GO.retz rfl rfl dX12_isShip_17 (Or.inr rfl) ⟨rfl, rfl, _, rfl, (ir_c rfl), ⟨Or.inr rfl, fun h => by omega, fun h => absurd h (by decide)⟩⟩

set_option maxHeartbeats 1000000 in
theorem t_X12_isSea {K : Kmap} {V : Vmap} {p0 : Int} (r_p0 : ir p0) : MC mX12_isSea K V [ti p0] (IP K V (fun X => (X = 0 ∨ X = 1) ∧ (X ≠ 0 → p0 ≥ 0 ∧ p0 ≤ 3) ∧ (X = 0 → (p0 < 0 ∨ p0 > 3)))) := by
  refine MC.start 0 (by decide +kernel) rfl rfl rfl (ls0 := [some (ti p0)]) rfl ?_
  refine GO.iload_n dX12_isSea_0 rfl rfl ?_
  refine GO.if_lt (tgt := 13) dX12_isSea_1 (by decide) r_p0 (fun c1 => ?_) (fun c1 => ?_)
  ·
    refine GO.iconst dX12_isSea_13 ?_
    exact GO.retz rfl rfl dX12_isSea_14 (Or.inl rfl) ⟨rfl, rfl, _, rfl, (ir_c rfl), ⟨Or.inl rfl, fun h => absurd rfl h, fun h => by omega⟩⟩
  ·
    refine GO.iload_n dX12_isSea_4 rfl rfl ?_
    refine GO.iconst dX12_isSea_5 ?_
    refine GO.icmp_ge (tgt := 13) dX12_isSea_6 (by decide) r_p0 (ir_c rfl) (fun c2 => ?_) (fun c2 => ?_)
    ·
      refine GO.iconst dX12_isSea_13 ?_
      exact GO.retz rfl rfl dX12_isSea_14 (Or.inl rfl) ⟨rfl, rfl, _, rfl, (ir_c rfl), ⟨Or.inl rfl, fun h => absurd rfl h, fun h => by omega⟩⟩
    ·
      refine GO.iconst dX12_isSea_9 ?_
      refine GO.goto (tgt := 14) dX12_isSea_10 (by decide) ?_
      exact GO.retz rfl rfl dX12_isSea_14 (Or.inr rfl) ⟨rfl, rfl, _, rfl, (ir_c rfl), ⟨Or.inr rfl, fun h => by omega, fun h => absurd h (by decide)⟩⟩

set_option maxHeartbeats 1000000 in
theorem t_X12_ship {K : Kmap} {V : Vmap} {x : Nat} {p0 : Int} {p1 : Int} {p2 : Int} (h_x : K x = some (0, 11)) (r_p0 : ir p0) (r_p1 : ir p1) (r_p2 : ir p2) : MC mX12_ship K V [.ref x, ti p0, ti p1, ti p2] (IS K (fun X V1 => ((X = (-1) ∧ vi V1 x 91 = vi V x 91 ∧ (vi V x 91 ≥ 10 ∨ p1 < 1 ∨ p1 > 10000 ∨ p2 < 0 ∨ p2 > 100 ∨ p0 < 0 ∨ p0 ≥ vi V x 9)) ∨ (X = vi V x 91 ∧ vi V1 x 91 = (vi V x 91 + 1) ∧ vi V x 91 < 10 ∧ p1 ≥ 1 ∧ p1 ≤ 10000 ∧ p2 ≥ 0 ∧ p2 ≤ 100 ∧ p0 ≥ 0 ∧ p0 < vi V x 9)))) := by
  refine MC.start 0 (by decide +kernel) rfl rfl rfl (ls0 := [some (.ref x), some (ti p0), some (ti p1), some (ti p2)]) rfl ?_
  refine GO.aload_n dX12_ship_0 rfl rfl ?_
  refine GO.iload_n dX12_ship_1 rfl rfl ?_
  refine GO.callV (ci := 11) (N := mX12_isParty) dX12_ship_2 (RX12, TX12, 151) rfl gV_RX12_406 h_x (t_X12_isParty h_x r_p0) rfl [] rfl rfl (Nat.le_of_ble_eq_true rfl) rfl (k_ip fun X1 r2 h3 => ?_)
  refine GO.if_eq (tgt := 38) dX12_ship_5 (by decide) r2 (fun c4 => ?_) (fun c4 => ?_)
  ·
    have q5 := h3.2.2 (by omega)
    refine GO.iconst dX12_ship_38 ?_
    have q6 : -2147483648 ≤ vi V x 91 ∧ vi V x 91 ≤ 2147483647 := vi_ir
    have q7 : -2147483648 ≤ vi V x 9 ∧ vi V x 9 ≤ 2147483647 := vi_ir
    exact GO.reti rfl rfl dX12_ship_39 ⟨rfl, _, rfl, (ir_c rfl), by omega⟩
  ·
    have q8 := h3.2.1 (by omega)
    refine GO.iload_n dX12_ship_8 rfl rfl ?_
    refine GO.iconst dX12_ship_9 ?_
    refine GO.sipush dX12_ship_10 rfl ?_
    refine GO.callS (N := mX12_in) dX12_ship_13 gS_RX12_371 (t_X12_in r_p1 (ir_c rfl) (ir_c rfl)) rfl [] rfl rfl (Nat.le_of_ble_eq_true rfl) rfl (k_ip fun X9 r10 h11 => ?_)
    have raw_in := h11.2.2.2
    have rw13 := h11.2.2.2
    refine GO.if_eq (tgt := 38) dX12_ship_16 (by decide) r10 (fun c12 => ?_) (fun c12 => ?_)
    ·
      have q13 := h11.2.2.1 (by omega)
      refine GO.iconst dX12_ship_38 ?_
      have q14 : -2147483648 ≤ vi V x 91 ∧ vi V x 91 ≤ 2147483647 := vi_ir
      have q15 : -2147483648 ≤ vi V x 9 ∧ vi V x 9 ≤ 2147483647 := vi_ir
      have q16 : -2147483648 ≤ p0 ∧ p0 ≤ 2147483647 := r_p0
      exact GO.reti rfl rfl dX12_ship_39 ⟨rfl, _, rfl, (ir_c rfl), by omega⟩
    ·
      have q17 := h11.2.1 (by omega)
      refine GO.iload_n dX12_ship_19 rfl rfl ?_
      refine GO.iconst dX12_ship_20 ?_
      refine GO.bipush dX12_ship_21 rfl ?_
      refine GO.callS (N := mX12_in) dX12_ship_23 gS_RX12_371 (t_X12_in r_p2 (ir_c rfl) (ir_c rfl)) rfl [] rfl rfl (Nat.le_of_ble_eq_true rfl) rfl (k_ip fun X18 r19 h20 => ?_)
      have raw_in := h20.2.2.2
      have rw23 := h20.2.2.2
      refine GO.if_eq (tgt := 38) dX12_ship_26 (by decide) r19 (fun c21 => ?_) (fun c21 => ?_)
      ·
        have q22 := h20.2.2.1 (by omega)
        refine GO.iconst dX12_ship_38 ?_
        have q23 : -2147483648 ≤ vi V x 91 ∧ vi V x 91 ≤ 2147483647 := vi_ir
        have q24 : -2147483648 ≤ vi V x 9 ∧ vi V x 9 ≤ 2147483647 := vi_ir
        have q25 : -2147483648 ≤ p0 ∧ p0 ≤ 2147483647 := r_p0
        exact GO.reti rfl rfl dX12_ship_39 ⟨rfl, _, rfl, (ir_c rfl), by omega⟩
      ·
        have q26 := h20.2.1 (by omega)
        refine GO.aload_n dX12_ship_29 rfl rfl ?_
        refine GO.getI h_x fl_RX12_612 rfl rfl dX12_ship_30 (fun l27 u28 => ?_)
        refine GO.bipush dX12_ship_33 rfl ?_
        refine GO.icmp_ne (tgt := 40) dX12_ship_35 (by decide) vi_ir (ir_c rfl) (fun c29 => ?_) (fun c29 => ?_)
        ·
          refine GO.aload_n dX12_ship_40 rfl rfl ?_
          refine GO.getA (n := 10) h_x fl_RX12_208 rfl rfl rfl rfl dX12_ship_41 (fun hv31 h30 => ?_)
          refine GO.aload_n dX12_ship_44 rfl rfl ?_
          refine GO.getI h_x fl_RX12_612 rfl rfl dX12_ship_45 (fun l32 u33 => ?_)
          refine GO.iload_n dX12_ship_48 rfl rfl ?_
          have q35 : -2147483648 ≤ p0 ∧ p0 ≤ 2147483647 := r_p0
          have q36 : -2147483648 ≤ vi V x 9 ∧ vi V x 9 ≤ 2147483647 := vi_ir
          refine GO.iast (t := 72) rfl rfl (by decide +kernel) h30 vi_ir (by omega) (by omega) r_p0 (by omega) (by omega) dX12_ship_49 (fun V37 e34 => ?_)
          refine GO.aload_n dX12_ship_50 rfl rfl ?_
          refine GO.getA (n := 10) h_x fl_RX12_211 rfl rfl rfl rfl dX12_ship_51 (fun hv39 h38 => ?_)
          refine GO.aload_n dX12_ship_54 rfl rfl ?_
          refine GO.getI h_x fl_RX12_612 rfl rfl dX12_ship_55 (fun l40 u41 => ?_)
          have e42 : vi V37 x 91 = vi V x 91 := vi_up e34 (Or.inl (K_ne h_x h30 (by decide)))
          refine GO.iload_n dX12_ship_58 rfl rfl ?_
          refine GO.iast (t := 73) rfl rfl (by decide +kernel) h38 vi_ir (by omega) (by omega) r_p1 (r_p1).1 (r_p1).2 dX12_ship_59 (fun V44 e43 => ?_)
          refine GO.aload_n dX12_ship_60 rfl rfl ?_
          refine GO.getA (n := 10) h_x fl_RX12_214 rfl rfl rfl rfl dX12_ship_61 (fun hv46 h45 => ?_)
          refine GO.aload_n dX12_ship_64 rfl rfl ?_
          refine GO.getI h_x fl_RX12_612 rfl rfl dX12_ship_65 (fun l47 u48 => ?_)
          have e49 : vi V44 x 91 = vi V37 x 91 := vi_up e43 (Or.inl (K_ne h_x h38 (by decide)))
          refine GO.iload_n dX12_ship_68 rfl rfl ?_
          refine GO.iast (t := 74) rfl rfl (by decide +kernel) h45 vi_ir (by omega) (by omega) r_p2 (r_p2).1 (r_p2).2 dX12_ship_69 (fun V51 e50 => ?_)
          refine GO.aload_n dX12_ship_70 rfl rfl ?_
          refine GO.getA (n := 10) h_x fl_RX12_226 rfl rfl rfl rfl dX12_ship_71 (fun hv53 h52 => ?_)
          refine GO.aload_n dX12_ship_74 rfl rfl ?_
          refine GO.getI h_x fl_RX12_612 rfl rfl dX12_ship_75 (fun l54 u55 => ?_)
          have e56 : vi V51 x 91 = vi V44 x 91 := vi_up e50 (Or.inl (K_ne h_x h45 (by decide)))
          refine GO.iconst dX12_ship_78 ?_
          refine GO.iast (t := 78) rfl rfl (by decide +kernel) h52 vi_ir (by omega) (by omega) (ir_c rfl) (by decide) (by decide) dX12_ship_79 (fun V58 e57 => ?_)
          refine GO.aload_n dX12_ship_80 rfl rfl ?_
          refine GO.aload_n dX12_ship_81 rfl rfl ?_
          refine GO.getI h_x fl_RX12_612 rfl rfl dX12_ship_82 (fun l59 u60 => ?_)
          have e61 : vi V58 x 91 = vi V51 x 91 := vi_up e57 (Or.inl (K_ne h_x h52 (by decide)))
          refine GO.iconst dX12_ship_85 ?_
          refine GO.iadd dX12_ship_86 ?_
          refine GO.putI h_x fp_RX12_612 rfl (by decide +kernel) ⟨by omega, by omega⟩ (by omega) (by omega) dX12_ship_87 (fun V63 e62 => ?_)
          refine GO.aload_n dX12_ship_90 rfl rfl ?_
          refine GO.getI h_x fl_RX12_612 rfl rfl dX12_ship_91 (fun l64 u65 => ?_)
          have e66 : vi V63 x 91 = (vi V58 x 91) + 1 := upd2_int e62 ⟨by omega, by omega⟩
          refine GO.iconst dX12_ship_94 ?_
          refine GO.isub dX12_ship_95 ?_
          exact GO.reti rfl rfl dX12_ship_96 ⟨rfl, _, rfl, ⟨by omega, by omega⟩, by omega⟩
        ·
          refine GO.iconst dX12_ship_38 ?_
          have q67 : -2147483648 ≤ vi V x 9 ∧ vi V x 9 ≤ 2147483647 := vi_ir
          have q68 : -2147483648 ≤ p0 ∧ p0 ≤ 2147483647 := r_p0
          exact GO.reti rfl rfl dX12_ship_39 ⟨rfl, _, rfl, (ir_c rfl), by omega⟩
