def mX12_decides : MRec := (RX12, cX12_decides, 3, (some .int), yX12_decides, 1, 22, 0, 0, 0)
def mX12_place : MRec := (RX12, cX12_place, 6, (some .int), yX12_place, 0, 0, 0, 0, 7832840973454139613947270408312428231582184375058907114421149512994188827162264201068544)
def mX12_isRectangle : MRec := (RX12, cX12_isRectangle, 3, (some .boolean), yX12_isRectangle, 1, 21, 0, 0, 0)
def mX12_isIn : MRec := (RX12, cX12_isIn, 3, (some .boolean), yX12_isIn, 1, 22, 0, 0, 0)
def mX12_strikes : MRec := (RX12, cX12_strikes, 5, (none : Option Jvm.ClassFile.FieldType), yX12_strikes, 0, 0, 0, 0, 273406340597876490546562778389702670669146178861651554553221325801244124899921990402939147127881728)
def mX12_numberBy : MRec := (RX12, cX12_numberBy, 8, (some .int), yX12_numberBy, 0, 0, 0, 0, 0)
def mX12_binds : MRec := (RX12, cX12_binds, 7, (none : Option Jvm.ClassFile.FieldType), yX12_binds, 1, 27, 0, 0, 410109510896814735819844167584554006003719268292477331829831988701866187349882985604408720691822592)
def mX12_isAsleep : MRec := (RX12, cX12_isAsleep, 3, (some .boolean), yX12_isAsleep, 2, 53, 0, 0, 410109510896814735819844167584554006003719268292477331829831988701866187349882985604408720691822592)
def mX12_claim : MRec := (RX12, cX12_claim, 5, (some .int), yX12_claim, 3, 75, 0, 0, 410109510904647576793298307198501276412031696524059516204890895816287336862877174431570984892891136)
set_option maxHeartbeats 1000000 in
theorem t_X12_decides {K : Kmap} {V : Vmap} {x : Nat} {p0 : Int} {p1 : Int} (h_x : K x = some (0, 11)) (r_p0 : ir p0) (r_p1 : ir p1) : MC mX12_decides K V [.ref x, ti p0, ti p1] (IP K V (fun X => True)) := by
  refine MC.start 0 (by decide +kernel) rfl rfl rfl (ls0 := [some (.ref x), some (ti p0), some (ti p1)]) rfl ?_
  refine GO.aload_n dX12_decides_0 rfl rfl ?_
  refine GO.iload_n dX12_decides_1 rfl rfl ?_
  refine GO.callV (ci := 11) (N := mX12_isParty) dX12_decides_2 (RX12, TX12, 151) rfl gV_RX12_406 h_x (t_X12_isParty h_x r_p0) rfl [] rfl rfl (Nat.le_of_ble_eq_true rfl) rfl (k_ip fun X1 r2 h3 => ?_)
  refine GO.if_eq (tgt := 15) dX12_decides_5 (by decide) r2 (fun c4 => ?_) (fun c4 => ?_)
  ·
    have q5 := h3.2.2 (by omega)
    refine GO.iconst dX12_decides_15 ?_
    exact GO.reti rfl rfl dX12_decides_16 ⟨rfl, rfl, _, rfl, (ir_c rfl), trivial⟩
  ·
    have q6 := h3.2.1 (by omega)
    refine GO.iload_n dX12_decides_8 rfl rfl ?_
    refine GO.callS (N := mX12_isDay) dX12_decides_9 gS_RX12_409 (t_X12_isDay r_p1) rfl [] rfl rfl (Nat.le_of_ble_eq_true rfl) rfl (k_ip fun X7 r8 h9 => ?_)
    refine GO.if_ne (tgt := 17) dX12_decides_12 (by decide) r8 (fun c10 => ?_) (fun c10 => ?_)
    ·
      have q11 := h9.2.1 (by omega)
      refine GO.aload_n dX12_decides_17 rfl rfl ?_
      refine GO.iload_n dX12_decides_18 rfl rfl ?_
      refine GO.iload_n dX12_decides_19 rfl rfl ?_
      have q12 : -2147483648 ≤ p0 ∧ p0 ≤ 2147483647 := r_p0
      have q13 : -2147483648 ≤ vi V x 9 ∧ vi V x 9 ≤ 2147483647 := vi_ir
      refine GO.callV (ci := 11) (N := mX12_decidesOn) dX12_decides_20 (RX12, TX12, 151) rfl gV_RX12_412 h_x (t_X12_decidesOn h_x r_p0 r_p1 (by omega) (by omega)) rfl [] rfl rfl (Nat.le_of_ble_eq_true rfl) rfl (k_ip fun X14 r15 h16 => ?_)
      refine GO.if_eq (tgt := 30) dX12_decides_23 (by decide) r15 (fun c17 => ?_) (fun c17 => ?_)
      ·
        refine GO.iconst dX12_decides_30 ?_
        exact GO.reti rfl rfl dX12_decides_31 ⟨rfl, rfl, _, rfl, (ir_c rfl), trivial⟩
      ·
        refine GO.iconst dX12_decides_26 ?_
        refine GO.goto (tgt := 31) dX12_decides_27 (by decide) ?_
        exact GO.reti rfl rfl dX12_decides_31 ⟨rfl, rfl, _, rfl, (ir_c rfl), trivial⟩
    ·
      refine GO.iconst dX12_decides_15 ?_
      exact GO.reti rfl rfl dX12_decides_16 ⟨rfl, rfl, _, rfl, (ir_c rfl), trivial⟩

set_option maxHeartbeats 1000000 in
theorem t_X12_place {K : Kmap} {V : Vmap} {x : Nat} {p0 : Int} {p1 : Int} {p2 : Int} {p3 : Int} {p4 : Int} (h_x : K x = some (0, 11)) (r_p0 : ir p0) (r_p1 : ir p1) (r_p2 : ir p2) (r_p3 : ir p3) (r_p4 : ir p4) (q_0 : p0 ≥ 0) (q_1 : p0 ≤ 5) (q_2 : p1 ≥ (-1)) (q_3 : p1 ≤ 8) (q_4 : p2 ≥ 0) (q_5 : p2 ≤ 143) (q_6 : p3 ≥ (-1)) (q_7 : p3 ≤ 143) (q_8 : (p0 = 0 → p1 ≥ 0)) (w_0 : PX0 V x) (v_10 : 0 ≤ vi V x 10 ∧ vi V x 10 ≤ 59) : MC mX12_place K V [.ref x, ti p0, ti p1, ti p2, ti p3, ti p4] (IS K (fun X V1 => (X ≥ (-2147483648) ∧ X ≤ 2147483647) ∧ (PX0 V1 x))) := by
  refine MC.start 0 (by decide +kernel) rfl rfl rfl (ls0 := [some (.ref x), some (ti p0), some (ti p1), some (ti p2), some (ti p3), some (ti p4)]) rfl ?_
  refine GO.useWT (fun hW1 => ?_)
  have ak2 := hW1.arr h_x 13 15 (by decide) rfl (by decide)
  have ak3 := hW1.arr h_x 14 16 (by decide) rfl (by decide)
  refine GO.aload_n dX12_place_0 rfl rfl ?_
  refine GO.getA (n := 60) h_x fl_RX12_35 rfl rfl rfl rfl dX12_place_1 (fun hv5 h4 => ?_)
  refine GO.aload_n dX12_place_4 rfl rfl ?_
  refine GO.getI h_x fl_RX12_375 rfl rfl dX12_place_5 (fun l6 u7 => ?_)
  refine GO.iload_n dX12_place_8 rfl rfl ?_
  have q9 : -2147483648 ≤ p0 ∧ p0 ≤ 2147483647 := r_p0
  refine GO.iast (t := 15) rfl rfl (by decide +kernel) h4 vi_ir (by omega) (by omega) r_p0 (by omega) (by omega) dX12_place_9 (fun V10 e8 => ?_)
  have ak11 := tk_put e8 ak2 h_x (vq_of hv5) r_p0 (rfl : ar 13 V x = ar 13 V x)
  have ak12 := tk_oth e8 ak3 h_x h4 (by decide) (by decide) (rfl : ar 14 V x = ar 14 V x)
  refine GO.aload_n dX12_place_10 rfl rfl ?_
  refine GO.getA (n := 60) h_x fl_RX12_38 rfl rfl rfl rfl dX12_place_11 (fun hv14 h13 => ?_)
  refine GO.aload_n dX12_place_14 rfl rfl ?_
  refine GO.getI h_x fl_RX12_375 rfl rfl dX12_place_15 (fun l15 u16 => ?_)
  have e17 : vi V10 x 10 = vi V x 10 := vi_up e8 (Or.inl (K_ne h_x h4 (by decide)))
  refine GO.iload_n dX12_place_18 rfl rfl ?_
  have q19 : -2147483648 ≤ p1 ∧ p1 ≤ 2147483647 := r_p1
  refine GO.iast (t := 16) rfl rfl (by decide +kernel) h13 vi_ir (by omega) (by omega) r_p1 (by omega) (by omega) dX12_place_19 (fun V20 e18 => ?_)
  have ak21 := tk_oth e18 ak11.1 h_x h13 (by decide) (by decide) ak11.2
  have ak22 := tk_put e18 ak12.1 h_x (vq_of hv14) r_p1 ak12.2
  refine GO.aload_n dX12_place_20 rfl rfl ?_
  refine GO.getA (n := 60) h_x fl_RX12_41 rfl rfl rfl rfl dX12_place_21 (fun hv24 h23 => ?_)
  refine GO.aload_n dX12_place_24 rfl rfl ?_
  refine GO.getI h_x fl_RX12_375 rfl rfl dX12_place_25 (fun l25 u26 => ?_)
  have e27 : vi V20 x 10 = vi V10 x 10 := vi_up e18 (Or.inl (K_ne h_x h13 (by decide)))
  refine GO.iload_n dX12_place_28 rfl rfl ?_
  have q29 : -2147483648 ≤ p2 ∧ p2 ≤ 2147483647 := r_p2
  refine GO.iast (t := 17) rfl rfl (by decide +kernel) h23 vi_ir (by omega) (by omega) r_p2 (by omega) (by omega) dX12_place_29 (fun V30 e28 => ?_)
  have ak31 := tk_oth e28 ak21.1 h_x h23 (by decide) (by decide) ak21.2
  have ak32 := tk_oth e28 ak22.1 h_x h23 (by decide) (by decide) ak22.2
  refine GO.aload_n dX12_place_30 rfl rfl ?_
  refine GO.getA (n := 60) h_x fl_RX12_44 rfl rfl rfl rfl dX12_place_31 (fun hv34 h33 => ?_)
  refine GO.aload_n dX12_place_34 rfl rfl ?_
  refine GO.getI h_x fl_RX12_375 rfl rfl dX12_place_35 (fun l35 u36 => ?_)
  have e37 : vi V30 x 10 = vi V20 x 10 := vi_up e28 (Or.inl (K_ne h_x h23 (by decide)))
  refine GO.iload dX12_place_38 rfl ?_
  have q39 : -2147483648 ≤ p3 ∧ p3 ≤ 2147483647 := r_p3
  refine GO.iast (t := 18) rfl rfl (by decide +kernel) h33 vi_ir (by omega) (by omega) r_p3 (by omega) (by omega) dX12_place_40 (fun V40 e38 => ?_)
  have ak41 := tk_oth e38 ak31.1 h_x h33 (by decide) (by decide) ak31.2
  have ak42 := tk_oth e38 ak32.1 h_x h33 (by decide) (by decide) ak32.2
  refine GO.aload_n dX12_place_41 rfl rfl ?_
  refine GO.getA (n := 60) h_x fl_RX12_47 rfl rfl rfl rfl dX12_place_42 (fun hv44 h43 => ?_)
  refine GO.aload_n dX12_place_45 rfl rfl ?_
  refine GO.getI h_x fl_RX12_375 rfl rfl dX12_place_46 (fun l45 u46 => ?_)
  have e47 : vi V40 x 10 = vi V30 x 10 := vi_up e38 (Or.inl (K_ne h_x h33 (by decide)))
  refine GO.iload dX12_place_49 rfl ?_
  refine GO.iast (t := 19) rfl rfl (by decide +kernel) h43 vi_ir (by omega) (by omega) r_p4 (r_p4).1 (r_p4).2 dX12_place_51 (fun V49 e48 => ?_)
  have ak50 := tk_oth e48 ak41.1 h_x h43 (by decide) (by decide) ak41.2
  have ak51 := tk_oth e48 ak42.1 h_x h43 (by decide) (by decide) ak42.2
  refine GO.aload_n dX12_place_52 rfl rfl ?_
  refine GO.getA (n := 60) h_x fl_RX12_50 rfl rfl rfl rfl dX12_place_53 (fun hv53 h52 => ?_)
  refine GO.aload_n dX12_place_56 rfl rfl ?_
  refine GO.getI h_x fl_RX12_375 rfl rfl dX12_place_57 (fun l54 u55 => ?_)
  have e56 : vi V49 x 10 = vi V40 x 10 := vi_up e48 (Or.inl (K_ne h_x h43 (by decide)))
  refine GO.aload_n dX12_place_60 rfl rfl ?_
  refine GO.getI h_x fl_RX12_396 rfl rfl dX12_place_61 (fun l57 u58 => ?_)
  refine GO.iast (t := 20) rfl rfl (by decide +kernel) h52 vi_ir (by omega) (by omega) vi_ir (vi_ir).1 (vi_ir).2 dX12_place_64 (fun V65 e64 => ?_)
  have ak66 := tk_oth e64 ak50.1 h_x h52 (by decide) (by decide) ak50.2
  have ak67 := tk_oth e64 ak51.1 h_x h52 (by decide) (by decide) ak51.2
  refine GO.aload_n dX12_place_65 rfl rfl ?_
  refine GO.aload_n dX12_place_66 rfl rfl ?_
  refine GO.getI h_x fl_RX12_375 rfl rfl dX12_place_67 (fun l68 u69 => ?_)
  have e70 : vi V65 x 10 = vi V49 x 10 := vi_up e64 (Or.inl (K_ne h_x h52 (by decide)))
  refine GO.iconst dX12_place_70 ?_
  refine GO.iadd dX12_place_71 ?_
  refine GO.putI h_x fp_RX12_375 rfl (by decide +kernel) ⟨by omega, by omega⟩ (by omega) (by omega) dX12_place_72 (fun V72 e71 => ?_)
  have ak73 := tk_fld e71 ak66.1 h_x (by decide) ak66.2
  have ak74 := tk_fld e71 ak67.1 h_x (by decide) ak67.2
  refine GO.aload_n dX12_place_75 rfl rfl ?_
  refine GO.getI h_x fl_RX12_375 rfl rfl dX12_place_76 (fun l75 u76 => ?_)
  have e77 : vi V72 x 10 = (vi V65 x 10) + 1 := upd2_int e71 ⟨by omega, by omega⟩
  refine GO.iconst dX12_place_79 ?_
  refine GO.isub dX12_place_80 ?_
  exact GO.reti rfl rfl dX12_place_81 ⟨rfl, _, rfl, ⟨by omega, by omega⟩, ⟨by omega, (by first | exact PX0.step w_0 (by omega) ak73.2 ak74.2 (by omega) (by omega) (by omega))⟩⟩

set_option maxHeartbeats 1000000 in
theorem t_X12_isRectangle {K : Kmap} {V : Vmap} {x : Nat} {p0 : Int} {p1 : Int} (h_x : K x = some (0, 11)) (r_p0 : ir p0) (r_p1 : ir p1) : MC mX12_isRectangle K V [.ref x, ti p0, ti p1] (IP K V (fun X => (X = 0 ∨ X = 1) ∧ (X ≠ 0 → p0 ≥ 0 ∧ p0 ≤ 143 ∧ p1 ≥ 0 ∧ p1 ≤ 143) ∧ (X = 0 → True))) := by
  refine MC.start 0 (by decide +kernel) rfl rfl rfl (ls0 := [some (.ref x), some (ti p0), some (ti p1)]) rfl ?_
  refine GO.aload_n dX12_isRectangle_0 rfl rfl ?_
  refine GO.iload_n dX12_isRectangle_1 rfl rfl ?_
  refine GO.callV (ci := 11) (N := mX12_isCell) dX12_isRectangle_2 (RX12, TX12, 151) rfl gV_RX12_381 h_x (t_X12_isCell h_x r_p0) rfl [] rfl rfl (Nat.le_of_ble_eq_true rfl) rfl (k_ip fun X1 r2 h3 => ?_)
  refine GO.if_eq (tgt := 50) dX12_isRectangle_5 (by decide) r2 (fun c4 => ?_) (fun c4 => ?_)
  ·
    refine GO.iconst dX12_isRectangle_50 ?_
    exact GO.retz rfl rfl dX12_isRectangle_51 (by omega) ⟨rfl, rfl, _, rfl, (ir_c rfl), ⟨by omega, fun h => by omega, fun _ => trivial⟩⟩
  ·
    have q5 := h3.2.1 (by omega)
    refine GO.aload_n dX12_isRectangle_8 rfl rfl ?_
    refine GO.iload_n dX12_isRectangle_9 rfl rfl ?_
    refine GO.callV (ci := 11) (N := mX12_isCell) dX12_isRectangle_10 (RX12, TX12, 151) rfl gV_RX12_381 h_x (t_X12_isCell h_x r_p1) rfl [] rfl rfl (Nat.le_of_ble_eq_true rfl) rfl (k_ip fun X6 r7 h8 => ?_)
    refine GO.if_eq (tgt := 50) dX12_isRectangle_13 (by decide) r7 (fun c9 => ?_) (fun c9 => ?_)
    ·
      refine GO.iconst dX12_isRectangle_50 ?_
      exact GO.retz rfl rfl dX12_isRectangle_51 (by omega) ⟨rfl, rfl, _, rfl, (ir_c rfl), ⟨by omega, fun h => by omega, fun _ => trivial⟩⟩
    ·
      have q10 := h8.2.1 (by omega)
      refine GO.iload_n dX12_isRectangle_16 rfl rfl ?_
      refine GO.aload_n dX12_isRectangle_17 rfl rfl ?_
      refine GO.getI h_x fl_RX12_365 rfl rfl dX12_isRectangle_18 (fun l11 u12 => ?_)
      have q13 : -2147483648 ≤ p0 ∧ p0 ≤ 2147483647 := r_p0
      refine GO.iremP dX12_isRectangle_21 r_p0 vi_ir (by omega) (by omega) ?_
      have m14 := rem_rng (a := p0) (b := vi V x 0) (by omega)
      refine GO.iload_n dX12_isRectangle_22 rfl rfl ?_
      refine GO.aload_n dX12_isRectangle_23 rfl rfl ?_
      refine GO.getI h_x fl_RX12_365 rfl rfl dX12_isRectangle_24 (fun l15 u16 => ?_)
      have q17 : -2147483648 ≤ p1 ∧ p1 ≤ 2147483647 := r_p1
      refine GO.iremP dX12_isRectangle_27 r_p1 vi_ir (by omega) (by omega) ?_
      have m18 := rem_rng (a := p1) (b := vi V x 0) (by omega)
      refine GO.icmp_gt (tgt := 50) dX12_isRectangle_28 (by decide) ⟨by omega, by omega⟩ ⟨by omega, by omega⟩ (fun c19 => ?_) (fun c19 => ?_)
      ·
        refine GO.iconst dX12_isRectangle_50 ?_
        exact GO.retz rfl rfl dX12_isRectangle_51 (by omega) ⟨rfl, rfl, _, rfl, (ir_c rfl), ⟨by omega, fun h => by omega, fun _ => trivial⟩⟩
      ·
        refine GO.iload_n dX12_isRectangle_31 rfl rfl ?_
        refine GO.aload_n dX12_isRectangle_32 rfl rfl ?_
        refine GO.getI h_x fl_RX12_365 rfl rfl dX12_isRectangle_33 (fun l20 u21 => ?_)
        refine GO.idivP dX12_isRectangle_36 r_p0 vi_ir (by omega) (by omega) ?_
        have m22 := div_rng (a := p0) (b := vi V x 0) (by omega) (by omega)
        refine GO.iload_n dX12_isRectangle_37 rfl rfl ?_
        refine GO.aload_n dX12_isRectangle_38 rfl rfl ?_
        refine GO.getI h_x fl_RX12_365 rfl rfl dX12_isRectangle_39 (fun l23 u24 => ?_)
        refine GO.idivP dX12_isRectangle_42 r_p1 vi_ir (by omega) (by omega) ?_
        have m25 := div_rng (a := p1) (b := vi V x 0) (by omega) (by omega)
        refine GO.icmp_gt (tgt := 50) dX12_isRectangle_43 (by decide) ⟨by omega, by omega⟩ ⟨by omega, by omega⟩ (fun c26 => ?_) (fun c26 => ?_)
        ·
          refine GO.iconst dX12_isRectangle_50 ?_
          exact GO.retz rfl rfl dX12_isRectangle_51 (by omega) ⟨rfl, rfl, _, rfl, (ir_c rfl), ⟨by omega, fun h => by omega, fun _ => trivial⟩⟩
        ·
          refine GO.iconst dX12_isRectangle_46 ?_
          refine GO.goto (tgt := 51) dX12_isRectangle_47 (by decide) ?_
          exact GO.retz rfl rfl dX12_isRectangle_51 (by omega) ⟨rfl, rfl, _, rfl, (ir_c rfl), ⟨by omega, fun h => by omega, fun _ => trivial⟩⟩

set_option maxHeartbeats 1000000 in
theorem t_X12_isIn {K : Kmap} {V : Vmap} {x : Nat} {p0 : Int} {p1 : Int} (h_x : K x = some (0, 11)) (r_p0 : ir p0) (r_p1 : ir p1) (q_0 : p0 ≥ 0) (q_1 : p0 ≤ 143) (q_2 : p1 ≥ 0) (q_3 : p1 ≤ 59) : MC mX12_isIn K V [.ref x, ti p0, ti p1] (IP K V (fun X => (X = 0 ∨ X = 1) ∧ (X ≠ 0 → True) ∧ (X = 0 → True))) := by
  refine MC.start 0 (by decide +kernel) rfl rfl rfl (ls0 := [some (.ref x), some (ti p0), some (ti p1)]) rfl ?_
  refine GO.iload_n dX12_isIn_0 rfl rfl ?_
  refine GO.aload_n dX12_isIn_1 rfl rfl ?_
  refine GO.getI h_x fl_RX12_365 rfl rfl dX12_isIn_2 (fun l1 u2 => ?_)
  have q3 : -2147483648 ≤ p0 ∧ p0 ≤ 2147483647 := r_p0
  refine GO.iremP dX12_isIn_5 r_p0 vi_ir (by omega) (by omega) ?_
  have m4 := rem_rng (a := p0) (b := vi V x 0) (by omega)
  refine GO.aload_n dX12_isIn_6 rfl rfl ?_
  refine GO.getA (n := 60) h_x fl_RX12_41 rfl rfl rfl rfl dX12_isIn_7 (fun hv6 h5 => ?_)
  refine GO.iload_n dX12_isIn_10 rfl rfl ?_
  have q7 : -2147483648 ≤ p1 ∧ p1 ≤ 2147483647 := r_p1
  refine GO.iald (t := 17) rfl rfl h5 r_p1 (by omega) (by omega) dX12_isIn_11 (fun l8 u9 => ?_)
  refine GO.aload_n dX12_isIn_12 rfl rfl ?_
  refine GO.getI h_x fl_RX12_365 rfl rfl dX12_isIn_13 (fun l10 u11 => ?_)
  refine GO.iremP dX12_isIn_16 vi_ir vi_ir (by omega) (by omega) ?_
  have m12 := rem_rng (a := vi V (vq V x 15) (p1).toNat) (b := vi V x 0) (by omega)
  refine GO.aload_n dX12_isIn_17 rfl rfl ?_
  refine GO.getA (n := 60) h_x fl_RX12_44 rfl rfl rfl rfl dX12_isIn_18 (fun hv14 h13 => ?_)
  refine GO.iload_n dX12_isIn_21 rfl rfl ?_
  refine GO.iald (t := 18) rfl rfl h13 r_p1 (by omega) (by omega) dX12_isIn_22 (fun l15 u16 => ?_)
  refine GO.aload_n dX12_isIn_23 rfl rfl ?_
  refine GO.getI h_x fl_RX12_365 rfl rfl dX12_isIn_24 (fun l17 u18 => ?_)
  refine GO.irem dX12_isIn_27 vi_ir (by omega) ?_
  refine GO.callS (N := mX12_in) dX12_isIn_28 gS_RX12_371 (t_X12_in ⟨by omega, by omega⟩ ⟨by omega, by omega⟩ wrem_ir) rfl [] rfl rfl (Nat.le_of_ble_eq_true rfl) rfl (k_ip fun X19 r20 h21 => ?_)
  refine GO.if_eq (tgt := 72) dX12_isIn_31 (by decide) r20 (fun c22 => ?_) (fun c22 => ?_)
  ·
    have q23 := h21.2.2 (by omega)
    refine GO.iconst dX12_isIn_72 ?_
    exact GO.retz rfl rfl dX12_isIn_73 (by omega) ⟨rfl, rfl, _, rfl, (ir_c rfl), ⟨by omega, fun _ => trivial, fun _ => trivial⟩⟩
  ·
    have q24 := h21.2.1 (by omega)
    refine GO.iload_n dX12_isIn_34 rfl rfl ?_
    refine GO.aload_n dX12_isIn_35 rfl rfl ?_
    refine GO.getI h_x fl_RX12_365 rfl rfl dX12_isIn_36 (fun l25 u26 => ?_)
    have q27 : -2147483648 ≤ wrem (vi V (vq V x 16) (p1).toNat) (vi V x 0) ∧ wrem (vi V (vq V x 16) (p1).toNat) (vi V x 0) ≤ 2147483647 := wrem_ir
    refine GO.idivP dX12_isIn_39 r_p0 vi_ir (by omega) (by omega) ?_
    have m28 := div_rng (a := p0) (b := vi V x 0) (by omega) (by omega)
    refine GO.aload_n dX12_isIn_40 rfl rfl ?_
    refine GO.getRaw h_x fl_RX12_41 hv6 dX12_isIn_41 ?_
    refine GO.iload_n dX12_isIn_44 rfl rfl ?_
    refine GO.iald (t := 17) rfl rfl h5 r_p1 (by omega) (by omega) dX12_isIn_45 (fun l31 u32 => ?_)
    refine GO.aload_n dX12_isIn_46 rfl rfl ?_
    refine GO.getI h_x fl_RX12_365 rfl rfl dX12_isIn_47 (fun l33 u34 => ?_)
    refine GO.idivP dX12_isIn_50 vi_ir vi_ir (by omega) (by omega) ?_
    have m35 := div_rng (a := vi V (vq V x 15) (p1).toNat) (b := vi V x 0) (by omega) (by omega)
    refine GO.aload_n dX12_isIn_51 rfl rfl ?_
    refine GO.getRaw h_x fl_RX12_44 hv14 dX12_isIn_52 ?_
    refine GO.iload_n dX12_isIn_55 rfl rfl ?_
    refine GO.iald (t := 18) rfl rfl h13 r_p1 (by omega) (by omega) dX12_isIn_56 (fun l38 u39 => ?_)
    refine GO.aload_n dX12_isIn_57 rfl rfl ?_
    refine GO.getI h_x fl_RX12_365 rfl rfl dX12_isIn_58 (fun l40 u41 => ?_)
    refine GO.idiv dX12_isIn_61 vi_ir (by omega) ?_
    refine GO.callS (N := mX12_in) dX12_isIn_62 gS_RX12_371 (t_X12_in ⟨by omega, by omega⟩ ⟨by omega, by omega⟩ wdiv_ir) rfl [] rfl rfl (Nat.le_of_ble_eq_true rfl) rfl (k_ip fun X42 r43 h44 => ?_)
    refine GO.if_eq (tgt := 72) dX12_isIn_65 (by decide) r43 (fun c45 => ?_) (fun c45 => ?_)
    ·
      have q46 := h44.2.2 (by omega)
      refine GO.iconst dX12_isIn_72 ?_
      exact GO.retz rfl rfl dX12_isIn_73 (by omega) ⟨rfl, rfl, _, rfl, (ir_c rfl), ⟨by omega, fun _ => trivial, fun _ => trivial⟩⟩
    ·
      have q47 := h44.2.1 (by omega)
      refine GO.iconst dX12_isIn_68 ?_
      refine GO.goto (tgt := 73) dX12_isIn_69 (by decide) ?_
      exact GO.retz rfl rfl dX12_isIn_73 (by omega) ⟨rfl, rfl, _, rfl, (ir_c rfl), ⟨by omega, fun _ => trivial, fun _ => trivial⟩⟩

set_option maxHeartbeats 1000000 in
theorem t_X12_strikes {K : Kmap} {V : Vmap} {x : Nat} {p0 : Int} (h_x : K x = some (0, 11)) (r_p0 : ir p0) (q_0 : p0 ≥ 0) (q_1 : p0 ≤ 20) : MC mX12_strikes K V [.ref x, ti p0] (VS K (fun V1 => (True))) := by
  refine MC.start 3 (by decide +kernel) rfl rfl rfl (ls0 := [some (.ref x), some (ti p0), none, none, none]) rfl ?_
  refine GO.iconst dX12_strikes_0 ?_
  refine GO.istore_n (ls1 := [some (.ref x), some (ti p0), some (ti 0), none, none]) dX12_strikes_1 rfl rfl rfl ?_
  refine GO.loop1 (fun i1 W => 0 ≤ i1 ∧ i1 ≤ 240 ∧ True) (fun i1 => [some (.ref x), some (ti p0), some (ti i1), none, none]) (fun i1 W => (2147483647 - i1).toNat) 0 ⟨by omega, by omega, trivial⟩ rfl (fun i1 Wi1 hp1612 ih1611 => ?_)
  obtain ⟨l_i1, u_i1, -⟩ := hp1612
  have r_i1 : ir i1 := ⟨by omega, by omega⟩
  show GO mX12_strikes K V (VS K (fun V1 => (True))) K Wi1 0 0 2 [some (.ref x), some (ti p0), some (ti i1), none, none] []
  refine GO.iload_n dX12_strikes_2 rfl rfl ?_
  refine GO.bipush dX12_strikes_3 rfl ?_
  refine GO.iload_n dX12_strikes_5 rfl rfl ?_
  refine GO.imul dX12_strikes_6 ?_
  have q1613 : -2147483648 ≤ p0 ∧ p0 ≤ 2147483647 := r_p0
  refine GO.icmp_ge (tgt := 23) dX12_strikes_7 (by decide) r_i1 ⟨by omega, by omega⟩ (fun c1614 => ?_) (fun c1614 => ?_)
  ·
    refine GO.iload_n dX12_strikes_23 rfl rfl ?_
    refine GO.iconst dX12_strikes_24 ?_
    refine GO.isub dX12_strikes_25 ?_
    refine GO.name (fun z1615 hz1616 => ?_)
    refine GO.istore_n (ls1 := [some (.ref x), some (ti p0), some (ti z1615), none, none]) dX12_strikes_26 rfl rfl rfl ?_
    refine GO.loop1 (fun i1617 W => (-1) ≤ i1617 ∧ i1617 ≤ 19 ∧ True) (fun i1617 => [some (.ref x), some (ti p0), some (ti i1617), none, none]) (fun i1617 W => (i1617 + 2147483648).toNat) z1615 ⟨by omega, by omega, trivial⟩ rfl (fun i1617 Wi1617 hp1993 ih1992 => ?_)
    obtain ⟨l_i1617, u_i1617, -⟩ := hp1993
    have r_i1617 : ir i1617 := ⟨by omega, by omega⟩
    show GO mX12_strikes K V (VS K (fun V1 => (True))) K Wi1617 0 0 27 [some (.ref x), some (ti p0), some (ti i1617), none, none] []
    refine GO.iload_n dX12_strikes_27 rfl rfl ?_
    refine GO.if_lt (tgt := 129) dX12_strikes_28 (by decide) r_i1617 (fun c1994 => ?_) (fun c1994 => ?_)
    ·
      exact GO.retv rfl rfl dX12_strikes_129 ⟨rfl, rfl, trivial⟩
    ·
      refine GO.iconst dX12_strikes_31 ?_
      refine GO.istore_n (ls1 := [some (.ref x), some (ti p0), some (ti i1617), some (ti 0), none]) dX12_strikes_32 rfl rfl rfl ?_
      refine GO.loop1 (fun i1995 W => 0 ≤ i1995 ∧ i1995 ≤ 12 ∧ True) (fun i1995 => [some (.ref x), some (ti p0), some (ti i1617), some (ti i1995), none]) (fun i1995 W => (2147483647 - i1995).toNat) 0 ⟨by omega, by omega, trivial⟩ rfl (fun i1995 Wi1995 hp2330 ih2329 => ?_)
      obtain ⟨l_i1995, u_i1995, -⟩ := hp2330
      have r_i1995 : ir i1995 := ⟨by omega, by omega⟩
      show GO mX12_strikes K V (VS K (fun V1 => (True))) K Wi1995 0 0 33 [some (.ref x), some (ti p0), some (ti i1617), some (ti i1995), none] []
      refine GO.iload_n dX12_strikes_33 rfl rfl ?_
      refine GO.aload_n dX12_strikes_34 rfl rfl ?_
      refine GO.getA (n := 20) h_x fl_RX12_115 rfl rfl rfl rfl dX12_strikes_35 (fun hv2332 h2331 => ?_)
      refine GO.iload_n dX12_strikes_38 rfl rfl ?_
      refine GO.iald (t := 41) rfl rfl h2331 r_i1617 (by omega) (by omega) dX12_strikes_39 (fun l2333 u2334 => ?_)
      refine GO.icmp_ge (tgt := 123) dX12_strikes_40 (by decide) r_i1995 vi_ir (fun c2335 => ?_) (fun c2335 => ?_)
      ·
        refine GO.iinc (X := i1617) (n := (-1)) (Y := i1617 + (-1)) (ls1 := [some (.ref x), some (ti p0), some (ti (i1617 + (-1))), some (ti i1995), none]) dX12_strikes_123 rfl rfl rfl rfl ?_
        refine GO.goto (tgt := 27) dX12_strikes_126 (by decide) ?_
        refine GO.drop [true, true, true, false, true] rfl ?_
        exact ih1992 (i1617 + (-1)) Wi1995 ⟨by omega, by omega, trivial⟩ (by show ((i1617 + (-1)) + 2147483648).toNat < (i1617 + 2147483648).toNat; omega)
      ·
        refine GO.aload_n dX12_strikes_43 rfl rfl ?_
        refine GO.getA (n := 20) h_x fl_RX12_157 rfl rfl rfl rfl dX12_strikes_44 (fun hv2337 h2336 => ?_)
        refine GO.iload_n dX12_strikes_47 rfl rfl ?_
        refine GO.zald (t := 55) rfl rfl h2336 r_i1617 (by omega) (by omega) dX12_strikes_48 (fun l2338 u2339 => ?_)
        refine GO.if_eq (tgt := 123) dX12_strikes_49 (by decide) vi_ir (fun c2340 => ?_) (fun c2340 => ?_)
        ·
          refine GO.iinc (X := i1617) (n := (-1)) (Y := i1617 + (-1)) (ls1 := [some (.ref x), some (ti p0), some (ti (i1617 + (-1))), some (ti i1995), none]) dX12_strikes_123 rfl rfl rfl rfl ?_
          refine GO.goto (tgt := 27) dX12_strikes_126 (by decide) ?_
          refine GO.drop [true, true, true, false, true] rfl ?_
          exact ih1992 (i1617 + (-1)) Wi1995 ⟨by omega, by omega, trivial⟩ (by show ((i1617 + (-1)) + 2147483648).toNat < (i1617 + 2147483648).toNat; omega)
        ·
          refine GO.bipush dX12_strikes_52 rfl ?_
          refine GO.iload_n dX12_strikes_54 rfl rfl ?_
          refine GO.imul dX12_strikes_55 ?_
          refine GO.iload_n dX12_strikes_56 rfl rfl ?_
          refine GO.iadd dX12_strikes_57 ?_
          refine GO.name (fun z2341 hz2342 => ?_)
          refine GO.istore (ls1 := [some (.ref x), some (ti p0), some (ti i1617), some (ti i1995), some (ti z2341)]) dX12_strikes_58 rfl rfl ?_
          refine GO.aload_n dX12_strikes_60 rfl rfl ?_
          refine GO.getA (n := 240) h_x fl_RX12_124 rfl rfl rfl rfl dX12_strikes_61 (fun hv2344 h2343 => ?_)
          refine GO.iload dX12_strikes_64 rfl ?_
          refine GO.iald (t := 44) rfl rfl h2343 ⟨by omega, by omega⟩ (by omega) (by omega) dX12_strikes_66 (fun _ _ => ?_)
          refine GO.bipush dX12_strikes_67 rfl ?_
          refine GO.icmp_ne (tgt := 117) dX12_strikes_69 (by decide) vi_ir (ir_c rfl) (fun c2345 => ?_) (fun c2345 => ?_)
          ·
            refine GO.iinc (X := i1995) (n := 1) (Y := i1995 + 1) (ls1 := [some (.ref x), some (ti p0), some (ti i1617), some (ti (i1995 + 1)), some (ti z2341)]) dX12_strikes_117 rfl rfl rfl rfl ?_
            refine GO.goto (tgt := 33) dX12_strikes_120 (by decide) ?_
            refine GO.drop [true, true, true, true, false] rfl ?_
            exact ih2329 (i1995 + 1) Wi1995 ⟨by omega, by omega, trivial⟩ (by show (2147483647 - (i1995 + 1)).toNat < (2147483647 - i1995).toNat; omega)
          ·
            refine GO.aload_n dX12_strikes_72 rfl rfl ?_
            refine GO.getA (n := 240) h_x fl_RX12_160 rfl rfl rfl rfl dX12_strikes_73 (fun hv2347 h2346 => ?_)
            refine GO.iload dX12_strikes_76 rfl ?_
            refine GO.zald (t := 56) rfl rfl h2346 ⟨by omega, by omega⟩ (by omega) (by omega) dX12_strikes_78 (fun l2348 u2349 => ?_)
            refine GO.if_ne (tgt := 117) dX12_strikes_79 (by decide) vi_ir (fun c2350 => ?_) (fun c2350 => ?_)
            ·
              refine GO.iinc (X := i1995) (n := 1) (Y := i1995 + 1) (ls1 := [some (.ref x), some (ti p0), some (ti i1617), some (ti (i1995 + 1)), some (ti z2341)]) dX12_strikes_117 rfl rfl rfl rfl ?_
              refine GO.goto (tgt := 33) dX12_strikes_120 (by decide) ?_
              refine GO.drop [true, true, true, true, false] rfl ?_
              exact ih2329 (i1995 + 1) Wi1995 ⟨by omega, by omega, trivial⟩ (by show (2147483647 - (i1995 + 1)).toNat < (2147483647 - i1995).toNat; omega)
            ·
              refine GO.aload_n dX12_strikes_82 rfl rfl ?_
              refine GO.getA (n := 240) h_x fl_RX12_136 rfl rfl rfl rfl dX12_strikes_83 (fun hv2352 h2351 => ?_)
              refine GO.iload dX12_strikes_86 rfl ?_
              refine GO.iald (t := 48) rfl rfl h2351 ⟨by omega, by omega⟩ (by omega) (by omega) dX12_strikes_88 (fun l2353 u2354 => ?_)
              refine GO.iload_n dX12_strikes_89 rfl rfl ?_
              refine GO.icmp_ge (tgt := 117) dX12_strikes_90 (by decide) vi_ir r_i1617 (fun c2355 => ?_) (fun c2355 => ?_)
              ·
                refine GO.iinc (X := i1995) (n := 1) (Y := i1995 + 1) (ls1 := [some (.ref x), some (ti p0), some (ti i1617), some (ti (i1995 + 1)), some (ti z2341)]) dX12_strikes_117 rfl rfl rfl rfl ?_
                refine GO.goto (tgt := 33) dX12_strikes_120 (by decide) ?_
                refine GO.drop [true, true, true, true, false] rfl ?_
                exact ih2329 (i1995 + 1) Wi1995 ⟨by omega, by omega, trivial⟩ (by show (2147483647 - (i1995 + 1)).toNat < (2147483647 - i1995).toNat; omega)
              ·
                refine GO.aload_n dX12_strikes_93 rfl rfl ?_
                refine GO.getRaw h_x fl_RX12_160 hv2347 dX12_strikes_94 ?_
                refine GO.bipush dX12_strikes_97 rfl ?_
                refine GO.aload_n dX12_strikes_99 rfl rfl ?_
                refine GO.getRaw h_x fl_RX12_136 hv2352 dX12_strikes_100 ?_
                refine GO.iload dX12_strikes_103 rfl ?_
                refine GO.iald (t := 48) rfl rfl h2351 ⟨by omega, by omega⟩ (by omega) (by omega) dX12_strikes_105 (fun l2360 u2361 => ?_)
                refine GO.imul dX12_strikes_106 ?_
                refine GO.aload_n dX12_strikes_107 rfl rfl ?_
                refine GO.getA (n := 240) h_x fl_RX12_139 rfl rfl rfl rfl dX12_strikes_108 (fun hv2363 h2362 => ?_)
                refine GO.iload dX12_strikes_111 rfl ?_
                refine GO.iald (t := 49) rfl rfl h2362 ⟨by omega, by omega⟩ (by omega) (by omega) dX12_strikes_113 (fun l2364 u2365 => ?_)
                refine GO.iadd dX12_strikes_114 ?_
                refine GO.iconst dX12_strikes_115 ?_
                refine GO.zast (t := 56) rfl rfl (by decide +kernel) h2346 ⟨by omega, by omega⟩ (by omega) (by omega) (by omega) (by omega) (by omega) dX12_strikes_116 (fun V2367 e2366 => ?_)
                refine GO.iinc (X := i1995) (n := 1) (Y := i1995 + 1) (ls1 := [some (.ref x), some (ti p0), some (ti i1617), some (ti (i1995 + 1)), some (ti z2341)]) dX12_strikes_117 rfl rfl rfl rfl ?_
                refine GO.goto (tgt := 33) dX12_strikes_120 (by decide) ?_
                refine GO.drop [true, true, true, true, false] rfl ?_
                exact ih2329 (i1995 + 1) V2367 ⟨by omega, by omega, trivial⟩ (by show (2147483647 - (i1995 + 1)).toNat < (2147483647 - i1995).toNat; omega)
  ·
    refine GO.aload_n dX12_strikes_10 rfl rfl ?_
    refine GO.getA (n := 240) h_x fl_RX12_160 rfl rfl rfl rfl dX12_strikes_11 (fun hv2369 h2368 => ?_)
    refine GO.iload_n dX12_strikes_14 rfl rfl ?_
    refine GO.iconst dX12_strikes_15 ?_
    refine GO.zast (t := 56) rfl rfl (by decide +kernel) h2368 r_i1 (by omega) (by omega) (by omega) (by omega) (by omega) dX12_strikes_16 (fun V2371 e2370 => ?_)
    refine GO.iinc (X := i1) (n := 1) (Y := i1 + 1) (ls1 := [some (.ref x), some (ti p0), some (ti (i1 + 1)), none, none]) dX12_strikes_17 rfl rfl rfl rfl ?_
    refine GO.goto (tgt := 2) dX12_strikes_20 (by decide) ?_
    exact ih1611 (i1 + 1) V2371 ⟨by omega, by omega, trivial⟩ (by show (2147483647 - (i1 + 1)).toNat < (2147483647 - i1).toNat; omega)

set_option maxHeartbeats 1000000 in
theorem t_X12_numberBy {K : Kmap} {V : Vmap} {x : Nat} {p0 : Int} {p1 : Int} {p2 : Int} {p3 : Int} (h_x : K x = some (0, 11)) (r_p0 : ir p0) (r_p1 : ir p1) (r_p2 : ir p2) (r_p3 : ir p3) (q_0 : p3 ≥ 0) (q_1 : p3 ≤ 20) : MC mX12_numberBy K V [.ref x, ti p0, ti p1, ti p2, ti p3] (IP K V (fun X => True)) := by
  refine MC.start 3 (by decide +kernel) rfl rfl rfl (ls0 := [some (.ref x), some (ti p0), some (ti p1), some (ti p2), some (ti p3), none, none, none]) rfl ?_
  refine GO.iload dX12_numberBy_0 rfl ?_
  refine GO.iconst dX12_numberBy_2 ?_
  refine GO.isub dX12_numberBy_3 ?_
  refine GO.name (fun z1 hz2 => ?_)
  refine GO.istore (ls1 := [some (.ref x), some (ti p0), some (ti p1), some (ti p2), some (ti p3), some (ti z1), none, none]) dX12_numberBy_4 rfl rfl ?_
  have q74 : -2147483648 ≤ p3 ∧ p3 ≤ 2147483647 := r_p3
  refine GO.loop1 (fun i3 W => (-1) ≤ i3 ∧ i3 ≤ 19 ∧ V = W) (fun i3 => [some (.ref x), some (ti p0), some (ti p1), some (ti p2), some (ti p3), some (ti i3), none, none]) (fun i3 W => (i3 + 2147483648).toNat) z1 ⟨by omega, by omega, rfl⟩ rfl (fun i3 V73 hp76 ih75 => ?_)
  obtain ⟨l_i3, u_i3, rfl⟩ := hp76
  have r_i3 : ir i3 := ⟨by omega, by omega⟩
  show GO mX12_numberBy K V (IP K V (fun X => True)) K V 0 0 6 [some (.ref x), some (ti p0), some (ti p1), some (ti p2), some (ti p3), some (ti i3), none, none] []
  refine GO.iload dX12_numberBy_6 rfl ?_
  refine GO.if_lt (tgt := 110) dX12_numberBy_8 (by decide) r_i3 (fun c77 => ?_) (fun c77 => ?_)
  ·
    refine GO.iconst dX12_numberBy_110 ?_
    exact GO.reti rfl rfl dX12_numberBy_111 ⟨rfl, rfl, _, rfl, (ir_c rfl), trivial⟩
  ·
    refine GO.aload_n dX12_numberBy_11 rfl rfl ?_
    refine GO.getA (n := 20) h_x fl_RX12_115 rfl rfl rfl rfl dX12_numberBy_12 (fun hv79 h78 => ?_)
    refine GO.iload dX12_numberBy_15 rfl ?_
    refine GO.iald (t := 41) rfl rfl h78 r_i3 (by omega) (by omega) dX12_numberBy_17 (fun l80 u81 => ?_)
    refine GO.iconst dX12_numberBy_18 ?_
    refine GO.isub dX12_numberBy_19 ?_
    refine GO.name (fun z82 hz83 => ?_)
    refine GO.istore (ls1 := [some (.ref x), some (ti p0), some (ti p1), some (ti p2), some (ti p3), some (ti i3), some (ti z82), none]) dX12_numberBy_20 rfl rfl ?_
    refine GO.loop1 (fun i84 W => (-1) ≤ i84 ∧ i84 ≤ 11 ∧ V = W) (fun i84 => [some (.ref x), some (ti p0), some (ti p1), some (ti p2), some (ti p3), some (ti i3), some (ti i84), none]) (fun i84 W => (i84 + 2147483648).toNat) z82 ⟨by omega, by omega, rfl⟩ rfl (fun i84 V114 hp116 ih115 => ?_)
    obtain ⟨l_i84, u_i84, rfl⟩ := hp116
    have r_i84 : ir i84 := ⟨by omega, by omega⟩
    show GO mX12_numberBy K V (IP K V (fun X => True)) K V 0 0 22 [some (.ref x), some (ti p0), some (ti p1), some (ti p2), some (ti p3), some (ti i3), some (ti i84), none] []
    refine GO.iload dX12_numberBy_22 rfl ?_
    refine GO.if_lt (tgt := 104) dX12_numberBy_24 (by decide) r_i84 (fun c117 => ?_) (fun c117 => ?_)
    ·
      refine GO.iinc (X := i3) (n := (-1)) (Y := i3 + (-1)) (ls1 := [some (.ref x), some (ti p0), some (ti p1), some (ti p2), some (ti p3), some (ti (i3 + (-1))), some (ti i84), none]) dX12_numberBy_104 rfl rfl rfl rfl ?_
      refine GO.goto (tgt := 6) dX12_numberBy_107 (by decide) ?_
      refine GO.drop [true, true, true, true, true, true, false, true] rfl ?_
      exact ih75 (i3 + (-1)) V ⟨by omega, by omega, rfl⟩ (by show ((i3 + (-1)) + 2147483648).toNat < (i3 + 2147483648).toNat; omega)
    ·
      refine GO.aload_n dX12_numberBy_27 rfl rfl ?_
      refine GO.getA (n := 20) h_x fl_RX12_157 rfl rfl rfl rfl dX12_numberBy_28 (fun hv119 h118 => ?_)
      refine GO.iload dX12_numberBy_31 rfl ?_
      refine GO.zald (t := 55) rfl rfl h118 r_i3 (by omega) (by omega) dX12_numberBy_33 (fun l120 u121 => ?_)
      refine GO.if_eq (tgt := 104) dX12_numberBy_34 (by decide) vi_ir (fun c122 => ?_) (fun c122 => ?_)
      ·
        refine GO.iinc (X := i3) (n := (-1)) (Y := i3 + (-1)) (ls1 := [some (.ref x), some (ti p0), some (ti p1), some (ti p2), some (ti p3), some (ti (i3 + (-1))), some (ti i84), none]) dX12_numberBy_104 rfl rfl rfl rfl ?_
        refine GO.goto (tgt := 6) dX12_numberBy_107 (by decide) ?_
        refine GO.drop [true, true, true, true, true, true, false, true] rfl ?_
        exact ih75 (i3 + (-1)) V ⟨by omega, by omega, rfl⟩ (by show ((i3 + (-1)) + 2147483648).toNat < (i3 + 2147483648).toNat; omega)
      ·
        refine GO.bipush dX12_numberBy_37 rfl ?_
        refine GO.iload dX12_numberBy_39 rfl ?_
        refine GO.imul dX12_numberBy_41 ?_
        refine GO.iload dX12_numberBy_42 rfl ?_
        refine GO.iadd dX12_numberBy_44 ?_
        refine GO.name (fun z123 hz124 => ?_)
        refine GO.istore (ls1 := [some (.ref x), some (ti p0), some (ti p1), some (ti p2), some (ti p3), some (ti i3), some (ti i84), some (ti z123)]) dX12_numberBy_45 rfl rfl ?_
        refine GO.aload_n dX12_numberBy_47 rfl rfl ?_
        refine GO.getA (n := 240) h_x fl_RX12_124 rfl rfl rfl rfl dX12_numberBy_48 (fun hv126 h125 => ?_)
        refine GO.iload dX12_numberBy_51 rfl ?_
        refine GO.iald (t := 44) rfl rfl h125 ⟨by omega, by omega⟩ (by omega) (by omega) dX12_numberBy_53 (fun _ _ => ?_)
        refine GO.iload_n dX12_numberBy_54 rfl rfl ?_
        refine GO.icmp_ne (tgt := 98) dX12_numberBy_55 (by decide) vi_ir r_p0 (fun c127 => ?_) (fun c127 => ?_)
        ·
          refine GO.iinc (X := i84) (n := (-1)) (Y := i84 + (-1)) (ls1 := [some (.ref x), some (ti p0), some (ti p1), some (ti p2), some (ti p3), some (ti i3), some (ti (i84 + (-1))), some (ti z123)]) dX12_numberBy_98 rfl rfl rfl rfl ?_
          refine GO.goto (tgt := 22) dX12_numberBy_101 (by decide) ?_
          refine GO.drop [true, true, true, true, true, true, true, false] rfl ?_
          exact ih115 (i84 + (-1)) V ⟨by omega, by omega, rfl⟩ (by show ((i84 + (-1)) + 2147483648).toNat < (i84 + 2147483648).toNat; omega)
        ·
          refine GO.aload_n dX12_numberBy_58 rfl rfl ?_
          refine GO.getA (n := 240) h_x fl_RX12_160 rfl rfl rfl rfl dX12_numberBy_59 (fun hv129 h128 => ?_)
          refine GO.iload dX12_numberBy_62 rfl ?_
          refine GO.zald (t := 56) rfl rfl h128 ⟨by omega, by omega⟩ (by omega) (by omega) dX12_numberBy_64 (fun l130 u131 => ?_)
          refine GO.if_ne (tgt := 98) dX12_numberBy_65 (by decide) vi_ir (fun c132 => ?_) (fun c132 => ?_)
          ·
            refine GO.iinc (X := i84) (n := (-1)) (Y := i84 + (-1)) (ls1 := [some (.ref x), some (ti p0), some (ti p1), some (ti p2), some (ti p3), some (ti i3), some (ti (i84 + (-1))), some (ti z123)]) dX12_numberBy_98 rfl rfl rfl rfl ?_
            refine GO.goto (tgt := 22) dX12_numberBy_101 (by decide) ?_
            refine GO.drop [true, true, true, true, true, true, true, false] rfl ?_
            exact ih115 (i84 + (-1)) V ⟨by omega, by omega, rfl⟩ (by show ((i84 + (-1)) + 2147483648).toNat < (i84 + 2147483648).toNat; omega)
          ·
            refine GO.aload_n dX12_numberBy_68 rfl rfl ?_
            refine GO.getA (n := 240) h_x fl_RX12_136 rfl rfl rfl rfl dX12_numberBy_69 (fun hv134 h133 => ?_)
            refine GO.iload dX12_numberBy_72 rfl ?_
            refine GO.iald (t := 48) rfl rfl h133 ⟨by omega, by omega⟩ (by omega) (by omega) dX12_numberBy_74 (fun l135 u136 => ?_)
            refine GO.iload_n dX12_numberBy_75 rfl rfl ?_
            refine GO.icmp_ne (tgt := 98) dX12_numberBy_76 (by decide) vi_ir r_p1 (fun c137 => ?_) (fun c137 => ?_)
            ·
              refine GO.iinc (X := i84) (n := (-1)) (Y := i84 + (-1)) (ls1 := [some (.ref x), some (ti p0), some (ti p1), some (ti p2), some (ti p3), some (ti i3), some (ti (i84 + (-1))), some (ti z123)]) dX12_numberBy_98 rfl rfl rfl rfl ?_
              refine GO.goto (tgt := 22) dX12_numberBy_101 (by decide) ?_
              refine GO.drop [true, true, true, true, true, true, true, false] rfl ?_
              exact ih115 (i84 + (-1)) V ⟨by omega, by omega, rfl⟩ (by show ((i84 + (-1)) + 2147483648).toNat < (i84 + 2147483648).toNat; omega)
            ·
              refine GO.aload_n dX12_numberBy_79 rfl rfl ?_
              refine GO.getA (n := 240) h_x fl_RX12_139 rfl rfl rfl rfl dX12_numberBy_80 (fun hv139 h138 => ?_)
              refine GO.iload dX12_numberBy_83 rfl ?_
              refine GO.iald (t := 49) rfl rfl h138 ⟨by omega, by omega⟩ (by omega) (by omega) dX12_numberBy_85 (fun l140 u141 => ?_)
              refine GO.iload_n dX12_numberBy_86 rfl rfl ?_
              refine GO.icmp_ne (tgt := 98) dX12_numberBy_87 (by decide) vi_ir r_p2 (fun c142 => ?_) (fun c142 => ?_)
              ·
                refine GO.iinc (X := i84) (n := (-1)) (Y := i84 + (-1)) (ls1 := [some (.ref x), some (ti p0), some (ti p1), some (ti p2), some (ti p3), some (ti i3), some (ti (i84 + (-1))), some (ti z123)]) dX12_numberBy_98 rfl rfl rfl rfl ?_
                refine GO.goto (tgt := 22) dX12_numberBy_101 (by decide) ?_
                refine GO.drop [true, true, true, true, true, true, true, false] rfl ?_
                exact ih115 (i84 + (-1)) V ⟨by omega, by omega, rfl⟩ (by show ((i84 + (-1)) + 2147483648).toNat < (i84 + 2147483648).toNat; omega)
              ·
                refine GO.aload_n dX12_numberBy_90 rfl rfl ?_
                refine GO.getA (n := 240) h_x fl_RX12_133 rfl rfl rfl rfl dX12_numberBy_91 (fun hv144 h143 => ?_)
                refine GO.iload dX12_numberBy_94 rfl ?_
                refine GO.iald (t := 47) rfl rfl h143 ⟨by omega, by omega⟩ (by omega) (by omega) dX12_numberBy_96 (fun _ _ => ?_)
                have q145 : -2147483648 ≤ vi V (vq V x 56) (z123).toNat ∧ vi V (vq V x 56) (z123).toNat ≤ 2147483647 := vi_ir
                exact GO.reti rfl rfl dX12_numberBy_97 ⟨rfl, rfl, _, rfl, vi_ir, trivial⟩

set_option maxHeartbeats 1000000 in
theorem t_X12_binds {K : Kmap} {V : Vmap} {x : Nat} {p0 : Int} {p1 : Int} (h_x : K x = some (0, 11)) (r_p0 : ir p0) (r_p1 : ir p1) (q_0 : p0 ≥ 0) (q_1 : p0 ≤ 8) : MC mX12_binds K V [.ref x, ti p0, ti p1] (VS K (fun V1 => (True))) := by
  refine MC.start 4 (by decide +kernel) rfl rfl rfl (ls0 := [some (.ref x), some (ti p0), some (ti p1), none, none, none, none]) rfl ?_
  refine GO.iconst dX12_binds_0 ?_
  refine GO.istore_n (ls1 := [some (.ref x), some (ti p0), some (ti p1), some (ti 0), none, none, none]) dX12_binds_1 rfl rfl rfl ?_
  refine GO.loop1 (fun i1 W => 0 ≤ i1 ∧ i1 ≤ 20 ∧ True) (fun i1 => [some (.ref x), some (ti p0), some (ti p1), some (ti i1), none, none, none]) (fun i1 W => (2147483647 - i1).toNat) 0 ⟨by omega, by omega, trivial⟩ rfl (fun i1 Wi1 hp558 ih557 => ?_)
  obtain ⟨l_i1, u_i1, -⟩ := hp558
  have r_i1 : ir i1 := ⟨by omega, by omega⟩
  show GO mX12_binds K V (VS K (fun V1 => (True))) K Wi1 0 0 2 [some (.ref x), some (ti p0), some (ti p1), some (ti i1), none, none, none] []
  refine GO.iload_n dX12_binds_2 rfl rfl ?_
  refine GO.aload_n dX12_binds_3 rfl rfl ?_
  refine GO.getI h_x fl_RX12_535 rfl rfl dX12_binds_4 (fun l559 u560 => ?_)
  refine GO.icmp_ge (tgt := 122) dX12_binds_7 (by decide) r_i1 vi_ir (fun c561 => ?_) (fun c561 => ?_)
  ·
    refine GO.aload_n dX12_binds_122 rfl rfl ?_
    refine GO.aload_n dX12_binds_123 rfl rfl ?_
    refine GO.getI h_x fl_RX12_535 rfl rfl dX12_binds_124 (fun l562 u563 => ?_)
    refine GO.callV (ci := 11) (N := mX12_strikes) dX12_binds_127 (RX12, TX12, 151) rfl gV_RX12_550 h_x (t_X12_strikes h_x vi_ir (by omega) (by omega)) rfl [] rfl rfl (Nat.le_of_ble_eq_true rfl) rfl (k_vs fun V566 h565 hF564 => ?_)
    exact GO.retv rfl rfl dX12_binds_130 ⟨rfl, rfl, trivial⟩
  ·
    refine GO.iload_n dX12_binds_10 rfl rfl ?_
    refine GO.aload_n dX12_binds_11 rfl rfl ?_
    refine GO.getA (n := 20) h_x fl_RX12_118 rfl rfl rfl rfl dX12_binds_12 (fun hv568 h567 => ?_)
    refine GO.iload_n dX12_binds_15 rfl rfl ?_
    refine GO.iald (t := 42) rfl rfl h567 r_i1 (by omega) (by omega) dX12_binds_16 (fun _ _ => ?_)
    refine GO.aload_n dX12_binds_17 rfl rfl ?_
    refine GO.getA (n := 20) h_x fl_RX12_121 rfl rfl rfl rfl dX12_binds_18 (fun hv570 h569 => ?_)
    refine GO.iload_n dX12_binds_21 rfl rfl ?_
    refine GO.iald (t := 43) rfl rfl h569 r_i1 (by omega) (by omega) dX12_binds_22 (fun _ _ => ?_)
    refine GO.callS (N := mX12_in) dX12_binds_23 gS_RX12_371 (t_X12_in r_p1 vi_ir vi_ir) rfl [] rfl rfl (Nat.le_of_ble_eq_true rfl) rfl (k_ip fun X571 r572 h573 => ?_)
    refine GO.istore (ls1 := [some (.ref x), some (ti p0), some (ti p1), some (ti i1), some (ti X571), none, none]) dX12_binds_26 rfl rfl ?_
    refine GO.aload_n dX12_binds_28 rfl rfl ?_
    refine GO.getA (n := 180) h_x fl_RX12_142 rfl rfl rfl rfl dX12_binds_29 (fun hv575 h574 => ?_)
    refine GO.bipush dX12_binds_32 rfl ?_
    refine GO.iload_n dX12_binds_34 rfl rfl ?_
    refine GO.imul dX12_binds_35 ?_
    refine GO.iload_n dX12_binds_36 rfl rfl ?_
    refine GO.iadd dX12_binds_37 ?_
    have q576 : -2147483648 ≤ p0 ∧ p0 ≤ 2147483647 := r_p0
    refine GO.iald (t := 50) rfl rfl h574 ⟨by omega, by omega⟩ (by omega) (by omega) dX12_binds_38 (fun _ _ => ?_)
    refine GO.name (fun z577 hz578 => ?_)
    have r579 : ir z577 := hz578 ▸ vi_ir
    refine GO.istore (ls1 := [some (.ref x), some (ti p0), some (ti p1), some (ti i1), some (ti X571), some (ti z577), none]) dX12_binds_39 rfl rfl ?_
    refine GO.iload_n dX12_binds_41 rfl rfl ?_
    refine GO.if_le (tgt := 101) dX12_binds_42 (by decide) r_i1 (fun c580 => ?_) (fun c580 => ?_)
    ·
      refine GO.iload_n dX12_binds_101 rfl rfl ?_
      refine GO.if_le (tgt := 108) dX12_binds_102 (by decide) r_i1 (fun c581 => ?_) (fun h => by exfalso; omega)
      refine GO.aload_n dX12_binds_108 rfl rfl ?_
      refine GO.getA (n := 20) h_x fl_RX12_157 rfl rfl rfl rfl dX12_binds_109 (fun hv583 h582 => ?_)
      refine GO.iload_n dX12_binds_112 rfl rfl ?_
      refine GO.iload dX12_binds_113 rfl ?_
      refine GO.zast (t := 55) rfl rfl (by decide +kernel) h582 r_i1 (by omega) (by omega) (by omega) (by omega) (by omega) dX12_binds_115 (fun V585 e584 => ?_)
      refine GO.iinc (X := i1) (n := 1) (Y := i1 + 1) (ls1 := [some (.ref x), some (ti p0), some (ti p1), some (ti (i1 + 1)), some (ti X571), some (ti z577), none]) dX12_binds_116 rfl rfl rfl rfl ?_
      refine GO.goto (tgt := 2) dX12_binds_119 (by decide) ?_
      refine GO.drop [true, true, true, true, false, false, true] rfl ?_
      exact ih557 (i1 + 1) V585 ⟨by omega, by omega, trivial⟩ (by show (2147483647 - (i1 + 1)).toNat < (2147483647 - i1).toNat; omega)
    ·
      refine GO.iload dX12_binds_45 rfl ?_
      refine GO.if_eq (tgt := 101) dX12_binds_47 (by decide) r572 (fun c586 => ?_) (fun c586 => ?_)
      ·
        have q587 := h573.2.2 (by omega)
        refine GO.iload_n dX12_binds_101 rfl rfl ?_
        refine GO.if_le (tgt := 108) dX12_binds_102 (by decide) r_i1 (fun h => by exfalso; omega) (fun c588 => ?_)
        refine GO.iconst dX12_binds_105 ?_
        refine GO.istore (ls1 := [some (.ref x), some (ti p0), some (ti p1), some (ti i1), some (ti 0), some (ti z577), none]) dX12_binds_106 rfl rfl ?_
        refine GO.aload_n dX12_binds_108 rfl rfl ?_
        refine GO.getA (n := 20) h_x fl_RX12_157 rfl rfl rfl rfl dX12_binds_109 (fun hv590 h589 => ?_)
        refine GO.iload_n dX12_binds_112 rfl rfl ?_
        refine GO.iload dX12_binds_113 rfl ?_
        refine GO.zast (t := 55) rfl rfl (by decide +kernel) h589 r_i1 (by omega) (by omega) (by omega) (by omega) (by omega) dX12_binds_115 (fun V592 e591 => ?_)
        refine GO.iinc (X := i1) (n := 1) (Y := i1 + 1) (ls1 := [some (.ref x), some (ti p0), some (ti p1), some (ti (i1 + 1)), some (ti 0), some (ti z577), none]) dX12_binds_116 rfl rfl rfl rfl ?_
        refine GO.goto (tgt := 2) dX12_binds_119 (by decide) ?_
        refine GO.drop [true, true, true, true, false, false, true] rfl ?_
        exact ih557 (i1 + 1) V592 ⟨by omega, by omega, trivial⟩ (by show (2147483647 - (i1 + 1)).toNat < (2147483647 - i1).toNat; omega)
      ·
        have q593 := h573.2.1 (by omega)
        refine GO.iload dX12_binds_50 rfl ?_
        refine GO.iconst dX12_binds_52 ?_
        refine GO.icmp_eq (tgt := 101) dX12_binds_53 (by decide) r579 (ir_c rfl) (fun c594 => ?_) (fun c594 => ?_)
        ·
          refine GO.iload_n dX12_binds_101 rfl rfl ?_
          refine GO.if_le (tgt := 108) dX12_binds_102 (by decide) r_i1 (fun h => by exfalso; omega) (fun c595 => ?_)
          refine GO.iconst dX12_binds_105 ?_
          refine GO.istore (ls1 := [some (.ref x), some (ti p0), some (ti p1), some (ti i1), some (ti 0), some (ti z577), none]) dX12_binds_106 rfl rfl ?_
          refine GO.aload_n dX12_binds_108 rfl rfl ?_
          refine GO.getA (n := 20) h_x fl_RX12_157 rfl rfl rfl rfl dX12_binds_109 (fun hv597 h596 => ?_)
          refine GO.iload_n dX12_binds_112 rfl rfl ?_
          refine GO.iload dX12_binds_113 rfl ?_
          refine GO.zast (t := 55) rfl rfl (by decide +kernel) h596 r_i1 (by omega) (by omega) (by omega) (by omega) (by omega) dX12_binds_115 (fun V599 e598 => ?_)
          refine GO.iinc (X := i1) (n := 1) (Y := i1 + 1) (ls1 := [some (.ref x), some (ti p0), some (ti p1), some (ti (i1 + 1)), some (ti 0), some (ti z577), none]) dX12_binds_116 rfl rfl rfl rfl ?_
          refine GO.goto (tgt := 2) dX12_binds_119 (by decide) ?_
          refine GO.drop [true, true, true, true, false, false, true] rfl ?_
          exact ih557 (i1 + 1) V599 ⟨by omega, by omega, trivial⟩ (by show (2147483647 - (i1 + 1)).toNat < (2147483647 - i1).toNat; omega)
        ·
          refine GO.aload_n dX12_binds_56 rfl rfl ?_
          refine GO.iload_n dX12_binds_57 rfl rfl ?_
          refine GO.callV (ci := 11) (N := mX12_strikes) dX12_binds_58 (RX12, TX12, 151) rfl gV_RX12_550 h_x (t_X12_strikes h_x r_i1 (by omega) (by omega)) rfl [] rfl rfl (Nat.le_of_ble_eq_true rfl) rfl (k_vs fun V602 h601 hF600 => ?_)
          refine GO.aload_n dX12_binds_61 rfl rfl ?_
          refine GO.bipush dX12_binds_62 rfl ?_
          refine GO.iconst dX12_binds_64 ?_
          refine GO.iconst dX12_binds_65 ?_
          refine GO.iload_n dX12_binds_66 rfl rfl ?_
          refine GO.callV (ci := 11) (N := mX12_numberBy) dX12_binds_67 (RX12, TX12, 151) rfl gV_RX12_553 h_x (t_X12_numberBy h_x (ir_c rfl) (ir_c rfl) (ir_c rfl) r_i1 (by omega) (by omega)) rfl [] rfl rfl (Nat.le_of_ble_eq_true rfl) rfl (k_ip fun X603 r604 h605 => ?_)
          refine GO.istore (ls1 := [some (.ref x), some (ti p0), some (ti p1), some (ti i1), some (ti X571), some (ti z577), some (ti X603)]) dX12_binds_70 rfl rfl ?_
          refine GO.iload_n dX12_binds_72 rfl rfl ?_
          refine GO.iload dX12_binds_73 rfl ?_
          refine GO.isub dX12_binds_75 ?_
          refine GO.norm (fun z606 r607 _ => ?_)
          refine GO.iload dX12_binds_76 rfl ?_
          refine GO.iconst dX12_binds_78 ?_
          have hj610 : ∀ (z609 : Int), ∀ (l611 : (-2147483648) ≤ z609), ∀ (u612 : z609 ≤ 2147483647), GO mX12_binds K V (VS K (fun V1 => (True))) K V602 0 0 88 [some (.ref x), some (ti p0), some (ti p1), some (ti i1), some (ti X571), some (ti z577), some (ti X603)] [ti z609, ti z606] := by
            intro z609 l611 u612
            have r613 : ir z609 := ⟨by omega, by omega⟩
            refine GO.icmp_lt (tgt := 95) dX12_binds_88 (by decide) r607 r613 (fun c614 => ?_) (fun c614 => ?_)
            ·
              refine GO.iconst dX12_binds_95 ?_
              refine GO.istore (ls1 := [some (.ref x), some (ti p0), some (ti p1), some (ti i1), some (ti 0), some (ti z577), some (ti X603)]) dX12_binds_96 rfl rfl ?_
              refine GO.goto (tgt := 108) dX12_binds_98 (by decide) ?_
              refine GO.aload_n dX12_binds_108 rfl rfl ?_
              refine GO.getA (n := 20) h_x fl_RX12_157 rfl rfl rfl rfl dX12_binds_109 (fun hv616 h615 => ?_)
              refine GO.iload_n dX12_binds_112 rfl rfl ?_
              refine GO.iload dX12_binds_113 rfl ?_
              refine GO.zast (t := 55) rfl rfl (by decide +kernel) h615 r_i1 (by omega) (by omega) (by omega) (by omega) (by omega) dX12_binds_115 (fun V618 e617 => ?_)
              refine GO.iinc (X := i1) (n := 1) (Y := i1 + 1) (ls1 := [some (.ref x), some (ti p0), some (ti p1), some (ti (i1 + 1)), some (ti 0), some (ti z577), some (ti X603)]) dX12_binds_116 rfl rfl rfl rfl ?_
              refine GO.goto (tgt := 2) dX12_binds_119 (by decide) ?_
              refine GO.drop [true, true, true, true, false, false, false] rfl ?_
              exact ih557 (i1 + 1) V618 ⟨by omega, by omega, trivial⟩ (by show (2147483647 - (i1 + 1)).toNat < (2147483647 - i1).toNat; omega)
            ·
              refine GO.iconst dX12_binds_91 ?_
              refine GO.goto (tgt := 96) dX12_binds_92 (by decide) ?_
              refine GO.istore (ls1 := [some (.ref x), some (ti p0), some (ti p1), some (ti i1), some (ti 1), some (ti z577), some (ti X603)]) dX12_binds_96 rfl rfl ?_
              refine GO.goto (tgt := 108) dX12_binds_98 (by decide) ?_
              refine GO.aload_n dX12_binds_108 rfl rfl ?_
              refine GO.getA (n := 20) h_x fl_RX12_157 rfl rfl rfl rfl dX12_binds_109 (fun hv620 h619 => ?_)
              refine GO.iload_n dX12_binds_112 rfl rfl ?_
              refine GO.iload dX12_binds_113 rfl ?_
              refine GO.zast (t := 55) rfl rfl (by decide +kernel) h619 r_i1 (by omega) (by omega) (by omega) (by omega) (by omega) dX12_binds_115 (fun V622 e621 => ?_)
              refine GO.iinc (X := i1) (n := 1) (Y := i1 + 1) (ls1 := [some (.ref x), some (ti p0), some (ti p1), some (ti (i1 + 1)), some (ti 1), some (ti z577), some (ti X603)]) dX12_binds_116 rfl rfl rfl rfl ?_
              refine GO.goto (tgt := 2) dX12_binds_119 (by decide) ?_
              refine GO.drop [true, true, true, true, false, false, false] rfl ?_
              exact ih557 (i1 + 1) V622 ⟨by omega, by omega, trivial⟩ (by show (2147483647 - (i1 + 1)).toNat < (2147483647 - i1).toNat; omega)
          refine GO.icmp_ne (tgt := 86) dX12_binds_79 (by decide) r604 (ir_c rfl) (fun c623 => ?_) (fun c623 => ?_)
          ·
            refine GO.iload dX12_binds_86 rfl ?_
            have q624 : -2147483648 ≤ X603 ∧ X603 ≤ 2147483647 := r604
            exact hj610 X603 (by omega) (by omega)
          ·
            refine GO.iconst dX12_binds_82 ?_
            refine GO.goto (tgt := 88) dX12_binds_83 (by decide) ?_
            exact hj610 0 (by omega) (by omega)

set_option maxHeartbeats 1000000 in
theorem t_X12_isAsleep {K : Kmap} {V : Vmap} {x : Nat} {p0 : Int} {p1 : Int} (h_x : K x = some (0, 11)) (r_p0 : ir p0) (r_p1 : ir p1) (q_0 : p0 ≥ 0) (q_1 : p0 ≤ 8) : MC mX12_isAsleep K V [.ref x, ti p0, ti p1] (IS K (fun X V1 => (X = 0 ∨ X = 1) ∧ (X ≠ 0 → True) ∧ (X = 0 → True))) := by
  refine MC.start 0 (by decide +kernel) rfl rfl rfl (ls0 := [some (.ref x), some (ti p0), some (ti p1)]) rfl ?_
  refine GO.aload_n dX12_isAsleep_0 rfl rfl ?_
  refine GO.iload_n dX12_isAsleep_1 rfl rfl ?_
  refine GO.iload_n dX12_isAsleep_2 rfl rfl ?_
  have q1 : -2147483648 ≤ p0 ∧ p0 ≤ 2147483647 := r_p0
  refine GO.callV (ci := 11) (N := mX12_binds) dX12_isAsleep_3 (RX12, TX12, 151) rfl gV_RX12_557 h_x (t_X12_binds h_x r_p0 r_p1 (by omega) (by omega)) rfl [] rfl rfl (Nat.le_of_ble_eq_true rfl) rfl (k_vs fun V4 h3 hF2 => ?_)
  refine GO.aload_n dX12_isAsleep_6 rfl rfl ?_
  refine GO.bipush dX12_isAsleep_7 rfl ?_
  refine GO.iconst dX12_isAsleep_9 ?_
  refine GO.iconst dX12_isAsleep_10 ?_
  refine GO.aload_n dX12_isAsleep_11 rfl rfl ?_
  refine GO.getI h_x fl_RX12_535 rfl rfl dX12_isAsleep_12 (fun l5 u6 => ?_)
  refine GO.callV (ci := 11) (N := mX12_numberBy) dX12_isAsleep_15 (RX12, TX12, 151) rfl gV_RX12_553 h_x (t_X12_numberBy h_x (ir_c rfl) (ir_c rfl) (ir_c rfl) vi_ir (by omega) (by omega)) rfl [] rfl rfl (Nat.le_of_ble_eq_true rfl) rfl (k_ip fun X8 r9 h10 => ?_)
  refine GO.iconst dX12_isAsleep_18 ?_
  refine GO.icmp_eq (tgt := 26) dX12_isAsleep_19 (by decide) r9 (ir_c rfl) (fun c11 => ?_) (fun c11 => ?_)
  ·
    refine GO.iconst dX12_isAsleep_26 ?_
    exact GO.retz rfl rfl dX12_isAsleep_27 (by omega) ⟨rfl, _, rfl, (ir_c rfl), ⟨by omega, fun _ => trivial, fun _ => trivial⟩⟩
  ·
    refine GO.iconst dX12_isAsleep_22 ?_
    refine GO.goto (tgt := 27) dX12_isAsleep_23 (by decide) ?_
    exact GO.retz rfl rfl dX12_isAsleep_27 (by omega) ⟨rfl, _, rfl, (ir_c rfl), ⟨by omega, fun _ => trivial, fun _ => trivial⟩⟩

set_option maxHeartbeats 1000000 in
theorem t_X12_claim {K : Kmap} {V : Vmap} {x : Nat} {p0 : Int} {p1 : Int} {p2 : Int} {p3 : Int} (h_x : K x = some (0, 11)) (r_p0 : ir p0) (r_p1 : ir p1) (r_p2 : ir p2) (r_p3 : ir p3) (w_0 : PX0 V x) : MC mX12_claim K V [.ref x, ti p0, ti p1, ti p2, ti p3] (IS K (fun X V1 => (X ≥ (-2147483648) ∧ X ≤ 2147483647) ∧ (PX0 V1 x))) := by
  refine MC.start 0 (by decide +kernel) rfl rfl rfl (ls0 := [some (.ref x), some (ti p0), some (ti p1), some (ti p2), some (ti p3)]) rfl ?_
  refine GO.useWT (fun hW1 => ?_)
  have ak2 := hW1.arr h_x 13 15 (by decide) rfl (by decide)
  have ak3 := hW1.arr h_x 14 16 (by decide) rfl (by decide)
  refine GO.aload_n dX12_claim_0 rfl rfl ?_
  refine GO.iload_n dX12_claim_1 rfl rfl ?_
  refine GO.callV (ci := 11) (N := mX12_isParty) dX12_claim_2 (RX12, TX12, 151) rfl gV_RX12_406 h_x (t_X12_isParty h_x r_p0) rfl [] rfl rfl (Nat.le_of_ble_eq_true rfl) rfl (k_ip fun X4 r5 h6 => ?_)
  refine GO.if_eq (tgt := 50) dX12_claim_5 (by decide) r5 (fun c7 => ?_) (fun c7 => ?_)
  ·
    have q8 := h6.2.2 (by omega)
    refine GO.iconst dX12_claim_50 ?_
    exact GO.reti rfl rfl dX12_claim_51 ⟨rfl, _, rfl, (ir_c rfl), ⟨by omega, (by first | exact raw_place | exact w_0 | exact PX0.mk w_0 (by omega) (rfl : ar 13 V x = ar 13 V x) (rfl : ar 14 V x = ar 14 V x))⟩⟩
  ·
    have q9 := h6.2.1 (by omega)
    refine GO.aload_n dX12_claim_8 rfl rfl ?_
    refine GO.iload_n dX12_claim_9 rfl rfl ?_
    refine GO.iload_n dX12_claim_10 rfl rfl ?_
    refine GO.callV (ci := 11) (N := mX12_isRectangle) dX12_claim_11 (RX12, TX12, 151) rfl gV_RX12_415 h_x (t_X12_isRectangle h_x r_p1 r_p2) rfl [] rfl rfl (Nat.le_of_ble_eq_true rfl) rfl (k_ip fun X10 r11 h12 => ?_)
    refine GO.if_eq (tgt := 50) dX12_claim_14 (by decide) r11 (fun c13 => ?_) (fun c13 => ?_)
    ·
      refine GO.iconst dX12_claim_50 ?_
      exact GO.reti rfl rfl dX12_claim_51 ⟨rfl, _, rfl, (ir_c rfl), ⟨by omega, (by first | exact raw_place | exact w_0 | exact PX0.mk w_0 (by omega) (rfl : ar 13 V x = ar 13 V x) (rfl : ar 14 V x = ar 14 V x))⟩⟩
    ·
      have q14 := h12.2.1 (by omega)
      refine GO.iload dX12_claim_17 rfl ?_
      refine GO.iconst dX12_claim_19 ?_
      refine GO.sipush dX12_claim_20 rfl ?_
      refine GO.callS (N := mX12_in) dX12_claim_23 gS_RX12_371 (t_X12_in r_p3 (ir_c rfl) (ir_c rfl)) rfl [] rfl rfl (Nat.le_of_ble_eq_true rfl) rfl (k_ip fun X15 r16 h17 => ?_)
      refine GO.if_eq (tgt := 50) dX12_claim_26 (by decide) r16 (fun c18 => ?_) (fun c18 => ?_)
      ·
        have q19 := h17.2.2 (by omega)
        refine GO.iconst dX12_claim_50 ?_
        exact GO.reti rfl rfl dX12_claim_51 ⟨rfl, _, rfl, (ir_c rfl), ⟨by omega, (by first | exact raw_place | exact w_0 | exact PX0.mk w_0 (by omega) (rfl : ar 13 V x = ar 13 V x) (rfl : ar 14 V x = ar 14 V x))⟩⟩
      ·
        have q20 := h17.2.1 (by omega)
        refine GO.aload_n dX12_claim_29 rfl rfl ?_
        refine GO.getI h_x fl_RX12_375 rfl rfl dX12_claim_30 (fun l21 u22 => ?_)
        refine GO.bipush dX12_claim_33 rfl ?_
        refine GO.icmp_eq (tgt := 50) dX12_claim_35 (by decide) vi_ir (ir_c rfl) (fun c23 => ?_) (fun c23 => ?_)
        ·
          refine GO.iconst dX12_claim_50 ?_
          exact GO.reti rfl rfl dX12_claim_51 ⟨rfl, _, rfl, (ir_c rfl), ⟨by omega, (by first | exact raw_place | exact w_0 | exact PX0.mk w_0 (by omega) (rfl : ar 13 V x = ar 13 V x) (rfl : ar 14 V x = ar 14 V x))⟩⟩
        ·
          refine GO.aload_n dX12_claim_38 rfl rfl ?_
          refine GO.iload_n dX12_claim_39 rfl rfl ?_
          refine GO.aload_n dX12_claim_40 rfl rfl ?_
          refine GO.getI h_x fl_RX12_396 rfl rfl dX12_claim_41 (fun l24 u25 => ?_)
          have q26 : -2147483648 ≤ p0 ∧ p0 ≤ 2147483647 := r_p0
          have q27 : -2147483648 ≤ vi V x 9 ∧ vi V x 9 ≤ 2147483647 := vi_ir
          refine GO.callV (ci := 11) (N := mX12_isAsleep) dX12_claim_44 (RX12, TX12, 151) rfl gV_RX12_418 h_x (t_X12_isAsleep h_x r_p0 vi_ir (by omega) (by omega)) rfl [] rfl rfl (Nat.le_of_ble_eq_true rfl) rfl (k_is fun X28 V32 r29 h30 hF31 => ?_)
          have ak33 := tk_fr hF31 ak2 h_x (by decide +kernel) (by decide +kernel) (rfl : ar 13 V x = ar 13 V x)
          have ak34 := tk_fr hF31 ak3 h_x (by decide +kernel) (by decide +kernel) (rfl : ar 14 V x = ar 14 V x)
          refine GO.if_eq (tgt := 52) dX12_claim_47 (by decide) r29 (fun c35 => ?_) (fun c35 => ?_)
          ·
            refine GO.aload_n dX12_claim_52 rfl rfl ?_
            refine GO.iconst dX12_claim_53 ?_
            refine GO.iload_n dX12_claim_54 rfl rfl ?_
            refine GO.iload_n dX12_claim_55 rfl rfl ?_
            refine GO.iload_n dX12_claim_56 rfl rfl ?_
            refine GO.iload dX12_claim_57 rfl ?_
            have q36 : -2147483648 ≤ p1 ∧ p1 ≤ 2147483647 := r_p1
            have q37 : -2147483648 ≤ p2 ∧ p2 ≤ 2147483647 := r_p2
            have e38 : vi V32 x 10 = vi V x 10 := vi_fr hF31 h_x h_x (by decide +kernel)
            refine GO.callV (ci := 11) (N := mX12_place) dX12_claim_59 (RX12, TX12, 151) rfl gV_RX12_421 h_x (t_X12_place h_x (ir_c rfl) r_p0 r_p1 r_p2 r_p3 (by omega) (by omega) (by omega) (by omega) (by omega) (by omega) (by omega) (by omega) (by omega) ((by first | exact w_0 | exact PX0.mk w_0 (by omega) ak33.2 ak34.2)) ⟨by omega, by omega⟩) rfl [] rfl rfl (Nat.le_of_ble_eq_true rfl) rfl (k_is fun X39 V43 r40 h41 hF42 => ?_)
            refine GO.useWT (fun hW44 => ?_)
            have ak45 := hW44.arr h_x 13 15 (by decide) rfl (by decide)
            have ak46 := hW44.arr h_x 14 16 (by decide) rfl (by decide)
            have raw_place := h41.2
            exact GO.reti rfl rfl dX12_claim_62 ⟨rfl, _, rfl, r40, ⟨by omega, (by first | exact raw_place | exact w_0 | exact PX0.mk w_0 (by omega) (rfl : ar 13 V43 x = ar 13 V43 x) (rfl : ar 14 V43 x = ar 14 V43 x))⟩⟩
          ·
            refine GO.iconst dX12_claim_50 ?_
            have e48 : vi V32 x 10 = vi V x 10 := vi_fr hF31 h_x h_x (by decide +kernel)
            exact GO.reti rfl rfl dX12_claim_51 ⟨rfl, _, rfl, (ir_c rfl), ⟨by omega, (by first | exact raw_place | exact w_0 | exact PX0.mk w_0 (by omega) ak33.2 ak34.2)⟩⟩
