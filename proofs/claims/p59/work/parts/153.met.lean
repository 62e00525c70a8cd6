def mX12_cover : MRec := (RX12, cX12_cover, 4, (some .boolean), yX12_cover, 1, 22, 0, 0, 36695977855841144185773134324833391052745039826692497979801421430190766017415756929120296849762010984873984)
def mX12_sea : MRec := (RX12, cX12_sea, 3, (some .boolean), yX12_sea, 1, 22, 0, 0, 73391955711682288371546268649666782105490079653384995959602842860381532034831513858240593699524021969747968)
def mX12_voyage : MRec := (RX12, cX12_voyage, 5, (some .boolean), yX12_voyage, 3, 66, 0, 0, 36552634192341764716297458018877010618945254521297232586603783229896931707024877038704732665323799470669824)
def mX12_turnsBack : MRec := (RX12, cX12_turnsBack, 2, (none : Option Jvm.ClassFile.FieldType), yX12_turnsBack, 0, 0, 0, 0, 1290092971494415225281086753607423904198067806407158132102393722155144117799772704539385436124445698686976)
def mX12_arrives : MRec := (RX12, cX12_arrives, 6, (none : Option Jvm.ClassFile.FieldType), yX12_arrives, 3, 66, 0, 0, 2150154952490692185364236675364259447746867143629665502435360966561382819186579852795577533150354984665088)
def mX12_waits : MRec := (RX12, cX12_waits, 2, (none : Option Jvm.ClassFile.FieldType), yX12_waits, 4, 91, 0, 0, 4443653568480763696975057570666346388543432132797946626172949805948305695275064660865596086260480671219712)
set_option maxHeartbeats 1000000 in
theorem t_X12_cover {K : Kmap} {V : Vmap} {x : Nat} {p0 : Int} {p1 : Int} {p2 : Int} (h_x : K x = some (0, 11)) (r_p0 : ir p0) (r_p1 : ir p1) (r_p2 : ir p2) : MC mX12_cover K V [.ref x, ti p0, ti p1, ti p2] (IS K (fun X V1 => (X = 0 ∨ X = 1) ∧ (X ≠ 0 → p0 ≥ 0 ∧ p0 ≤ 3 ∧ p1 ≥ 0 ∧ p1 ≤ 11 ∧ p2 ≥ 0 ∧ p2 ≤ 100) ∧ (X = 0 → (p0 < 0 ∨ p0 > 3 ∨ p1 < 0 ∨ p1 > 11 ∨ p2 < 0 ∨ p2 > 100)) ∧ (MCV V V1 x p0 p1 p2 X))) := by
  refine MC.start 0 (by decide +kernel) rfl rfl rfl (ls0 := [some (.ref x), some (ti p0), some (ti p1), some (ti p2)]) rfl ?_
  refine GO.useWT (fun hW1 => ?_)
  have ak2 := hW1.arr h_x 105 83 (by decide) rfl (by decide)
  refine GO.iload_n dX12_cover_0 rfl rfl ?_
  refine GO.callS (N := mX12_isSea) dX12_cover_1 gS_RX12_615 (t_X12_isSea r_p0) rfl [] rfl rfl (Nat.le_of_ble_eq_true rfl) rfl (k_ip fun X3 r4 h5 => ?_)
  refine GO.if_eq (tgt := 27) dX12_cover_4 (by decide) r4 (fun c6 => ?_) (fun c6 => ?_)
  ·
    have q7 := h5.2.2 (by omega)
    refine GO.iconst dX12_cover_27 ?_
    exact GO.retz rfl rfl dX12_cover_28 (Or.inl rfl) ⟨rfl, _, rfl, (ir_c rfl), ⟨Or.inl rfl, fun h => absurd rfl h, fun h => by omega, (by first | exact MCV.no (by omega) rfl | exact MCV.ok (by omega) rfl (rfl : ar 105 V x = ar 105 V x) (by omega))⟩⟩
  ·
    have q8 := h5.2.1 (by omega)
    refine GO.iload_n dX12_cover_7 rfl rfl ?_
    refine GO.iconst dX12_cover_8 ?_
    refine GO.bipush dX12_cover_9 rfl ?_
    refine GO.callS (N := mX12_in) dX12_cover_11 gS_RX12_371 (t_X12_in r_p1 (ir_c rfl) (ir_c rfl)) rfl [] rfl rfl (Nat.le_of_ble_eq_true rfl) rfl (k_ip fun X9 r10 h11 => ?_)
    have raw_in := h11.2.2.2
    have rw11 := h11.2.2.2
    refine GO.if_eq (tgt := 27) dX12_cover_14 (by decide) r10 (fun c12 => ?_) (fun c12 => ?_)
    ·
      have q13 := h11.2.2.1 (by omega)
      refine GO.iconst dX12_cover_27 ?_
      exact GO.retz rfl rfl dX12_cover_28 (Or.inl rfl) ⟨rfl, _, rfl, (ir_c rfl), ⟨Or.inl rfl, fun h => absurd rfl h, fun h => by omega, (by first | exact MCV.no (by omega) rfl | exact MCV.ok (by omega) rfl (rfl : ar 105 V x = ar 105 V x) (by omega))⟩⟩
    ·
      have q14 := h11.2.1 (by omega)
      refine GO.iload_n dX12_cover_17 rfl rfl ?_
      refine GO.iconst dX12_cover_18 ?_
      refine GO.bipush dX12_cover_19 rfl ?_
      refine GO.callS (N := mX12_in) dX12_cover_21 gS_RX12_371 (t_X12_in r_p2 (ir_c rfl) (ir_c rfl)) rfl [] rfl rfl (Nat.le_of_ble_eq_true rfl) rfl (k_ip fun X15 r16 h17 => ?_)
      have raw_in := h17.2.2.2
      have rw21 := h17.2.2.2
      refine GO.if_ne (tgt := 29) dX12_cover_24 (by decide) r16 (fun c18 => ?_) (fun c18 => ?_)
      ·
        have q19 := h17.2.1 (by omega)
        refine GO.aload_n dX12_cover_29 rfl rfl ?_
        refine GO.getA (n := 48) h_x fl_RX12_241 rfl rfl rfl rfl dX12_cover_30 (fun hv21 h20 => ?_)
        refine GO.bipush dX12_cover_33 rfl ?_
        refine GO.iload_n dX12_cover_35 rfl rfl ?_
        refine GO.imul dX12_cover_36 ?_
        refine GO.iload_n dX12_cover_37 rfl rfl ?_
        refine GO.iadd dX12_cover_38 ?_
        refine GO.iload_n dX12_cover_39 rfl rfl ?_
        have q22 : -2147483648 ≤ p1 ∧ p1 ≤ 2147483647 := r_p1
        have q23 : -2147483648 ≤ p0 ∧ p0 ≤ 2147483647 := r_p0
        refine GO.iast (t := 83) rfl rfl (by decide +kernel) h20 ⟨by omega, by omega⟩ (by omega) (by omega) r_p2 (r_p2).1 (r_p2).2 dX12_cover_40 (fun V25 e24 => ?_)
        have ak26 := tk_put e24 ak2 h_x (vq_of hv21) r_p2 (rfl : ar 105 V x = ar 105 V x)
        refine GO.iconst dX12_cover_41 ?_
        exact GO.retz rfl rfl dX12_cover_42 (Or.inr rfl) ⟨rfl, _, rfl, (ir_c rfl), ⟨Or.inr rfl, fun h => by omega, fun h => absurd h (by decide), (by first | exact MCV.no (by omega) rfl | exact MCV.ok (by omega) rfl ak26.2 (by omega))⟩⟩
      ·
        have q27 := h17.2.2.1 (by omega)
        refine GO.iconst dX12_cover_27 ?_
        exact GO.retz rfl rfl dX12_cover_28 (Or.inl rfl) ⟨rfl, _, rfl, (ir_c rfl), ⟨Or.inl rfl, fun h => absurd rfl h, fun h => by omega, (by first | exact MCV.no (by omega) rfl | exact MCV.ok (by omega) rfl (rfl : ar 105 V x = ar 105 V x) (by omega))⟩⟩

set_option maxHeartbeats 1000000 in
theorem t_X12_sea {K : Kmap} {V : Vmap} {x : Nat} {p0 : Int} {p1 : Int} (h_x : K x = some (0, 11)) (r_p0 : ir p0) (r_p1 : ir p1) : MC mX12_sea K V [.ref x, ti p0, ti p1] (IS K (fun X V1 => (X = 0 ∨ X = 1) ∧ (X ≠ 0 → p0 ≥ 0 ∧ p0 ≤ 3 ∧ p1 ≥ 1 ∧ p1 ≤ 90) ∧ (X = 0 → (p0 < 0 ∨ p0 > 3 ∨ p1 < 1 ∨ p1 > 90)) ∧ (MSE V V1 x p0 p1 X))) := by
  refine MC.start 0 (by decide +kernel) rfl rfl rfl (ls0 := [some (.ref x), some (ti p0), some (ti p1)]) rfl ?_
  refine GO.useWT (fun hW1 => ?_)
  have ak2 := hW1.arr h_x 106 84 (by decide) rfl (by decide)
  refine GO.iload_n dX12_sea_0 rfl rfl ?_
  refine GO.callS (N := mX12_isSea) dX12_sea_1 gS_RX12_615 (t_X12_isSea r_p0) rfl [] rfl rfl (Nat.le_of_ble_eq_true rfl) rfl (k_ip fun X3 r4 h5 => ?_)
  refine GO.if_eq (tgt := 17) dX12_sea_4 (by decide) r4 (fun c6 => ?_) (fun c6 => ?_)
  ·
    have q7 := h5.2.2 (by omega)
    refine GO.iconst dX12_sea_17 ?_
    exact GO.retz rfl rfl dX12_sea_18 (Or.inl rfl) ⟨rfl, _, rfl, (ir_c rfl), ⟨Or.inl rfl, fun h => absurd rfl h, fun h => by omega, (by first | exact MSE.no (by omega) rfl | exact MSE.ok (by omega) rfl (rfl : ar 106 V x = ar 106 V x))⟩⟩
  ·
    have q8 := h5.2.1 (by omega)
    refine GO.iload_n dX12_sea_7 rfl rfl ?_
    refine GO.iconst dX12_sea_8 ?_
    refine GO.bipush dX12_sea_9 rfl ?_
    refine GO.callS (N := mX12_in) dX12_sea_11 gS_RX12_371 (t_X12_in r_p1 (ir_c rfl) (ir_c rfl)) rfl [] rfl rfl (Nat.le_of_ble_eq_true rfl) rfl (k_ip fun X9 r10 h11 => ?_)
    have raw_in := h11.2.2.2
    have rw11 := h11.2.2.2
    refine GO.if_ne (tgt := 19) dX12_sea_14 (by decide) r10 (fun c12 => ?_) (fun c12 => ?_)
    ·
      have q13 := h11.2.1 (by omega)
      refine GO.aload_n dX12_sea_19 rfl rfl ?_
      refine GO.getA (n := 4) h_x fl_RX12_244 rfl rfl rfl rfl dX12_sea_20 (fun hv15 h14 => ?_)
      refine GO.iload_n dX12_sea_23 rfl rfl ?_
      refine GO.iload_n dX12_sea_24 rfl rfl ?_
      have q16 : -2147483648 ≤ p0 ∧ p0 ≤ 2147483647 := r_p0
      have q18 : -2147483648 ≤ p1 ∧ p1 ≤ 2147483647 := r_p1
      refine GO.iast (t := 84) rfl rfl (by decide +kernel) h14 r_p0 (by omega) (by omega) r_p1 (by omega) (by omega) dX12_sea_25 (fun V19 e17 => ?_)
      have ak20 := tk_put e17 ak2 h_x (vq_of hv15) r_p1 (rfl : ar 106 V x = ar 106 V x)
      refine GO.iconst dX12_sea_26 ?_
      exact GO.retz rfl rfl dX12_sea_27 (Or.inr rfl) ⟨rfl, _, rfl, (ir_c rfl), ⟨Or.inr rfl, fun h => by omega, fun h => absurd h (by decide), (by first | exact MSE.no (by omega) rfl | exact MSE.ok (by omega) rfl ak20.2)⟩⟩
    ·
      have q21 := h11.2.2.1 (by omega)
      refine GO.iconst dX12_sea_17 ?_
      exact GO.retz rfl rfl dX12_sea_18 (Or.inl rfl) ⟨rfl, _, rfl, (ir_c rfl), ⟨Or.inl rfl, fun h => absurd rfl h, fun h => by omega, (by first | exact MSE.no (by omega) rfl | exact MSE.ok (by omega) rfl (rfl : ar 106 V x = ar 106 V x))⟩⟩

set_option maxHeartbeats 1000000 in
theorem t_X12_voyage {K : Kmap} {V : Vmap} {x : Nat} {p0 : Int} {p1 : Int} {p2 : Int} {p3 : Int} (h_x : K x = some (0, 11)) (r_p0 : ir p0) (r_p1 : ir p1) (r_p2 : ir p2) (r_p3 : ir p3) : MC mX12_voyage K V [.ref x, ti p0, ti p1, ti p2, ti p3] (IS K (fun X V1 => (X = 0 ∨ X = 1) ∧ (X ≠ 0 → True) ∧ (X = 0 → True) ∧ (MVY V V1 x p0 p1 p2 p3 X))) := by
  refine MC.start 0 (by decide +kernel) rfl rfl rfl (ls0 := [some (.ref x), some (ti p0), some (ti p1), some (ti p2), some (ti p3)]) rfl ?_
  refine GO.useWT (fun hW1 => ?_)
  have ak2 := hW1.arr h_x 97 75 (by decide) rfl (by decide)
  have ak3 := hW1.arr h_x 98 76 (by decide) rfl (by decide)
  have ak4 := hW1.arr h_x 99 77 (by decide) rfl (by decide)
  have ak5 := hW1.arr h_x 100 78 (by decide) rfl (by decide)
  have ak6 := hW1.arr h_x 101 79 (by decide) rfl (by decide)
  have ak7 := hW1.arr h_x 102 80 (by decide) rfl (by decide)
  have ak8 := hW1.arr h_x 103 81 (by decide) rfl (by decide)
  have ak9 := hW1.arr h_x 104 82 (by decide) rfl (by decide)
  refine GO.useWT (fun hW_0 => ?_)
  refine GO.aload_n dX12_voyage_0 rfl rfl ?_
  refine GO.iload_n dX12_voyage_1 rfl rfl ?_
  refine GO.callV (ci := 11) (N := mX12_isShip) dX12_voyage_2 (RX12, TX12, 151) rfl gV_RX12_618 h_x (t_X12_isShip h_x r_p0) rfl [] rfl rfl (Nat.le_of_ble_eq_true rfl) rfl (k_ip fun X10 r11 h12 => ?_)
  refine GO.if_eq (tgt := 60) dX12_voyage_5 (by decide) r11 (fun c13 => ?_) (fun c13 => ?_)
  ·
    have q14 := h12.2.2 (by omega)
    refine GO.iconst dX12_voyage_60 ?_
    exact GO.retz rfl rfl dX12_voyage_61 (Or.inl rfl) ⟨rfl, _, rfl, (ir_c rfl), ⟨Or.inl rfl, fun _ => trivial, fun _ => trivial, (by first | exact MVY.no (by omega) rfl | exact MVY.n3 (by omega) rfl | exact MVY.nr (by omega) rfl)⟩⟩
  ·
    have q15 := h12.2.1 (by omega)
    refine GO.aload_n dX12_voyage_8 rfl rfl ?_
    refine GO.getA (n := 10) h_x fl_RX12_217 rfl rfl rfl rfl dX12_voyage_9 (fun hv17 h16 => ?_)
    refine GO.iload_n dX12_voyage_12 rfl rfl ?_
    have q18 : -2147483648 ≤ p0 ∧ p0 ≤ 2147483647 := r_p0
    have q19 : -2147483648 ≤ vi V x 91 ∧ vi V x 91 ≤ 2147483647 := vi_ir
    refine GO.iald (t := 75) rfl rfl h16 r_p0 (by omega) (by omega) dX12_voyage_13 (fun _ _ => ?_)
    refine GO.if_ne (tgt := 60) dX12_voyage_14 (by decide) vi_ir (fun c20 => ?_) (fun c20 => ?_)
    ·
      refine GO.iconst dX12_voyage_60 ?_
      exact GO.retz rfl rfl dX12_voyage_61 (Or.inl rfl) ⟨rfl, _, rfl, (ir_c rfl), ⟨Or.inl rfl, fun _ => trivial, fun _ => trivial, (by first | exact MVY.no (by omega) rfl | exact MVY.n3 (by omega) rfl | exact MVY.nr (by omega) rfl)⟩⟩
    ·
      refine GO.iload_n dX12_voyage_17 rfl rfl ?_
      refine GO.callS (N := mX12_isSea) dX12_voyage_18 gS_RX12_615 (t_X12_isSea r_p1) rfl [] rfl rfl (Nat.le_of_ble_eq_true rfl) rfl (k_ip fun X21 r22 h23 => ?_)
      refine GO.if_eq (tgt := 60) dX12_voyage_21 (by decide) r22 (fun c24 => ?_) (fun c24 => ?_)
      ·
        have q25 := h23.2.2 (by omega)
        refine GO.iconst dX12_voyage_60 ?_
        exact GO.retz rfl rfl dX12_voyage_61 (Or.inl rfl) ⟨rfl, _, rfl, (ir_c rfl), ⟨Or.inl rfl, fun _ => trivial, fun _ => trivial, (by first | exact MVY.no (by omega) rfl | exact MVY.n3 (by omega) rfl | exact MVY.nr (by omega) rfl)⟩⟩
      ·
        have q26 := h23.2.1 (by omega)
        refine GO.aload_n dX12_voyage_24 rfl rfl ?_
        refine GO.iload_n dX12_voyage_25 rfl rfl ?_
        refine GO.callV (ci := 11) (N := mX12_stands) dX12_voyage_26 (RX12, TX12, 151) rfl gV_RX12_433 h_x (t_X12_stands h_x r_p2) rfl [] rfl rfl (Nat.le_of_ble_eq_true rfl) rfl (k_ip fun X27 r28 h29 => ?_)
        have raw_stands := h29.2.2.2
        have rw26 := h29.2.2.2
        refine GO.if_eq (tgt := 60) dX12_voyage_29 (by decide) r28 (fun c30 => ?_) (fun c30 => ?_)
        ·
          refine GO.iconst dX12_voyage_60 ?_
          exact GO.retz rfl rfl dX12_voyage_61 (Or.inl rfl) ⟨rfl, _, rfl, (ir_c rfl), ⟨Or.inl rfl, fun _ => trivial, fun _ => trivial, (by first | exact MVY.no (by omega) rfl | exact MVY.n3 (by omega) rfl | exact MVY.ns rw26 (by omega) rfl | exact MVY.nr (by omega) rfl)⟩⟩
        ·
          have q31 := h29.2.1 (by omega)
          refine GO.aload_n dX12_voyage_32 rfl rfl ?_
          refine GO.aload_n dX12_voyage_33 rfl rfl ?_
          refine GO.getA (n := 60) h_x fl_RX12_41 rfl rfl rfl rfl dX12_voyage_34 (fun hv33 h32 => ?_)
          refine GO.iload_n dX12_voyage_37 rfl rfl ?_
          have q34 : -2147483648 ≤ p2 ∧ p2 ≤ 2147483647 := r_p2
          refine GO.iald (t := 17) rfl rfl h32 r_p2 (by omega) (by omega) dX12_voyage_38 (fun l35 u36 => ?_)
          refine GO.callV (ci := 11) (N := mX12_isNearSea) dX12_voyage_39 (RX12, TX12, 151) rfl gV_RX12_621 h_x (t_X12_isNearSea h_x vi_ir (by omega) (by omega)) rfl [] rfl rfl (Nat.le_of_ble_eq_true rfl) rfl (k_ip fun X37 r38 h39 => ?_)
          have raw_isNearSea := h39.2.2.2
          have rw39 := h39.2.2.2
          refine GO.if_eq (tgt := 60) dX12_voyage_42 (by decide) r38 (fun c40 => ?_) (fun c40 => ?_)
          ·
            refine GO.iconst dX12_voyage_60 ?_
            exact GO.retz rfl rfl dX12_voyage_61 (Or.inl rfl) ⟨rfl, _, rfl, (ir_c rfl), ⟨Or.inl rfl, fun _ => trivial, fun _ => trivial, (by first | exact MVY.no (by omega) rfl | exact MVY.n3 (by omega) rfl | exact MVY.ns rw26 (by omega) rfl | exact MVY.nn rw39 (by omega) rfl | exact MVY.nr (by omega) rfl)⟩⟩
          ·
            refine GO.iload dX12_voyage_45 rfl ?_
            refine GO.iconst dX12_voyage_47 ?_
            refine GO.aload_n dX12_voyage_48 rfl rfl ?_
            refine GO.getA (n := 10) h_x fl_RX12_211 rfl rfl rfl rfl dX12_voyage_49 (fun hv42 h41 => ?_)
            refine GO.iload_n dX12_voyage_52 rfl rfl ?_
            refine GO.iald (t := 73) rfl rfl h41 r_p0 (by omega) (by omega) dX12_voyage_53 (fun _ _ => ?_)
            refine GO.callS (N := mX12_in) dX12_voyage_54 gS_RX12_371 (t_X12_in r_p3 (ir_c rfl) vi_ir) rfl [] rfl rfl (Nat.le_of_ble_eq_true rfl) rfl (k_ip fun X43 r44 h45 => ?_)
            have raw_in := h45.2.2.2
            have rw54 := h45.2.2.2
            refine GO.if_ne (tgt := 62) dX12_voyage_57 (by decide) r44 (fun c46 => ?_) (fun c46 => ?_)
            ·
              have q47 := h45.2.1 (by omega)
              refine GO.aload_n dX12_voyage_62 rfl rfl ?_
              refine GO.getRaw h_x fl_RX12_217 hv17 dX12_voyage_63 ?_
              refine GO.iload_n dX12_voyage_66 rfl rfl ?_
              refine GO.iconst dX12_voyage_67 ?_
              refine GO.iast (t := 75) rfl rfl (by decide +kernel) h16 r_p0 (by omega) (by omega) (ir_c rfl) (by decide) (by decide) dX12_voyage_68 (fun V51 e50 => ?_)
              have ak52 := tk_put e50 ak2 h_x (vq_of hv17) (ir_c rfl) (rfl : ar 97 V x = ar 97 V x)
              have ak53 := tk_oth e50 ak3 h_x h16 (by decide) (by decide) (rfl : ar 98 V x = ar 98 V x)
              have ak54 := tk_oth e50 ak4 h_x h16 (by decide) (by decide) (rfl : ar 99 V x = ar 99 V x)
              have ak55 := tk_oth e50 ak5 h_x h16 (by decide) (by decide) (rfl : ar 100 V x = ar 100 V x)
              have ak56 := tk_oth e50 ak6 h_x h16 (by decide) (by decide) (rfl : ar 101 V x = ar 101 V x)
              have ak57 := tk_oth e50 ak7 h_x h16 (by decide) (by decide) (rfl : ar 102 V x = ar 102 V x)
              have ak58 := tk_oth e50 ak8 h_x h16 (by decide) (by decide) (rfl : ar 103 V x = ar 103 V x)
              have ak59 := tk_oth e50 ak9 h_x h16 (by decide) (by decide) (rfl : ar 104 V x = ar 104 V x)
              refine GO.aload_n dX12_voyage_69 rfl rfl ?_
              refine GO.getA (n := 10) h_x fl_RX12_220 rfl rfl rfl rfl dX12_voyage_70 (fun hv61 h60 => ?_)
              refine GO.iload_n dX12_voyage_73 rfl rfl ?_
              refine GO.iload dX12_voyage_74 rfl ?_
              refine GO.iast (t := 76) rfl rfl (by decide +kernel) h60 r_p0 (by omega) (by omega) r_p3 (r_p3).1 (r_p3).2 dX12_voyage_76 (fun V63 e62 => ?_)
              have ak64 := tk_oth e62 ak52.1 h_x h60 (by decide) (by decide) ak52.2
              have ak65 := tk_put e62 ak53.1 h_x (vq_of hv61) r_p3 ak53.2
              have ak66 := tk_oth e62 ak54.1 h_x h60 (by decide) (by decide) ak54.2
              have ak67 := tk_oth e62 ak55.1 h_x h60 (by decide) (by decide) ak55.2
              have ak68 := tk_oth e62 ak56.1 h_x h60 (by decide) (by decide) ak56.2
              have ak69 := tk_oth e62 ak57.1 h_x h60 (by decide) (by decide) ak57.2
              have ak70 := tk_oth e62 ak58.1 h_x h60 (by decide) (by decide) ak58.2
              have ak71 := tk_oth e62 ak59.1 h_x h60 (by decide) (by decide) ak59.2
              refine GO.aload_n dX12_voyage_77 rfl rfl ?_
              refine GO.getA (n := 10) h_x fl_RX12_223 rfl rfl rfl rfl dX12_voyage_78 (fun hv73 h72 => ?_)
              refine GO.iload_n dX12_voyage_81 rfl rfl ?_
              refine GO.iconst dX12_voyage_82 ?_
              refine GO.iast (t := 77) rfl rfl (by decide +kernel) h72 r_p0 (by omega) (by omega) (ir_c rfl) (by decide) (by decide) dX12_voyage_83 (fun V75 e74 => ?_)
              have ak76 := tk_oth e74 ak64.1 h_x h72 (by decide) (by decide) ak64.2
              have ak77 := tk_oth e74 ak65.1 h_x h72 (by decide) (by decide) ak65.2
              have ak78 := tk_put e74 ak66.1 h_x (vq_of hv73) (ir_c rfl) ak66.2
              have ak79 := tk_oth e74 ak67.1 h_x h72 (by decide) (by decide) ak67.2
              have ak80 := tk_oth e74 ak68.1 h_x h72 (by decide) (by decide) ak68.2
              have ak81 := tk_oth e74 ak69.1 h_x h72 (by decide) (by decide) ak69.2
              have ak82 := tk_oth e74 ak70.1 h_x h72 (by decide) (by decide) ak70.2
              have ak83 := tk_oth e74 ak71.1 h_x h72 (by decide) (by decide) ak71.2
              refine GO.aload_n dX12_voyage_84 rfl rfl ?_
              refine GO.getA (n := 10) h_x fl_RX12_229 rfl rfl rfl rfl dX12_voyage_85 (fun hv85 h84 => ?_)
              refine GO.iload_n dX12_voyage_88 rfl rfl ?_
              refine GO.iconst dX12_voyage_89 ?_
              refine GO.iast (t := 79) rfl rfl (by decide +kernel) h84 r_p0 (by omega) (by omega) (ir_c rfl) (by decide) (by decide) dX12_voyage_90 (fun V87 e86 => ?_)
              have ak88 := tk_oth e86 ak76.1 h_x h84 (by decide) (by decide) ak76.2
              have ak89 := tk_oth e86 ak77.1 h_x h84 (by decide) (by decide) ak77.2
              have ak90 := tk_oth e86 ak78.1 h_x h84 (by decide) (by decide) ak78.2
              have ak91 := tk_oth e86 ak79.1 h_x h84 (by decide) (by decide) ak79.2
              have ak92 := tk_put e86 ak80.1 h_x (vq_of hv85) (ir_c rfl) ak80.2
              have ak93 := tk_oth e86 ak81.1 h_x h84 (by decide) (by decide) ak81.2
              have ak94 := tk_oth e86 ak82.1 h_x h84 (by decide) (by decide) ak82.2
              have ak95 := tk_oth e86 ak83.1 h_x h84 (by decide) (by decide) ak83.2
              refine GO.aload_n dX12_voyage_91 rfl rfl ?_
              refine GO.getA (n := 10) h_x fl_RX12_232 rfl rfl rfl rfl dX12_voyage_92 (fun hv97 h96 => ?_)
              refine GO.iload_n dX12_voyage_95 rfl rfl ?_
              refine GO.iload_n dX12_voyage_96 rfl rfl ?_
              have q99 : -2147483648 ≤ p1 ∧ p1 ≤ 2147483647 := r_p1
              refine GO.iast (t := 80) rfl rfl (by decide +kernel) h96 r_p0 (by omega) (by omega) r_p1 (by omega) (by omega) dX12_voyage_97 (fun V100 e98 => ?_)
              have ak101 := tk_oth e98 ak88.1 h_x h96 (by decide) (by decide) ak88.2
              have ak102 := tk_oth e98 ak89.1 h_x h96 (by decide) (by decide) ak89.2
              have ak103 := tk_oth e98 ak90.1 h_x h96 (by decide) (by decide) ak90.2
              have ak104 := tk_oth e98 ak91.1 h_x h96 (by decide) (by decide) ak91.2
              have ak105 := tk_oth e98 ak92.1 h_x h96 (by decide) (by decide) ak92.2
              have ak106 := tk_put e98 ak93.1 h_x (vq_of hv97) r_p1 ak93.2
              have ak107 := tk_oth e98 ak94.1 h_x h96 (by decide) (by decide) ak94.2
              have ak108 := tk_oth e98 ak95.1 h_x h96 (by decide) (by decide) ak95.2
              refine GO.aload_n dX12_voyage_98 rfl rfl ?_
              refine GO.getA (n := 10) h_x fl_RX12_235 rfl rfl rfl rfl dX12_voyage_99 (fun hv110 h109 => ?_)
              refine GO.iload_n dX12_voyage_102 rfl rfl ?_
              refine GO.iload_n dX12_voyage_103 rfl rfl ?_
              refine GO.iast (t := 81) rfl rfl (by decide +kernel) h109 r_p0 (by omega) (by omega) r_p2 (by omega) (by omega) dX12_voyage_104 (fun V112 e111 => ?_)
              have ak113 := tk_oth e111 ak101.1 h_x h109 (by decide) (by decide) ak101.2
              have ak114 := tk_oth e111 ak102.1 h_x h109 (by decide) (by decide) ak102.2
              have ak115 := tk_oth e111 ak103.1 h_x h109 (by decide) (by decide) ak103.2
              have ak116 := tk_oth e111 ak104.1 h_x h109 (by decide) (by decide) ak104.2
              have ak117 := tk_oth e111 ak105.1 h_x h109 (by decide) (by decide) ak105.2
              have ak118 := tk_oth e111 ak106.1 h_x h109 (by decide) (by decide) ak106.2
              have ak119 := tk_put e111 ak107.1 h_x (vq_of hv110) r_p2 ak107.2
              have ak120 := tk_oth e111 ak108.1 h_x h109 (by decide) (by decide) ak108.2
              refine GO.aload_n dX12_voyage_105 rfl rfl ?_
              refine GO.getA (n := 10) h_x fl_RX12_238 rfl rfl rfl rfl dX12_voyage_106 (fun hv122 h121 => ?_)
              refine GO.iload_n dX12_voyage_109 rfl rfl ?_
              refine GO.aload_n dX12_voyage_110 rfl rfl ?_
              refine GO.getA (n := 4) h_x fl_RX12_244 rfl rfl rfl rfl dX12_voyage_111 (fun hv124 h123 => ?_)
              refine GO.useFR (fun hFs => ?_)
              have h106 : ar 106 V112 x = ar 106 V x := (arq hFs ext.rf h_x (hW_0.ref h_x (j := 106) (Nat.le_of_ble_eq_true rfl) rfl).2 (by decide +kernel) (by decide +kernel))
              refine GO.iload_n dX12_voyage_114 rfl rfl ?_
              refine GO.iald (t := 84) rfl rfl h123 r_p1 (by omega) (by omega) dX12_voyage_115 (fun l125 u126 => ?_)
              refine GO.iast (t := 82) rfl rfl (by decide +kernel) h121 r_p0 (by omega) (by omega) vi_ir (vi_ir).1 (vi_ir).2 dX12_voyage_116 (fun V134 e133 => ?_)
              have ak135 := tk_oth e133 ak113.1 h_x h121 (by decide) (by decide) ak113.2
              have ak136 := tk_oth e133 ak114.1 h_x h121 (by decide) (by decide) ak114.2
              have ak137 := tk_oth e133 ak115.1 h_x h121 (by decide) (by decide) ak115.2
              have ak138 := tk_oth e133 ak116.1 h_x h121 (by decide) (by decide) ak116.2
              have ak139 := tk_oth e133 ak117.1 h_x h121 (by decide) (by decide) ak117.2
              have ak140 := tk_oth e133 ak118.1 h_x h121 (by decide) (by decide) ak118.2
              have ak141 := tk_oth e133 ak119.1 h_x h121 (by decide) (by decide) ak119.2
              have ak142 := tk_put e133 ak120.1 h_x (vq_of hv122) vi_ir ak120.2
              refine GO.aload_n dX12_voyage_117 rfl rfl ?_
              refine GO.getA (n := 10) h_x fl_RX12_226 rfl rfl rfl rfl dX12_voyage_118 (fun hv144 h143 => ?_)
              refine GO.iload_n dX12_voyage_121 rfl rfl ?_
              refine GO.aload_n dX12_voyage_122 rfl rfl ?_
              refine GO.getI h_x fl_RX12_396 rfl rfl dX12_voyage_123 (fun l145 u146 => ?_)
              refine GO.useFR (fun hFs => ?_)
              have hnow : vi V134 x 2 = vi V x 2 := vi_fr hFs h_x h_x (by decide +kernel)
              refine GO.aload_n dX12_voyage_126 rfl rfl ?_
              refine GO.getRaw h_x fl_RX12_244 (Eq.trans (uq_ne e133 (Or.inl (K_ne h_x h121 (by decide)))) hv124) dX12_voyage_127 ?_
              refine GO.iload_n dX12_voyage_130 rfl rfl ?_
              refine GO.iald (t := 84) rfl rfl h123 r_p1 (by omega) (by omega) dX12_voyage_131 (fun l156 u157 => ?_)
              have e158 : vi V134 (vq V112 x 106) (p1).toNat = vi V112 (vq V112 x 106) (p1).toNat := vi_up e133 (Or.inl (K_ne h123 h121 (by decide)))
              refine GO.iadd dX12_voyage_132 ?_
              refine GO.iast (t := 78) rfl rfl (by decide +kernel) h143 r_p0 (by omega) (by omega) ⟨by omega, by omega⟩ (by omega) (by omega) dX12_voyage_133 (fun V160 e159 => ?_)
              have ak161 := tk_oth e159 ak135.1 h_x h143 (by decide) (by decide) ak135.2
              have ak162 := tk_oth e159 ak136.1 h_x h143 (by decide) (by decide) ak136.2
              have ak163 := tk_oth e159 ak137.1 h_x h143 (by decide) (by decide) ak137.2
              have ak164 := tk_put e159 ak138.1 h_x (vq_of hv144) ⟨by omega, by omega⟩ ak138.2
              have ak165 := tk_oth e159 ak139.1 h_x h143 (by decide) (by decide) ak139.2
              have ak166 := tk_oth e159 ak140.1 h_x h143 (by decide) (by decide) ak140.2
              have ak167 := tk_oth e159 ak141.1 h_x h143 (by decide) (by decide) ak141.2
              have ak168 := tk_oth e159 ak142.1 h_x h143 (by decide) (by decide) ak142.2
              refine GO.aload_n dX12_voyage_134 rfl rfl ?_
              refine GO.aload_n dX12_voyage_135 rfl rfl ?_
              refine GO.getL h_x fl_RX12_429 rfl rfl dX12_voyage_136 ?_
              refine GO.anyL (fun z169 => ?_)
              refine GO.iload dX12_voyage_139 rfl ?_
              refine GO.i2l dX12_voyage_141 ?_
              refine GO.anyL (fun z170 => ?_)
              refine GO.ladd dX12_voyage_142 ?_
              refine GO.anyL (fun z171 => ?_)
              refine GO.putL h_x fp_RX12_429 rfl (by decide +kernel) dX12_voyage_143 (fun V173 e172 => ?_)
              have ak174 := tk_fld e172 ak161.1 h_x (by decide) ak161.2
              have ak175 := tk_fld e172 ak162.1 h_x (by decide) ak162.2
              have ak176 := tk_fld e172 ak163.1 h_x (by decide) ak163.2
              have ak177 := tk_fld e172 ak164.1 h_x (by decide) ak164.2
              have ak178 := tk_fld e172 ak165.1 h_x (by decide) ak165.2
              have ak179 := tk_fld e172 ak166.1 h_x (by decide) ak166.2
              have ak180 := tk_fld e172 ak167.1 h_x (by decide) ak167.2
              have ak181 := tk_fld e172 ak168.1 h_x (by decide) ak168.2
              refine GO.useFR (fun hFs => ?_)
              refine GO.iconst dX12_voyage_146 ?_
              exact GO.retz rfl rfl dX12_voyage_147 (Or.inr rfl) ⟨rfl, _, rfl, (ir_c rfl), ⟨Or.inr rfl, fun _ => trivial, fun _ => trivial, (by first | exact MVY.no (by omega) rfl | exact MVY.n3 (by omega) rfl | exact MVY.ns rw26 (by omega) rfl | exact MVY.nn rw39 (by omega) rfl | exact MVY.nr (by omega) rfl | exact MVY.ok rfl (by omega) (by omega) rw26 (by omega) rw39 (by omega) (by omega) (by omega) ak174.2 ak175.2 ak176.2 ak178.2 ak179.2 ak180.2 ak181.2 ak177.2 (congrFun h106 _) (by omega) (by omega) (by omega) (by omega) (by omega) (by omega) (by omega) (by omega) (by omega) (by omega) (by omega) (arq hFs ext.rf h_x (hW_0.ref h_x (j := 94) (Nat.le_of_ble_eq_true rfl) rfl).2 (by decide +kernel) (by decide +kernel)) (arq hFs ext.rf h_x (hW_0.ref h_x (j := 95) (Nat.le_of_ble_eq_true rfl) rfl).2 (by decide +kernel) (by decide +kernel)) (arq hFs ext.rf h_x (hW_0.ref h_x (j := 96) (Nat.le_of_ble_eq_true rfl) rfl).2 (by decide +kernel) (by decide +kernel)))⟩⟩
            ·
              have q182 := h45.2.2.1 (by omega)
              refine GO.iconst dX12_voyage_60 ?_
              exact GO.retz rfl rfl dX12_voyage_61 (Or.inl rfl) ⟨rfl, _, rfl, (ir_c rfl), ⟨Or.inl rfl, fun _ => trivial, fun _ => trivial, (by first | exact MVY.no (by omega) rfl | exact MVY.n3 (by omega) rfl | exact MVY.ns rw26 (by omega) rfl | exact MVY.nn rw39 (by omega) rfl | exact MVY.nr (by omega) rfl)⟩⟩

set_option maxHeartbeats 1000000 in
theorem t_X12_turnsBack {K : Kmap} {V : Vmap} {x : Nat} {p0 : Int} (h_x : K x = some (0, 11)) (r_p0 : ir p0) (q_0 : p0 ≥ 0) (q_1 : p0 ≤ 9) : MC mX12_turnsBack K V [.ref x, ti p0] (VS K (fun V1 => (True) ∧ (MTB V V1 x p0))) := by
  refine MC.start 0 (by decide +kernel) rfl rfl rfl (ls0 := [some (.ref x), some (ti p0)]) rfl ?_
  refine GO.useWT (fun hW1 => ?_)
  have ak2 := hW1.arr h_x 97 75 (by decide) rfl (by decide)
  have ak3 := hW1.arr h_x 100 78 (by decide) rfl (by decide)
  refine GO.useWT (fun hW_0 => ?_)
  refine GO.aload_n dX12_turnsBack_0 rfl rfl ?_
  refine GO.getA (n := 10) h_x fl_RX12_217 rfl rfl rfl rfl dX12_turnsBack_1 (fun hv5 h4 => ?_)
  refine GO.iload_n dX12_turnsBack_4 rfl rfl ?_
  refine GO.iconst dX12_turnsBack_5 ?_
  have q6 : -2147483648 ≤ p0 ∧ p0 ≤ 2147483647 := r_p0
  refine GO.iast (t := 75) rfl rfl (by decide +kernel) h4 r_p0 (by omega) (by omega) (ir_c rfl) (by decide) (by decide) dX12_turnsBack_6 (fun V8 e7 => ?_)
  have ak9 := tk_put e7 ak2 h_x (vq_of hv5) (ir_c rfl) (rfl : ar 97 V x = ar 97 V x)
  have ak10 := tk_oth e7 ak3 h_x h4 (by decide) (by decide) (rfl : ar 100 V x = ar 100 V x)
  refine GO.aload_n dX12_turnsBack_7 rfl rfl ?_
  refine GO.getA (n := 10) h_x fl_RX12_226 rfl rfl rfl rfl dX12_turnsBack_8 (fun hv12 h11 => ?_)
  refine GO.iload_n dX12_turnsBack_11 rfl rfl ?_
  refine GO.aload_n dX12_turnsBack_12 rfl rfl ?_
  refine GO.getI h_x fl_RX12_396 rfl rfl dX12_turnsBack_13 (fun l13 u14 => ?_)
  refine GO.aload_n dX12_turnsBack_16 rfl rfl ?_
  refine GO.getA (n := 10) h_x fl_RX12_238 rfl rfl rfl rfl dX12_turnsBack_17 (fun hv17 h16 => ?_)
  refine GO.iload_n dX12_turnsBack_20 rfl rfl ?_
  refine GO.iald (t := 82) rfl rfl h16 r_p0 (by omega) (by omega) dX12_turnsBack_21 (fun _ _ => ?_)
  refine GO.useFR (fun hFs => ?_)
  have h2 : vi V8 x 2 = vi V x 2 := vi_fr hFs h_x h_x (by decide +kernel)
  have h104 : ar 104 V8 x = ar 104 V x := (arq hFs ext.rf h_x (hW_0.ref h_x (j := 104) (Nat.le_of_ble_eq_true rfl) rfl).2 (by decide +kernel) (by decide +kernel))
  refine GO.iadd dX12_turnsBack_22 ?_
  refine GO.norm2 (fun z19 r20 hn21 hw22 => ?_)
  refine GO.iast (t := 78) rfl rfl (by decide +kernel) h11 r_p0 (by omega) (by omega) r20 (r20).1 (r20).2 dX12_turnsBack_23 (fun V24 e23 => ?_)
  have ak25 := tk_oth e23 ak9.1 h_x h11 (by decide) (by decide) ak9.2
  have ak26 := tk_put e23 ak10.1 h_x (vq_of hv12) r20 ak10.2
  exact GO.retv rfl rfl dX12_turnsBack_24 ⟨rfl, rfl, ⟨trivial, MTB.mk ak25.2 ak26.2 (by assumption) h2 (congrFun h104 _) (by omega) (by omega)⟩⟩

set_option maxHeartbeats 1000000 in
theorem t_X12_arrives {K : Kmap} {V : Vmap} {x : Nat} {p0 : Int} (h_x : K x = some (0, 11)) (r_p0 : ir p0) (q_0 : p0 ≥ 0) (q_1 : p0 ≤ 9) : MC mX12_arrives K V [.ref x, ti p0] (VS K (fun V1 => (True) ∧ (MAR V V1 x p0))) := by
  refine MC.start 4 (by decide +kernel) rfl rfl rfl (ls0 := [some (.ref x), some (ti p0), none, none, none, none]) rfl ?_
  refine GO.useWT (fun hW1 => ?_)
  have ak2 := hW1.arr h_x 20 22 (by decide) rfl (by decide)
  have ak3 := hW1.arr h_x 97 75 (by decide) rfl (by decide)
  have ak4 := hW1.arr h_x 98 76 (by decide) rfl (by decide)
  have ak5 := hW1.arr h_x 99 77 (by decide) rfl (by decide)
  have ak6 := hW1.arr h_x 100 78 (by decide) rfl (by decide)
  have ak7 := hW1.arr h_x 23 25 (by decide) rfl (by decide)
  refine GO.useWT (fun hW_0 => ?_)
  refine GO.aload_n dX12_arrives_0 rfl rfl ?_
  refine GO.getA (n := 10) h_x fl_RX12_235 rfl rfl rfl rfl dX12_arrives_1 (fun hv9 h8 => ?_)
  refine GO.iload_n dX12_arrives_4 rfl rfl ?_
  have q10 : -2147483648 ≤ p0 ∧ p0 ≤ 2147483647 := r_p0
  refine GO.iald (t := 81) rfl rfl h8 r_p0 (by omega) (by omega) dX12_arrives_5 (fun l11 u12 => ?_)
  refine GO.name (fun z13 hz14 => ?_)
  have r15 : ir z13 := hz14 ▸ vi_ir
  refine GO.istore_n (ls1 := [some (.ref x), some (ti p0), some (ti z13), none, none, none]) dX12_arrives_6 rfl rfl rfl ?_
  refine GO.aload_n dX12_arrives_7 rfl rfl ?_
  refine GO.getA (n := 60) h_x fl_RX12_80 rfl rfl rfl rfl dX12_arrives_8 (fun hv17 h16 => ?_)
  refine GO.iload_n dX12_arrives_11 rfl rfl ?_
  refine GO.zald (t := 30) rfl rfl h16 r15 (by omega) (by omega) dX12_arrives_12 (fun l18 u19 => ?_)
  refine GO.if_ne (tgt := 29) dX12_arrives_13 (by decide) vi_ir (fun c20 => ?_) (fun c20 => ?_)
  ·
    refine GO.aload_n dX12_arrives_29 rfl rfl ?_
    refine GO.iload_n dX12_arrives_30 rfl rfl ?_
    refine GO.callV (ci := 11) (N := mX12_turnsBack) dX12_arrives_31 (RX12, TX12, 151) rfl gV_RX12_624 h_x (t_X12_turnsBack h_x r_p0 (by omega) (by omega)) rfl [] rfl rfl (Nat.le_of_ble_eq_true rfl) rfl (k_vs fun V23 h22 hF21 => ?_)
    have ak24 := tk_fr hF21 ak2 h_x (by decide +kernel) (by decide +kernel) (rfl : ar 20 V x = ar 20 V x)
    have ak25 := tk_fr hF21 ak4 h_x (by decide +kernel) (by decide +kernel) (rfl : ar 98 V x = ar 98 V x)
    have ak26 := tk_fr hF21 ak5 h_x (by decide +kernel) (by decide +kernel) (rfl : ar 99 V x = ar 99 V x)
    have ak27 := tk_fr hF21 ak7 h_x (by decide +kernel) (by decide +kernel) (rfl : ar 23 V x = ar 23 V x)
    refine GO.useWT (fun hW28 => ?_)
    have ak29 := hW28.arr h_x 97 75 (by decide) rfl (by decide)
    have ak30 := hW28.arr h_x 100 78 (by decide) rfl (by decide)
    have raw_turnsBack := h22.2
    have rw31 := h22.2
    refine GO.useFR (fun hFs => ?_)
    exact GO.retv rfl rfl dX12_arrives_34 ⟨rfl, rfl, ⟨trivial, (by first | exact MAR.no (OKM.n1 (by assumption) (by omega)) (MWQ.fr hFs ext.rf hW_0 h_x (by decide +kernel)) rw31 ak25.2 ak26.2 (arq hFs ext.rf h_x (hW_0.ref h_x (j := 101) (Nat.le_of_ble_eq_true rfl) rfl).2 (by decide +kernel) (by decide +kernel)) ak24.2 ak27.2)⟩⟩
  ·
    refine GO.aload_n dX12_arrives_16 rfl rfl ?_
    refine GO.aload_n dX12_arrives_17 rfl rfl ?_
    refine GO.getA (n := 60) h_x fl_RX12_41 rfl rfl rfl rfl dX12_arrives_18 (fun hv32 h31 => ?_)
    refine GO.iload_n dX12_arrives_21 rfl rfl ?_
    refine GO.iald (t := 17) rfl rfl h31 r15 (by omega) (by omega) dX12_arrives_22 (fun l33 u34 => ?_)
    refine GO.callV (ci := 11) (N := mX12_isNearSea) dX12_arrives_23 (RX12, TX12, 151) rfl gV_RX12_621 h_x (t_X12_isNearSea h_x vi_ir (by omega) (by omega)) rfl [] rfl rfl (Nat.le_of_ble_eq_true rfl) rfl (k_ip fun X35 r36 h37 => ?_)
    have raw_isNearSea := h37.2.2.2
    have rw23 := h37.2.2.2
    refine GO.if_ne (tgt := 35) dX12_arrives_26 (by decide) r36 (fun c38 => ?_) (fun c38 => ?_)
    ·
      refine GO.aload_n dX12_arrives_35 rfl rfl ?_
      refine GO.getA (n := 60) h_x fl_RX12_56 rfl rfl rfl rfl dX12_arrives_36 (fun hv40 h39 => ?_)
      refine GO.iload_n dX12_arrives_39 rfl rfl ?_
      refine GO.aload_n dX12_arrives_40 rfl rfl ?_
      refine GO.getRaw h_x fl_RX12_56 hv40 dX12_arrives_41 ?_
      refine GO.iload_n dX12_arrives_44 rfl rfl ?_
      refine GO.iald (t := 22) rfl rfl h39 r15 (by omega) (by omega) dX12_arrives_45 (fun _ _ => ?_)
      refine GO.aload_n dX12_arrives_46 rfl rfl ?_
      refine GO.getA (n := 10) h_x fl_RX12_220 rfl rfl rfl rfl dX12_arrives_47 (fun hv44 h43 => ?_)
      refine GO.iload_n dX12_arrives_50 rfl rfl ?_
      refine GO.iald (t := 76) rfl rfl h43 r_p0 (by omega) (by omega) dX12_arrives_51 (fun _ _ => ?_)
      refine GO.iadd dX12_arrives_52 ?_
      refine GO.norm2 (fun z45 r46 hn47 hw48 => ?_)
      refine GO.iast (t := 22) rfl rfl (by decide +kernel) h39 r15 (by omega) (by omega) r46 (r46).1 (r46).2 dX12_arrives_53 (fun V50 e49 => ?_)
      have ak51 := tk_put e49 ak2 h_x (vq_of hv40) r46 (rfl : ar 20 V x = ar 20 V x)
      have ak52 := tk_oth e49 ak3 h_x h39 (by decide) (by decide) (rfl : ar 97 V x = ar 97 V x)
      have ak53 := tk_oth e49 ak4 h_x h39 (by decide) (by decide) (rfl : ar 98 V x = ar 98 V x)
      have ak54 := tk_oth e49 ak5 h_x h39 (by decide) (by decide) (rfl : ar 99 V x = ar 99 V x)
      have ak55 := tk_oth e49 ak6 h_x h39 (by decide) (by decide) (rfl : ar 100 V x = ar 100 V x)
      have ak56 := tk_oth e49 ak7 h_x h39 (by decide) (by decide) (rfl : ar 23 V x = ar 23 V x)
      refine GO.aload_n dX12_arrives_54 rfl rfl ?_
      refine GO.getRaw h_x fl_RX12_220 (Eq.trans (uq_ne e49 (Or.inl (K_ne h_x h39 (by decide)))) hv44) dX12_arrives_55 ?_
      refine GO.iload_n dX12_arrives_58 rfl rfl ?_
      refine GO.iconst dX12_arrives_59 ?_
      refine GO.iast (t := 76) rfl rfl (by decide +kernel) h43 r_p0 (by omega) (by omega) (ir_c rfl) (by decide) (by decide) dX12_arrives_60 (fun V60 e59 => ?_)
      have ak61 := tk_oth e59 ak51.1 h_x h43 (by decide) (by decide) ak51.2
      have ak62 := tk_oth e59 ak52.1 h_x h43 (by decide) (by decide) ak52.2
      have ak63 := tk_put e59 ak53.1 h_x (vq_of (Eq.trans (uq_ne e49 (Or.inl (K_ne h_x h39 (by decide)))) hv44)) (ir_c rfl) ak53.2
      have ak64 := tk_oth e59 ak54.1 h_x h43 (by decide) (by decide) ak54.2
      have ak65 := tk_oth e59 ak55.1 h_x h43 (by decide) (by decide) ak55.2
      have ak66 := tk_oth e59 ak56.1 h_x h43 (by decide) (by decide) ak56.2
      refine GO.iconst dX12_arrives_61 ?_
      refine GO.istore_n (ls1 := [some (.ref x), some (ti p0), some (ti z13), some (ti 3), none, none]) dX12_arrives_62 rfl rfl rfl ?_
      refine GO.loop1 (fun i67 W => (-1) ≤ i67 ∧ i67 ≤ 3 ∧ (MAI V W x (p0).toNat (z13).toNat i67) ∧ ar 20 W x = updf (ar 20 V x) (z13).toNat z45 ∧ ar 97 W x = ar 97 V x ∧ ar 98 W x = updf (ar 98 V x) (p0).toNat 0 ∧ ar 100 W x = ar 100 V x ∧ True) (fun i67 => [some (.ref x), some (ti p0), some (ti z13), some (ti i67), none, none]) (fun i67 W => (i67 + 2147483648).toNat) 3 ⟨by omega, by omega, (by first | exact MAI.beg ak64.2 ak66.2), ak61.2, ak62.2, ak63.2, ak65.2, trivial⟩ rfl (fun i67 Wi67 hp489 ih488 => ?_)
      obtain ⟨l_i67, u_i67, hma, kp490, kp491, kp492, kp493, -⟩ := hp489
      have r_i67 : ir i67 := ⟨by omega, by omega⟩
      show GO mX12_arrives K V (VS K (fun V1 => (True) ∧ (MAR V V1 x p0))) K Wi67 0 0 63 [some (.ref x), some (ti p0), some (ti z13), some (ti i67), none, none] []
      refine GO.useWT (fun hW494 => ?_)
      have ak495 := hW494.arr h_x 20 22 (by decide) rfl (by decide)
      have ak496 := hW494.arr h_x 97 75 (by decide) rfl (by decide)
      have ak497 := hW494.arr h_x 98 76 (by decide) rfl (by decide)
      have ak498 := hW494.arr h_x 99 77 (by decide) rfl (by decide)
      have ak499 := hW494.arr h_x 100 78 (by decide) rfl (by decide)
      have ak500 := hW494.arr h_x 23 25 (by decide) rfl (by decide)
      refine GO.useFR (fun hFs => ?_)
      have h95 : ar 95 Wi67 x = ar 95 V x := (arq hFs ext.rf h_x (hW_0.ref h_x (j := 95) (Nat.le_of_ble_eq_true rfl) rfl).2 (by decide +kernel) (by decide +kernel))
      have hsw : MWQ V Wi67 x := (MWQ.fr hFs ext.rf hW_0 h_x (by decide +kernel))
      refine GO.iload_n dX12_arrives_63 rfl rfl ?_
      refine GO.if_lt (tgt := 158) dX12_arrives_64 (by decide) r_i67 (fun c501 => ?_) (fun c501 => ?_)
      ·
        have e97 := kp491
        have e100 := kp493
        refine GO.aload_n dX12_arrives_158 rfl rfl ?_
        refine GO.iload_n dX12_arrives_159 rfl rfl ?_
        refine GO.callV (ci := 11) (N := mX12_turnsBack) dX12_arrives_160 (RX12, TX12, 151) rfl gV_RX12_624 h_x (t_X12_turnsBack h_x r_p0 (by omega) (by omega)) rfl [] rfl rfl (Nat.le_of_ble_eq_true rfl) rfl (k_vs fun V504 h503 hF502 => ?_)
        have ak505 := tk_fr hF502 ak495 h_x (by decide +kernel) (by decide +kernel) kp490
        have ak506 := tk_fr hF502 ak497 h_x (by decide +kernel) (by decide +kernel) kp492
        have ak507 := tk_fr hF502 ak498 h_x (by decide +kernel) (by decide +kernel) (rfl : ar 99 Wi67 x = ar 99 Wi67 x)
        have ak508 := tk_fr hF502 ak500 h_x (by decide +kernel) (by decide +kernel) (rfl : ar 23 Wi67 x = ar 23 Wi67 x)
        refine GO.useWT (fun hW509 => ?_)
        have ak510 := hW509.arr h_x 97 75 (by decide) rfl (by decide)
        have ak511 := hW509.arr h_x 100 78 (by decide) rfl (by decide)
        have raw_turnsBack := h503.2
        have rw160 := h503.2
        refine GO.useFR (fun hFs => ?_)
        exact GO.retv rfl rfl dX12_arrives_163 ⟨rfl, rfl, ⟨trivial, (by first | exact MAR.ok (OKM.ys (by assumption) (by omega) rw23 (by omega)) (by assumption) (by omega) (by omega) hma (MWQ.fr hFs ext.rf hW_0 h_x (by decide +kernel)) hsw rw160 e97 e100 ak506.2 (by omega) ak505.2 (by omega) (by assumption) ak507.2 ak508.2 (arq hFs ext.rf h_x (hW_0.ref h_x (j := 101) (Nat.le_of_ble_eq_true rfl) rfl).2 (by decide +kernel) (by decide +kernel)))⟩⟩
      ·
        refine GO.aload_n dX12_arrives_67 rfl rfl ?_
        refine GO.getA (n := 10) h_x fl_RX12_211 rfl rfl rfl rfl dX12_arrives_68 (fun hv513 h512 => ?_)
        refine GO.iload_n dX12_arrives_71 rfl rfl ?_
        refine GO.iald (t := 73) rfl rfl h512 r_p0 (by omega) (by omega) dX12_arrives_72 (fun _ _ => ?_)
        refine GO.aload_n dX12_arrives_73 rfl rfl ?_
        refine GO.getA (n := 10) h_x fl_RX12_223 rfl rfl rfl rfl dX12_arrives_74 (fun hv515 h514 => ?_)
        refine GO.iload_n dX12_arrives_77 rfl rfl ?_
        refine GO.iald (t := 77) rfl rfl h514 r_p0 (by omega) (by omega) dX12_arrives_78 (fun _ _ => ?_)
        refine GO.isub dX12_arrives_79 ?_
        refine GO.norm2 (fun z516 r517 hn518 hw519 => ?_)
        refine GO.istore (ls1 := [some (.ref x), some (ti p0), some (ti z13), some (ti i67), some (ti z516), none]) dX12_arrives_80 rfl rfl ?_
        refine GO.aload_n dX12_arrives_82 rfl rfl ?_
        refine GO.getA (n := 240) h_x fl_RX12_65 rfl rfl rfl rfl dX12_arrives_83 (fun hv521 h520 => ?_)
        refine GO.iconst dX12_arrives_86 ?_
        refine GO.iload_n dX12_arrives_87 rfl rfl ?_
        refine GO.imul dX12_arrives_88 ?_
        refine GO.iload_n dX12_arrives_89 rfl rfl ?_
        refine GO.iadd dX12_arrives_90 ?_
        refine GO.iald (t := 25) rfl rfl h520 ⟨by omega, by omega⟩ (by omega) (by omega) dX12_arrives_91 (fun _ _ => ?_)
        refine GO.iload dX12_arrives_92 rfl ?_
        refine GO.icmp_ge (tgt := 110) dX12_arrives_94 (by decide) vi_ir r517 (fun c522 => ?_) (fun c522 => ?_)
        ·
          refine GO.iload dX12_arrives_110 rfl ?_
          refine GO.istore (ls1 := [some (.ref x), some (ti p0), some (ti z13), some (ti i67), some (ti z516), some (ti z516)]) dX12_arrives_112 rfl rfl ?_
          refine GO.aload_n dX12_arrives_114 rfl rfl ?_
          refine GO.getRaw h_x fl_RX12_65 hv521 dX12_arrives_115 ?_
          refine GO.iconst dX12_arrives_118 ?_
          refine GO.iload_n dX12_arrives_119 rfl rfl ?_
          refine GO.imul dX12_arrives_120 ?_
          refine GO.iload_n dX12_arrives_121 rfl rfl ?_
          refine GO.iadd dX12_arrives_122 ?_
          refine GO.aload_n dX12_arrives_123 rfl rfl ?_
          refine GO.getRaw h_x fl_RX12_65 hv521 dX12_arrives_124 ?_
          refine GO.iconst dX12_arrives_127 ?_
          refine GO.iload_n dX12_arrives_128 rfl rfl ?_
          refine GO.imul dX12_arrives_129 ?_
          refine GO.iload_n dX12_arrives_130 rfl rfl ?_
          refine GO.iadd dX12_arrives_131 ?_
          refine GO.iald (t := 25) rfl rfl h520 ⟨by omega, by omega⟩ (by omega) (by omega) dX12_arrives_132 (fun _ _ => ?_)
          refine GO.iload dX12_arrives_133 rfl ?_
          refine GO.isub dX12_arrives_135 ?_
          refine GO.norm2 (fun z527 r528 hn529 hw530 => ?_)
          refine GO.iast (t := 25) rfl rfl (by decide +kernel) h520 ⟨by omega, by omega⟩ (by omega) (by omega) r528 (r528).1 (r528).2 dX12_arrives_136 (fun V532 e531 => ?_)
          have ak533 := tk_oth e531 ak495 h_x h520 (by decide) (by decide) kp490
          have ak534 := tk_oth e531 ak496 h_x h520 (by decide) (by decide) kp491
          have ak535 := tk_oth e531 ak497 h_x h520 (by decide) (by decide) kp492
          have ak536 := tk_oth e531 ak498 h_x h520 (by decide) (by decide) (rfl : ar 99 Wi67 x = ar 99 Wi67 x)
          have ak537 := tk_oth e531 ak499 h_x h520 (by decide) (by decide) kp493
          have ak538 := tk_put e531 ak500 h_x (vq_of hv521) r528 (rfl : ar 23 Wi67 x = ar 23 Wi67 x)
          refine GO.aload_n dX12_arrives_137 rfl rfl ?_
          refine GO.getRaw h_x fl_RX12_223 (Eq.trans (uq_ne e531 (Or.inl (K_ne h_x h520 (by decide)))) hv515) dX12_arrives_138 ?_
          refine GO.iload_n dX12_arrives_141 rfl rfl ?_
          refine GO.aload_n dX12_arrives_142 rfl rfl ?_
          refine GO.getRaw h_x fl_RX12_223 (Eq.trans (uq_ne e531 (Or.inl (K_ne h_x h520 (by decide)))) hv515) dX12_arrives_143 ?_
          refine GO.iload_n dX12_arrives_146 rfl rfl ?_
          refine GO.iald (t := 77) rfl rfl h514 r_p0 (by omega) (by omega) dX12_arrives_147 (fun _ _ => ?_)
          have e543 : vi V532 (vq Wi67 x 99) (p0).toNat = vi Wi67 (vq Wi67 x 99) (p0).toNat := vi_up e531 (Or.inl (K_ne h514 h520 (by decide)))
          refine GO.iload dX12_arrives_148 rfl ?_
          refine GO.iadd dX12_arrives_150 ?_
          refine GO.norm2 (fun z544 r545 hn546 hw547 => ?_)
          refine GO.iast (t := 77) rfl rfl (by decide +kernel) h514 r_p0 (by omega) (by omega) r545 (r545).1 (r545).2 dX12_arrives_151 (fun V549 e548 => ?_)
          have ak550 := tk_oth e548 ak533.1 h_x h514 (by decide) (by decide) ak533.2
          have ak551 := tk_oth e548 ak534.1 h_x h514 (by decide) (by decide) ak534.2
          have ak552 := tk_oth e548 ak535.1 h_x h514 (by decide) (by decide) ak535.2
          have ak553 := tk_put e548 ak536.1 h_x (vq_of (Eq.trans (uq_ne e531 (Or.inl (K_ne h_x h520 (by decide)))) hv515)) r545 ak536.2
          have ak554 := tk_oth e548 ak537.1 h_x h514 (by decide) (by decide) ak537.2
          have ak555 := tk_oth e548 ak538.1 h_x h514 (by decide) (by decide) ak538.2
          refine GO.iinc (X := i67) (n := (-1)) (Y := i67 + (-1)) (ls1 := [some (.ref x), some (ti p0), some (ti z13), some (ti (i67 + (-1))), some (ti z516), some (ti z516)]) dX12_arrives_152 rfl rfl rfl rfl ?_
          refine GO.goto (tgt := 63) dX12_arrives_155 (by decide) ?_
          refine GO.drop [true, true, true, true, false, false] rfl ?_
          exact ih488 (i67 + (-1)) V549 ⟨by omega, by omega, (by first | exact MAI.beg ak553.2 ak555.2 | exact MAI.step (X := vi _ (vq _ _ 23) _) hma (congrFun h95 _) rfl rfl (by omega) (by assumption) (by first | assumption | exact (wr_id ⟨by omega, by omega⟩).symm) (by omega) (by assumption) (by assumption) ak555.2 ak553.2 (by omega) (by omega) (by omega) (by omega)), ak550.2, ak551.2, ak552.2, ak554.2, trivial⟩ (by show ((i67 + (-1)) + 2147483648).toNat < (i67 + 2147483648).toNat; omega)
        ·
          refine GO.aload_n dX12_arrives_97 rfl rfl ?_
          refine GO.getRaw h_x fl_RX12_65 hv521 dX12_arrives_98 ?_
          refine GO.iconst dX12_arrives_101 ?_
          refine GO.iload_n dX12_arrives_102 rfl rfl ?_
          refine GO.imul dX12_arrives_103 ?_
          refine GO.iload_n dX12_arrives_104 rfl rfl ?_
          refine GO.iadd dX12_arrives_105 ?_
          refine GO.iald (t := 25) rfl rfl h520 ⟨by omega, by omega⟩ (by omega) (by omega) dX12_arrives_106 (fun _ _ => ?_)
          refine GO.goto (tgt := 112) dX12_arrives_107 (by decide) ?_
          refine GO.name (fun z558 hz559 => ?_)
          have r560 : ir z558 := hz559 ▸ vi_ir
          refine GO.istore (ls1 := [some (.ref x), some (ti p0), some (ti z13), some (ti i67), some (ti z516), some (ti z558)]) dX12_arrives_112 rfl rfl ?_
          refine GO.aload_n dX12_arrives_114 rfl rfl ?_
          refine GO.getRaw h_x fl_RX12_65 hv521 dX12_arrives_115 ?_
          refine GO.iconst dX12_arrives_118 ?_
          refine GO.iload_n dX12_arrives_119 rfl rfl ?_
          refine GO.imul dX12_arrives_120 ?_
          refine GO.iload_n dX12_arrives_121 rfl rfl ?_
          refine GO.iadd dX12_arrives_122 ?_
          refine GO.aload_n dX12_arrives_123 rfl rfl ?_
          refine GO.getRaw h_x fl_RX12_65 hv521 dX12_arrives_124 ?_
          refine GO.iconst dX12_arrives_127 ?_
          refine GO.iload_n dX12_arrives_128 rfl rfl ?_
          refine GO.imul dX12_arrives_129 ?_
          refine GO.iload_n dX12_arrives_130 rfl rfl ?_
          refine GO.iadd dX12_arrives_131 ?_
          refine GO.iald (t := 25) rfl rfl h520 ⟨by omega, by omega⟩ (by omega) (by omega) dX12_arrives_132 (fun _ _ => ?_)
          refine GO.iload dX12_arrives_133 rfl ?_
          refine GO.isub dX12_arrives_135 ?_
          have q566 : -2147483648 ≤ z558 ∧ z558 ≤ 2147483647 := r560
          have q567 : -2147483648 ≤ vi Wi67 (vq Wi67 x 23) ((4 * z13) + i67).toNat ∧ vi Wi67 (vq Wi67 x 23) ((4 * z13) + i67).toNat ≤ 2147483647 := vi_ir
          have q568 : -2147483648 ≤ z516 ∧ z516 ≤ 2147483647 := r517
          refine GO.iast (t := 25) rfl rfl (by decide +kernel) h520 ⟨by omega, by omega⟩ (by omega) (by omega) ⟨by omega, by omega⟩ (by omega) (by omega) dX12_arrives_136 (fun V569 e565 => ?_)
          have ak570 := tk_oth e565 ak495 h_x h520 (by decide) (by decide) kp490
          have ak571 := tk_oth e565 ak496 h_x h520 (by decide) (by decide) kp491
          have ak572 := tk_oth e565 ak497 h_x h520 (by decide) (by decide) kp492
          have ak573 := tk_oth e565 ak498 h_x h520 (by decide) (by decide) (rfl : ar 99 Wi67 x = ar 99 Wi67 x)
          have ak574 := tk_oth e565 ak499 h_x h520 (by decide) (by decide) kp493
          have ak575 := tk_put e565 ak500 h_x (vq_of hv521) ⟨by omega, by omega⟩ (rfl : ar 23 Wi67 x = ar 23 Wi67 x)
          refine GO.aload_n dX12_arrives_137 rfl rfl ?_
          refine GO.getRaw h_x fl_RX12_223 (Eq.trans (uq_ne e565 (Or.inl (K_ne h_x h520 (by decide)))) hv515) dX12_arrives_138 ?_
          refine GO.iload_n dX12_arrives_141 rfl rfl ?_
          refine GO.aload_n dX12_arrives_142 rfl rfl ?_
          refine GO.getRaw h_x fl_RX12_223 (Eq.trans (uq_ne e565 (Or.inl (K_ne h_x h520 (by decide)))) hv515) dX12_arrives_143 ?_
          refine GO.iload_n dX12_arrives_146 rfl rfl ?_
          refine GO.iald (t := 77) rfl rfl h514 r_p0 (by omega) (by omega) dX12_arrives_147 (fun _ _ => ?_)
          have e580 : vi V569 (vq Wi67 x 99) (p0).toNat = vi Wi67 (vq Wi67 x 99) (p0).toNat := vi_up e565 (Or.inl (K_ne h514 h520 (by decide)))
          refine GO.iload dX12_arrives_148 rfl ?_
          refine GO.iadd dX12_arrives_150 ?_
          refine GO.norm2 (fun z581 r582 hn583 hw584 => ?_)
          refine GO.iast (t := 77) rfl rfl (by decide +kernel) h514 r_p0 (by omega) (by omega) r582 (r582).1 (r582).2 dX12_arrives_151 (fun V586 e585 => ?_)
          have ak587 := tk_oth e585 ak570.1 h_x h514 (by decide) (by decide) ak570.2
          have ak588 := tk_oth e585 ak571.1 h_x h514 (by decide) (by decide) ak571.2
          have ak589 := tk_oth e585 ak572.1 h_x h514 (by decide) (by decide) ak572.2
          have ak590 := tk_put e585 ak573.1 h_x (vq_of (Eq.trans (uq_ne e565 (Or.inl (K_ne h_x h520 (by decide)))) hv515)) r582 ak573.2
          have ak591 := tk_oth e585 ak574.1 h_x h514 (by decide) (by decide) ak574.2
          have ak592 := tk_oth e585 ak575.1 h_x h514 (by decide) (by decide) ak575.2
          refine GO.iinc (X := i67) (n := (-1)) (Y := i67 + (-1)) (ls1 := [some (.ref x), some (ti p0), some (ti z13), some (ti (i67 + (-1))), some (ti z516), some (ti z558)]) dX12_arrives_152 rfl rfl rfl rfl ?_
          refine GO.goto (tgt := 63) dX12_arrives_155 (by decide) ?_
          refine GO.drop [true, true, true, true, false, false] rfl ?_
          exact ih488 (i67 + (-1)) V586 ⟨by omega, by omega, (by first | exact MAI.beg ak590.2 ak592.2 | exact MAI.step (X := vi _ (vq _ _ 23) _) hma (congrFun h95 _) rfl rfl (by omega) (by assumption) (by first | assumption | exact (wr_id ⟨by omega, by omega⟩).symm) (by omega) (by assumption) (by assumption) ak592.2 ak590.2 (by omega) (by omega) (by omega) (by omega)), ak587.2, ak588.2, ak589.2, ak591.2, trivial⟩ (by show ((i67 + (-1)) + 2147483648).toNat < (i67 + 2147483648).toNat; omega)
    ·
      refine GO.aload_n dX12_arrives_29 rfl rfl ?_
      refine GO.iload_n dX12_arrives_30 rfl rfl ?_
      refine GO.callV (ci := 11) (N := mX12_turnsBack) dX12_arrives_31 (RX12, TX12, 151) rfl gV_RX12_624 h_x (t_X12_turnsBack h_x r_p0 (by omega) (by omega)) rfl [] rfl rfl (Nat.le_of_ble_eq_true rfl) rfl (k_vs fun V595 h594 hF593 => ?_)
      have ak596 := tk_fr hF593 ak2 h_x (by decide +kernel) (by decide +kernel) (rfl : ar 20 V x = ar 20 V x)
      have ak597 := tk_fr hF593 ak4 h_x (by decide +kernel) (by decide +kernel) (rfl : ar 98 V x = ar 98 V x)
      have ak598 := tk_fr hF593 ak5 h_x (by decide +kernel) (by decide +kernel) (rfl : ar 99 V x = ar 99 V x)
      have ak599 := tk_fr hF593 ak7 h_x (by decide +kernel) (by decide +kernel) (rfl : ar 23 V x = ar 23 V x)
      refine GO.useWT (fun hW600 => ?_)
      have ak601 := hW600.arr h_x 97 75 (by decide) rfl (by decide)
      have ak602 := hW600.arr h_x 100 78 (by decide) rfl (by decide)
      have raw_turnsBack := h594.2
      have rw31 := h594.2
      refine GO.useFR (fun hFs => ?_)
      exact GO.retv rfl rfl dX12_arrives_34 ⟨rfl, rfl, ⟨trivial, (by first | exact MAR.no (OKM.n1 (by assumption) (by omega)) (MWQ.fr hFs ext.rf hW_0 h_x (by decide +kernel)) rw31 ak597.2 ak598.2 (arq hFs ext.rf h_x (hW_0.ref h_x (j := 101) (Nat.le_of_ble_eq_true rfl) rfl).2 (by decide +kernel) (by decide +kernel)) ak596.2 ak599.2 | exact MAR.no (OKM.n2 (by assumption) rw23 (by omega)) (MWQ.fr hFs ext.rf hW_0 h_x (by decide +kernel)) rw31 ak597.2 ak598.2 (arq hFs ext.rf h_x (hW_0.ref h_x (j := 101) (Nat.le_of_ble_eq_true rfl) rfl).2 (by decide +kernel) (by decide +kernel)) ak596.2 ak599.2)⟩⟩

set_option maxHeartbeats 1000000 in
theorem t_X12_waits {K : Kmap} {V : Vmap} {x : Nat} {p0 : Int} (h_x : K x = some (0, 11)) (r_p0 : ir p0) (q_0 : p0 ≥ 0) (q_1 : p0 ≤ 9) : MC mX12_waits K V [.ref x, ti p0] (VS K (fun V1 => (True) ∧ (MWA V V1 x p0))) := by
  refine MC.start 0 (by decide +kernel) rfl rfl rfl (ls0 := [some (.ref x), some (ti p0)]) rfl ?_
  refine GO.useWT (fun hW1 => ?_)
  have ak2 := hW1.arr h_x 20 22 (by decide) rfl (by decide)
  have ak3 := hW1.arr h_x 23 25 (by decide) rfl (by decide)
  have ak4 := hW1.arr h_x 97 75 (by decide) rfl (by decide)
  have ak5 := hW1.arr h_x 98 76 (by decide) rfl (by decide)
  have ak6 := hW1.arr h_x 99 77 (by decide) rfl (by decide)
  have ak7 := hW1.arr h_x 100 78 (by decide) rfl (by decide)
  have ak8 := hW1.arr h_x 101 79 (by decide) rfl (by decide)
  refine GO.useWT (fun hW_0 => ?_)
  refine GO.aload_n dX12_waits_0 rfl rfl ?_
  refine GO.getA (n := 48) h_x fl_RX12_241 rfl rfl rfl rfl dX12_waits_1 (fun hv10 h9 => ?_)
  refine GO.bipush dX12_waits_4 rfl ?_
  refine GO.aload_n dX12_waits_6 rfl rfl ?_
  refine GO.getA (n := 10) h_x fl_RX12_232 rfl rfl rfl rfl dX12_waits_7 (fun hv12 h11 => ?_)
  refine GO.iload_n dX12_waits_10 rfl rfl ?_
  have q13 : -2147483648 ≤ p0 ∧ p0 ≤ 2147483647 := r_p0
  refine GO.iald (t := 80) rfl rfl h11 r_p0 (by omega) (by omega) dX12_waits_11 (fun l14 u15 => ?_)
  refine GO.imul dX12_waits_12 ?_
  refine GO.aload_n dX12_waits_13 rfl rfl ?_
  refine GO.getI h_x fl_RX12_396 rfl rfl dX12_waits_14 (fun l16 u17 => ?_)
  refine GO.sipush dX12_waits_17 rfl ?_
  refine GO.iremP dX12_waits_20 vi_ir (ir_c rfl) (by omega) (by omega) ?_
  refine GO.bipush dX12_waits_21 rfl ?_
  refine GO.idivP dX12_waits_23 ⟨by omega, by omega⟩ (ir_c rfl) (by omega) (by omega) ?_
  refine GO.iadd dX12_waits_24 ?_
  refine GO.iald (t := 83) rfl rfl h9 ⟨by omega, by omega⟩ (by omega) (by omega) dX12_waits_25 (fun _ _ => ?_)
  refine GO.aload_n dX12_waits_26 rfl rfl ?_
  refine GO.getA (n := 10) h_x fl_RX12_214 rfl rfl rfl rfl dX12_waits_27 (fun hv19 h18 => ?_)
  refine GO.iload_n dX12_waits_30 rfl rfl ?_
  refine GO.iald (t := 74) rfl rfl h18 r_p0 (by omega) (by omega) dX12_waits_31 (fun _ _ => ?_)
  refine GO.icmp_gt (tgt := 41) dX12_waits_32 (by decide) vi_ir vi_ir (fun c20 => ?_) (fun c20 => ?_)
  ·
    refine GO.aload_n dX12_waits_41 rfl rfl ?_
    refine GO.getA (n := 10) h_x fl_RX12_229 rfl rfl rfl rfl dX12_waits_42 (fun hv22 h21 => ?_)
    refine GO.iload_n dX12_waits_45 rfl rfl ?_
    refine GO.aload_n dX12_waits_46 rfl rfl ?_
    refine GO.getRaw h_x fl_RX12_229 hv22 dX12_waits_47 ?_
    refine GO.iload_n dX12_waits_50 rfl rfl ?_
    refine GO.iald (t := 79) rfl rfl h21 r_p0 (by omega) (by omega) dX12_waits_51 (fun _ _ => ?_)
    refine GO.iconst dX12_waits_52 ?_
    refine GO.iadd dX12_waits_53 ?_
    refine GO.norm2 (fun z25 r26 hn27 hw28 => ?_)
    refine GO.iast (t := 79) rfl rfl (by decide +kernel) h21 r_p0 (by omega) (by omega) r26 (r26).1 (r26).2 dX12_waits_54 (fun V30 e29 => ?_)
    have ak31 := tk_oth e29 ak2 h_x h21 (by decide) (by decide) (rfl : ar 20 V x = ar 20 V x)
    have ak32 := tk_oth e29 ak3 h_x h21 (by decide) (by decide) (rfl : ar 23 V x = ar 23 V x)
    have ak33 := tk_oth e29 ak4 h_x h21 (by decide) (by decide) (rfl : ar 97 V x = ar 97 V x)
    have ak34 := tk_oth e29 ak5 h_x h21 (by decide) (by decide) (rfl : ar 98 V x = ar 98 V x)
    have ak35 := tk_oth e29 ak6 h_x h21 (by decide) (by decide) (rfl : ar 99 V x = ar 99 V x)
    have ak36 := tk_oth e29 ak7 h_x h21 (by decide) (by decide) (rfl : ar 100 V x = ar 100 V x)
    have ak37 := tk_put e29 ak8 h_x (vq_of hv22) r26 (rfl : ar 101 V x = ar 101 V x)
    have hy9 := upd2_int e29 (by assumption)
    refine GO.aload_n dX12_waits_55 rfl rfl ?_
    refine GO.getRaw h_x fl_RX12_229 (Eq.trans (uq_ne e29 (Or.inl (K_ne h_x h21 (by decide)))) hv22) dX12_waits_56 ?_
    refine GO.iload_n dX12_waits_59 rfl rfl ?_
    refine GO.iald (t := 79) rfl rfl h21 r_p0 (by omega) (by omega) dX12_waits_60 (fun _ _ => ?_)
    refine GO.bipush dX12_waits_61 rfl ?_
    refine GO.icmp_ne (tgt := 71) dX12_waits_63 (by decide) vi_ir (ir_c rfl) (fun c41 => ?_) (fun c41 => ?_)
    ·
      refine GO.useFR (fun hFs => ?_)
      exact GO.retv rfl rfl dX12_waits_71 ⟨rfl, rfl, ⟨trivial, (by first | exact MWA.wt (by omega) (MWQ.fr hFs ext.rf hW_0 h_x (by decide +kernel)) ak37.2 (by omega) (by assumption) (by omega) ak33.2 ak34.2 ak35.2 ak36.2 ak31.2 ak32.2)⟩⟩
    ·
      refine GO.useFR (fun hFs => ?_)
      have hsw : MWQ V V30 x := (MWQ.fr hFs ext.rf hW_0 h_x (by decide +kernel))
      have e97 := ak33.2
      have e100 := ak36.2
      refine GO.aload_n dX12_waits_66 rfl rfl ?_
      refine GO.iload_n dX12_waits_67 rfl rfl ?_
      refine GO.callV (ci := 11) (N := mX12_turnsBack) dX12_waits_68 (RX12, TX12, 151) rfl gV_RX12_624 h_x (t_X12_turnsBack h_x r_p0 (by omega) (by omega)) rfl [] rfl rfl (Nat.le_of_ble_eq_true rfl) rfl (k_vs fun V44 h43 hF42 => ?_)
      have ak45 := tk_fr hF42 ak31.1 h_x (by decide +kernel) (by decide +kernel) ak31.2
      have ak46 := tk_fr hF42 ak32.1 h_x (by decide +kernel) (by decide +kernel) ak32.2
      have ak47 := tk_fr hF42 ak34.1 h_x (by decide +kernel) (by decide +kernel) ak34.2
      have ak48 := tk_fr hF42 ak35.1 h_x (by decide +kernel) (by decide +kernel) ak35.2
      have ak49 := tk_fr hF42 ak37.1 h_x (by decide +kernel) (by decide +kernel) ak37.2
      refine GO.useWT (fun hW50 => ?_)
      have ak51 := hW50.arr h_x 97 75 (by decide) rfl (by decide)
      have ak52 := hW50.arr h_x 100 78 (by decide) rfl (by decide)
      have raw_turnsBack := h43.2
      have rw68 := h43.2
      refine GO.useFR (fun hFs => ?_)
      exact GO.retv rfl rfl dX12_waits_71 ⟨rfl, rfl, ⟨trivial, (by first | exact MWA.wt (by omega) (MWQ.fr hFs ext.rf hW_0 h_x (by decide +kernel)) ak49.2 (by omega) (by assumption) (by omega) (rfl : ar 97 V44 x = ar 97 V44 x) ak47.2 ak48.2 (rfl : ar 100 V44 x = ar 100 V44 x) ak45.2 ak46.2 | exact MWA.wb (by omega) (MWQ.fr hFs ext.rf hW_0 h_x (by decide +kernel)) hsw ak49.2 (by omega) (by assumption) (by omega) rw68 e97 e100 ak47.2 ak48.2 ak45.2 ak46.2)⟩⟩
  ·
    refine GO.aload_n dX12_waits_35 rfl rfl ?_
    refine GO.iload_n dX12_waits_36 rfl rfl ?_
    refine GO.callV (ci := 11) (N := mX12_arrives) dX12_waits_37 (RX12, TX12, 151) rfl gV_RX12_627 h_x (t_X12_arrives h_x r_p0 (by omega) (by omega)) rfl [] rfl rfl (Nat.le_of_ble_eq_true rfl) rfl (k_vs fun V55 h54 hF53 => ?_)
    have ak56 := tk_fr hF53 ak8 h_x (by decide +kernel) (by decide +kernel) (rfl : ar 101 V x = ar 101 V x)
    refine GO.useWT (fun hW57 => ?_)
    have ak58 := hW57.arr h_x 20 22 (by decide) rfl (by decide)
    have ak59 := hW57.arr h_x 23 25 (by decide) rfl (by decide)
    have ak60 := hW57.arr h_x 97 75 (by decide) rfl (by decide)
    have ak61 := hW57.arr h_x 98 76 (by decide) rfl (by decide)
    have ak62 := hW57.arr h_x 99 77 (by decide) rfl (by decide)
    have ak63 := hW57.arr h_x 100 78 (by decide) rfl (by decide)
    have raw_arrives := h54.2
    have rw37 := h54.2
    exact GO.retv rfl rfl dX12_waits_40 ⟨rfl, rfl, ⟨trivial, (by first | exact MWA.in rw37 (by omega))⟩⟩
