def mX12_may : MRec := (RX12, cX12_may, 4, (some .int), yX12_may, 9, 219, 0, 0, 8959389078222113656965588966441361666492588922082979134912337319768054033233198708915101947392790888448)
def mX12_why : MRec := (RX12, cX12_why, 5, (some .int), yX12_why, 9, 219, 0, 0, 8959389078222113656965588966441361666492588922082979134912337319768054033233198708915101947392790888448)
def mX12_whose : MRec := (RX12, cX12_whose, 5, (some .int), yX12_whose, 3, 78, 0, 0, 410109510896814735819844167584554006003719268292477331829831988701866187349882985604408720691822592)
def mX12_isShip : MRec := (RX12, cX12_isShip, 2, (some .boolean), yX12_isShip, 0, 0, 0, 0, 0)
def mX12_isSea : MRec := (RX12, cX12_isSea, 1, (some .boolean), yX12_isSea, 0, 0, 0, 0, 0)
def mX12_ship : MRec := (RX12, cX12_ship, 4, (some .int), yX12_ship, 1, 22, 0, 0, 1272175013556992791596627215362876349973096287933838257029235964316616340180836399712204049758136190369792)
def mX12_cover : MRec := (RX12, cX12_cover, 4, (some .boolean), yX12_cover, 1, 22, 0, 0, 36695977855841144185773134324833391052745039826692497979801421430190766017415756929120296849762010984873984)
def mX12_sea : MRec := (RX12, cX12_sea, 3, (some .boolean), yX12_sea, 1, 22, 0, 0, 73391955711682288371546268649666782105490079653384995959602842860381532034831513858240593699524021969747968)
def mX12_voyage : MRec := (RX12, cX12_voyage, 5, (some .boolean), yX12_voyage, 3, 66, 0, 0, 36552634192341764716297458018877010618945254521297232586603783229896931707024877038704732665323799470669824)
def mX12_turnsBack : MRec := (RX12, cX12_turnsBack, 2, (none : Option Jvm.ClassFile.FieldType), yX12_turnsBack, 0, 0, 0, 0, 1290092971494415225281086753607423904198067806407158132102393722155144117799772704539385436124445698686976)
def mX12_arrives : MRec := (RX12, cX12_arrives, 6, (none : Option Jvm.ClassFile.FieldType), yX12_arrives, 3, 66, 0, 0, 2150154952490692185364236675364259447746867143629665502435360966561382819186579852795577533150354984665088)
set_option maxHeartbeats 1000000 in
theorem t_X12_may {K : Kmap} {V : Vmap} {x : Nat} {p0 : Int} {p1 : Int} {p2 : Int} (h_x : K x = some (0, 11)) (r_p0 : ir p0) (r_p1 : ir p1) (r_p2 : ir p2) (z_p2 : p2 = 0 ∨ p2 = 1) (w_0 : GX V x) : MC mX12_may K V [.ref x, ti p0, ti p1, ti p2] (IS K (fun X V1 => True)) := by
  refine MC.start 0 (by decide +kernel) rfl rfl rfl (ls0 := [some (.ref x), some (ti p0), some (ti p1), some (ti p2)]) rfl ?_
  refine GO.useWT (fun hW_0 => ?_)
  refine GO.aload_n dX12_may_0 rfl rfl ?_
  refine GO.iload_n dX12_may_1 rfl rfl ?_
  refine GO.callV (ci := 11) (N := mX12_isWork) dX12_may_2 (RX12, TX12, 151) rfl gV_RX12_566 h_x (t_X12_isWork h_x r_p0) rfl [] rfl rfl (Nat.le_of_ble_eq_true rfl) rfl (k_ip fun X1 r2 h3 => ?_)
  refine GO.if_eq (tgt := 25) dX12_may_5 (by decide) r2 (fun c4 => ?_) (fun c4 => ?_)
  ·
    refine GO.iconst dX12_may_25 ?_
    exact GO.reti rfl rfl dX12_may_26 ⟨rfl, _, rfl, (ir_c rfl), trivial⟩
  ·
    have q5 := h3.2.1 (by omega)
    refine GO.iload_n dX12_may_8 rfl rfl ?_
    refine GO.callS (N := mX12_isDay) dX12_may_9 gS_RX12_409 (t_X12_isDay r_p1) rfl [] rfl rfl (Nat.le_of_ble_eq_true rfl) rfl (k_ip fun X6 r7 h8 => ?_)
    refine GO.if_eq (tgt := 25) dX12_may_12 (by decide) r7 (fun c9 => ?_) (fun c9 => ?_)
    ·
      refine GO.iconst dX12_may_25 ?_
      exact GO.reti rfl rfl dX12_may_26 ⟨rfl, _, rfl, (ir_c rfl), trivial⟩
    ·
      have q10 := h8.2.1 (by omega)
      refine GO.aload_n dX12_may_15 rfl rfl ?_
      refine GO.iload_n dX12_may_16 rfl rfl ?_
      refine GO.iload_n dX12_may_17 rfl rfl ?_
      refine GO.iload_n dX12_may_18 rfl rfl ?_
      have q11 : -2147483648 ≤ p0 ∧ p0 ≤ 2147483647 := r_p0
      refine GO.callV (ci := 11) (N := mX12_mayOn) dX12_may_19 (RX12, TX12, 151) rfl gV_RX12_608 h_x (t_X12_mayOn h_x r_p0 r_p1 r_p2 (by omega) (by omega) (by omega) w_0) rfl [] rfl rfl (Nat.le_of_ble_eq_true rfl) rfl (k_is fun X12 V16 r13 h14 hF15 => ?_)
      refine GO.goto (tgt := 26) dX12_may_22 (by decide) ?_
      have q17 : -2147483648 ≤ X12 ∧ X12 ≤ 2147483647 := r13
      exact GO.reti rfl rfl dX12_may_26 ⟨rfl, _, rfl, r13, trivial⟩

set_option maxHeartbeats 1000000 in
theorem t_X12_why {K : Kmap} {V : Vmap} {x : Nat} {p0 : Int} {p1 : Int} {p2 : Int} {p3 : Int} (h_x : K x = some (0, 11)) (r_p0 : ir p0) (r_p1 : ir p1) (r_p2 : ir p2) (z_p2 : p2 = 0 ∨ p2 = 1) (r_p3 : ir p3) (w_0 : GX V x) : MC mX12_why K V [.ref x, ti p0, ti p1, ti p2, ti p3] (IS K (fun X V1 => True)) := by
  refine MC.start 0 (by decide +kernel) rfl rfl rfl (ls0 := [some (.ref x), some (ti p0), some (ti p1), some (ti p2), some (ti p3)]) rfl ?_
  refine GO.useWT (fun hW_0 => ?_)
  refine GO.aload_n dX12_why_0 rfl rfl ?_
  refine GO.iload_n dX12_why_1 rfl rfl ?_
  refine GO.callV (ci := 11) (N := mX12_isWork) dX12_why_2 (RX12, TX12, 151) rfl gV_RX12_566 h_x (t_X12_isWork h_x r_p0) rfl [] rfl rfl (Nat.le_of_ble_eq_true rfl) rfl (k_ip fun X1 r2 h3 => ?_)
  refine GO.if_eq (tgt := 35) dX12_why_5 (by decide) r2 (fun c4 => ?_) (fun c4 => ?_)
  ·
    refine GO.iconst dX12_why_35 ?_
    exact GO.reti rfl rfl dX12_why_36 ⟨rfl, _, rfl, (ir_c rfl), trivial⟩
  ·
    have q5 := h3.2.1 (by omega)
    refine GO.iload_n dX12_why_8 rfl rfl ?_
    refine GO.callS (N := mX12_isDay) dX12_why_9 gS_RX12_409 (t_X12_isDay r_p1) rfl [] rfl rfl (Nat.le_of_ble_eq_true rfl) rfl (k_ip fun X6 r7 h8 => ?_)
    refine GO.if_eq (tgt := 35) dX12_why_12 (by decide) r7 (fun c9 => ?_) (fun c9 => ?_)
    ·
      refine GO.iconst dX12_why_35 ?_
      exact GO.reti rfl rfl dX12_why_36 ⟨rfl, _, rfl, (ir_c rfl), trivial⟩
    ·
      have q10 := h8.2.1 (by omega)
      refine GO.iload dX12_why_15 rfl ?_
      refine GO.iconst dX12_why_17 ?_
      refine GO.iconst dX12_why_18 ?_
      refine GO.callS (N := mX12_in) dX12_why_19 gS_RX12_371 (t_X12_in r_p3 (ir_c rfl) (ir_c rfl)) rfl [] rfl rfl (Nat.le_of_ble_eq_true rfl) rfl (k_ip fun X11 r12 h13 => ?_)
      refine GO.if_eq (tgt := 35) dX12_why_22 (by decide) r12 (fun c14 => ?_) (fun c14 => ?_)
      ·
        have q15 := h13.2.2 (by omega)
        refine GO.iconst dX12_why_35 ?_
        exact GO.reti rfl rfl dX12_why_36 ⟨rfl, _, rfl, (ir_c rfl), trivial⟩
      ·
        have q16 := h13.2.1 (by omega)
        refine GO.aload_n dX12_why_25 rfl rfl ?_
        refine GO.iload_n dX12_why_26 rfl rfl ?_
        refine GO.iload_n dX12_why_27 rfl rfl ?_
        refine GO.iload_n dX12_why_28 rfl rfl ?_
        have q17 : -2147483648 ≤ p0 ∧ p0 ≤ 2147483647 := r_p0
        refine GO.callV (ci := 11) (N := mX12_mayOn) dX12_why_29 (RX12, TX12, 151) rfl gV_RX12_608 h_x (t_X12_mayOn h_x r_p0 r_p1 r_p2 (by omega) (by omega) (by omega) w_0) rfl [] rfl rfl (Nat.le_of_ble_eq_true rfl) rfl (k_is fun X18 V22 r19 h20 hF21 => ?_)
        refine GO.if_ne (tgt := 37) dX12_why_32 (by decide) r19 (fun c23 => ?_) (fun c23 => ?_)
        ·
          refine GO.iload dX12_why_37 rfl ?_
          refine GO.if_ne (tgt := 52) dX12_why_39 (by decide) r_p3 (fun c24 => ?_) (fun c24 => ?_)
          ·
            refine GO.aload_n dX12_why_52 rfl rfl ?_
            refine GO.getI h_x fl_RX12_605 rfl rfl dX12_why_53 (fun _ _ => ?_)
            refine GO.bipush dX12_why_56 rfl ?_
            refine GO.irem dX12_why_58 (ir_c rfl) (by omega) ?_
            have q26 : -2147483648 ≤ wrem (vi V22 x 82) 12 ∧ wrem (vi V22 x 82) 12 ≤ 2147483647 := wrem_ir
            exact GO.reti rfl rfl dX12_why_59 ⟨rfl, _, rfl, wrem_ir, trivial⟩
          ·
            refine GO.aload_n dX12_why_42 rfl rfl ?_
            refine GO.getI h_x fl_RX12_605 rfl rfl dX12_why_43 (fun _ _ => ?_)
            refine GO.bipush dX12_why_46 rfl ?_
            refine GO.idiv dX12_why_48 (ir_c rfl) (by omega) ?_
            refine GO.goto (tgt := 59) dX12_why_49 (by decide) ?_
            have q28 : -2147483648 ≤ wdiv (vi V22 x 82) 12 ∧ wdiv (vi V22 x 82) 12 ≤ 2147483647 := wdiv_ir
            exact GO.reti rfl rfl dX12_why_59 ⟨rfl, _, rfl, wdiv_ir, trivial⟩
        ·
          refine GO.iconst dX12_why_35 ?_
          exact GO.reti rfl rfl dX12_why_36 ⟨rfl, _, rfl, (ir_c rfl), trivial⟩

set_option maxHeartbeats 1000000 in
theorem t_X12_whose {K : Kmap} {V : Vmap} {x : Nat} {p0 : Int} {p1 : Int} (h_x : K x = some (0, 11)) (r_p0 : ir p0) (r_p1 : ir p1) : MC mX12_whose K V [.ref x, ti p0, ti p1] (IS K (fun X V1 => True)) := by
  refine MC.start 2 (by decide +kernel) rfl rfl rfl (ls0 := [some (.ref x), some (ti p0), some (ti p1), none, none]) rfl ?_
  refine GO.aload_n dX12_whose_0 rfl rfl ?_
  refine GO.iload_n dX12_whose_1 rfl rfl ?_
  refine GO.callV (ci := 11) (N := mX12_isParty) dX12_whose_2 (RX12, TX12, 151) rfl gV_RX12_406 h_x (t_X12_isParty h_x r_p0) rfl [] rfl rfl (Nat.le_of_ble_eq_true rfl) rfl (k_ip fun X1 r2 h3 => ?_)
  refine GO.if_eq (tgt := 16) dX12_whose_5 (by decide) r2 (fun c4 => ?_) (fun c4 => ?_)
  ·
    refine GO.iconst dX12_whose_16 ?_
    exact GO.reti rfl rfl dX12_whose_17 ⟨rfl, _, rfl, (ir_c rfl), trivial⟩
  ·
    have q5 := h3.2.1 (by omega)
    refine GO.aload_n dX12_whose_8 rfl rfl ?_
    refine GO.iload_n dX12_whose_9 rfl rfl ?_
    refine GO.callV (ci := 11) (N := mX12_isCell) dX12_whose_10 (RX12, TX12, 151) rfl gV_RX12_381 h_x (t_X12_isCell h_x r_p1) rfl [] rfl rfl (Nat.le_of_ble_eq_true rfl) rfl (k_ip fun X6 r7 h8 => ?_)
    refine GO.if_ne (tgt := 18) dX12_whose_13 (by decide) r7 (fun c9 => ?_) (fun c9 => ?_)
    ·
      have q10 := h8.2.1 (by omega)
      refine GO.aload_n dX12_whose_18 rfl rfl ?_
      refine GO.iload_n dX12_whose_19 rfl rfl ?_
      refine GO.aload_n dX12_whose_20 rfl rfl ?_
      refine GO.getI h_x fl_RX12_396 rfl rfl dX12_whose_21 (fun l11 u12 => ?_)
      have q13 : -2147483648 ≤ p0 ∧ p0 ≤ 2147483647 := r_p0
      refine GO.callV (ci := 11) (N := mX12_decidesOn) dX12_whose_24 (RX12, TX12, 151) rfl gV_RX12_412 h_x (t_X12_decidesOn h_x r_p0 vi_ir (by omega) (by omega)) rfl [] rfl rfl (Nat.le_of_ble_eq_true rfl) rfl (k_ip fun X14 r15 h16 => ?_)
      refine GO.if_eq (tgt := 56) dX12_whose_27 (by decide) r15 (fun c17 => ?_) (fun c17 => ?_)
      ·
        refine GO.bipush dX12_whose_56 rfl ?_
        exact GO.reti rfl rfl dX12_whose_58 ⟨rfl, _, rfl, (ir_c rfl), trivial⟩
      ·
        refine GO.aload_n dX12_whose_30 rfl rfl ?_
        refine GO.getI h_x fl_RX12_396 rfl rfl dX12_whose_31 (fun l18 u19 => ?_)
        refine GO.aload_n dX12_whose_34 rfl rfl ?_
        refine GO.getA (n := 9) h_x fl_RX12_29 rfl rfl rfl rfl dX12_whose_35 (fun hv21 h20 => ?_)
        refine GO.iload_n dX12_whose_38 rfl rfl ?_
        refine GO.iald (t := 13) rfl rfl h20 r_p0 (by omega) (by omega) dX12_whose_39 (fun _ _ => ?_)
        refine GO.isub dX12_whose_40 ?_
        refine GO.norm (fun z22 r23 _ => ?_)
        refine GO.aload_n dX12_whose_41 rfl rfl ?_
        refine GO.bipush dX12_whose_42 rfl ?_
        refine GO.iload_n dX12_whose_44 rfl rfl ?_
        refine GO.aload_n dX12_whose_45 rfl rfl ?_
        refine GO.getI h_x fl_RX12_396 rfl rfl dX12_whose_46 (fun l24 u25 => ?_)
        refine GO.iconst dX12_whose_49 ?_
        refine GO.callV (ci := 11) (N := mX12_asked) dX12_whose_50 (RX12, TX12, 151) rfl gV_RX12_563 h_x (t_X12_asked h_x (ir_c rfl) r_p0 vi_ir (ir_c rfl) (by omega) (by omega)) rfl [ti z22] rfl rfl (Nat.le_of_ble_eq_true rfl) rfl (k_is fun X26 V30 r27 h28 hF29 => ?_)
        refine GO.icmp_ge (tgt := 59) dX12_whose_53 (by decide) r23 r27 (fun c31 => ?_) (fun c31 => ?_)
        ·
          refine GO.iconst dX12_whose_59 ?_
          refine GO.istore_n (ls1 := [some (.ref x), some (ti p0), some (ti p1), some (ti (-1)), none]) dX12_whose_60 rfl rfl rfl ?_
          refine GO.iconst dX12_whose_61 ?_
          refine GO.istore (ls1 := [some (.ref x), some (ti p0), some (ti p1), some (ti (-1)), some (ti 0)]) dX12_whose_62 rfl rfl ?_
          refine GO.loop2 (fun i32 i33 W => (-1) ≤ i32 ∧ i32 ≤ 59 ∧ 0 ≤ i33 ∧ i33 ≤ 60 ∧ V30 = W) (fun i32 i33 => [some (.ref x), some (ti p0), some (ti p1), some (ti i32), some (ti i33)]) (fun i32 i33 W => (2147483647 - i33).toNat) (-1) 0 ⟨by omega, by omega, by omega, by omega, rfl⟩ rfl (fun i32 i33 V234 hp236 ih235 => ?_)
          obtain ⟨l_i32, u_i32, l_i33, u_i33, rfl⟩ := hp236
          have r_i32 : ir i32 := ⟨by omega, by omega⟩
          have r_i33 : ir i33 := ⟨by omega, by omega⟩
          show GO mX12_whose K V (IS K (fun X V1 => True)) K V30 0 0 64 [some (.ref x), some (ti p0), some (ti p1), some (ti i32), some (ti i33)] []
          refine GO.iload dX12_whose_64 rfl ?_
          refine GO.aload_n dX12_whose_66 rfl rfl ?_
          refine GO.getI h_x fl_RX12_375 rfl rfl dX12_whose_67 (fun l237 u238 => ?_)
          refine GO.icmp_ge (tgt := 123) dX12_whose_70 (by decide) r_i33 vi_ir (fun c240 => ?_) (fun c240 => ?_)
          ·
            refine GO.iload_n dX12_whose_123 rfl rfl ?_
            exact GO.reti rfl rfl dX12_whose_124 ⟨rfl, _, rfl, r_i32, trivial⟩
          ·
            refine GO.aload_n dX12_whose_73 rfl rfl ?_
            refine GO.getA (n := 60) h_x fl_RX12_35 rfl rfl rfl rfl dX12_whose_74 (fun hv242 h241 => ?_)
            refine GO.iload dX12_whose_77 rfl ?_
            refine GO.iald (t := 15) rfl rfl h241 r_i33 (by omega) (by omega) dX12_whose_79 (fun l243 u244 => ?_)
            refine GO.if_ne (tgt := 117) dX12_whose_80 (by decide) vi_ir (fun c246 => ?_) (fun c246 => ?_)
            ·
              refine GO.iinc (X := i33) (n := 1) (Y := i33 + 1) (ls1 := [some (.ref x), some (ti p0), some (ti p1), some (ti i32), some (ti (i33 + 1))]) dX12_whose_117 rfl rfl rfl rfl ?_
              refine GO.goto (tgt := 64) dX12_whose_120 (by decide) ?_
              exact ih235 i32 (i33 + 1) V30 ⟨by omega, by omega, by omega, by omega, rfl⟩ (by show (2147483647 - (i33 + 1)).toNat < (2147483647 - i33).toNat; omega)
            ·
              refine GO.aload_n dX12_whose_83 rfl rfl ?_
              refine GO.iload_n dX12_whose_84 rfl rfl ?_
              refine GO.iload dX12_whose_85 rfl ?_
              have q247 : -2147483648 ≤ p1 ∧ p1 ≤ 2147483647 := r_p1
              refine GO.callV (ci := 11) (N := mX12_isIn) dX12_whose_87 (RX12, TX12, 151) rfl gV_RX12_569 h_x (t_X12_isIn h_x r_p1 r_i33 (by omega) (by omega) (by omega) (by omega)) rfl [] rfl rfl (Nat.le_of_ble_eq_true rfl) rfl (k_ip fun X248 r249 h250 => ?_)
              refine GO.if_eq (tgt := 117) dX12_whose_90 (by decide) r249 (fun c251 => ?_) (fun c251 => ?_)
              ·
                refine GO.iinc (X := i33) (n := 1) (Y := i33 + 1) (ls1 := [some (.ref x), some (ti p0), some (ti p1), some (ti i32), some (ti (i33 + 1))]) dX12_whose_117 rfl rfl rfl rfl ?_
                refine GO.goto (tgt := 64) dX12_whose_120 (by decide) ?_
                exact ih235 i32 (i33 + 1) V30 ⟨by omega, by omega, by omega, by omega, rfl⟩ (by show (2147483647 - (i33 + 1)).toNat < (2147483647 - i33).toNat; omega)
              ·
                refine GO.iload_n dX12_whose_93 rfl rfl ?_
                refine GO.iconst dX12_whose_94 ?_
                refine GO.icmp_eq (tgt := 114) dX12_whose_95 (by decide) r_i32 (ir_c rfl) (fun c252 => ?_) (fun c252 => ?_)
                ·
                  refine GO.iload dX12_whose_114 rfl ?_
                  refine GO.istore_n (ls1 := [some (.ref x), some (ti p0), some (ti p1), some (ti i33), some (ti i33)]) dX12_whose_116 rfl rfl rfl ?_
                  refine GO.iinc (X := i33) (n := 1) (Y := i33 + 1) (ls1 := [some (.ref x), some (ti p0), some (ti p1), some (ti i33), some (ti (i33 + 1))]) dX12_whose_117 rfl rfl rfl rfl ?_
                  refine GO.goto (tgt := 64) dX12_whose_120 (by decide) ?_
                  exact ih235 i33 (i33 + 1) V30 ⟨by omega, by omega, by omega, by omega, rfl⟩ (by show (2147483647 - (i33 + 1)).toNat < (2147483647 - i33).toNat; omega)
                ·
                  refine GO.aload_n dX12_whose_98 rfl rfl ?_
                  refine GO.getA (n := 60) h_x fl_RX12_47 rfl rfl rfl rfl dX12_whose_99 (fun hv254 h253 => ?_)
                  refine GO.iload dX12_whose_102 rfl ?_
                  refine GO.iald (t := 19) rfl rfl h253 r_i33 (by omega) (by omega) dX12_whose_104 (fun _ _ => ?_)
                  refine GO.aload_n dX12_whose_105 rfl rfl ?_
                  refine GO.getRaw h_x fl_RX12_47 hv254 dX12_whose_106 ?_
                  refine GO.iload_n dX12_whose_109 rfl rfl ?_
                  refine GO.iald (t := 19) rfl rfl h253 r_i32 (by omega) (by omega) dX12_whose_110 (fun _ _ => ?_)
                  refine GO.icmp_le (tgt := 117) dX12_whose_111 (by decide) vi_ir vi_ir (fun c259 => ?_) (fun c259 => ?_)
                  ·
                    refine GO.iinc (X := i33) (n := 1) (Y := i33 + 1) (ls1 := [some (.ref x), some (ti p0), some (ti p1), some (ti i32), some (ti (i33 + 1))]) dX12_whose_117 rfl rfl rfl rfl ?_
                    refine GO.goto (tgt := 64) dX12_whose_120 (by decide) ?_
                    exact ih235 i32 (i33 + 1) V30 ⟨by omega, by omega, by omega, by omega, rfl⟩ (by show (2147483647 - (i33 + 1)).toNat < (2147483647 - i33).toNat; omega)
                  ·
                    refine GO.iload dX12_whose_114 rfl ?_
                    refine GO.istore_n (ls1 := [some (.ref x), some (ti p0), some (ti p1), some (ti i33), some (ti i33)]) dX12_whose_116 rfl rfl rfl ?_
                    refine GO.iinc (X := i33) (n := 1) (Y := i33 + 1) (ls1 := [some (.ref x), some (ti p0), some (ti p1), some (ti i33), some (ti (i33 + 1))]) dX12_whose_117 rfl rfl rfl rfl ?_
                    refine GO.goto (tgt := 64) dX12_whose_120 (by decide) ?_
                    exact ih235 i33 (i33 + 1) V30 ⟨by omega, by omega, by omega, by omega, rfl⟩ (by show (2147483647 - (i33 + 1)).toNat < (2147483647 - i33).toNat; omega)
        ·
          refine GO.bipush dX12_whose_56 rfl ?_
          exact GO.reti rfl rfl dX12_whose_58 ⟨rfl, _, rfl, (ir_c rfl), trivial⟩
    ·
      refine GO.iconst dX12_whose_16 ?_
      exact GO.reti rfl rfl dX12_whose_17 ⟨rfl, _, rfl, (ir_c rfl), trivial⟩

set_option maxHeartbeats 1000000 in
theorem t_X12_isShip {K : Kmap} {V : Vmap} {x : Nat} {p0 : Int} (h_x : K x = some (0, 11)) (r_p0 : ir p0) : MC mX12_isShip K V [.ref x, ti p0] (IP K V (fun X => (X = 0 ∨ X = 1) ∧ (X ≠ 0 → p0 ≥ 0 ∧ p0 ≤ 9) ∧ (X = 0 → True))) := by
  refine MC.start 0 (by decide +kernel) rfl rfl rfl (ls0 := [some (.ref x), some (ti p0)]) rfl ?_
  refine GO.iload_n dX12_isShip_0 rfl rfl ?_
  refine GO.if_lt (tgt := 16) dX12_isShip_1 (by decide) r_p0 (fun c1 => ?_) (fun c1 => ?_)
  ·
    refine GO.iconst dX12_isShip_16 ?_
    exact GO.retz rfl rfl dX12_isShip_17 (by omega) ⟨rfl, rfl, _, rfl, (ir_c rfl), ⟨by omega, fun h => by omega, fun _ => trivial⟩⟩
  ·
    refine GO.iload_n dX12_isShip_4 rfl rfl ?_
    refine GO.aload_n dX12_isShip_5 rfl rfl ?_
    refine GO.getI h_x fl_RX12_612 rfl rfl dX12_isShip_6 (fun l2 u3 => ?_)
    refine GO.icmp_ge (tgt := 16) dX12_isShip_9 (by decide) r_p0 vi_ir (fun c4 => ?_) (fun c4 => ?_)
    ·
      refine GO.iconst dX12_isShip_16 ?_
      exact GO.retz rfl rfl dX12_isShip_17 (by omega) ⟨rfl, rfl, _, rfl, (ir_c rfl), ⟨by omega, fun h => by omega, fun _ => trivial⟩⟩
    ·
      refine GO.iconst dX12_isShip_12 ?_
      refine GO.goto (tgt := 17) dX12_isShip_13 (by decide) ?_
      exact GO.retz rfl rfl dX12_isShip_17 (by omega) ⟨rfl, rfl, _, rfl, (ir_c rfl), ⟨by omega, fun h => by omega, fun _ => trivial⟩⟩

set_option maxHeartbeats 1000000 in
theorem t_X12_isSea {K : Kmap} {V : Vmap} {p0 : Int} (r_p0 : ir p0) : MC mX12_isSea K V [ti p0] (IP K V (fun X => (X = 0 ∨ X = 1) ∧ (X ≠ 0 → p0 ≥ 0 ∧ p0 ≤ 3) ∧ (X = 0 → (p0 < 0 ∨ p0 > 3)))) := by
  refine MC.start 0 (by decide +kernel) rfl rfl rfl (ls0 := [some (ti p0)]) rfl ?_
  refine GO.iload_n dX12_isSea_0 rfl rfl ?_
  refine GO.if_lt (tgt := 13) dX12_isSea_1 (by decide) r_p0 (fun c1 => ?_) (fun c1 => ?_)
  ·
    refine GO.iconst dX12_isSea_13 ?_
    exact GO.retz rfl rfl dX12_isSea_14 (by omega) ⟨rfl, rfl, _, rfl, (ir_c rfl), ⟨by omega, fun h => by omega, fun h => by omega⟩⟩
  ·
    refine GO.iload_n dX12_isSea_4 rfl rfl ?_
    refine GO.iconst dX12_isSea_5 ?_
    refine GO.icmp_ge (tgt := 13) dX12_isSea_6 (by decide) r_p0 (ir_c rfl) (fun c2 => ?_) (fun c2 => ?_)
    ·
      refine GO.iconst dX12_isSea_13 ?_
      exact GO.retz rfl rfl dX12_isSea_14 (by omega) ⟨rfl, rfl, _, rfl, (ir_c rfl), ⟨by omega, fun h => by omega, fun h => by omega⟩⟩
    ·
      refine GO.iconst dX12_isSea_9 ?_
      refine GO.goto (tgt := 14) dX12_isSea_10 (by decide) ?_
      exact GO.retz rfl rfl dX12_isSea_14 (by omega) ⟨rfl, rfl, _, rfl, (ir_c rfl), ⟨by omega, fun h => by omega, fun h => by omega⟩⟩

set_option maxHeartbeats 1000000 in
theorem t_X12_ship {K : Kmap} {V : Vmap} {x : Nat} {p0 : Int} {p1 : Int} {p2 : Int} (h_x : K x = some (0, 11)) (r_p0 : ir p0) (r_p1 : ir p1) (r_p2 : ir p2) : MC mX12_ship K V [.ref x, ti p0, ti p1, ti p2] (IS K (fun X V1 => True)) := by
  refine MC.start 0 (by decide +kernel) rfl rfl rfl (ls0 := [some (.ref x), some (ti p0), some (ti p1), some (ti p2)]) rfl ?_
  refine GO.aload_n dX12_ship_0 rfl rfl ?_
  refine GO.iload_n dX12_ship_1 rfl rfl ?_
  refine GO.callV (ci := 11) (N := mX12_isParty) dX12_ship_2 (RX12, TX12, 151) rfl gV_RX12_406 h_x (t_X12_isParty h_x r_p0) rfl [] rfl rfl (Nat.le_of_ble_eq_true rfl) rfl (k_ip fun X1 r2 h3 => ?_)
  refine GO.if_eq (tgt := 38) dX12_ship_5 (by decide) r2 (fun c4 => ?_) (fun c4 => ?_)
  ·
    refine GO.iconst dX12_ship_38 ?_
    exact GO.reti rfl rfl dX12_ship_39 ⟨rfl, _, rfl, (ir_c rfl), trivial⟩
  ·
    have q5 := h3.2.1 (by omega)
    refine GO.iload_n dX12_ship_8 rfl rfl ?_
    refine GO.iconst dX12_ship_9 ?_
    refine GO.sipush dX12_ship_10 rfl ?_
    refine GO.callS (N := mX12_in) dX12_ship_13 gS_RX12_371 (t_X12_in r_p1 (ir_c rfl) (ir_c rfl)) rfl [] rfl rfl (Nat.le_of_ble_eq_true rfl) rfl (k_ip fun X6 r7 h8 => ?_)
    refine GO.if_eq (tgt := 38) dX12_ship_16 (by decide) r7 (fun c9 => ?_) (fun c9 => ?_)
    ·
      have q10 := h8.2.2 (by omega)
      refine GO.iconst dX12_ship_38 ?_
      exact GO.reti rfl rfl dX12_ship_39 ⟨rfl, _, rfl, (ir_c rfl), trivial⟩
    ·
      have q11 := h8.2.1 (by omega)
      refine GO.iload_n dX12_ship_19 rfl rfl ?_
      refine GO.iconst dX12_ship_20 ?_
      refine GO.bipush dX12_ship_21 rfl ?_
      refine GO.callS (N := mX12_in) dX12_ship_23 gS_RX12_371 (t_X12_in r_p2 (ir_c rfl) (ir_c rfl)) rfl [] rfl rfl (Nat.le_of_ble_eq_true rfl) rfl (k_ip fun X12 r13 h14 => ?_)
      refine GO.if_eq (tgt := 38) dX12_ship_26 (by decide) r13 (fun c15 => ?_) (fun c15 => ?_)
      ·
        have q16 := h14.2.2 (by omega)
        refine GO.iconst dX12_ship_38 ?_
        exact GO.reti rfl rfl dX12_ship_39 ⟨rfl, _, rfl, (ir_c rfl), trivial⟩
      ·
        have q17 := h14.2.1 (by omega)
        refine GO.aload_n dX12_ship_29 rfl rfl ?_
        refine GO.getI h_x fl_RX12_612 rfl rfl dX12_ship_30 (fun l18 u19 => ?_)
        refine GO.bipush dX12_ship_33 rfl ?_
        refine GO.icmp_ne (tgt := 40) dX12_ship_35 (by decide) vi_ir (ir_c rfl) (fun c20 => ?_) (fun c20 => ?_)
        ·
          refine GO.aload_n dX12_ship_40 rfl rfl ?_
          refine GO.getA (n := 10) h_x fl_RX12_208 rfl rfl rfl rfl dX12_ship_41 (fun hv22 h21 => ?_)
          refine GO.aload_n dX12_ship_44 rfl rfl ?_
          refine GO.getI h_x fl_RX12_612 rfl rfl dX12_ship_45 (fun l23 u24 => ?_)
          refine GO.iload_n dX12_ship_48 rfl rfl ?_
          have q26 : -2147483648 ≤ p0 ∧ p0 ≤ 2147483647 := r_p0
          refine GO.iast (t := 72) rfl rfl (by decide +kernel) h21 vi_ir (by omega) (by omega) r_p0 (by omega) (by omega) dX12_ship_49 (fun V27 e25 => ?_)
          refine GO.aload_n dX12_ship_50 rfl rfl ?_
          refine GO.getA (n := 10) h_x fl_RX12_211 rfl rfl rfl rfl dX12_ship_51 (fun hv29 h28 => ?_)
          refine GO.aload_n dX12_ship_54 rfl rfl ?_
          refine GO.getI h_x fl_RX12_612 rfl rfl dX12_ship_55 (fun l30 u31 => ?_)
          have e32 : vi V27 x 91 = vi V x 91 := vi_up e25 (Or.inl (K_ne h_x h21 (by decide)))
          refine GO.iload_n dX12_ship_58 rfl rfl ?_
          refine GO.iast (t := 73) rfl rfl (by decide +kernel) h28 vi_ir (by omega) (by omega) r_p1 (r_p1).1 (r_p1).2 dX12_ship_59 (fun V34 e33 => ?_)
          refine GO.aload_n dX12_ship_60 rfl rfl ?_
          refine GO.getA (n := 10) h_x fl_RX12_214 rfl rfl rfl rfl dX12_ship_61 (fun hv36 h35 => ?_)
          refine GO.aload_n dX12_ship_64 rfl rfl ?_
          refine GO.getI h_x fl_RX12_612 rfl rfl dX12_ship_65 (fun l37 u38 => ?_)
          have e39 : vi V34 x 91 = vi V27 x 91 := vi_up e33 (Or.inl (K_ne h_x h28 (by decide)))
          refine GO.iload_n dX12_ship_68 rfl rfl ?_
          refine GO.iast (t := 74) rfl rfl (by decide +kernel) h35 vi_ir (by omega) (by omega) r_p2 (r_p2).1 (r_p2).2 dX12_ship_69 (fun V41 e40 => ?_)
          refine GO.aload_n dX12_ship_70 rfl rfl ?_
          refine GO.getA (n := 10) h_x fl_RX12_226 rfl rfl rfl rfl dX12_ship_71 (fun hv43 h42 => ?_)
          refine GO.aload_n dX12_ship_74 rfl rfl ?_
          refine GO.getI h_x fl_RX12_612 rfl rfl dX12_ship_75 (fun l44 u45 => ?_)
          have e46 : vi V41 x 91 = vi V34 x 91 := vi_up e40 (Or.inl (K_ne h_x h35 (by decide)))
          refine GO.iconst dX12_ship_78 ?_
          refine GO.iast (t := 78) rfl rfl (by decide +kernel) h42 vi_ir (by omega) (by omega) (ir_c rfl) (by decide) (by decide) dX12_ship_79 (fun V48 e47 => ?_)
          refine GO.aload_n dX12_ship_80 rfl rfl ?_
          refine GO.aload_n dX12_ship_81 rfl rfl ?_
          refine GO.getI h_x fl_RX12_612 rfl rfl dX12_ship_82 (fun l49 u50 => ?_)
          have e51 : vi V48 x 91 = vi V41 x 91 := vi_up e47 (Or.inl (K_ne h_x h42 (by decide)))
          refine GO.iconst dX12_ship_85 ?_
          refine GO.iadd dX12_ship_86 ?_
          refine GO.putI h_x fp_RX12_612 rfl (by decide +kernel) ⟨by omega, by omega⟩ (by omega) (by omega) dX12_ship_87 (fun V53 e52 => ?_)
          refine GO.aload_n dX12_ship_90 rfl rfl ?_
          refine GO.getI h_x fl_RX12_612 rfl rfl dX12_ship_91 (fun l54 u55 => ?_)
          have e56 : vi V53 x 91 = (vi V48 x 91) + 1 := upd2_int e52 ⟨by omega, by omega⟩
          refine GO.iconst dX12_ship_94 ?_
          refine GO.isub dX12_ship_95 ?_
          exact GO.reti rfl rfl dX12_ship_96 ⟨rfl, _, rfl, ⟨by omega, by omega⟩, trivial⟩
        ·
          refine GO.iconst dX12_ship_38 ?_
          exact GO.reti rfl rfl dX12_ship_39 ⟨rfl, _, rfl, (ir_c rfl), trivial⟩

set_option maxHeartbeats 1000000 in
theorem t_X12_cover {K : Kmap} {V : Vmap} {x : Nat} {p0 : Int} {p1 : Int} {p2 : Int} (h_x : K x = some (0, 11)) (r_p0 : ir p0) (r_p1 : ir p1) (r_p2 : ir p2) : MC mX12_cover K V [.ref x, ti p0, ti p1, ti p2] (IS K (fun X V1 => (X = 0 ∨ X = 1) ∧ (X ≠ 0 → p0 ≥ 0 ∧ p0 ≤ 3 ∧ p1 ≥ 0 ∧ p1 ≤ 11 ∧ p2 ≥ 0 ∧ p2 ≤ 100) ∧ (X = 0 → (p0 < 0 ∨ p0 > 3 ∨ p1 < 0 ∨ p1 > 11 ∨ p2 < 0 ∨ p2 > 100)))) := by
  refine MC.start 0 (by decide +kernel) rfl rfl rfl (ls0 := [some (.ref x), some (ti p0), some (ti p1), some (ti p2)]) rfl ?_
  refine GO.iload_n dX12_cover_0 rfl rfl ?_
  refine GO.callS (N := mX12_isSea) dX12_cover_1 gS_RX12_615 (t_X12_isSea r_p0) rfl [] rfl rfl (Nat.le_of_ble_eq_true rfl) rfl (k_ip fun X1 r2 h3 => ?_)
  refine GO.if_eq (tgt := 27) dX12_cover_4 (by decide) r2 (fun c4 => ?_) (fun c4 => ?_)
  ·
    have q5 := h3.2.2 (by omega)
    refine GO.iconst dX12_cover_27 ?_
    exact GO.retz rfl rfl dX12_cover_28 (by omega) ⟨rfl, _, rfl, (ir_c rfl), ⟨by omega, fun h => by omega, fun h => by omega⟩⟩
  ·
    have q6 := h3.2.1 (by omega)
    refine GO.iload_n dX12_cover_7 rfl rfl ?_
    refine GO.iconst dX12_cover_8 ?_
    refine GO.bipush dX12_cover_9 rfl ?_
    refine GO.callS (N := mX12_in) dX12_cover_11 gS_RX12_371 (t_X12_in r_p1 (ir_c rfl) (ir_c rfl)) rfl [] rfl rfl (Nat.le_of_ble_eq_true rfl) rfl (k_ip fun X7 r8 h9 => ?_)
    refine GO.if_eq (tgt := 27) dX12_cover_14 (by decide) r8 (fun c10 => ?_) (fun c10 => ?_)
    ·
      have q11 := h9.2.2 (by omega)
      refine GO.iconst dX12_cover_27 ?_
      exact GO.retz rfl rfl dX12_cover_28 (by omega) ⟨rfl, _, rfl, (ir_c rfl), ⟨by omega, fun h => by omega, fun h => by omega⟩⟩
    ·
      have q12 := h9.2.1 (by omega)
      refine GO.iload_n dX12_cover_17 rfl rfl ?_
      refine GO.iconst dX12_cover_18 ?_
      refine GO.bipush dX12_cover_19 rfl ?_
      refine GO.callS (N := mX12_in) dX12_cover_21 gS_RX12_371 (t_X12_in r_p2 (ir_c rfl) (ir_c rfl)) rfl [] rfl rfl (Nat.le_of_ble_eq_true rfl) rfl (k_ip fun X13 r14 h15 => ?_)
      refine GO.if_ne (tgt := 29) dX12_cover_24 (by decide) r14 (fun c16 => ?_) (fun c16 => ?_)
      ·
        have q17 := h15.2.1 (by omega)
        refine GO.aload_n dX12_cover_29 rfl rfl ?_
        refine GO.getA (n := 48) h_x fl_RX12_241 rfl rfl rfl rfl dX12_cover_30 (fun hv19 h18 => ?_)
        refine GO.bipush dX12_cover_33 rfl ?_
        refine GO.iload_n dX12_cover_35 rfl rfl ?_
        refine GO.imul dX12_cover_36 ?_
        refine GO.iload_n dX12_cover_37 rfl rfl ?_
        refine GO.iadd dX12_cover_38 ?_
        refine GO.iload_n dX12_cover_39 rfl rfl ?_
        have q20 : -2147483648 ≤ p1 ∧ p1 ≤ 2147483647 := r_p1
        have q21 : -2147483648 ≤ p0 ∧ p0 ≤ 2147483647 := r_p0
        refine GO.iast (t := 83) rfl rfl (by decide +kernel) h18 ⟨by omega, by omega⟩ (by omega) (by omega) r_p2 (r_p2).1 (r_p2).2 dX12_cover_40 (fun V23 e22 => ?_)
        refine GO.iconst dX12_cover_41 ?_
        exact GO.retz rfl rfl dX12_cover_42 (by omega) ⟨rfl, _, rfl, (ir_c rfl), ⟨by omega, fun h => by omega, fun h => by omega⟩⟩
      ·
        have q24 := h15.2.2 (by omega)
        refine GO.iconst dX12_cover_27 ?_
        exact GO.retz rfl rfl dX12_cover_28 (by omega) ⟨rfl, _, rfl, (ir_c rfl), ⟨by omega, fun h => by omega, fun h => by omega⟩⟩

set_option maxHeartbeats 1000000 in
theorem t_X12_sea {K : Kmap} {V : Vmap} {x : Nat} {p0 : Int} {p1 : Int} (h_x : K x = some (0, 11)) (r_p0 : ir p0) (r_p1 : ir p1) : MC mX12_sea K V [.ref x, ti p0, ti p1] (IS K (fun X V1 => (X = 0 ∨ X = 1) ∧ (X ≠ 0 → p0 ≥ 0 ∧ p0 ≤ 3 ∧ p1 ≥ 1 ∧ p1 ≤ 90) ∧ (X = 0 → (p0 < 0 ∨ p0 > 3 ∨ p1 < 1 ∨ p1 > 90)))) := by
  refine MC.start 0 (by decide +kernel) rfl rfl rfl (ls0 := [some (.ref x), some (ti p0), some (ti p1)]) rfl ?_
  refine GO.iload_n dX12_sea_0 rfl rfl ?_
  refine GO.callS (N := mX12_isSea) dX12_sea_1 gS_RX12_615 (t_X12_isSea r_p0) rfl [] rfl rfl (Nat.le_of_ble_eq_true rfl) rfl (k_ip fun X1 r2 h3 => ?_)
  refine GO.if_eq (tgt := 17) dX12_sea_4 (by decide) r2 (fun c4 => ?_) (fun c4 => ?_)
  ·
    have q5 := h3.2.2 (by omega)
    refine GO.iconst dX12_sea_17 ?_
    exact GO.retz rfl rfl dX12_sea_18 (by omega) ⟨rfl, _, rfl, (ir_c rfl), ⟨by omega, fun h => by omega, fun h => by omega⟩⟩
  ·
    have q6 := h3.2.1 (by omega)
    refine GO.iload_n dX12_sea_7 rfl rfl ?_
    refine GO.iconst dX12_sea_8 ?_
    refine GO.bipush dX12_sea_9 rfl ?_
    refine GO.callS (N := mX12_in) dX12_sea_11 gS_RX12_371 (t_X12_in r_p1 (ir_c rfl) (ir_c rfl)) rfl [] rfl rfl (Nat.le_of_ble_eq_true rfl) rfl (k_ip fun X7 r8 h9 => ?_)
    refine GO.if_ne (tgt := 19) dX12_sea_14 (by decide) r8 (fun c10 => ?_) (fun c10 => ?_)
    ·
      have q11 := h9.2.1 (by omega)
      refine GO.aload_n dX12_sea_19 rfl rfl ?_
      refine GO.getA (n := 4) h_x fl_RX12_244 rfl rfl rfl rfl dX12_sea_20 (fun hv13 h12 => ?_)
      refine GO.iload_n dX12_sea_23 rfl rfl ?_
      refine GO.iload_n dX12_sea_24 rfl rfl ?_
      have q14 : -2147483648 ≤ p0 ∧ p0 ≤ 2147483647 := r_p0
      refine GO.iast (t := 84) rfl rfl (by decide +kernel) h12 r_p0 (by omega) (by omega) r_p1 (r_p1).1 (r_p1).2 dX12_sea_25 (fun V16 e15 => ?_)
      refine GO.iconst dX12_sea_26 ?_
      exact GO.retz rfl rfl dX12_sea_27 (by omega) ⟨rfl, _, rfl, (ir_c rfl), ⟨by omega, fun h => by omega, fun h => by omega⟩⟩
    ·
      have q17 := h9.2.2 (by omega)
      refine GO.iconst dX12_sea_17 ?_
      exact GO.retz rfl rfl dX12_sea_18 (by omega) ⟨rfl, _, rfl, (ir_c rfl), ⟨by omega, fun h => by omega, fun h => by omega⟩⟩

set_option maxHeartbeats 1000000 in
theorem t_X12_voyage {K : Kmap} {V : Vmap} {x : Nat} {p0 : Int} {p1 : Int} {p2 : Int} {p3 : Int} (h_x : K x = some (0, 11)) (r_p0 : ir p0) (r_p1 : ir p1) (r_p2 : ir p2) (r_p3 : ir p3) : MC mX12_voyage K V [.ref x, ti p0, ti p1, ti p2, ti p3] (IS K (fun X V1 => (X = 0 ∨ X = 1) ∧ (X ≠ 0 → True) ∧ (X = 0 → True))) := by
  refine MC.start 0 (by decide +kernel) rfl rfl rfl (ls0 := [some (.ref x), some (ti p0), some (ti p1), some (ti p2), some (ti p3)]) rfl ?_
  refine GO.aload_n dX12_voyage_0 rfl rfl ?_
  refine GO.iload_n dX12_voyage_1 rfl rfl ?_
  refine GO.callV (ci := 11) (N := mX12_isShip) dX12_voyage_2 (RX12, TX12, 151) rfl gV_RX12_618 h_x (t_X12_isShip h_x r_p0) rfl [] rfl rfl (Nat.le_of_ble_eq_true rfl) rfl (k_ip fun X1 r2 h3 => ?_)
  refine GO.if_eq (tgt := 60) dX12_voyage_5 (by decide) r2 (fun c4 => ?_) (fun c4 => ?_)
  ·
    refine GO.iconst dX12_voyage_60 ?_
    exact GO.retz rfl rfl dX12_voyage_61 (by omega) ⟨rfl, _, rfl, (ir_c rfl), ⟨by omega, fun _ => trivial, fun _ => trivial⟩⟩
  ·
    have q5 := h3.2.1 (by omega)
    refine GO.aload_n dX12_voyage_8 rfl rfl ?_
    refine GO.getA (n := 10) h_x fl_RX12_217 rfl rfl rfl rfl dX12_voyage_9 (fun hv7 h6 => ?_)
    refine GO.iload_n dX12_voyage_12 rfl rfl ?_
    have q8 : -2147483648 ≤ p0 ∧ p0 ≤ 2147483647 := r_p0
    refine GO.iald (t := 75) rfl rfl h6 r_p0 (by omega) (by omega) dX12_voyage_13 (fun _ _ => ?_)
    refine GO.if_ne (tgt := 60) dX12_voyage_14 (by decide) vi_ir (fun c9 => ?_) (fun c9 => ?_)
    ·
      refine GO.iconst dX12_voyage_60 ?_
      exact GO.retz rfl rfl dX12_voyage_61 (by omega) ⟨rfl, _, rfl, (ir_c rfl), ⟨by omega, fun _ => trivial, fun _ => trivial⟩⟩
    ·
      refine GO.iload_n dX12_voyage_17 rfl rfl ?_
      refine GO.callS (N := mX12_isSea) dX12_voyage_18 gS_RX12_615 (t_X12_isSea r_p1) rfl [] rfl rfl (Nat.le_of_ble_eq_true rfl) rfl (k_ip fun X10 r11 h12 => ?_)
      refine GO.if_eq (tgt := 60) dX12_voyage_21 (by decide) r11 (fun c13 => ?_) (fun c13 => ?_)
      ·
        have q14 := h12.2.2 (by omega)
        refine GO.iconst dX12_voyage_60 ?_
        exact GO.retz rfl rfl dX12_voyage_61 (by omega) ⟨rfl, _, rfl, (ir_c rfl), ⟨by omega, fun _ => trivial, fun _ => trivial⟩⟩
      ·
        have q15 := h12.2.1 (by omega)
        refine GO.aload_n dX12_voyage_24 rfl rfl ?_
        refine GO.iload_n dX12_voyage_25 rfl rfl ?_
        refine GO.callV (ci := 11) (N := mX12_stands) dX12_voyage_26 (RX12, TX12, 151) rfl gV_RX12_433 h_x (t_X12_stands h_x r_p2) rfl [] rfl rfl (Nat.le_of_ble_eq_true rfl) rfl (k_ip fun X16 r17 h18 => ?_)
        refine GO.if_eq (tgt := 60) dX12_voyage_29 (by decide) r17 (fun c19 => ?_) (fun c19 => ?_)
        ·
          refine GO.iconst dX12_voyage_60 ?_
          exact GO.retz rfl rfl dX12_voyage_61 (by omega) ⟨rfl, _, rfl, (ir_c rfl), ⟨by omega, fun _ => trivial, fun _ => trivial⟩⟩
        ·
          have q20 := h18.2.1 (by omega)
          refine GO.aload_n dX12_voyage_32 rfl rfl ?_
          refine GO.aload_n dX12_voyage_33 rfl rfl ?_
          refine GO.getA (n := 60) h_x fl_RX12_41 rfl rfl rfl rfl dX12_voyage_34 (fun hv22 h21 => ?_)
          refine GO.iload_n dX12_voyage_37 rfl rfl ?_
          have q23 : -2147483648 ≤ p2 ∧ p2 ≤ 2147483647 := r_p2
          refine GO.iald (t := 17) rfl rfl h21 r_p2 (by omega) (by omega) dX12_voyage_38 (fun l24 u25 => ?_)
          refine GO.callV (ci := 11) (N := mX12_isNearSea) dX12_voyage_39 (RX12, TX12, 151) rfl gV_RX12_621 h_x (t_X12_isNearSea h_x vi_ir (by omega) (by omega)) rfl [] rfl rfl (Nat.le_of_ble_eq_true rfl) rfl (k_ip fun X26 r27 h28 => ?_)
          refine GO.if_eq (tgt := 60) dX12_voyage_42 (by decide) r27 (fun c29 => ?_) (fun c29 => ?_)
          ·
            refine GO.iconst dX12_voyage_60 ?_
            exact GO.retz rfl rfl dX12_voyage_61 (by omega) ⟨rfl, _, rfl, (ir_c rfl), ⟨by omega, fun _ => trivial, fun _ => trivial⟩⟩
          ·
            refine GO.iload dX12_voyage_45 rfl ?_
            refine GO.iconst dX12_voyage_47 ?_
            refine GO.aload_n dX12_voyage_48 rfl rfl ?_
            refine GO.getA (n := 10) h_x fl_RX12_211 rfl rfl rfl rfl dX12_voyage_49 (fun hv31 h30 => ?_)
            refine GO.iload_n dX12_voyage_52 rfl rfl ?_
            refine GO.iald (t := 73) rfl rfl h30 r_p0 (by omega) (by omega) dX12_voyage_53 (fun _ _ => ?_)
            refine GO.callS (N := mX12_in) dX12_voyage_54 gS_RX12_371 (t_X12_in r_p3 (ir_c rfl) vi_ir) rfl [] rfl rfl (Nat.le_of_ble_eq_true rfl) rfl (k_ip fun X32 r33 h34 => ?_)
            refine GO.if_ne (tgt := 62) dX12_voyage_57 (by decide) r33 (fun c35 => ?_) (fun c35 => ?_)
            ·
              have q36 := h34.2.1 (by omega)
              refine GO.aload_n dX12_voyage_62 rfl rfl ?_
              refine GO.getRaw h_x fl_RX12_217 hv7 dX12_voyage_63 ?_
              refine GO.iload_n dX12_voyage_66 rfl rfl ?_
              refine GO.iconst dX12_voyage_67 ?_
              refine GO.iast (t := 75) rfl rfl (by decide +kernel) h6 r_p0 (by omega) (by omega) (ir_c rfl) (by decide) (by decide) dX12_voyage_68 (fun V40 e39 => ?_)
              refine GO.aload_n dX12_voyage_69 rfl rfl ?_
              refine GO.getA (n := 10) h_x fl_RX12_220 rfl rfl rfl rfl dX12_voyage_70 (fun hv42 h41 => ?_)
              refine GO.iload_n dX12_voyage_73 rfl rfl ?_
              refine GO.iload dX12_voyage_74 rfl ?_
              refine GO.iast (t := 76) rfl rfl (by decide +kernel) h41 r_p0 (by omega) (by omega) r_p3 (r_p3).1 (r_p3).2 dX12_voyage_76 (fun V44 e43 => ?_)
              refine GO.aload_n dX12_voyage_77 rfl rfl ?_
              refine GO.getA (n := 10) h_x fl_RX12_223 rfl rfl rfl rfl dX12_voyage_78 (fun hv46 h45 => ?_)
              refine GO.iload_n dX12_voyage_81 rfl rfl ?_
              refine GO.iconst dX12_voyage_82 ?_
              refine GO.iast (t := 77) rfl rfl (by decide +kernel) h45 r_p0 (by omega) (by omega) (ir_c rfl) (by decide) (by decide) dX12_voyage_83 (fun V48 e47 => ?_)
              refine GO.aload_n dX12_voyage_84 rfl rfl ?_
              refine GO.getA (n := 10) h_x fl_RX12_229 rfl rfl rfl rfl dX12_voyage_85 (fun hv50 h49 => ?_)
              refine GO.iload_n dX12_voyage_88 rfl rfl ?_
              refine GO.iconst dX12_voyage_89 ?_
              refine GO.iast (t := 79) rfl rfl (by decide +kernel) h49 r_p0 (by omega) (by omega) (ir_c rfl) (by decide) (by decide) dX12_voyage_90 (fun V52 e51 => ?_)
              refine GO.aload_n dX12_voyage_91 rfl rfl ?_
              refine GO.getA (n := 10) h_x fl_RX12_232 rfl rfl rfl rfl dX12_voyage_92 (fun hv54 h53 => ?_)
              refine GO.iload_n dX12_voyage_95 rfl rfl ?_
              refine GO.iload_n dX12_voyage_96 rfl rfl ?_
              have q56 : -2147483648 ≤ p1 ∧ p1 ≤ 2147483647 := r_p1
              refine GO.iast (t := 80) rfl rfl (by decide +kernel) h53 r_p0 (by omega) (by omega) r_p1 (by omega) (by omega) dX12_voyage_97 (fun V57 e55 => ?_)
              refine GO.aload_n dX12_voyage_98 rfl rfl ?_
              refine GO.getA (n := 10) h_x fl_RX12_235 rfl rfl rfl rfl dX12_voyage_99 (fun hv59 h58 => ?_)
              refine GO.iload_n dX12_voyage_102 rfl rfl ?_
              refine GO.iload_n dX12_voyage_103 rfl rfl ?_
              refine GO.iast (t := 81) rfl rfl (by decide +kernel) h58 r_p0 (by omega) (by omega) r_p2 (by omega) (by omega) dX12_voyage_104 (fun V61 e60 => ?_)
              refine GO.aload_n dX12_voyage_105 rfl rfl ?_
              refine GO.getA (n := 10) h_x fl_RX12_238 rfl rfl rfl rfl dX12_voyage_106 (fun hv63 h62 => ?_)
              refine GO.iload_n dX12_voyage_109 rfl rfl ?_
              refine GO.aload_n dX12_voyage_110 rfl rfl ?_
              refine GO.getA (n := 4) h_x fl_RX12_244 rfl rfl rfl rfl dX12_voyage_111 (fun hv65 h64 => ?_)
              refine GO.iload_n dX12_voyage_114 rfl rfl ?_
              refine GO.iald (t := 84) rfl rfl h64 r_p1 (by omega) (by omega) dX12_voyage_115 (fun _ _ => ?_)
              refine GO.iast (t := 82) rfl rfl (by decide +kernel) h62 r_p0 (by omega) (by omega) vi_ir (vi_ir).1 (vi_ir).2 dX12_voyage_116 (fun V73 e72 => ?_)
              refine GO.aload_n dX12_voyage_117 rfl rfl ?_
              refine GO.getA (n := 10) h_x fl_RX12_226 rfl rfl rfl rfl dX12_voyage_118 (fun hv75 h74 => ?_)
              refine GO.iload_n dX12_voyage_121 rfl rfl ?_
              refine GO.aload_n dX12_voyage_122 rfl rfl ?_
              refine GO.getI h_x fl_RX12_396 rfl rfl dX12_voyage_123 (fun l76 u77 => ?_)
              refine GO.aload_n dX12_voyage_126 rfl rfl ?_
              refine GO.getRaw h_x fl_RX12_244 (Eq.trans (uq_ne e72 (Or.inl (K_ne h_x h62 (by decide)))) hv65) dX12_voyage_127 ?_
              refine GO.iload_n dX12_voyage_130 rfl rfl ?_
              refine GO.iald (t := 84) rfl rfl h64 r_p1 (by omega) (by omega) dX12_voyage_131 (fun _ _ => ?_)
              have e87 : vi V73 (vq V61 x 106) (p1).toNat = vi V61 (vq V61 x 106) (p1).toNat := vi_up e72 (Or.inl (K_ne h64 h62 (by decide)))
              refine GO.iadd dX12_voyage_132 ?_
              refine GO.norm (fun z88 r89 _ => ?_)
              refine GO.iast (t := 78) rfl rfl (by decide +kernel) h74 r_p0 (by omega) (by omega) r89 (r89).1 (r89).2 dX12_voyage_133 (fun V91 e90 => ?_)
              refine GO.aload_n dX12_voyage_134 rfl rfl ?_
              refine GO.aload_n dX12_voyage_135 rfl rfl ?_
              refine GO.getL h_x fl_RX12_429 rfl rfl dX12_voyage_136 ?_
              refine GO.anyL (fun z92 => ?_)
              refine GO.iload dX12_voyage_139 rfl ?_
              refine GO.i2l dX12_voyage_141 ?_
              refine GO.anyL (fun z93 => ?_)
              refine GO.ladd dX12_voyage_142 ?_
              refine GO.anyL (fun z94 => ?_)
              refine GO.putL h_x fp_RX12_429 rfl (by decide +kernel) dX12_voyage_143 (fun V96 e95 => ?_)
              refine GO.iconst dX12_voyage_146 ?_
              exact GO.retz rfl rfl dX12_voyage_147 (by omega) ⟨rfl, _, rfl, (ir_c rfl), ⟨by omega, fun _ => trivial, fun _ => trivial⟩⟩
            ·
              have q97 := h34.2.2 (by omega)
              refine GO.iconst dX12_voyage_60 ?_
              exact GO.retz rfl rfl dX12_voyage_61 (by omega) ⟨rfl, _, rfl, (ir_c rfl), ⟨by omega, fun _ => trivial, fun _ => trivial⟩⟩

set_option maxHeartbeats 1000000 in
theorem t_X12_turnsBack {K : Kmap} {V : Vmap} {x : Nat} {p0 : Int} (h_x : K x = some (0, 11)) (r_p0 : ir p0) (q_0 : p0 ≥ 0) (q_1 : p0 ≤ 9) : MC mX12_turnsBack K V [.ref x, ti p0] (VS K (fun V1 => (True))) := by
  refine MC.start 0 (by decide +kernel) rfl rfl rfl (ls0 := [some (.ref x), some (ti p0)]) rfl ?_
  refine GO.aload_n dX12_turnsBack_0 rfl rfl ?_
  refine GO.getA (n := 10) h_x fl_RX12_217 rfl rfl rfl rfl dX12_turnsBack_1 (fun hv2 h1 => ?_)
  refine GO.iload_n dX12_turnsBack_4 rfl rfl ?_
  refine GO.iconst dX12_turnsBack_5 ?_
  have q3 : -2147483648 ≤ p0 ∧ p0 ≤ 2147483647 := r_p0
  refine GO.iast (t := 75) rfl rfl (by decide +kernel) h1 r_p0 (by omega) (by omega) (ir_c rfl) (by decide) (by decide) dX12_turnsBack_6 (fun V5 e4 => ?_)
  refine GO.aload_n dX12_turnsBack_7 rfl rfl ?_
  refine GO.getA (n := 10) h_x fl_RX12_226 rfl rfl rfl rfl dX12_turnsBack_8 (fun hv7 h6 => ?_)
  refine GO.iload_n dX12_turnsBack_11 rfl rfl ?_
  refine GO.aload_n dX12_turnsBack_12 rfl rfl ?_
  refine GO.getI h_x fl_RX12_396 rfl rfl dX12_turnsBack_13 (fun l8 u9 => ?_)
  refine GO.aload_n dX12_turnsBack_16 rfl rfl ?_
  refine GO.getA (n := 10) h_x fl_RX12_238 rfl rfl rfl rfl dX12_turnsBack_17 (fun hv12 h11 => ?_)
  refine GO.iload_n dX12_turnsBack_20 rfl rfl ?_
  refine GO.iald (t := 82) rfl rfl h11 r_p0 (by omega) (by omega) dX12_turnsBack_21 (fun _ _ => ?_)
  refine GO.iadd dX12_turnsBack_22 ?_
  refine GO.norm (fun z14 r15 _ => ?_)
  refine GO.iast (t := 78) rfl rfl (by decide +kernel) h6 r_p0 (by omega) (by omega) r15 (r15).1 (r15).2 dX12_turnsBack_23 (fun V17 e16 => ?_)
  exact GO.retv rfl rfl dX12_turnsBack_24 ⟨rfl, rfl, trivial⟩

set_option maxHeartbeats 1000000 in
theorem t_X12_arrives {K : Kmap} {V : Vmap} {x : Nat} {p0 : Int} (h_x : K x = some (0, 11)) (r_p0 : ir p0) (q_0 : p0 ≥ 0) (q_1 : p0 ≤ 9) : MC mX12_arrives K V [.ref x, ti p0] (VS K (fun V1 => (True))) := by
  refine MC.start 4 (by decide +kernel) rfl rfl rfl (ls0 := [some (.ref x), some (ti p0), none, none, none, none]) rfl ?_
  refine GO.aload_n dX12_arrives_0 rfl rfl ?_
  refine GO.getA (n := 10) h_x fl_RX12_235 rfl rfl rfl rfl dX12_arrives_1 (fun hv2 h1 => ?_)
  refine GO.iload_n dX12_arrives_4 rfl rfl ?_
  have q3 : -2147483648 ≤ p0 ∧ p0 ≤ 2147483647 := r_p0
  refine GO.iald (t := 81) rfl rfl h1 r_p0 (by omega) (by omega) dX12_arrives_5 (fun l4 u5 => ?_)
  refine GO.name (fun z6 hz7 => ?_)
  have r8 : ir z6 := hz7 ▸ vi_ir
  refine GO.istore_n (ls1 := [some (.ref x), some (ti p0), some (ti z6), none, none, none]) dX12_arrives_6 rfl rfl rfl ?_
  refine GO.aload_n dX12_arrives_7 rfl rfl ?_
  refine GO.getA (n := 60) h_x fl_RX12_80 rfl rfl rfl rfl dX12_arrives_8 (fun hv10 h9 => ?_)
  refine GO.iload_n dX12_arrives_11 rfl rfl ?_
  refine GO.zald (t := 30) rfl rfl h9 r8 (by omega) (by omega) dX12_arrives_12 (fun l11 u12 => ?_)
  refine GO.if_ne (tgt := 29) dX12_arrives_13 (by decide) vi_ir (fun c13 => ?_) (fun c13 => ?_)
  ·
    refine GO.aload_n dX12_arrives_29 rfl rfl ?_
    refine GO.iload_n dX12_arrives_30 rfl rfl ?_
    refine GO.callV (ci := 11) (N := mX12_turnsBack) dX12_arrives_31 (RX12, TX12, 151) rfl gV_RX12_624 h_x (t_X12_turnsBack h_x r_p0 (by omega) (by omega)) rfl [] rfl rfl (Nat.le_of_ble_eq_true rfl) rfl (k_vs fun V16 h15 hF14 => ?_)
    exact GO.retv rfl rfl dX12_arrives_34 ⟨rfl, rfl, trivial⟩
  ·
    refine GO.aload_n dX12_arrives_16 rfl rfl ?_
    refine GO.aload_n dX12_arrives_17 rfl rfl ?_
    refine GO.getA (n := 60) h_x fl_RX12_41 rfl rfl rfl rfl dX12_arrives_18 (fun hv18 h17 => ?_)
    refine GO.iload_n dX12_arrives_21 rfl rfl ?_
    refine GO.iald (t := 17) rfl rfl h17 r8 (by omega) (by omega) dX12_arrives_22 (fun l19 u20 => ?_)
    refine GO.callV (ci := 11) (N := mX12_isNearSea) dX12_arrives_23 (RX12, TX12, 151) rfl gV_RX12_621 h_x (t_X12_isNearSea h_x vi_ir (by omega) (by omega)) rfl [] rfl rfl (Nat.le_of_ble_eq_true rfl) rfl (k_ip fun X21 r22 h23 => ?_)
    refine GO.if_ne (tgt := 35) dX12_arrives_26 (by decide) r22 (fun c24 => ?_) (fun c24 => ?_)
    ·
      refine GO.aload_n dX12_arrives_35 rfl rfl ?_
      refine GO.getA (n := 60) h_x fl_RX12_56 rfl rfl rfl rfl dX12_arrives_36 (fun hv26 h25 => ?_)
      refine GO.iload_n dX12_arrives_39 rfl rfl ?_
      refine GO.aload_n dX12_arrives_40 rfl rfl ?_
      refine GO.getRaw h_x fl_RX12_56 hv26 dX12_arrives_41 ?_
      refine GO.iload_n dX12_arrives_44 rfl rfl ?_
      refine GO.iald (t := 22) rfl rfl h25 r8 (by omega) (by omega) dX12_arrives_45 (fun _ _ => ?_)
      refine GO.aload_n dX12_arrives_46 rfl rfl ?_
      refine GO.getA (n := 10) h_x fl_RX12_220 rfl rfl rfl rfl dX12_arrives_47 (fun hv30 h29 => ?_)
      refine GO.iload_n dX12_arrives_50 rfl rfl ?_
      refine GO.iald (t := 76) rfl rfl h29 r_p0 (by omega) (by omega) dX12_arrives_51 (fun _ _ => ?_)
      refine GO.iadd dX12_arrives_52 ?_
      refine GO.norm (fun z31 r32 _ => ?_)
      refine GO.iast (t := 22) rfl rfl (by decide +kernel) h25 r8 (by omega) (by omega) r32 (r32).1 (r32).2 dX12_arrives_53 (fun V34 e33 => ?_)
      refine GO.aload_n dX12_arrives_54 rfl rfl ?_
      refine GO.getRaw h_x fl_RX12_220 (Eq.trans (uq_ne e33 (Or.inl (K_ne h_x h25 (by decide)))) hv30) dX12_arrives_55 ?_
      refine GO.iload_n dX12_arrives_58 rfl rfl ?_
      refine GO.iconst dX12_arrives_59 ?_
      refine GO.iast (t := 76) rfl rfl (by decide +kernel) h29 r_p0 (by omega) (by omega) (ir_c rfl) (by decide) (by decide) dX12_arrives_60 (fun V38 e37 => ?_)
      refine GO.iconst dX12_arrives_61 ?_
      refine GO.istore_n (ls1 := [some (.ref x), some (ti p0), some (ti z6), some (ti 3), none, none]) dX12_arrives_62 rfl rfl rfl ?_
      refine GO.loop1 (fun i39 W => (-1) ≤ i39 ∧ i39 ≤ 3 ∧ True) (fun i39 => [some (.ref x), some (ti p0), some (ti z6), some (ti i39), none, none]) (fun i39 W => (i39 + 2147483648).toNat) 3 ⟨by omega, by omega, trivial⟩ rfl (fun i39 Wi39 hp249 ih248 => ?_)
      obtain ⟨l_i39, u_i39, -⟩ := hp249
      have r_i39 : ir i39 := ⟨by omega, by omega⟩
      show GO mX12_arrives K V (VS K (fun V1 => (True))) K Wi39 0 0 63 [some (.ref x), some (ti p0), some (ti z6), some (ti i39), none, none] []
      refine GO.iload_n dX12_arrives_63 rfl rfl ?_
      refine GO.if_lt (tgt := 158) dX12_arrives_64 (by decide) r_i39 (fun c250 => ?_) (fun c250 => ?_)
      ·
        refine GO.aload_n dX12_arrives_158 rfl rfl ?_
        refine GO.iload_n dX12_arrives_159 rfl rfl ?_
        refine GO.callV (ci := 11) (N := mX12_turnsBack) dX12_arrives_160 (RX12, TX12, 151) rfl gV_RX12_624 h_x (t_X12_turnsBack h_x r_p0 (by omega) (by omega)) rfl [] rfl rfl (Nat.le_of_ble_eq_true rfl) rfl (k_vs fun V253 h252 hF251 => ?_)
        exact GO.retv rfl rfl dX12_arrives_163 ⟨rfl, rfl, trivial⟩
      ·
        refine GO.aload_n dX12_arrives_67 rfl rfl ?_
        refine GO.getA (n := 10) h_x fl_RX12_211 rfl rfl rfl rfl dX12_arrives_68 (fun hv255 h254 => ?_)
        refine GO.iload_n dX12_arrives_71 rfl rfl ?_
        refine GO.iald (t := 73) rfl rfl h254 r_p0 (by omega) (by omega) dX12_arrives_72 (fun _ _ => ?_)
        refine GO.aload_n dX12_arrives_73 rfl rfl ?_
        refine GO.getA (n := 10) h_x fl_RX12_223 rfl rfl rfl rfl dX12_arrives_74 (fun hv257 h256 => ?_)
        refine GO.iload_n dX12_arrives_77 rfl rfl ?_
        refine GO.iald (t := 77) rfl rfl h256 r_p0 (by omega) (by omega) dX12_arrives_78 (fun _ _ => ?_)
        refine GO.isub dX12_arrives_79 ?_
        refine GO.norm (fun z258 r259 _ => ?_)
        refine GO.istore (ls1 := [some (.ref x), some (ti p0), some (ti z6), some (ti i39), some (ti z258), none]) dX12_arrives_80 rfl rfl ?_
        refine GO.aload_n dX12_arrives_82 rfl rfl ?_
        refine GO.getA (n := 240) h_x fl_RX12_65 rfl rfl rfl rfl dX12_arrives_83 (fun hv261 h260 => ?_)
        refine GO.iconst dX12_arrives_86 ?_
        refine GO.iload_n dX12_arrives_87 rfl rfl ?_
        refine GO.imul dX12_arrives_88 ?_
        refine GO.iload_n dX12_arrives_89 rfl rfl ?_
        refine GO.iadd dX12_arrives_90 ?_
        refine GO.iald (t := 25) rfl rfl h260 ⟨by omega, by omega⟩ (by omega) (by omega) dX12_arrives_91 (fun _ _ => ?_)
        refine GO.iload dX12_arrives_92 rfl ?_
        have hj266 : ∀ (z265 : Int), ∀ (l267 : (-2147483648) ≤ z265), ∀ (u268 : z265 ≤ 2147483647), GO mX12_arrives K V (VS K (fun V1 => (True))) K Wi39 0 0 112 [some (.ref x), some (ti p0), some (ti z6), some (ti i39), some (ti z258), none] [ti z265] := by
          intro z265 l267 u268
          have r269 : ir z265 := ⟨by omega, by omega⟩
          refine GO.istore (ls1 := [some (.ref x), some (ti p0), some (ti z6), some (ti i39), some (ti z258), some (ti z265)]) dX12_arrives_112 rfl rfl ?_
          refine GO.aload_n dX12_arrives_114 rfl rfl ?_
          refine GO.getRaw h_x fl_RX12_65 hv261 dX12_arrives_115 ?_
          refine GO.iconst dX12_arrives_118 ?_
          refine GO.iload_n dX12_arrives_119 rfl rfl ?_
          refine GO.imul dX12_arrives_120 ?_
          refine GO.iload_n dX12_arrives_121 rfl rfl ?_
          refine GO.iadd dX12_arrives_122 ?_
          refine GO.aload_n dX12_arrives_123 rfl rfl ?_
          refine GO.getRaw h_x fl_RX12_65 hv261 dX12_arrives_124 ?_
          refine GO.iconst dX12_arrives_127 ?_
          refine GO.iload_n dX12_arrives_128 rfl rfl ?_
          refine GO.imul dX12_arrives_129 ?_
          refine GO.iload_n dX12_arrives_130 rfl rfl ?_
          refine GO.iadd dX12_arrives_131 ?_
          refine GO.iald (t := 25) rfl rfl h260 ⟨by omega, by omega⟩ (by omega) (by omega) dX12_arrives_132 (fun _ _ => ?_)
          refine GO.iload dX12_arrives_133 rfl ?_
          refine GO.isub dX12_arrives_135 ?_
          refine GO.norm (fun z274 r275 _ => ?_)
          refine GO.iast (t := 25) rfl rfl (by decide +kernel) h260 ⟨by omega, by omega⟩ (by omega) (by omega) r275 (r275).1 (r275).2 dX12_arrives_136 (fun V277 e276 => ?_)
          refine GO.aload_n dX12_arrives_137 rfl rfl ?_
          refine GO.getRaw h_x fl_RX12_223 (Eq.trans (uq_ne e276 (Or.inl (K_ne h_x h260 (by decide)))) hv257) dX12_arrives_138 ?_
          refine GO.iload_n dX12_arrives_141 rfl rfl ?_
          refine GO.aload_n dX12_arrives_142 rfl rfl ?_
          refine GO.getRaw h_x fl_RX12_223 (Eq.trans (uq_ne e276 (Or.inl (K_ne h_x h260 (by decide)))) hv257) dX12_arrives_143 ?_
          refine GO.iload_n dX12_arrives_146 rfl rfl ?_
          refine GO.iald (t := 77) rfl rfl h256 r_p0 (by omega) (by omega) dX12_arrives_147 (fun _ _ => ?_)
          have e282 : vi V277 (vq Wi39 x 99) (p0).toNat = vi Wi39 (vq Wi39 x 99) (p0).toNat := vi_up e276 (Or.inl (K_ne h256 h260 (by decide)))
          refine GO.iload dX12_arrives_148 rfl ?_
          refine GO.iadd dX12_arrives_150 ?_
          refine GO.norm (fun z283 r284 _ => ?_)
          refine GO.iast (t := 77) rfl rfl (by decide +kernel) h256 r_p0 (by omega) (by omega) r284 (r284).1 (r284).2 dX12_arrives_151 (fun V286 e285 => ?_)
          refine GO.iinc (X := i39) (n := (-1)) (Y := i39 + (-1)) (ls1 := [some (.ref x), some (ti p0), some (ti z6), some (ti (i39 + (-1))), some (ti z258), some (ti z265)]) dX12_arrives_152 rfl rfl rfl rfl ?_
          refine GO.goto (tgt := 63) dX12_arrives_155 (by decide) ?_
          refine GO.drop [true, true, true, true, false, false] rfl ?_
          exact ih248 (i39 + (-1)) V286 ⟨by omega, by omega, trivial⟩ (by show ((i39 + (-1)) + 2147483648).toNat < (i39 + 2147483648).toNat; omega)
        refine GO.icmp_ge (tgt := 110) dX12_arrives_94 (by decide) vi_ir r259 (fun c287 => ?_) (fun c287 => ?_)
        ·
          refine GO.iload dX12_arrives_110 rfl ?_
          have q288 : -2147483648 ≤ z258 ∧ z258 ≤ 2147483647 := r259
          have q289 : -2147483648 ≤ vi Wi39 (vq Wi39 x 23) ((4 * z6) + i39).toNat ∧ vi Wi39 (vq Wi39 x 23) ((4 * z6) + i39).toNat ≤ 2147483647 := vi_ir
          exact hj266 z258 (by omega) (by omega)
        ·
          refine GO.aload_n dX12_arrives_97 rfl rfl ?_
          refine GO.getRaw h_x fl_RX12_65 hv261 dX12_arrives_98 ?_
          refine GO.iconst dX12_arrives_101 ?_
          refine GO.iload_n dX12_arrives_102 rfl rfl ?_
          refine GO.imul dX12_arrives_103 ?_
          refine GO.iload_n dX12_arrives_104 rfl rfl ?_
          refine GO.iadd dX12_arrives_105 ?_
          refine GO.iald (t := 25) rfl rfl h260 ⟨by omega, by omega⟩ (by omega) (by omega) dX12_arrives_106 (fun _ _ => ?_)
          refine GO.goto (tgt := 112) dX12_arrives_107 (by decide) ?_
          have q292 : -2147483648 ≤ vi Wi39 (vq Wi39 x 23) ((4 * z6) + i39).toNat ∧ vi Wi39 (vq Wi39 x 23) ((4 * z6) + i39).toNat ≤ 2147483647 := vi_ir
          have q293 : -2147483648 ≤ z258 ∧ z258 ≤ 2147483647 := r259
          exact hj266 (vi Wi39 (vq Wi39 x 23) ((4 * z6) + i39).toNat) (by omega) (by omega)
    ·
      refine GO.aload_n dX12_arrives_29 rfl rfl ?_
      refine GO.iload_n dX12_arrives_30 rfl rfl ?_
      refine GO.callV (ci := 11) (N := mX12_turnsBack) dX12_arrives_31 (RX12, TX12, 151) rfl gV_RX12_624 h_x (t_X12_turnsBack h_x r_p0 (by omega) (by omega)) rfl [] rfl rfl (Nat.le_of_ble_eq_true rfl) rfl (k_vs fun V296 h295 hF294 => ?_)
      exact GO.retv rfl rfl dX12_arrives_34 ⟨rfl, rfl, trivial⟩
