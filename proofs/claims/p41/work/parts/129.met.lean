def mX12_cover : MRec := (RX12, cX12_cover, 4, (some .boolean), yX12_cover, 1, 22, 0, 0, 36695977855841144185773134324833391052745039826692497979801421430190766017415756929120296849762010984873984)
def mX12_sea : MRec := (RX12, cX12_sea, 3, (some .boolean), yX12_sea, 1, 22, 0, 0, 73391955711682288371546268649666782105490079653384995959602842860381532034831513858240593699524021969747968)
def mX12_voyage : MRec := (RX12, cX12_voyage, 5, (some .boolean), yX12_voyage, 3, 66, 0, 0, 36552634192341764716297458018877010618945254521297232586603783229896931707024877038704732665323799470669824)
def mX12_turnsBack : MRec := (RX12, cX12_turnsBack, 2, (none : Option Jvm.ClassFile.FieldType), yX12_turnsBack, 0, 0, 0, 0, 1290092971494415225281086753607423904198067806407158132102393722155144117799772704539385436124445698686976)
def mX12_arrives : MRec := (RX12, cX12_arrives, 6, (none : Option Jvm.ClassFile.FieldType), yX12_arrives, 3, 66, 0, 0, 2150154952490692185364236675364259447746867143629665502435360966561382819186579852795577533150354984665088)
def mX12_waits : MRec := (RX12, cX12_waits, 2, (none : Option Jvm.ClassFile.FieldType), yX12_waits, 4, 91, 0, 0, 4443653568480763696975057570666346388543432132797946626172949805948305695275064660865596086260480671219712)
def mX12_shipGoes : MRec := (RX12, cX12_shipGoes, 2, (none : Option Jvm.ClassFile.FieldType), yX12_shipGoes, 5, 112, 0, 0, 4443653568480763696975057570666346388543432595596103372762149162033388289529894187260058295704817238016000)
def mX12_goesOver : MRec := (RX12, cX12_goesOver, 7, (none : Option Jvm.ClassFile.FieldType), yX12_goesOver, 2, 47, 0, 0, 150306725297525326584926758194517569752043683130132471725266622178061377607334940381676735896625196994043838464)
set_option maxHeartbeats 1000000 in
theorem t_X12_cover {K : Kmap} {V : Vmap} {x : Nat} {p0 : Int} {p1 : Int} {p2 : Int} (h_x : K x = some (0, 11)) (r_p0 : ir p0) (r_p1 : ir p1) (r_p2 : ir p2) : MC mX12_cover K V [.ref x, ti p0, ti p1, ti p2] (IS K (fun X V1 => (X = 0 ∨ X = 1) ∧ (X ≠ 0 → p0 ≥ 0 ∧ p0 ≤ 3 ∧ p1 ≥ 0 ∧ p1 ≤ 11 ∧ p2 ≥ 0 ∧ p2 ≤ 100) ∧ (X = 0 → (p0 < 0 ∨ p0 > 3 ∨ p1 < 0 ∨ p1 > 11 ∨ p2 < 0 ∨ p2 > 100)))) := by
  refine MC.start 0 (by decide +kernel) rfl rfl rfl (ls0 := [some (.ref x), some (ti p0), some (ti p1), some (ti p2)]) rfl ?_
  refine GO.iload_n dX12_cover_0 rfl rfl ?_
  refine GO.callS (N := mX12_isSea) dX12_cover_1 gS_RX12_615 (t_X12_isSea r_p0) rfl [] rfl rfl (Nat.le_of_ble_eq_true rfl) rfl (k_ip fun X1 r2 h3 => ?_)
  refine GO.if_eq (tgt := 27) dX12_cover_4 (by decide) r2 (fun c4 => ?_) (fun c4 => ?_)
  ·
    have q5 := h3.2.2 (by omega)
    refine GO.iconst dX12_cover_27 ?_
    exact GO.retz rfl rfl dX12_cover_28 (Or.inl rfl) ⟨rfl, _, rfl, (ir_c rfl), ⟨Or.inl rfl, fun h => absurd rfl h, fun h => by omega⟩⟩
  ·
    have q6 := h3.2.1 (by omega)
    refine GO.iload_n dX12_cover_7 rfl rfl ?_
    refine GO.iconst dX12_cover_8 ?_
    refine GO.bipush dX12_cover_9 rfl ?_
    refine GO.callS (N := mX12_in) dX12_cover_11 gS_RX12_371 (t_X12_in r_p1 (ir_c rfl) (ir_c rfl)) rfl [] rfl rfl (Nat.le_of_ble_eq_true rfl) rfl (k_ip fun X7 r8 h9 => ?_)
    have raw_in := h9.2.2.2
    have rw11 := h9.2.2.2
    refine GO.if_eq (tgt := 27) dX12_cover_14 (by decide) r8 (fun c10 => ?_) (fun c10 => ?_)
    ·
      have q11 := h9.2.2.1 (by omega)
      refine GO.iconst dX12_cover_27 ?_
      exact GO.retz rfl rfl dX12_cover_28 (Or.inl rfl) ⟨rfl, _, rfl, (ir_c rfl), ⟨Or.inl rfl, fun h => absurd rfl h, fun h => by omega⟩⟩
    ·
      have q12 := h9.2.1 (by omega)
      refine GO.iload_n dX12_cover_17 rfl rfl ?_
      refine GO.iconst dX12_cover_18 ?_
      refine GO.bipush dX12_cover_19 rfl ?_
      refine GO.callS (N := mX12_in) dX12_cover_21 gS_RX12_371 (t_X12_in r_p2 (ir_c rfl) (ir_c rfl)) rfl [] rfl rfl (Nat.le_of_ble_eq_true rfl) rfl (k_ip fun X13 r14 h15 => ?_)
      have raw_in := h15.2.2.2
      have rw21 := h15.2.2.2
      refine GO.if_ne (tgt := 29) dX12_cover_24 (by decide) r14 (fun c16 => ?_) (fun c16 => ?_)
      ·
        have q17 := h15.2.1 (by omega)
        refine GO.aload_n dX12_cover_29 rfl rfl ?_
        refine GO.getA (n := 48) h_x fl_RX12_241 rfl rfl rfl rfl dX12_cover_30 (fun hv19 h18 => ?_)
        refine GO.bipush dX12_cover_33 rfl ?_
        refine GO.iload_n dX12_cover_35 rfl rfl ?_
        refine GO.imul dX12_cover_36 ?_
        refine GO.iload_n dX12_cover_37 rfl rfl ?_
        refine GO.iadd dX12_cover_38 ?_
        refine GO.iload_n dX12_cover_39 rfl rfl ?_
        have q20 : -2147483648 ≤ p1 ∧ p1 ≤ 2147483647 := r_p1
        have q21 : -2147483648 ≤ p0 ∧ p0 ≤ 2147483647 := r_p0
        refine GO.iast (t := 83) rfl rfl (by decide +kernel) h18 ⟨by omega, by omega⟩ (by omega) (by omega) r_p2 (r_p2).1 (r_p2).2 dX12_cover_40 (fun V23 e22 => ?_)
        refine GO.iconst dX12_cover_41 ?_
        exact GO.retz rfl rfl dX12_cover_42 (Or.inr rfl) ⟨rfl, _, rfl, (ir_c rfl), ⟨Or.inr rfl, fun h => by omega, fun h => absurd h (by decide)⟩⟩
      ·
        have q24 := h15.2.2.1 (by omega)
        refine GO.iconst dX12_cover_27 ?_
        exact GO.retz rfl rfl dX12_cover_28 (Or.inl rfl) ⟨rfl, _, rfl, (ir_c rfl), ⟨Or.inl rfl, fun h => absurd rfl h, fun h => by omega⟩⟩

set_option maxHeartbeats 1000000 in
theorem t_X12_sea {K : Kmap} {V : Vmap} {x : Nat} {p0 : Int} {p1 : Int} (h_x : K x = some (0, 11)) (r_p0 : ir p0) (r_p1 : ir p1) : MC mX12_sea K V [.ref x, ti p0, ti p1] (IS K (fun X V1 => (X = 0 ∨ X = 1) ∧ (X ≠ 0 → p0 ≥ 0 ∧ p0 ≤ 3 ∧ p1 ≥ 1 ∧ p1 ≤ 90) ∧ (X = 0 → (p0 < 0 ∨ p0 > 3 ∨ p1 < 1 ∨ p1 > 90)))) := by
  refine MC.start 0 (by decide +kernel) rfl rfl rfl (ls0 := [some (.ref x), some (ti p0), some (ti p1)]) rfl ?_
  refine GO.iload_n dX12_sea_0 rfl rfl ?_
  refine GO.callS (N := mX12_isSea) dX12_sea_1 gS_RX12_615 (t_X12_isSea r_p0) rfl [] rfl rfl (Nat.le_of_ble_eq_true rfl) rfl (k_ip fun X1 r2 h3 => ?_)
  refine GO.if_eq (tgt := 17) dX12_sea_4 (by decide) r2 (fun c4 => ?_) (fun c4 => ?_)
  ·
    have q5 := h3.2.2 (by omega)
    refine GO.iconst dX12_sea_17 ?_
    exact GO.retz rfl rfl dX12_sea_18 (Or.inl rfl) ⟨rfl, _, rfl, (ir_c rfl), ⟨Or.inl rfl, fun h => absurd rfl h, fun h => by omega⟩⟩
  ·
    have q6 := h3.2.1 (by omega)
    refine GO.iload_n dX12_sea_7 rfl rfl ?_
    refine GO.iconst dX12_sea_8 ?_
    refine GO.bipush dX12_sea_9 rfl ?_
    refine GO.callS (N := mX12_in) dX12_sea_11 gS_RX12_371 (t_X12_in r_p1 (ir_c rfl) (ir_c rfl)) rfl [] rfl rfl (Nat.le_of_ble_eq_true rfl) rfl (k_ip fun X7 r8 h9 => ?_)
    have raw_in := h9.2.2.2
    have rw11 := h9.2.2.2
    refine GO.if_ne (tgt := 19) dX12_sea_14 (by decide) r8 (fun c10 => ?_) (fun c10 => ?_)
    ·
      have q11 := h9.2.1 (by omega)
      refine GO.aload_n dX12_sea_19 rfl rfl ?_
      refine GO.getA (n := 4) h_x fl_RX12_244 rfl rfl rfl rfl dX12_sea_20 (fun hv13 h12 => ?_)
      refine GO.iload_n dX12_sea_23 rfl rfl ?_
      refine GO.iload_n dX12_sea_24 rfl rfl ?_
      have q14 : -2147483648 ≤ p0 ∧ p0 ≤ 2147483647 := r_p0
      refine GO.iast (t := 84) rfl rfl (by decide +kernel) h12 r_p0 (by omega) (by omega) r_p1 (r_p1).1 (r_p1).2 dX12_sea_25 (fun V16 e15 => ?_)
      refine GO.iconst dX12_sea_26 ?_
      exact GO.retz rfl rfl dX12_sea_27 (Or.inr rfl) ⟨rfl, _, rfl, (ir_c rfl), ⟨Or.inr rfl, fun h => by omega, fun h => absurd h (by decide)⟩⟩
    ·
      have q17 := h9.2.2.1 (by omega)
      refine GO.iconst dX12_sea_17 ?_
      exact GO.retz rfl rfl dX12_sea_18 (Or.inl rfl) ⟨rfl, _, rfl, (ir_c rfl), ⟨Or.inl rfl, fun h => absurd rfl h, fun h => by omega⟩⟩

set_option maxHeartbeats 1000000 in
theorem t_X12_voyage {K : Kmap} {V : Vmap} {x : Nat} {p0 : Int} {p1 : Int} {p2 : Int} {p3 : Int} (h_x : K x = some (0, 11)) (r_p0 : ir p0) (r_p1 : ir p1) (r_p2 : ir p2) (r_p3 : ir p3) : MC mX12_voyage K V [.ref x, ti p0, ti p1, ti p2, ti p3] (IS K (fun X V1 => (X = 0 ∨ X = 1) ∧ (X ≠ 0 → True) ∧ (X = 0 → True))) := by
  refine MC.start 0 (by decide +kernel) rfl rfl rfl (ls0 := [some (.ref x), some (ti p0), some (ti p1), some (ti p2), some (ti p3)]) rfl ?_
  refine GO.aload_n dX12_voyage_0 rfl rfl ?_
  refine GO.iload_n dX12_voyage_1 rfl rfl ?_
  refine GO.callV (ci := 11) (N := mX12_isShip) dX12_voyage_2 (RX12, TX12, 151) rfl gV_RX12_618 h_x (t_X12_isShip h_x r_p0) rfl [] rfl rfl (Nat.le_of_ble_eq_true rfl) rfl (k_ip fun X1 r2 h3 => ?_)
  refine GO.if_eq (tgt := 60) dX12_voyage_5 (by decide) r2 (fun c4 => ?_) (fun c4 => ?_)
  ·
    have q5 := h3.2.2 (by omega)
    refine GO.iconst dX12_voyage_60 ?_
    exact GO.retz rfl rfl dX12_voyage_61 (Or.inl rfl) ⟨rfl, _, rfl, (ir_c rfl), ⟨Or.inl rfl, fun _ => trivial, fun _ => trivial⟩⟩
  ·
    have q6 := h3.2.1 (by omega)
    refine GO.aload_n dX12_voyage_8 rfl rfl ?_
    refine GO.getA (n := 10) h_x fl_RX12_217 rfl rfl rfl rfl dX12_voyage_9 (fun hv8 h7 => ?_)
    refine GO.iload_n dX12_voyage_12 rfl rfl ?_
    have q9 : -2147483648 ≤ p0 ∧ p0 ≤ 2147483647 := r_p0
    have q10 : -2147483648 ≤ vi V x 91 ∧ vi V x 91 ≤ 2147483647 := vi_ir
    refine GO.iald (t := 75) rfl rfl h7 r_p0 (by omega) (by omega) dX12_voyage_13 (fun _ _ => ?_)
    refine GO.if_ne (tgt := 60) dX12_voyage_14 (by decide) vi_ir (fun c11 => ?_) (fun c11 => ?_)
    ·
      refine GO.iconst dX12_voyage_60 ?_
      exact GO.retz rfl rfl dX12_voyage_61 (Or.inl rfl) ⟨rfl, _, rfl, (ir_c rfl), ⟨Or.inl rfl, fun _ => trivial, fun _ => trivial⟩⟩
    ·
      refine GO.iload_n dX12_voyage_17 rfl rfl ?_
      refine GO.callS (N := mX12_isSea) dX12_voyage_18 gS_RX12_615 (t_X12_isSea r_p1) rfl [] rfl rfl (Nat.le_of_ble_eq_true rfl) rfl (k_ip fun X12 r13 h14 => ?_)
      refine GO.if_eq (tgt := 60) dX12_voyage_21 (by decide) r13 (fun c15 => ?_) (fun c15 => ?_)
      ·
        have q16 := h14.2.2 (by omega)
        refine GO.iconst dX12_voyage_60 ?_
        exact GO.retz rfl rfl dX12_voyage_61 (Or.inl rfl) ⟨rfl, _, rfl, (ir_c rfl), ⟨Or.inl rfl, fun _ => trivial, fun _ => trivial⟩⟩
      ·
        have q17 := h14.2.1 (by omega)
        refine GO.aload_n dX12_voyage_24 rfl rfl ?_
        refine GO.iload_n dX12_voyage_25 rfl rfl ?_
        refine GO.callV (ci := 11) (N := mX12_stands) dX12_voyage_26 (RX12, TX12, 151) rfl gV_RX12_433 h_x (t_X12_stands h_x r_p2) rfl [] rfl rfl (Nat.le_of_ble_eq_true rfl) rfl (k_ip fun X18 r19 h20 => ?_)
        have raw_stands := h20.2.2.2
        have rw26 := h20.2.2.2
        refine GO.if_eq (tgt := 60) dX12_voyage_29 (by decide) r19 (fun c21 => ?_) (fun c21 => ?_)
        ·
          refine GO.iconst dX12_voyage_60 ?_
          exact GO.retz rfl rfl dX12_voyage_61 (Or.inl rfl) ⟨rfl, _, rfl, (ir_c rfl), ⟨Or.inl rfl, fun _ => trivial, fun _ => trivial⟩⟩
        ·
          have q22 := h20.2.1 (by omega)
          refine GO.aload_n dX12_voyage_32 rfl rfl ?_
          refine GO.aload_n dX12_voyage_33 rfl rfl ?_
          refine GO.getA (n := 60) h_x fl_RX12_41 rfl rfl rfl rfl dX12_voyage_34 (fun hv24 h23 => ?_)
          refine GO.iload_n dX12_voyage_37 rfl rfl ?_
          have q25 : -2147483648 ≤ p2 ∧ p2 ≤ 2147483647 := r_p2
          refine GO.iald (t := 17) rfl rfl h23 r_p2 (by omega) (by omega) dX12_voyage_38 (fun l26 u27 => ?_)
          refine GO.callV (ci := 11) (N := mX12_isNearSea) dX12_voyage_39 (RX12, TX12, 151) rfl gV_RX12_621 h_x (t_X12_isNearSea h_x vi_ir (by omega) (by omega)) rfl [] rfl rfl (Nat.le_of_ble_eq_true rfl) rfl (k_ip fun X28 r29 h30 => ?_)
          refine GO.if_eq (tgt := 60) dX12_voyage_42 (by decide) r29 (fun c31 => ?_) (fun c31 => ?_)
          ·
            refine GO.iconst dX12_voyage_60 ?_
            exact GO.retz rfl rfl dX12_voyage_61 (Or.inl rfl) ⟨rfl, _, rfl, (ir_c rfl), ⟨Or.inl rfl, fun _ => trivial, fun _ => trivial⟩⟩
          ·
            refine GO.iload dX12_voyage_45 rfl ?_
            refine GO.iconst dX12_voyage_47 ?_
            refine GO.aload_n dX12_voyage_48 rfl rfl ?_
            refine GO.getA (n := 10) h_x fl_RX12_211 rfl rfl rfl rfl dX12_voyage_49 (fun hv33 h32 => ?_)
            refine GO.iload_n dX12_voyage_52 rfl rfl ?_
            refine GO.iald (t := 73) rfl rfl h32 r_p0 (by omega) (by omega) dX12_voyage_53 (fun _ _ => ?_)
            refine GO.callS (N := mX12_in) dX12_voyage_54 gS_RX12_371 (t_X12_in r_p3 (ir_c rfl) vi_ir) rfl [] rfl rfl (Nat.le_of_ble_eq_true rfl) rfl (k_ip fun X34 r35 h36 => ?_)
            have raw_in := h36.2.2.2
            have rw54 := h36.2.2.2
            refine GO.if_ne (tgt := 62) dX12_voyage_57 (by decide) r35 (fun c37 => ?_) (fun c37 => ?_)
            ·
              have q38 := h36.2.1 (by omega)
              refine GO.aload_n dX12_voyage_62 rfl rfl ?_
              refine GO.getRaw h_x fl_RX12_217 hv8 dX12_voyage_63 ?_
              refine GO.iload_n dX12_voyage_66 rfl rfl ?_
              refine GO.iconst dX12_voyage_67 ?_
              refine GO.iast (t := 75) rfl rfl (by decide +kernel) h7 r_p0 (by omega) (by omega) (ir_c rfl) (by decide) (by decide) dX12_voyage_68 (fun V42 e41 => ?_)
              refine GO.aload_n dX12_voyage_69 rfl rfl ?_
              refine GO.getA (n := 10) h_x fl_RX12_220 rfl rfl rfl rfl dX12_voyage_70 (fun hv44 h43 => ?_)
              refine GO.iload_n dX12_voyage_73 rfl rfl ?_
              refine GO.iload dX12_voyage_74 rfl ?_
              refine GO.iast (t := 76) rfl rfl (by decide +kernel) h43 r_p0 (by omega) (by omega) r_p3 (r_p3).1 (r_p3).2 dX12_voyage_76 (fun V46 e45 => ?_)
              refine GO.aload_n dX12_voyage_77 rfl rfl ?_
              refine GO.getA (n := 10) h_x fl_RX12_223 rfl rfl rfl rfl dX12_voyage_78 (fun hv48 h47 => ?_)
              refine GO.iload_n dX12_voyage_81 rfl rfl ?_
              refine GO.iconst dX12_voyage_82 ?_
              refine GO.iast (t := 77) rfl rfl (by decide +kernel) h47 r_p0 (by omega) (by omega) (ir_c rfl) (by decide) (by decide) dX12_voyage_83 (fun V50 e49 => ?_)
              refine GO.aload_n dX12_voyage_84 rfl rfl ?_
              refine GO.getA (n := 10) h_x fl_RX12_229 rfl rfl rfl rfl dX12_voyage_85 (fun hv52 h51 => ?_)
              refine GO.iload_n dX12_voyage_88 rfl rfl ?_
              refine GO.iconst dX12_voyage_89 ?_
              refine GO.iast (t := 79) rfl rfl (by decide +kernel) h51 r_p0 (by omega) (by omega) (ir_c rfl) (by decide) (by decide) dX12_voyage_90 (fun V54 e53 => ?_)
              refine GO.aload_n dX12_voyage_91 rfl rfl ?_
              refine GO.getA (n := 10) h_x fl_RX12_232 rfl rfl rfl rfl dX12_voyage_92 (fun hv56 h55 => ?_)
              refine GO.iload_n dX12_voyage_95 rfl rfl ?_
              refine GO.iload_n dX12_voyage_96 rfl rfl ?_
              have q58 : -2147483648 ≤ p1 ∧ p1 ≤ 2147483647 := r_p1
              refine GO.iast (t := 80) rfl rfl (by decide +kernel) h55 r_p0 (by omega) (by omega) r_p1 (by omega) (by omega) dX12_voyage_97 (fun V59 e57 => ?_)
              refine GO.aload_n dX12_voyage_98 rfl rfl ?_
              refine GO.getA (n := 10) h_x fl_RX12_235 rfl rfl rfl rfl dX12_voyage_99 (fun hv61 h60 => ?_)
              refine GO.iload_n dX12_voyage_102 rfl rfl ?_
              refine GO.iload_n dX12_voyage_103 rfl rfl ?_
              refine GO.iast (t := 81) rfl rfl (by decide +kernel) h60 r_p0 (by omega) (by omega) r_p2 (by omega) (by omega) dX12_voyage_104 (fun V63 e62 => ?_)
              refine GO.aload_n dX12_voyage_105 rfl rfl ?_
              refine GO.getA (n := 10) h_x fl_RX12_238 rfl rfl rfl rfl dX12_voyage_106 (fun hv65 h64 => ?_)
              refine GO.iload_n dX12_voyage_109 rfl rfl ?_
              refine GO.aload_n dX12_voyage_110 rfl rfl ?_
              refine GO.getA (n := 4) h_x fl_RX12_244 rfl rfl rfl rfl dX12_voyage_111 (fun hv67 h66 => ?_)
              refine GO.iload_n dX12_voyage_114 rfl rfl ?_
              refine GO.iald (t := 84) rfl rfl h66 r_p1 (by omega) (by omega) dX12_voyage_115 (fun _ _ => ?_)
              refine GO.iast (t := 82) rfl rfl (by decide +kernel) h64 r_p0 (by omega) (by omega) vi_ir (vi_ir).1 (vi_ir).2 dX12_voyage_116 (fun V75 e74 => ?_)
              refine GO.aload_n dX12_voyage_117 rfl rfl ?_
              refine GO.getA (n := 10) h_x fl_RX12_226 rfl rfl rfl rfl dX12_voyage_118 (fun hv77 h76 => ?_)
              refine GO.iload_n dX12_voyage_121 rfl rfl ?_
              refine GO.aload_n dX12_voyage_122 rfl rfl ?_
              refine GO.getI h_x fl_RX12_396 rfl rfl dX12_voyage_123 (fun l78 u79 => ?_)
              refine GO.aload_n dX12_voyage_126 rfl rfl ?_
              refine GO.getRaw h_x fl_RX12_244 (Eq.trans (uq_ne e74 (Or.inl (K_ne h_x h64 (by decide)))) hv67) dX12_voyage_127 ?_
              refine GO.iload_n dX12_voyage_130 rfl rfl ?_
              refine GO.iald (t := 84) rfl rfl h66 r_p1 (by omega) (by omega) dX12_voyage_131 (fun _ _ => ?_)
              have e89 : vi V75 (vq V63 x 106) (p1).toNat = vi V63 (vq V63 x 106) (p1).toNat := vi_up e74 (Or.inl (K_ne h66 h64 (by decide)))
              refine GO.iadd dX12_voyage_132 ?_
              refine GO.norm (fun z90 r91 hn92 => ?_)
              refine GO.iast (t := 78) rfl rfl (by decide +kernel) h76 r_p0 (by omega) (by omega) r91 (r91).1 (r91).2 dX12_voyage_133 (fun V94 e93 => ?_)
              refine GO.aload_n dX12_voyage_134 rfl rfl ?_
              refine GO.aload_n dX12_voyage_135 rfl rfl ?_
              refine GO.getL h_x fl_RX12_429 rfl rfl dX12_voyage_136 ?_
              refine GO.anyL (fun z95 => ?_)
              refine GO.iload dX12_voyage_139 rfl ?_
              refine GO.i2l dX12_voyage_141 ?_
              refine GO.anyL (fun z96 => ?_)
              refine GO.ladd dX12_voyage_142 ?_
              refine GO.anyL (fun z97 => ?_)
              refine GO.putL h_x fp_RX12_429 rfl (by decide +kernel) dX12_voyage_143 (fun V99 e98 => ?_)
              refine GO.iconst dX12_voyage_146 ?_
              exact GO.retz rfl rfl dX12_voyage_147 (Or.inr rfl) ⟨rfl, _, rfl, (ir_c rfl), ⟨Or.inr rfl, fun _ => trivial, fun _ => trivial⟩⟩
            ·
              have q100 := h36.2.2.1 (by omega)
              refine GO.iconst dX12_voyage_60 ?_
              exact GO.retz rfl rfl dX12_voyage_61 (Or.inl rfl) ⟨rfl, _, rfl, (ir_c rfl), ⟨Or.inl rfl, fun _ => trivial, fun _ => trivial⟩⟩

set_option maxHeartbeats 1000000 in
theorem t_X12_turnsBack {K : Kmap} {V : Vmap} {x : Nat} {p0 : Int} (h_x : K x = some (0, 11)) (r_p0 : ir p0) (q_0 : p0 ≥ 0) (q_1 : p0 ≤ 9) : MC mX12_turnsBack K V [.ref x, ti p0] (VS K (fun V1 => (True))) := by
  refine MC.start 0 (by decide +kernel) rfl rfl rfl (ls0 := [some (.ref x), some (ti p0)]) rfl ?_
  refine GO.aload_n dX12_turnsBack_0 rfl rfl ?_
  refine GO.getA (n := 10) h_x fl_RX12_217 rfl rfl rfl rfl dX12_turnsBack_1 (fun hv2 h1 => ?_)
  refine GO.iload_n dX12_turnsBack_4 rfl rfl ?_
  refine GO.iconst dX12_turnsBack_5 ?_
  have q3 : -2147483648 ≤ p0 ∧ p0 ≤ 2147483647 := r_p0
  refine GO.iast (t := 75) rfl rfl (by decide +kernel) h1 r_p0 (by omega) (by omega) (ir_c rfl) (by decide) (by decide) dX12_turnsBack_6 (fun V5 e4 => ?_)
  refine GO.aload_n dX12_turnsBack_7 rfl rfl ?_
  refine GO.getA (n := 10) h_x fl_RX12_226 rfl rfl rfl rfl dX12_turnsBack_8 (fun hv7 h6 => ?_)
  refine GO.iload_n dX12_turnsBack_11 rfl rfl ?_
  refine GO.aload_n dX12_turnsBack_12 rfl rfl ?_
  refine GO.getI h_x fl_RX12_396 rfl rfl dX12_turnsBack_13 (fun l8 u9 => ?_)
  refine GO.aload_n dX12_turnsBack_16 rfl rfl ?_
  refine GO.getA (n := 10) h_x fl_RX12_238 rfl rfl rfl rfl dX12_turnsBack_17 (fun hv12 h11 => ?_)
  refine GO.iload_n dX12_turnsBack_20 rfl rfl ?_
  refine GO.iald (t := 82) rfl rfl h11 r_p0 (by omega) (by omega) dX12_turnsBack_21 (fun _ _ => ?_)
  refine GO.iadd dX12_turnsBack_22 ?_
  refine GO.norm (fun z14 r15 hn16 => ?_)
  refine GO.iast (t := 78) rfl rfl (by decide +kernel) h6 r_p0 (by omega) (by omega) r15 (r15).1 (r15).2 dX12_turnsBack_23 (fun V18 e17 => ?_)
  exact GO.retv rfl rfl dX12_turnsBack_24 ⟨rfl, rfl, trivial⟩

set_option maxHeartbeats 1000000 in
theorem t_X12_arrives {K : Kmap} {V : Vmap} {x : Nat} {p0 : Int} (h_x : K x = some (0, 11)) (r_p0 : ir p0) (q_0 : p0 ≥ 0) (q_1 : p0 ≤ 9) : MC mX12_arrives K V [.ref x, ti p0] (VS K (fun V1 => (True))) := by
  refine MC.start 4 (by decide +kernel) rfl rfl rfl (ls0 := [some (.ref x), some (ti p0), none, none, none, none]) rfl ?_
  refine GO.aload_n dX12_arrives_0 rfl rfl ?_
  refine GO.getA (n := 10) h_x fl_RX12_235 rfl rfl rfl rfl dX12_arrives_1 (fun hv2 h1 => ?_)
  refine GO.iload_n dX12_arrives_4 rfl rfl ?_
  have q3 : -2147483648 ≤ p0 ∧ p0 ≤ 2147483647 := r_p0
  refine GO.iald (t := 81) rfl rfl h1 r_p0 (by omega) (by omega) dX12_arrives_5 (fun l4 u5 => ?_)
  refine GO.name (fun z6 hz7 => ?_)
  have r8 : ir z6 := hz7 ▸ vi_ir
  refine GO.istore_n (ls1 := [some (.ref x), some (ti p0), some (ti z6), none, none, none]) dX12_arrives_6 rfl rfl rfl ?_
  refine GO.aload_n dX12_arrives_7 rfl rfl ?_
  refine GO.getA (n := 60) h_x fl_RX12_80 rfl rfl rfl rfl dX12_arrives_8 (fun hv10 h9 => ?_)
  refine GO.iload_n dX12_arrives_11 rfl rfl ?_
  refine GO.zald (t := 30) rfl rfl h9 r8 (by omega) (by omega) dX12_arrives_12 (fun l11 u12 => ?_)
  refine GO.if_ne (tgt := 29) dX12_arrives_13 (by decide) vi_ir (fun c13 => ?_) (fun c13 => ?_)
  ·
    refine GO.aload_n dX12_arrives_29 rfl rfl ?_
    refine GO.iload_n dX12_arrives_30 rfl rfl ?_
    refine GO.callV (ci := 11) (N := mX12_turnsBack) dX12_arrives_31 (RX12, TX12, 151) rfl gV_RX12_624 h_x (t_X12_turnsBack h_x r_p0 (by omega) (by omega)) rfl [] rfl rfl (Nat.le_of_ble_eq_true rfl) rfl (k_vs fun V16 h15 hF14 => ?_)
    exact GO.retv rfl rfl dX12_arrives_34 ⟨rfl, rfl, trivial⟩
  ·
    refine GO.aload_n dX12_arrives_16 rfl rfl ?_
    refine GO.aload_n dX12_arrives_17 rfl rfl ?_
    refine GO.getA (n := 60) h_x fl_RX12_41 rfl rfl rfl rfl dX12_arrives_18 (fun hv18 h17 => ?_)
    refine GO.iload_n dX12_arrives_21 rfl rfl ?_
    refine GO.iald (t := 17) rfl rfl h17 r8 (by omega) (by omega) dX12_arrives_22 (fun l19 u20 => ?_)
    refine GO.callV (ci := 11) (N := mX12_isNearSea) dX12_arrives_23 (RX12, TX12, 151) rfl gV_RX12_621 h_x (t_X12_isNearSea h_x vi_ir (by omega) (by omega)) rfl [] rfl rfl (Nat.le_of_ble_eq_true rfl) rfl (k_ip fun X21 r22 h23 => ?_)
    refine GO.if_ne (tgt := 35) dX12_arrives_26 (by decide) r22 (fun c24 => ?_) (fun c24 => ?_)
    ·
      refine GO.aload_n dX12_arrives_35 rfl rfl ?_
      refine GO.getA (n := 60) h_x fl_RX12_56 rfl rfl rfl rfl dX12_arrives_36 (fun hv26 h25 => ?_)
      refine GO.iload_n dX12_arrives_39 rfl rfl ?_
      refine GO.aload_n dX12_arrives_40 rfl rfl ?_
      refine GO.getRaw h_x fl_RX12_56 hv26 dX12_arrives_41 ?_
      refine GO.iload_n dX12_arrives_44 rfl rfl ?_
      refine GO.iald (t := 22) rfl rfl h25 r8 (by omega) (by omega) dX12_arrives_45 (fun _ _ => ?_)
      refine GO.aload_n dX12_arrives_46 rfl rfl ?_
      refine GO.getA (n := 10) h_x fl_RX12_220 rfl rfl rfl rfl dX12_arrives_47 (fun hv30 h29 => ?_)
      refine GO.iload_n dX12_arrives_50 rfl rfl ?_
      refine GO.iald (t := 76) rfl rfl h29 r_p0 (by omega) (by omega) dX12_arrives_51 (fun _ _ => ?_)
      refine GO.iadd dX12_arrives_52 ?_
      refine GO.norm (fun z31 r32 hn33 => ?_)
      refine GO.iast (t := 22) rfl rfl (by decide +kernel) h25 r8 (by omega) (by omega) r32 (r32).1 (r32).2 dX12_arrives_53 (fun V35 e34 => ?_)
      refine GO.aload_n dX12_arrives_54 rfl rfl ?_
      refine GO.getRaw h_x fl_RX12_220 (Eq.trans (uq_ne e34 (Or.inl (K_ne h_x h25 (by decide)))) hv30) dX12_arrives_55 ?_
      refine GO.iload_n dX12_arrives_58 rfl rfl ?_
      refine GO.iconst dX12_arrives_59 ?_
      refine GO.iast (t := 76) rfl rfl (by decide +kernel) h29 r_p0 (by omega) (by omega) (ir_c rfl) (by decide) (by decide) dX12_arrives_60 (fun V39 e38 => ?_)
      refine GO.iconst dX12_arrives_61 ?_
      refine GO.istore_n (ls1 := [some (.ref x), some (ti p0), some (ti z6), some (ti 3), none, none]) dX12_arrives_62 rfl rfl rfl ?_
      refine GO.loop1 (fun i40 W => (-1) ≤ i40 ∧ i40 ≤ 3 ∧ True) (fun i40 => [some (.ref x), some (ti p0), some (ti z6), some (ti i40), none, none]) (fun i40 W => (i40 + 2147483648).toNat) 3 ⟨by omega, by omega, trivial⟩ rfl (fun i40 Wi40 hp265 ih264 => ?_)
      obtain ⟨l_i40, u_i40, -⟩ := hp265
      have r_i40 : ir i40 := ⟨by omega, by omega⟩
      show GO mX12_arrives K V (VS K (fun V1 => (True))) K Wi40 0 0 63 [some (.ref x), some (ti p0), some (ti z6), some (ti i40), none, none] []
      refine GO.iload_n dX12_arrives_63 rfl rfl ?_
      refine GO.if_lt (tgt := 158) dX12_arrives_64 (by decide) r_i40 (fun c266 => ?_) (fun c266 => ?_)
      ·
        refine GO.aload_n dX12_arrives_158 rfl rfl ?_
        refine GO.iload_n dX12_arrives_159 rfl rfl ?_
        refine GO.callV (ci := 11) (N := mX12_turnsBack) dX12_arrives_160 (RX12, TX12, 151) rfl gV_RX12_624 h_x (t_X12_turnsBack h_x r_p0 (by omega) (by omega)) rfl [] rfl rfl (Nat.le_of_ble_eq_true rfl) rfl (k_vs fun V269 h268 hF267 => ?_)
        exact GO.retv rfl rfl dX12_arrives_163 ⟨rfl, rfl, trivial⟩
      ·
        refine GO.aload_n dX12_arrives_67 rfl rfl ?_
        refine GO.getA (n := 10) h_x fl_RX12_211 rfl rfl rfl rfl dX12_arrives_68 (fun hv271 h270 => ?_)
        refine GO.iload_n dX12_arrives_71 rfl rfl ?_
        refine GO.iald (t := 73) rfl rfl h270 r_p0 (by omega) (by omega) dX12_arrives_72 (fun _ _ => ?_)
        refine GO.aload_n dX12_arrives_73 rfl rfl ?_
        refine GO.getA (n := 10) h_x fl_RX12_223 rfl rfl rfl rfl dX12_arrives_74 (fun hv273 h272 => ?_)
        refine GO.iload_n dX12_arrives_77 rfl rfl ?_
        refine GO.iald (t := 77) rfl rfl h272 r_p0 (by omega) (by omega) dX12_arrives_78 (fun _ _ => ?_)
        refine GO.isub dX12_arrives_79 ?_
        refine GO.norm (fun z274 r275 hn276 => ?_)
        refine GO.istore (ls1 := [some (.ref x), some (ti p0), some (ti z6), some (ti i40), some (ti z274), none]) dX12_arrives_80 rfl rfl ?_
        refine GO.aload_n dX12_arrives_82 rfl rfl ?_
        refine GO.getA (n := 240) h_x fl_RX12_65 rfl rfl rfl rfl dX12_arrives_83 (fun hv278 h277 => ?_)
        refine GO.iconst dX12_arrives_86 ?_
        refine GO.iload_n dX12_arrives_87 rfl rfl ?_
        refine GO.imul dX12_arrives_88 ?_
        refine GO.iload_n dX12_arrives_89 rfl rfl ?_
        refine GO.iadd dX12_arrives_90 ?_
        refine GO.iald (t := 25) rfl rfl h277 ⟨by omega, by omega⟩ (by omega) (by omega) dX12_arrives_91 (fun _ _ => ?_)
        refine GO.iload dX12_arrives_92 rfl ?_
        have hj283 : ∀ (z282 : Int), ∀ (l284 : (-2147483648) ≤ z282), ∀ (u285 : z282 ≤ 2147483647), GO mX12_arrives K V (VS K (fun V1 => (True))) K Wi40 0 0 112 [some (.ref x), some (ti p0), some (ti z6), some (ti i40), some (ti z274), none] [ti z282] := by
          intro z282 l284 u285
          have r286 : ir z282 := ⟨by omega, by omega⟩
          refine GO.istore (ls1 := [some (.ref x), some (ti p0), some (ti z6), some (ti i40), some (ti z274), some (ti z282)]) dX12_arrives_112 rfl rfl ?_
          refine GO.aload_n dX12_arrives_114 rfl rfl ?_
          refine GO.getRaw h_x fl_RX12_65 hv278 dX12_arrives_115 ?_
          refine GO.iconst dX12_arrives_118 ?_
          refine GO.iload_n dX12_arrives_119 rfl rfl ?_
          refine GO.imul dX12_arrives_120 ?_
          refine GO.iload_n dX12_arrives_121 rfl rfl ?_
          refine GO.iadd dX12_arrives_122 ?_
          refine GO.aload_n dX12_arrives_123 rfl rfl ?_
          refine GO.getRaw h_x fl_RX12_65 hv278 dX12_arrives_124 ?_
          refine GO.iconst dX12_arrives_127 ?_
          refine GO.iload_n dX12_arrives_128 rfl rfl ?_
          refine GO.imul dX12_arrives_129 ?_
          refine GO.iload_n dX12_arrives_130 rfl rfl ?_
          refine GO.iadd dX12_arrives_131 ?_
          refine GO.iald (t := 25) rfl rfl h277 ⟨by omega, by omega⟩ (by omega) (by omega) dX12_arrives_132 (fun _ _ => ?_)
          refine GO.iload dX12_arrives_133 rfl ?_
          refine GO.isub dX12_arrives_135 ?_
          refine GO.norm (fun z291 r292 hn293 => ?_)
          refine GO.iast (t := 25) rfl rfl (by decide +kernel) h277 ⟨by omega, by omega⟩ (by omega) (by omega) r292 (r292).1 (r292).2 dX12_arrives_136 (fun V295 e294 => ?_)
          refine GO.aload_n dX12_arrives_137 rfl rfl ?_
          refine GO.getRaw h_x fl_RX12_223 (Eq.trans (uq_ne e294 (Or.inl (K_ne h_x h277 (by decide)))) hv273) dX12_arrives_138 ?_
          refine GO.iload_n dX12_arrives_141 rfl rfl ?_
          refine GO.aload_n dX12_arrives_142 rfl rfl ?_
          refine GO.getRaw h_x fl_RX12_223 (Eq.trans (uq_ne e294 (Or.inl (K_ne h_x h277 (by decide)))) hv273) dX12_arrives_143 ?_
          refine GO.iload_n dX12_arrives_146 rfl rfl ?_
          refine GO.iald (t := 77) rfl rfl h272 r_p0 (by omega) (by omega) dX12_arrives_147 (fun _ _ => ?_)
          have e300 : vi V295 (vq Wi40 x 99) (p0).toNat = vi Wi40 (vq Wi40 x 99) (p0).toNat := vi_up e294 (Or.inl (K_ne h272 h277 (by decide)))
          refine GO.iload dX12_arrives_148 rfl ?_
          refine GO.iadd dX12_arrives_150 ?_
          refine GO.norm (fun z301 r302 hn303 => ?_)
          refine GO.iast (t := 77) rfl rfl (by decide +kernel) h272 r_p0 (by omega) (by omega) r302 (r302).1 (r302).2 dX12_arrives_151 (fun V305 e304 => ?_)
          refine GO.iinc (X := i40) (n := (-1)) (Y := i40 + (-1)) (ls1 := [some (.ref x), some (ti p0), some (ti z6), some (ti (i40 + (-1))), some (ti z274), some (ti z282)]) dX12_arrives_152 rfl rfl rfl rfl ?_
          refine GO.goto (tgt := 63) dX12_arrives_155 (by decide) ?_
          refine GO.drop [true, true, true, true, false, false] rfl ?_
          exact ih264 (i40 + (-1)) V305 ⟨by omega, by omega, trivial⟩ (by show ((i40 + (-1)) + 2147483648).toNat < (i40 + 2147483648).toNat; omega)
        refine GO.icmp_ge (tgt := 110) dX12_arrives_94 (by decide) vi_ir r275 (fun c306 => ?_) (fun c306 => ?_)
        ·
          refine GO.iload dX12_arrives_110 rfl ?_
          have q307 : -2147483648 ≤ z274 ∧ z274 ≤ 2147483647 := r275
          have q308 : -2147483648 ≤ vi Wi40 (vq Wi40 x 23) ((4 * z6) + i40).toNat ∧ vi Wi40 (vq Wi40 x 23) ((4 * z6) + i40).toNat ≤ 2147483647 := vi_ir
          exact hj283 z274 (by omega) (by omega)
        ·
          refine GO.aload_n dX12_arrives_97 rfl rfl ?_
          refine GO.getRaw h_x fl_RX12_65 hv278 dX12_arrives_98 ?_
          refine GO.iconst dX12_arrives_101 ?_
          refine GO.iload_n dX12_arrives_102 rfl rfl ?_
          refine GO.imul dX12_arrives_103 ?_
          refine GO.iload_n dX12_arrives_104 rfl rfl ?_
          refine GO.iadd dX12_arrives_105 ?_
          refine GO.iald (t := 25) rfl rfl h277 ⟨by omega, by omega⟩ (by omega) (by omega) dX12_arrives_106 (fun _ _ => ?_)
          refine GO.goto (tgt := 112) dX12_arrives_107 (by decide) ?_
          have q311 : -2147483648 ≤ vi Wi40 (vq Wi40 x 23) ((4 * z6) + i40).toNat ∧ vi Wi40 (vq Wi40 x 23) ((4 * z6) + i40).toNat ≤ 2147483647 := vi_ir
          have q312 : -2147483648 ≤ z274 ∧ z274 ≤ 2147483647 := r275
          exact hj283 (vi Wi40 (vq Wi40 x 23) ((4 * z6) + i40).toNat) (by omega) (by omega)
    ·
      refine GO.aload_n dX12_arrives_29 rfl rfl ?_
      refine GO.iload_n dX12_arrives_30 rfl rfl ?_
      refine GO.callV (ci := 11) (N := mX12_turnsBack) dX12_arrives_31 (RX12, TX12, 151) rfl gV_RX12_624 h_x (t_X12_turnsBack h_x r_p0 (by omega) (by omega)) rfl [] rfl rfl (Nat.le_of_ble_eq_true rfl) rfl (k_vs fun V315 h314 hF313 => ?_)
      exact GO.retv rfl rfl dX12_arrives_34 ⟨rfl, rfl, trivial⟩

set_option maxHeartbeats 1000000 in
theorem t_X12_waits {K : Kmap} {V : Vmap} {x : Nat} {p0 : Int} (h_x : K x = some (0, 11)) (r_p0 : ir p0) (q_0 : p0 ≥ 0) (q_1 : p0 ≤ 9) : MC mX12_waits K V [.ref x, ti p0] (VS K (fun V1 => (True))) := by
  refine MC.start 0 (by decide +kernel) rfl rfl rfl (ls0 := [some (.ref x), some (ti p0)]) rfl ?_
  refine GO.aload_n dX12_waits_0 rfl rfl ?_
  refine GO.getA (n := 48) h_x fl_RX12_241 rfl rfl rfl rfl dX12_waits_1 (fun hv2 h1 => ?_)
  refine GO.bipush dX12_waits_4 rfl ?_
  refine GO.aload_n dX12_waits_6 rfl rfl ?_
  refine GO.getA (n := 10) h_x fl_RX12_232 rfl rfl rfl rfl dX12_waits_7 (fun hv4 h3 => ?_)
  refine GO.iload_n dX12_waits_10 rfl rfl ?_
  have q5 : -2147483648 ≤ p0 ∧ p0 ≤ 2147483647 := r_p0
  refine GO.iald (t := 80) rfl rfl h3 r_p0 (by omega) (by omega) dX12_waits_11 (fun l6 u7 => ?_)
  refine GO.imul dX12_waits_12 ?_
  refine GO.aload_n dX12_waits_13 rfl rfl ?_
  refine GO.getI h_x fl_RX12_396 rfl rfl dX12_waits_14 (fun l8 u9 => ?_)
  refine GO.sipush dX12_waits_17 rfl ?_
  refine GO.iremP dX12_waits_20 vi_ir (ir_c rfl) (by omega) (by omega) ?_
  refine GO.bipush dX12_waits_21 rfl ?_
  refine GO.idivP dX12_waits_23 ⟨by omega, by omega⟩ (ir_c rfl) (by omega) (by omega) ?_
  refine GO.iadd dX12_waits_24 ?_
  refine GO.iald (t := 83) rfl rfl h1 ⟨by omega, by omega⟩ (by omega) (by omega) dX12_waits_25 (fun _ _ => ?_)
  refine GO.aload_n dX12_waits_26 rfl rfl ?_
  refine GO.getA (n := 10) h_x fl_RX12_214 rfl rfl rfl rfl dX12_waits_27 (fun hv11 h10 => ?_)
  refine GO.iload_n dX12_waits_30 rfl rfl ?_
  refine GO.iald (t := 74) rfl rfl h10 r_p0 (by omega) (by omega) dX12_waits_31 (fun _ _ => ?_)
  refine GO.icmp_gt (tgt := 41) dX12_waits_32 (by decide) vi_ir vi_ir (fun c12 => ?_) (fun c12 => ?_)
  ·
    refine GO.aload_n dX12_waits_41 rfl rfl ?_
    refine GO.getA (n := 10) h_x fl_RX12_229 rfl rfl rfl rfl dX12_waits_42 (fun hv14 h13 => ?_)
    refine GO.iload_n dX12_waits_45 rfl rfl ?_
    refine GO.aload_n dX12_waits_46 rfl rfl ?_
    refine GO.getRaw h_x fl_RX12_229 hv14 dX12_waits_47 ?_
    refine GO.iload_n dX12_waits_50 rfl rfl ?_
    refine GO.iald (t := 79) rfl rfl h13 r_p0 (by omega) (by omega) dX12_waits_51 (fun _ _ => ?_)
    refine GO.iconst dX12_waits_52 ?_
    refine GO.iadd dX12_waits_53 ?_
    refine GO.norm (fun z17 r18 hn19 => ?_)
    refine GO.iast (t := 79) rfl rfl (by decide +kernel) h13 r_p0 (by omega) (by omega) r18 (r18).1 (r18).2 dX12_waits_54 (fun V21 e20 => ?_)
    refine GO.aload_n dX12_waits_55 rfl rfl ?_
    refine GO.getRaw h_x fl_RX12_229 (Eq.trans (uq_ne e20 (Or.inl (K_ne h_x h13 (by decide)))) hv14) dX12_waits_56 ?_
    refine GO.iload_n dX12_waits_59 rfl rfl ?_
    refine GO.iald (t := 79) rfl rfl h13 r_p0 (by omega) (by omega) dX12_waits_60 (fun _ _ => ?_)
    refine GO.bipush dX12_waits_61 rfl ?_
    refine GO.icmp_ne (tgt := 71) dX12_waits_63 (by decide) vi_ir (ir_c rfl) (fun c25 => ?_) (fun c25 => ?_)
    ·
      exact GO.retv rfl rfl dX12_waits_71 ⟨rfl, rfl, trivial⟩
    ·
      refine GO.aload_n dX12_waits_66 rfl rfl ?_
      refine GO.iload_n dX12_waits_67 rfl rfl ?_
      refine GO.callV (ci := 11) (N := mX12_turnsBack) dX12_waits_68 (RX12, TX12, 151) rfl gV_RX12_624 h_x (t_X12_turnsBack h_x r_p0 (by omega) (by omega)) rfl [] rfl rfl (Nat.le_of_ble_eq_true rfl) rfl (k_vs fun V28 h27 hF26 => ?_)
      exact GO.retv rfl rfl dX12_waits_71 ⟨rfl, rfl, trivial⟩
  ·
    refine GO.aload_n dX12_waits_35 rfl rfl ?_
    refine GO.iload_n dX12_waits_36 rfl rfl ?_
    refine GO.callV (ci := 11) (N := mX12_arrives) dX12_waits_37 (RX12, TX12, 151) rfl gV_RX12_627 h_x (t_X12_arrives h_x r_p0 (by omega) (by omega)) rfl [] rfl rfl (Nat.le_of_ble_eq_true rfl) rfl (k_vs fun V31 h30 hF29 => ?_)
    exact GO.retv rfl rfl dX12_waits_40 ⟨rfl, rfl, trivial⟩

set_option maxHeartbeats 1000000 in
theorem t_X12_shipGoes {K : Kmap} {V : Vmap} {x : Nat} {p0 : Int} (h_x : K x = some (0, 11)) (r_p0 : ir p0) (q_0 : p0 ≥ 0) (q_1 : p0 ≤ 9) : MC mX12_shipGoes K V [.ref x, ti p0] (VS K (fun V1 => (True))) := by
  refine MC.start 0 (by decide +kernel) rfl rfl rfl (ls0 := [some (.ref x), some (ti p0)]) rfl ?_
  refine GO.aload_n dX12_shipGoes_0 rfl rfl ?_
  refine GO.getA (n := 10) h_x fl_RX12_217 rfl rfl rfl rfl dX12_shipGoes_1 (fun hv2 h1 => ?_)
  refine GO.iload_n dX12_shipGoes_4 rfl rfl ?_
  have q3 : -2147483648 ≤ p0 ∧ p0 ≤ 2147483647 := r_p0
  refine GO.iald (t := 75) rfl rfl h1 r_p0 (by omega) (by omega) dX12_shipGoes_5 (fun _ _ => ?_)
  refine GO.iconst dX12_shipGoes_6 ?_
  have hj18 : ∀ (V19 : Vmap), GO mX12_shipGoes K V (VS K (fun V1 => (True))) K V19 0 0 37 [some (.ref x), some (ti p0)] [] := by
    intro V19
    refine GO.aload_n dX12_shipGoes_37 rfl rfl ?_
    refine GO.getA (n := 10) h_x fl_RX12_217 rfl rfl rfl rfl dX12_shipGoes_38 (fun hv21 h20 => ?_)
    refine GO.iload_n dX12_shipGoes_41 rfl rfl ?_
    refine GO.iald (t := 75) rfl rfl h20 r_p0 (by omega) (by omega) dX12_shipGoes_42 (fun _ _ => ?_)
    refine GO.iconst dX12_shipGoes_43 ?_
    refine GO.icmp_ne (tgt := 53) dX12_shipGoes_44 (by decide) vi_ir (ir_c rfl) (fun c22 => ?_) (fun c22 => ?_)
    ·
      refine GO.aload_n dX12_shipGoes_53 rfl rfl ?_
      refine GO.getRaw h_x fl_RX12_217 hv21 dX12_shipGoes_54 ?_
      refine GO.iload_n dX12_shipGoes_57 rfl rfl ?_
      refine GO.iald (t := 75) rfl rfl h20 r_p0 (by omega) (by omega) dX12_shipGoes_58 (fun _ _ => ?_)
      refine GO.iconst dX12_shipGoes_59 ?_
      refine GO.icmp_ne (tgt := 76) dX12_shipGoes_60 (by decide) vi_ir (ir_c rfl) (fun c25 => ?_) (fun c25 => ?_)
      ·
        exact GO.retv rfl rfl dX12_shipGoes_76 ⟨rfl, rfl, trivial⟩
      ·
        refine GO.aload_n dX12_shipGoes_63 rfl rfl ?_
        refine GO.getI h_x fl_RX12_396 rfl rfl dX12_shipGoes_64 (fun l26 u27 => ?_)
        refine GO.aload_n dX12_shipGoes_67 rfl rfl ?_
        refine GO.getA (n := 10) h_x fl_RX12_226 rfl rfl rfl rfl dX12_shipGoes_68 (fun hv29 h28 => ?_)
        refine GO.iload_n dX12_shipGoes_71 rfl rfl ?_
        refine GO.iald (t := 78) rfl rfl h28 r_p0 (by omega) (by omega) dX12_shipGoes_72 (fun _ _ => ?_)
        refine GO.icmp_ge (tgt := 77) dX12_shipGoes_73 (by decide) vi_ir vi_ir (fun c30 => ?_) (fun c30 => ?_)
        ·
          refine GO.aload_n dX12_shipGoes_77 rfl rfl ?_
          refine GO.aload_n dX12_shipGoes_78 rfl rfl ?_
          refine GO.getL h_x fl_RX12_632 rfl rfl dX12_shipGoes_79 ?_
          refine GO.anyL (fun z31 => ?_)
          refine GO.aload_n dX12_shipGoes_82 rfl rfl ?_
          refine GO.getA (n := 10) h_x fl_RX12_220 rfl rfl rfl rfl dX12_shipGoes_83 (fun hv33 h32 => ?_)
          refine GO.iload_n dX12_shipGoes_86 rfl rfl ?_
          refine GO.iald (t := 76) rfl rfl h32 r_p0 (by omega) (by omega) dX12_shipGoes_87 (fun _ _ => ?_)
          refine GO.i2l dX12_shipGoes_88 ?_
          refine GO.anyL (fun z34 => ?_)
          refine GO.ladd dX12_shipGoes_89 ?_
          refine GO.anyL (fun z35 => ?_)
          refine GO.putL h_x fp_RX12_632 rfl (by decide +kernel) dX12_shipGoes_90 (fun V37 e36 => ?_)
          refine GO.aload_n dX12_shipGoes_93 rfl rfl ?_
          refine GO.aload_n dX12_shipGoes_94 rfl rfl ?_
          refine GO.getL h_x fl_RX12_635 rfl rfl dX12_shipGoes_95 ?_
          refine GO.anyL (fun z38 => ?_)
          refine GO.aload_n dX12_shipGoes_98 rfl rfl ?_
          refine GO.getA (n := 10) h_x fl_RX12_223 rfl rfl rfl rfl dX12_shipGoes_99 (fun hv40 h39 => ?_)
          refine GO.iload_n dX12_shipGoes_102 rfl rfl ?_
          refine GO.iald (t := 77) rfl rfl h39 r_p0 (by omega) (by omega) dX12_shipGoes_103 (fun _ _ => ?_)
          refine GO.i2l dX12_shipGoes_104 ?_
          refine GO.anyL (fun z42 => ?_)
          refine GO.ladd dX12_shipGoes_105 ?_
          refine GO.anyL (fun z43 => ?_)
          refine GO.putL h_x fp_RX12_635 rfl (by decide +kernel) dX12_shipGoes_106 (fun V45 e44 => ?_)
          refine GO.aload_n dX12_shipGoes_109 rfl rfl ?_
          refine GO.getRaw h_x fl_RX12_220 (Eq.trans (uq_ne e44 (Or.inr (by decide))) (Eq.trans (uq_ne e36 (Or.inr (by decide))) hv33)) dX12_shipGoes_110 ?_
          refine GO.iload_n dX12_shipGoes_113 rfl rfl ?_
          refine GO.iconst dX12_shipGoes_114 ?_
          refine GO.iast (t := 76) rfl rfl (by decide +kernel) h32 r_p0 (by omega) (by omega) (ir_c rfl) (by decide) (by decide) dX12_shipGoes_115 (fun V49 e48 => ?_)
          refine GO.aload_n dX12_shipGoes_116 rfl rfl ?_
          refine GO.getRaw h_x fl_RX12_223 (Eq.trans (uq_ne e48 (Or.inl (K_ne h_x h32 (by decide)))) (Eq.trans (uq_ne e44 (Or.inr (by decide))) hv40)) dX12_shipGoes_117 ?_
          refine GO.iload_n dX12_shipGoes_120 rfl rfl ?_
          refine GO.iconst dX12_shipGoes_121 ?_
          refine GO.iast (t := 77) rfl rfl (by decide +kernel) h39 r_p0 (by omega) (by omega) (ir_c rfl) (by decide) (by decide) dX12_shipGoes_122 (fun V53 e52 => ?_)
          refine GO.aload_n dX12_shipGoes_123 rfl rfl ?_
          refine GO.getRaw h_x fl_RX12_217 (Eq.trans (uq_ne e52 (Or.inl (K_ne h_x h39 (by decide)))) (Eq.trans (uq_ne e48 (Or.inl (K_ne h_x h32 (by decide)))) (Eq.trans (uq_ne e44 (Or.inr (by decide))) (Eq.trans (uq_ne e36 (Or.inr (by decide))) hv21)))) dX12_shipGoes_124 ?_
          refine GO.iload_n dX12_shipGoes_127 rfl rfl ?_
          refine GO.iconst dX12_shipGoes_128 ?_
          refine GO.iast (t := 75) rfl rfl (by decide +kernel) h20 r_p0 (by omega) (by omega) (ir_c rfl) (by decide) (by decide) dX12_shipGoes_129 (fun V57 e56 => ?_)
          refine GO.aload_n dX12_shipGoes_130 rfl rfl ?_
          refine GO.getRaw h_x fl_RX12_226 (Eq.trans (uq_ne e56 (Or.inl (K_ne h_x h20 (by decide)))) (Eq.trans (uq_ne e52 (Or.inl (K_ne h_x h39 (by decide)))) (Eq.trans (uq_ne e48 (Or.inl (K_ne h_x h32 (by decide)))) (Eq.trans (uq_ne e44 (Or.inr (by decide))) (Eq.trans (uq_ne e36 (Or.inr (by decide))) hv29))))) dX12_shipGoes_131 ?_
          refine GO.iload_n dX12_shipGoes_134 rfl rfl ?_
          refine GO.iconst dX12_shipGoes_135 ?_
          refine GO.iast (t := 78) rfl rfl (by decide +kernel) h28 r_p0 (by omega) (by omega) (ir_c rfl) (by decide) (by decide) dX12_shipGoes_136 (fun V61 e60 => ?_)
          exact GO.retv rfl rfl dX12_shipGoes_137 ⟨rfl, rfl, trivial⟩
        ·
          exact GO.retv rfl rfl dX12_shipGoes_76 ⟨rfl, rfl, trivial⟩
    ·
      refine GO.aload_n dX12_shipGoes_47 rfl rfl ?_
      refine GO.iload_n dX12_shipGoes_48 rfl rfl ?_
      refine GO.callV (ci := 11) (N := mX12_waits) dX12_shipGoes_49 (RX12, TX12, 151) rfl gV_RX12_630 h_x (t_X12_waits h_x r_p0 (by omega) (by omega)) rfl [] rfl rfl (Nat.le_of_ble_eq_true rfl) rfl (k_vs fun V64 h63 hF62 => ?_)
      exact GO.retv rfl rfl dX12_shipGoes_52 ⟨rfl, rfl, trivial⟩
  refine GO.icmp_ne (tgt := 37) dX12_shipGoes_7 (by decide) vi_ir (ir_c rfl) (fun c65 => ?_) (fun c65 => ?_)
  ·
    exact hj18  V
  ·
    refine GO.aload_n dX12_shipGoes_10 rfl rfl ?_
    refine GO.getI h_x fl_RX12_396 rfl rfl dX12_shipGoes_11 (fun l66 u67 => ?_)
    refine GO.aload_n dX12_shipGoes_14 rfl rfl ?_
    refine GO.getA (n := 10) h_x fl_RX12_226 rfl rfl rfl rfl dX12_shipGoes_15 (fun hv69 h68 => ?_)
    refine GO.iload_n dX12_shipGoes_18 rfl rfl ?_
    refine GO.iald (t := 78) rfl rfl h68 r_p0 (by omega) (by omega) dX12_shipGoes_19 (fun _ _ => ?_)
    refine GO.icmp_lt (tgt := 37) dX12_shipGoes_20 (by decide) vi_ir vi_ir (fun c70 => ?_) (fun c70 => ?_)
    ·
      exact hj18  V
    ·
      refine GO.aload_n dX12_shipGoes_23 rfl rfl ?_
      refine GO.getRaw h_x fl_RX12_217 hv2 dX12_shipGoes_24 ?_
      refine GO.iload_n dX12_shipGoes_27 rfl rfl ?_
      refine GO.iconst dX12_shipGoes_28 ?_
      refine GO.iast (t := 75) rfl rfl (by decide +kernel) h1 r_p0 (by omega) (by omega) (ir_c rfl) (by decide) (by decide) dX12_shipGoes_29 (fun V74 e73 => ?_)
      refine GO.aload_n dX12_shipGoes_30 rfl rfl ?_
      refine GO.getRaw h_x fl_RX12_226 (Eq.trans (uq_ne e73 (Or.inl (K_ne h_x h1 (by decide)))) hv69) dX12_shipGoes_31 ?_
      refine GO.iload_n dX12_shipGoes_34 rfl rfl ?_
      refine GO.iconst dX12_shipGoes_35 ?_
      refine GO.iast (t := 78) rfl rfl (by decide +kernel) h68 r_p0 (by omega) (by omega) (ir_c rfl) (by decide) (by decide) dX12_shipGoes_36 (fun V78 e77 => ?_)
      exact hj18  V78

set_option maxHeartbeats 1000000 in
theorem t_X12_goesOver {K : Kmap} {V : Vmap} {x : Nat} {p0 : Int} (h_x : K x = some (0, 11)) (r_p0 : ir p0) (q_0 : p0 ≥ 0) (q_1 : p0 ≤ 143) : MC mX12_goesOver K V [.ref x, ti p0] (VS K (fun V1 => (True))) := by
  refine MC.start 5 (by decide +kernel) rfl rfl rfl (ls0 := [some (.ref x), some (ti p0), none, none, none, none, none]) rfl ?_
  refine GO.iconst dX12_goesOver_0 ?_
  refine GO.istore_n (ls1 := [some (.ref x), some (ti p0), some (ti 0), none, none, none, none]) dX12_goesOver_1 rfl rfl rfl ?_
  refine GO.loop1 (fun i1 W => 0 ≤ i1 ∧ i1 ≤ 144 ∧ True) (fun i1 => [some (.ref x), some (ti p0), some (ti i1), none, none, none, none]) (fun i1 W => (2147483647 - i1).toNat) 0 ⟨by omega, by omega, trivial⟩ rfl (fun i1 Wi1 hp17455 ih17454 => ?_)
  obtain ⟨l_i1, u_i1, -⟩ := hp17455
  have r_i1 : ir i1 := ⟨by omega, by omega⟩
  show GO mX12_goesOver K V (VS K (fun V1 => (True))) K Wi1 0 0 2 [some (.ref x), some (ti p0), some (ti i1), none, none, none, none] []
  refine GO.iload_n dX12_goesOver_2 rfl rfl ?_
  refine GO.aload_n dX12_goesOver_3 rfl rfl ?_
  refine GO.getI h_x fl_RX12_365 rfl rfl dX12_goesOver_4 (fun l17456 u17457 => ?_)
  refine GO.aload_n dX12_goesOver_7 rfl rfl ?_
  refine GO.getI h_x fl_RX12_368 rfl rfl dX12_goesOver_8 (fun l17458 u17459 => ?_)
  refine GO.imul dX12_goesOver_11 ?_
  have m17460 := mul_rng (a := vi Wi1 x 0) (b := vi Wi1 x 1) (A := 12) (B := 12) (by omega) (by omega) (by omega) (by omega)
  have m17461 := mul_low (a := vi Wi1 x 0) (b := vi Wi1 x 1) (m := 4) (n := 4) (by omega) (by omega) (by omega) (by omega)
  refine GO.icmp_ge (tgt := 39) dX12_goesOver_12 (by decide) r_i1 ⟨by omega, by omega⟩ (fun c17462 => ?_) (fun c17462 => ?_)
  ·
    refine GO.iconst dX12_goesOver_39 ?_
    refine GO.istore_n (ls1 := [some (.ref x), some (ti p0), some (ti 1), none, none, none, none]) dX12_goesOver_40 rfl rfl rfl ?_
    refine GO.loop1 (fun i17463 W => 0 ≤ i17463 ∧ i17463 ≤ 1 ∧ True) (fun i17463 => [some (.ref x), some (ti p0), some (ti i17463), none, none, none, none]) (fun i17463 W => (((2 * dsum W x) + i17463)).toNat) 1 ⟨by omega, by omega, trivial⟩ rfl (fun i17463 Wi17463 hp23235 ih23234 => ?_)
    obtain ⟨l_i17463, u_i17463, -⟩ := hp23235
    have r_i17463 : ir i17463 := ⟨by omega, by omega⟩
    show GO mX12_goesOver K V (VS K (fun V1 => (True))) K Wi17463 0 0 41 [some (.ref x), some (ti p0), some (ti i17463), none, none, none, none] []
    refine GO.useWT (fun hW => ?_)
    have hds := dsum_nn hW h_x
    refine GO.iload_n dX12_goesOver_41 rfl rfl ?_
    refine GO.if_eq (tgt := 188) dX12_goesOver_42 (by decide) r_i17463 (fun c23236 => ?_) (fun c23236 => ?_)
    ·
      exact GO.retv rfl rfl dX12_goesOver_188 ⟨rfl, rfl, trivial⟩
    ·
      refine GO.iconst dX12_goesOver_45 ?_
      refine GO.istore_n (ls1 := [some (.ref x), some (ti p0), some (ti 0), none, none, none, none]) dX12_goesOver_46 rfl rfl rfl ?_
      refine GO.iconst dX12_goesOver_47 ?_
      refine GO.istore_n (ls1 := [some (.ref x), some (ti p0), some (ti 0), some (ti 0), none, none, none]) dX12_goesOver_48 rfl rfl rfl ?_
      refine GO.loop2 (fun i23237 i23238 W => 0 ≤ i23237 ∧ i23237 ≤ 1 ∧ 0 ≤ i23238 ∧ i23238 ≤ 144 ∧ (dsum W x ≤ dsum Wi17463 x ∧ (i23237 ≠ 0 → dsum W x < dsum Wi17463 x)) ∧ True) (fun i23237 i23238 => [some (.ref x), some (ti p0), some (ti i23237), some (ti i23238), none, none, none]) (fun i23237 i23238 W => (2147483647 - i23238).toNat) 0 0 ⟨by omega, by omega, by omega, by omega, by omega, trivial⟩ rfl (fun i23237 i23238 Wi23237 hp25832 ih25831 => ?_)
      obtain ⟨l_i23237, u_i23237, l_i23238, u_i23238, n_i23237, -⟩ := hp25832
      have r_i23237 : ir i23237 := ⟨by omega, by omega⟩
      have r_i23238 : ir i23238 := ⟨by omega, by omega⟩
      show GO mX12_goesOver K V (VS K (fun V1 => (True))) K Wi23237 0 0 49 [some (.ref x), some (ti p0), some (ti i23237), some (ti i23238), none, none, none] []
      refine GO.iload_n dX12_goesOver_49 rfl rfl ?_
      refine GO.aload_n dX12_goesOver_50 rfl rfl ?_
      refine GO.getI h_x fl_RX12_365 rfl rfl dX12_goesOver_51 (fun l25833 u25834 => ?_)
      refine GO.aload_n dX12_goesOver_54 rfl rfl ?_
      refine GO.getI h_x fl_RX12_368 rfl rfl dX12_goesOver_55 (fun l25835 u25836 => ?_)
      refine GO.imul dX12_goesOver_58 ?_
      have m25837 := mul_rng (a := vi Wi23237 x 0) (b := vi Wi23237 x 1) (A := 12) (B := 12) (by omega) (by omega) (by omega) (by omega)
      have m25838 := mul_low (a := vi Wi23237 x 0) (b := vi Wi23237 x 1) (m := 4) (n := 4) (by omega) (by omega) (by omega) (by omega)
      refine GO.icmp_ge (tgt := 185) dX12_goesOver_59 (by decide) r_i23238 ⟨by omega, by omega⟩ (fun c25839 => ?_) (fun c25839 => ?_)
      ·
        refine GO.goto (tgt := 41) dX12_goesOver_185 (by decide) ?_
        refine GO.drop [true, true, true, false, true, true, true] rfl ?_
        exact ih23234 i23237 Wi23237 ⟨by omega, by omega, trivial⟩ (by show (((2 * dsum Wi23237 x) + i23237)).toNat < (((2 * dsum Wi17463 x) + i17463)).toNat; omega)
      ·
        refine GO.iconst dX12_goesOver_62 ?_
        refine GO.istore (ls1 := [some (.ref x), some (ti p0), some (ti i23237), some (ti i23238), some (ti 0), none, none]) dX12_goesOver_63 rfl rfl ?_
        refine GO.loop2 (fun i25840 i25841 W => 0 ≤ i25840 ∧ i25840 ≤ 1 ∧ 0 ≤ i25841 ∧ i25841 ≤ 8 ∧ (dsum W x ≤ dsum Wi17463 x ∧ (i25840 ≠ 0 → dsum W x < dsum Wi17463 x)) ∧ True) (fun i25840 i25841 => [some (.ref x), some (ti p0), some (ti i25840), some (ti i23238), some (ti i25841), none, none]) (fun i25840 i25841 W => (2147483647 - i25841).toNat) i23237 0 ⟨by omega, by omega, by omega, by omega, by omega, trivial⟩ rfl (fun i25840 i25841 Wi25840 hp26073 ih26072 => ?_)
        obtain ⟨l_i25840, u_i25840, l_i25841, u_i25841, n_i25840, -⟩ := hp26073
        have r_i25840 : ir i25840 := ⟨by omega, by omega⟩
        have r_i25841 : ir i25841 := ⟨by omega, by omega⟩
        show GO mX12_goesOver K V (VS K (fun V1 => (True))) K Wi25840 0 0 65 [some (.ref x), some (ti p0), some (ti i25840), some (ti i23238), some (ti i25841), none, none] []
        refine GO.iload dX12_goesOver_65 rfl ?_
        refine GO.bipush dX12_goesOver_67 rfl ?_
        refine GO.icmp_ge (tgt := 179) dX12_goesOver_69 (by decide) r_i25841 (ir_c rfl) (fun c26074 => ?_) (fun c26074 => ?_)
        ·
          refine GO.iinc (X := i23238) (n := 1) (Y := i23238 + 1) (ls1 := [some (.ref x), some (ti p0), some (ti i25840), some (ti (i23238 + 1)), some (ti i25841), none, none]) dX12_goesOver_179 rfl rfl rfl rfl ?_
          refine GO.goto (tgt := 49) dX12_goesOver_182 (by decide) ?_
          refine GO.drop [true, true, true, true, false, true, true] rfl ?_
          exact ih25831 i25840 (i23238 + 1) Wi25840 ⟨by omega, by omega, by omega, by omega, by omega, trivial⟩ (by show (2147483647 - (i23238 + 1)).toNat < (2147483647 - i23238).toNat; omega)
        ·
          refine GO.aload_n dX12_goesOver_72 rfl rfl ?_
          refine GO.getA (n := 144) h_x fl_RX12_277 rfl rfl rfl rfl dX12_goesOver_73 (fun hv26076 h26075 => ?_)
          refine GO.iload_n dX12_goesOver_76 rfl rfl ?_
          refine GO.iald (t := 95) rfl rfl h26075 r_i23238 (by omega) (by omega) dX12_goesOver_77 (fun l26077 u26078 => ?_)
          refine GO.ldcw (X := 1000000) dX12_goesOver_78 gw_2291 rfl ?_
          refine GO.icmp_ge (tgt := 179) dX12_goesOver_81 (by decide) vi_ir (ir_c rfl) (fun c26079 => ?_) (fun c26079 => ?_)
          ·
            refine GO.iinc (X := i23238) (n := 1) (Y := i23238 + 1) (ls1 := [some (.ref x), some (ti p0), some (ti i25840), some (ti (i23238 + 1)), some (ti i25841), none, none]) dX12_goesOver_179 rfl rfl rfl rfl ?_
            refine GO.goto (tgt := 49) dX12_goesOver_182 (by decide) ?_
            refine GO.drop [true, true, true, true, false, true, true] rfl ?_
            exact ih25831 i25840 (i23238 + 1) Wi25840 ⟨by omega, by omega, by omega, by omega, by omega, trivial⟩ (by show (2147483647 - (i23238 + 1)).toNat < (2147483647 - i23238).toNat; omega)
          ·
            refine GO.aload_n dX12_goesOver_84 rfl rfl ?_
            refine GO.iload_n dX12_goesOver_85 rfl rfl ?_
            refine GO.iload dX12_goesOver_86 rfl ?_
            refine GO.callS (N := mX12_columnStep) dX12_goesOver_88 gS_RX12_639 (t_X12_columnStep r_i25841) rfl [ti i23238, .ref x] rfl rfl (Nat.le_of_ble_eq_true rfl) rfl (k_ip fun X26080 r26081 h26082 => ?_)
            have raw_columnStep := h26082.2
            have rw88 := h26082.2
            refine GO.iload dX12_goesOver_91 rfl ?_
            refine GO.callS (N := mX12_rowStep) dX12_goesOver_93 gS_RX12_642 (t_X12_rowStep r_i25841) rfl [ti X26080, ti i23238, .ref x] rfl rfl (Nat.le_of_ble_eq_true rfl) rfl (k_ip fun X26083 r26084 h26085 => ?_)
            have raw_rowStep := h26085.2
            have rw93 := h26085.2
            refine GO.callV (ci := 11) (N := mX12_moved) dX12_goesOver_96 (RX12, TX12, 151) rfl gV_RX12_645 h_x (t_X12_moved h_x r_i23238 r26081 r26084 (by omega) (by omega) (by omega) (by omega) (by omega) (by omega)) rfl [] rfl rfl (Nat.le_of_ble_eq_true rfl) rfl (k_ip fun X26086 r26087 h26088 => ?_)
            have raw_moved := h26088.2
            have rw96 := h26088.2
            refine GO.istore (ls1 := [some (.ref x), some (ti p0), some (ti i25840), some (ti i23238), some (ti i25841), some (ti X26086), none]) dX12_goesOver_99 rfl rfl ?_
            refine GO.iload dX12_goesOver_101 rfl ?_
            refine GO.iconst dX12_goesOver_103 ?_
            refine GO.icmp_eq (tgt := 173) dX12_goesOver_104 (by decide) r26087 (ir_c rfl) (fun c26089 => ?_) (fun c26089 => ?_)
            ·
              refine GO.iinc (X := i25841) (n := 1) (Y := i25841 + 1) (ls1 := [some (.ref x), some (ti p0), some (ti i25840), some (ti i23238), some (ti (i25841 + 1)), some (ti X26086), none]) dX12_goesOver_173 rfl rfl rfl rfl ?_
              refine GO.goto (tgt := 65) dX12_goesOver_176 (by decide) ?_
              refine GO.drop [true, true, true, true, true, false, true] rfl ?_
              exact ih26072 i25840 (i25841 + 1) Wi25840 ⟨by omega, by omega, by omega, by omega, by omega, trivial⟩ (by show (2147483647 - (i25841 + 1)).toNat < (2147483647 - i25841).toNat; omega)
            ·
              refine GO.aload_n dX12_goesOver_107 rfl rfl ?_
              refine GO.iload dX12_goesOver_108 rfl ?_
              refine GO.callV (ci := 11) (N := mX12_isLand) dX12_goesOver_110 (RX12, TX12, 151) rfl gV_RX12_425 h_x (t_X12_isLand h_x r26087 (by omega) (by omega)) rfl [] rfl rfl (Nat.le_of_ble_eq_true rfl) rfl (k_ip fun X26090 r26091 h26092 => ?_)
              have raw_isLand := h26092.2.2.2
              have rw110 := h26092.2.2.2
              refine GO.if_ne (tgt := 119) dX12_goesOver_113 (by decide) r26091 (fun c26093 => ?_) (fun c26093 => ?_)
              ·
                refine GO.aload_n dX12_goesOver_119 rfl rfl ?_
                refine GO.getRaw h_x fl_RX12_277 hv26076 dX12_goesOver_120 ?_
                refine GO.iload_n dX12_goesOver_123 rfl rfl ?_
                refine GO.iald (t := 95) rfl rfl h26075 r_i23238 (by omega) (by omega) dX12_goesOver_124 (fun l26096 u26097 => ?_)
                refine GO.iconst dX12_goesOver_125 ?_
                refine GO.iadd dX12_goesOver_126 ?_
                refine GO.aload_n dX12_goesOver_127 rfl rfl ?_
                refine GO.getA (n := 144) h_x fl_RX12_16 rfl rfl rfl rfl dX12_goesOver_128 (fun hv26099 h26098 => ?_)
                refine GO.iload dX12_goesOver_131 rfl ?_
                refine GO.iald (t := 9) rfl rfl h26098 r26087 (by omega) (by omega) dX12_goesOver_133 (fun l26100 u26101 => ?_)
                refine GO.aload_n dX12_goesOver_134 rfl rfl ?_
                refine GO.getRaw h_x fl_RX12_16 hv26099 dX12_goesOver_135 ?_
                refine GO.iload_n dX12_goesOver_138 rfl rfl ?_
                refine GO.iald (t := 9) rfl rfl h26098 r_i23238 (by omega) (by omega) dX12_goesOver_139 (fun l26104 u26105 => ?_)
                refine GO.isub dX12_goesOver_140 ?_
                refine GO.callS (N := mX12_size) dX12_goesOver_141 gS_RX12_385 (t_X12_size ⟨by omega, by omega⟩ (by omega) (by omega)) rfl [ti ((vi Wi25840 (vq Wi25840 x 117) (i23238).toNat) + 1)] rfl rfl (Nat.le_of_ble_eq_true rfl) rfl (k_ip fun X26106 r26107 h26108 => ?_)
                refine GO.iadd dX12_goesOver_144 ?_
                refine GO.name (fun z26109 hz26110 => ?_)
                refine GO.istore (ls1 := [some (.ref x), some (ti p0), some (ti i25840), some (ti i23238), some (ti i25841), some (ti X26086), some (ti z26109)]) dX12_goesOver_145 rfl rfl ?_
                refine GO.iload dX12_goesOver_147 rfl ?_
                refine GO.aload_n dX12_goesOver_149 rfl rfl ?_
                refine GO.getRaw h_x fl_RX12_277 hv26076 dX12_goesOver_150 ?_
                refine GO.iload dX12_goesOver_153 rfl ?_
                refine GO.iald (t := 95) rfl rfl h26075 r26087 (by omega) (by omega) dX12_goesOver_155 (fun l26113 u26114 => ?_)
                refine GO.icmp_lt (tgt := 162) dX12_goesOver_156 (by decide) ⟨by omega, by omega⟩ vi_ir (fun c26115 => ?_) (fun c26115 => ?_)
                ·
                  refine GO.aload_n dX12_goesOver_162 rfl rfl ?_
                  refine GO.getRaw h_x fl_RX12_277 hv26076 dX12_goesOver_163 ?_
                  refine GO.iload dX12_goesOver_166 rfl ?_
                  refine GO.iload dX12_goesOver_168 rfl ?_
                  refine GO.iast (t := 95) rfl rfl (by decide +kernel) h26075 r26087 (by omega) (by omega) ⟨by omega, by omega⟩ (by omega) (by omega) dX12_goesOver_170 (fun V26119 e26118 => ?_)
                  refine GO.iconst dX12_goesOver_171 ?_
                  refine GO.istore_n (ls1 := [some (.ref x), some (ti p0), some (ti 1), some (ti i23238), some (ti i25841), some (ti X26086), some (ti z26109)]) dX12_goesOver_172 rfl rfl rfl ?_
                  refine GO.iinc (X := i25841) (n := 1) (Y := i25841 + 1) (ls1 := [some (.ref x), some (ti p0), some (ti 1), some (ti i23238), some (ti (i25841 + 1)), some (ti X26086), some (ti z26109)]) dX12_goesOver_173 rfl rfl rfl rfl ?_
                  refine GO.goto (tgt := 65) dX12_goesOver_176 (by decide) ?_
                  refine GO.drop [true, true, true, true, true, false, false] rfl ?_
                  have e26120 : dsum V26119 x = dsum Wi25840 x - vi Wi25840 (vq Wi25840 x 117) (X26086).toNat + z26109 := dsum_put e26118 h_x h26075 (by omega) ⟨by omega, by omega⟩
                  exact ih26072 1 (i25841 + 1) V26119 ⟨by omega, by omega, by omega, by omega, by omega, trivial⟩ (by show (2147483647 - (i25841 + 1)).toNat < (2147483647 - i25841).toNat; omega)
                ·
                  refine GO.goto (tgt := 173) dX12_goesOver_159 (by decide) ?_
                  refine GO.iinc (X := i25841) (n := 1) (Y := i25841 + 1) (ls1 := [some (.ref x), some (ti p0), some (ti i25840), some (ti i23238), some (ti (i25841 + 1)), some (ti X26086), some (ti z26109)]) dX12_goesOver_173 rfl rfl rfl rfl ?_
                  refine GO.goto (tgt := 65) dX12_goesOver_176 (by decide) ?_
                  refine GO.drop [true, true, true, true, true, false, false] rfl ?_
                  exact ih26072 i25840 (i25841 + 1) Wi25840 ⟨by omega, by omega, by omega, by omega, by omega, trivial⟩ (by show (2147483647 - (i25841 + 1)).toNat < (2147483647 - i25841).toNat; omega)
              ·
                refine GO.goto (tgt := 173) dX12_goesOver_116 (by decide) ?_
                refine GO.iinc (X := i25841) (n := 1) (Y := i25841 + 1) (ls1 := [some (.ref x), some (ti p0), some (ti i25840), some (ti i23238), some (ti (i25841 + 1)), some (ti X26086), none]) dX12_goesOver_173 rfl rfl rfl rfl ?_
                refine GO.goto (tgt := 65) dX12_goesOver_176 (by decide) ?_
                refine GO.drop [true, true, true, true, true, false, true] rfl ?_
                exact ih26072 i25840 (i25841 + 1) Wi25840 ⟨by omega, by omega, by omega, by omega, by omega, trivial⟩ (by show (2147483647 - (i25841 + 1)).toNat < (2147483647 - i25841).toNat; omega)
  ·
    refine GO.aload_n dX12_goesOver_15 rfl rfl ?_
    refine GO.getA (n := 144) h_x fl_RX12_277 rfl rfl rfl rfl dX12_goesOver_16 (fun hv26122 h26121 => ?_)
    refine GO.iload_n dX12_goesOver_19 rfl rfl ?_
    refine GO.iload_n dX12_goesOver_20 rfl rfl ?_
    refine GO.iload_n dX12_goesOver_21 rfl rfl ?_
    refine GO.icmp_ne (tgt := 29) dX12_goesOver_22 (by decide) r_i1 r_p0 (fun c26123 => ?_) (fun c26123 => ?_)
    ·
      refine GO.ldcw (X := 1000000) dX12_goesOver_29 gw_2291 rfl ?_
      refine GO.iast (t := 95) rfl rfl (by decide +kernel) h26121 r_i1 (by omega) (by omega) (ir_c rfl) (by decide) (by decide) dX12_goesOver_32 (fun V26125 e26124 => ?_)
      refine GO.iinc (X := i1) (n := 1) (Y := i1 + 1) (ls1 := [some (.ref x), some (ti p0), some (ti (i1 + 1)), none, none, none, none]) dX12_goesOver_33 rfl rfl rfl rfl ?_
      refine GO.goto (tgt := 2) dX12_goesOver_36 (by decide) ?_
      exact ih17454 (i1 + 1) V26125 ⟨by omega, by omega, trivial⟩ (by show (2147483647 - (i1 + 1)).toNat < (2147483647 - i1).toNat; omega)
    ·
      refine GO.iconst dX12_goesOver_25 ?_
      refine GO.goto (tgt := 32) dX12_goesOver_26 (by decide) ?_
      have q26126 : -2147483648 ≤ p0 ∧ p0 ≤ 2147483647 := r_p0
      refine GO.iast (t := 95) rfl rfl (by decide +kernel) h26121 r_i1 (by omega) (by omega) (ir_c rfl) (by decide) (by decide) dX12_goesOver_32 (fun V26128 e26127 => ?_)
      refine GO.iinc (X := i1) (n := 1) (Y := i1 + 1) (ls1 := [some (.ref x), some (ti p0), some (ti (i1 + 1)), none, none, none, none]) dX12_goesOver_33 rfl rfl rfl rfl ?_
      refine GO.goto (tgt := 2) dX12_goesOver_36 (by decide) ?_
      exact ih17454 (i1 + 1) V26128 ⟨by omega, by omega, trivial⟩ (by show (2147483647 - (i1 + 1)).toNat < (2147483647 - i1).toNat; omega)
