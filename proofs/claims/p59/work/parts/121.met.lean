def mX5_negation_8 : MRec := (RX5, cX5_negation, 1, (none : Option Jvm.ClassFile.FieldType), yX5_negation, 28, 684, 0, 0, 84615164005151820665845159428194693098035799419427996068435045795123941278247852265624218936283556470163081713008521863233536)
def mX5_piece_8 : MRec := (RX5, cX5_piece, 3, (none : Option Jvm.ClassFile.FieldType), yX5_piece, 30, 728, 0, 0, 84615164005151820665845159428194693098035799419427996068435045795123941278247852265624218936283556470163081713008521863233536)
def mX5_part_8 : MRec := (RX5, cX5_part, 3, (none : Option Jvm.ClassFile.FieldType), yX5_part, 31, 750, 0, 0, 84615164005151820665845159428194693098035799419427996068435045795123941278247852265624218936283556470163081713008521863233536)
def mX5_parts_8 : MRec := (RX5, cX5_parts, 3, (none : Option Jvm.ClassFile.FieldType), yX5_parts, 32, 772, 0, 0, 84615164005151820665845159428194693098035799419427996068435045795123941278247852265624218936283556470163081713008521863233536)
def mX5_condition : MRec := (RX5, cX5_condition, 1, (none : Option Jvm.ClassFile.FieldType), yX5_condition, 33, 794, 0, 0, 173376471046556080544316731668370926157875353010407963944223408834208955679129849292264024600445007187557113766800731761174118400)
def mX5_clause : MRec := (RX5, cX5_clause, 2, (none : Option Jvm.ClassFile.FieldType), yX5_clause, 34, 814, 0, 0, 2508228255056559327717299405517639477515382672702395372151508761915556027554247102225625402190692008089749696865421322977703054109852485596376082301365031896428200604842813990547687308375642969839908159488)
set_option maxHeartbeats 1000000 in
theorem t_X5_negation_8_G {K : Kmap} {V : Vmap} {x : Nat} (h_x : K x = some (0, 4)) (q_0 : vi V x 5 = 0) (q_1 : vi V x 4 ≥ 1) (q_2 : vi V x 4 ≤ 8) : MC mX5_negation_8 K V [.ref x] (VS K (fun V1 => (vi V1 x 4 = vi V x 4 ∧ (vi V x 5 ≠ 0 → vi V1 x 5 ≠ 0)) ∧ (CR K V V1 x (fun src e => negD src e (vi V x 4).toNat)))) := by
  refine MC.start 0 (by decide +kernel) rfl rfl rfl (ls0 := [some (.ref x)]) rfl ?_
  refine GO.useWT (fun hW_0 => ?_)
  refine GO.aload_n dX5_negation_0 rfl rfl ?_
  refine GO.bipush dX5_negation_1 rfl ?_
  have q1 : -2147483648 ≤ vi V x 4 ∧ vi V x 4 ≤ 2147483647 := vi_ir
  refine GO.callV (ci := 4) (N := mX5_deepen) dX5_negation_3 (RX5, TX5, 7) rfl gV_RX5_80 h_x (t_X5_deepen h_x (ir_c rfl) (by omega) (by omega) (by omega)) rfl [] rfl rfl (Nat.le_of_ble_eq_true rfl) rfl (k_vs fun V4 h3 hF2 => ?_)
  have raw_deepen := h3.2
  have rw3 := h3.2
  refine GO.aload_n dX5_negation_6 rfl rfl ?_
  have q7 : -2147483648 ≤ vi V4 x 4 ∧ vi V4 x 4 ≤ 2147483647 := vi_ir
  have q8 : -2147483648 ≤ vi V4 x 5 ∧ vi V4 x 5 ≤ 2147483647 := vi_ir
  refine GO.callV (ci := 4) (N := mX5_piece_7) dX5_negation_7 (RX5, TX5, 7) rfl gV_RX5_96 h_x (t_X5_piece_7 h_x (by omega)) rfl [] rfl rfl (Nat.le_of_ble_eq_true rfl) rfl (k_vs fun V11 h10 hF9 => ?_)
  have raw_piece := h10.2
  have rw7 := h10.2
  refine GO.useWT (fun hWb => ?_)
  refine GO.aload_n dX5_negation_10 rfl rfl ?_
  refine GO.dup dX5_negation_11 rfl ?_
  refine GO.getI h_x fl_RX5_15 rfl rfl dX5_negation_12 (fun _ _ => ?_)
  refine GO.iconst dX5_negation_15 ?_
  refine GO.isub dX5_negation_16 ?_
  have q15 : -2147483648 ≤ vi V11 x 4 ∧ vi V11 x 4 ≤ 2147483647 := vi_ir
  refine GO.putI h_x fp_RX5_15 rfl (by decide +kernel) ⟨by omega, by omega⟩ (by omega) (by omega) dX5_negation_17 (fun V16 e14 => ?_)
  refine GO.useWT (fun hWn => ?_)
  refine GO.aload_n dX5_negation_20 rfl rfl ?_
  refine GO.getR h_x fl_RX5_31 rfl rfl dX5_negation_21 (fun hv18 h17 => ?_)
  refine GO.iconst dX5_negation_24 ?_
  refine GO.iconst dX5_negation_25 ?_
  refine GO.callV (ci := 8) (N := mX9_addStep) dX5_negation_26 (RX9, TX9, 5) rfl gV_RX5_92 h17 (t_X9_addStep h17 (ir_c rfl) (ir_c rfl)) rfl [] rfl rfl (Nat.le_of_ble_eq_true rfl) rfl (k_is fun X19 V23 r20 h21 hF22 => ?_)
  have raw_addStep := h21.2
  have rw26 := h21.2
  refine GO.pop dX5_negation_29 rfl ?_
  have e25 : vi V16 x 4 = (vi V11 x 4) - 1 := upd2_int e14 ⟨by omega, by omega⟩
  have e24 : vi V23 x 4 = vi V16 x 4 := vi_fr hF22 h_x h_x (by decide +kernel)
  have q26 : -2147483648 ≤ vi V x 5 ∧ vi V x 5 ≤ 2147483647 := vi_ir
  have e28 : vi V16 x 5 = vi V11 x 5 := vi_up e14 (Or.inr (by decide))
  have e27 : vi V23 x 5 = vi V16 x 5 := vi_fr hF22 h_x h_x (by decide +kernel)
  have q29 : -2147483648 ≤ vi V11 x 5 ∧ vi V11 x 5 ≤ 2147483647 := vi_ir
  exact GO.retv rfl rfl dX5_negation_30 ⟨rfl, rfl, ⟨by omega, NEG.of rw3 rw7 (by omega) h_x hWb hWn (by assumption) rw26⟩⟩

theorem t_X5_negation_8 {K : Kmap} {V : Vmap} {x : Nat} (h_x : K x = some (0, 4)) (q_0 : ((vi V x 5 = 0 ∧ vi V x 4 ≥ 1 ∧ vi V x 4 ≤ 8))) : MC mX5_negation_8 K V [.ref x] (VS K (fun V1 => (vi V1 x 4 = vi V x 4 ∧ (vi V x 5 ≠ 0 → vi V1 x 5 ≠ 0)) ∧ (CR K V V1 x (fun src e => negD src e (vi V x 4).toNat)))) := by
  exact t_X5_negation_8_G h_x (by omega) (by omega) (by omega)

set_option maxHeartbeats 1000000 in
theorem t_X5_piece_8_F {K : Kmap} {V : Vmap} {x : Nat} (h_x : K x = some (0, 4)) (q_0 : vi V x 5 ≠ 0) : MC mX5_piece_8 K V [.ref x] (VS K (fun V1 => (vi V1 x 4 = vi V x 4 ∧ (vi V x 5 ≠ 0 → vi V1 x 5 ≠ 0)) ∧ (CR K V V1 x (fun src e => pieD src e (vi V x 4).toNat)))) := by
  refine MC.start 2 (by decide +kernel) rfl rfl rfl (ls0 := [some (.ref x), none, none]) rfl ?_
  refine GO.useWT (fun hW_0 => ?_)
  refine GO.aload_n dX5_piece_0 rfl rfl ?_
  refine GO.getI h_x fl_RX5_18 rfl rfl dX5_piece_1 (fun _ _ => ?_)
  have q2 : -2147483648 ≤ vi V x 5 ∧ vi V x 5 ≤ 2147483647 := vi_ir
  refine GO.if_eq (tgt := 8) dX5_piece_4 (by decide) vi_ir (fun h => by exfalso; omega) (fun c1 => ?_)
  have q3 : -2147483648 ≤ vi V x 4 ∧ vi V x 4 ≤ 2147483647 := vi_ir
  exact GO.retv rfl rfl dX5_piece_7 ⟨rfl, rfl, ⟨by omega, (by first | exact CRg.bad (by omega))⟩⟩

set_option maxHeartbeats 1000000 in
theorem t_X5_piece_8_G {K : Kmap} {V : Vmap} {x : Nat} (h_x : K x = some (0, 4)) (q_0 : vi V x 5 = 0) (q_1 : vi V x 4 ≥ 1) (q_2 : vi V x 4 ≤ 8) : MC mX5_piece_8 K V [.ref x] (VS K (fun V1 => (vi V1 x 4 = vi V x 4 ∧ (vi V x 5 ≠ 0 → vi V1 x 5 ≠ 0)) ∧ (CR K V V1 x (fun src e => pieD src e (vi V x 4).toNat)))) := by
  refine MC.start 2 (by decide +kernel) rfl rfl rfl (ls0 := [some (.ref x), none, none]) rfl ?_
  refine GO.useWT (fun hW_0 => ?_)
  refine GO.aload_n dX5_piece_0 rfl rfl ?_
  refine GO.getI h_x fl_RX5_18 rfl rfl dX5_piece_1 (fun _ _ => ?_)
  have q2 : -2147483648 ≤ vi V x 5 ∧ vi V x 5 ≤ 2147483647 := vi_ir
  refine GO.if_eq (tgt := 8) dX5_piece_4 (by decide) vi_ir (fun c1 => ?_) (fun h => by exfalso; omega)
  refine GO.aload_n dX5_piece_8 rfl rfl ?_
  refine GO.callV (ci := 4) (N := mX5_next) dX5_piece_9 (RX5, TX5, 7) rfl gV_RX5_61 h_x (t_X5_next h_x) rfl [] rfl rfl (Nat.le_of_ble_eq_true rfl) rfl (k_ip fun X3 r4 h5 => ?_)
  refine GO.istore_n (ls1 := [some (.ref x), some (ti X3), none]) dX5_piece_12 rfl rfl rfl ?_
  refine GO.iload_n dX5_piece_13 rfl rfl ?_
  refine GO.bipush dX5_piece_14 rfl ?_
  refine GO.icmp_ne (tgt := 26) dX5_piece_16 (by decide) r4 (ir_c rfl) (fun c6 => ?_) (fun c6 => ?_)
  ·
    refine GO.iload_n dX5_piece_26 rfl rfl ?_
    refine GO.bipush dX5_piece_27 rfl ?_
    refine GO.icmp_ne (tgt := 61) dX5_piece_29 (by decide) r4 (ir_c rfl) (fun c7 => ?_) (fun c7 => ?_)
    ·
      refine GO.aload_n dX5_piece_61 rfl rfl ?_
      have q8 : -2147483648 ≤ vi V x 4 ∧ vi V x 4 ≤ 2147483647 := vi_ir
      refine GO.callV (ci := 4) (N := mX5_terms_8) dX5_piece_62 (RX5, TX5, 7) rfl gV_RX5_102 h_x (t_X5_terms_8 h_x (by omega)) rfl [] rfl rfl (Nat.le_of_ble_eq_true rfl) rfl (k_vs fun V11 h10 hF9 => ?_)
      have raw_terms := h10.2
      have rw62 := h10.2
      refine GO.useWT (fun hW1 => ?_)
      refine GO.aload_n dX5_piece_65 rfl rfl ?_
      refine GO.aload_n dX5_piece_66 rfl rfl ?_
      refine GO.callV (ci := 4) (N := mX5_next) dX5_piece_67 (RX5, TX5, 7) rfl gV_RX5_61 h_x (t_X5_next h_x) rfl [.ref x] rfl rfl (Nat.le_of_ble_eq_true rfl) rfl (k_ip fun X14 r15 h16 => ?_)
      refine GO.callV (ci := 4) (N := mX5_comparison) dX5_piece_70 (RX5, TX5, 7) rfl gV_RX5_105 h_x (t_X5_comparison h_x r15) rfl [] rfl rfl (Nat.le_of_ble_eq_true rfl) rfl (k_is fun X17 V21 r18 h19 hF20 => ?_)
      have raw_comparison := h19.2
      have rw70 := h19.2
      refine GO.useWT (fun hW2 => ?_)
      refine GO.istore_n (ls1 := [some (.ref x), some (ti X3), some (ti X17)]) dX5_piece_73 rfl rfl rfl ?_
      refine GO.aload_n dX5_piece_74 rfl rfl ?_
      refine GO.dup dX5_piece_75 rfl ?_
      refine GO.getI h_x fl_RX5_9 rfl rfl dX5_piece_76 (fun _ _ => ?_)
      refine GO.iconst dX5_piece_79 ?_
      refine GO.iadd dX5_piece_80 ?_
      refine GO.norm2 (fun z25 r26 hn27 hw28 => ?_)
      refine GO.putI h_x fp_RX5_9 rfl (by decide +kernel) r26 (r26).1 (r26).2 dX5_piece_81 (fun V30 e29 => ?_)
      refine GO.aload_n dX5_piece_84 rfl rfl ?_
      have e31 : vi V30 x 5 = vi V21 x 5 := vi_up e29 (Or.inr (by decide))
      have e33 : vi V21 x 4 = vi V11 x 4 := vi_fr hF20 h_x h_x (by decide +kernel)
      have e32 : vi V30 x 4 = vi V21 x 4 := vi_up e29 (Or.inr (by decide))
      have q34 : -2147483648 ≤ vi V11 x 4 ∧ vi V11 x 4 ≤ 2147483647 := vi_ir
      have q35 : -2147483648 ≤ vi V21 x 5 ∧ vi V21 x 5 ≤ 2147483647 := vi_ir
      refine GO.callV (ci := 4) (N := mX5_terms_8) dX5_piece_85 (RX5, TX5, 7) rfl gV_RX5_102 h_x (t_X5_terms_8 h_x (by omega)) rfl [] rfl rfl (Nat.le_of_ble_eq_true rfl) rfl (k_vs fun V38 h37 hF36 => ?_)
      have raw_terms := h37.2
      have rw85 := h37.2
      refine GO.useWT (fun hW4 => ?_)
      refine GO.aload_n dX5_piece_88 rfl rfl ?_
      refine GO.getR h_x fl_RX5_31 rfl rfl dX5_piece_89 (fun hv42 h41 => ?_)
      refine GO.iload_n dX5_piece_92 rfl rfl ?_
      refine GO.iconst dX5_piece_93 ?_
      refine GO.callV (ci := 8) (N := mX9_addStep) dX5_piece_94 (RX9, TX9, 5) rfl gV_RX5_92 h41 (t_X9_addStep h41 r18 (ir_c rfl)) rfl [] rfl rfl (Nat.le_of_ble_eq_true rfl) rfl (k_is fun X43 V47 r44 h45 hF46 => ?_)
      have raw_addStep := h45.2
      have rw94 := h45.2
      refine GO.pop dX5_piece_97 rfl ?_
      have e48 : vi V47 x 4 = vi V38 x 4 := vi_fr hF46 h_x h_x (by decide +kernel)
      have q49 : -2147483648 ≤ vi V38 x 4 ∧ vi V38 x 4 ≤ 2147483647 := vi_ir
      have e50 : vi V47 x 5 = vi V38 x 5 := vi_fr hF46 h_x h_x (by decide +kernel)
      have q51 : -2147483648 ≤ vi V38 x 5 ∧ vi V38 x 5 ≤ 2147483647 := vi_ir
      exact GO.retv rfl rfl dX5_piece_98 ⟨rfl, rfl, ⟨by omega, (by first | exact CRg.bad (by omega) | exact PIE.cmp (by omega) rfl (by omega) (by omega) (by omega) (CR.ter rw62 rfl) rw70 h_x hW1 hW2 hW4 (by assumption) (by assumption) (by assumption) (CR.ter rw85 (by omega)) rw94)⟩⟩
    ·
      refine GO.aload_n dX5_piece_32 rfl rfl ?_
      refine GO.bipush dX5_piece_33 rfl ?_
      have q52 : -2147483648 ≤ vi V x 4 ∧ vi V x 4 ≤ 2147483647 := vi_ir
      refine GO.callV (ci := 4) (N := mX5_deepen) dX5_piece_35 (RX5, TX5, 7) rfl gV_RX5_80 h_x (t_X5_deepen h_x (ir_c rfl) (by omega) (by omega) (by omega)) rfl [] rfl rfl (Nat.le_of_ble_eq_true rfl) rfl (k_vs fun V55 h54 hF53 => ?_)
      have raw_deepen := h54.2
      have rw35 := h54.2
      refine GO.aload_n dX5_piece_38 rfl rfl ?_
      have q58 : -2147483648 ≤ vi V55 x 4 ∧ vi V55 x 4 ≤ 2147483647 := vi_ir
      have q59 : -2147483648 ≤ vi V55 x 5 ∧ vi V55 x 5 ≤ 2147483647 := vi_ir
      refine GO.callV (ci := 4) (N := mX5_parts_7) dX5_piece_39 (RX5, TX5, 7) rfl gV_RX5_83 h_x (t_X5_parts_7 h_x (by omega)) rfl [] rfl rfl (Nat.le_of_ble_eq_true rfl) rfl (k_vs fun V62 h61 hF60 => ?_)
      have raw_parts := h61.2
      have rw39 := h61.2
      refine GO.useWT (fun hWb => ?_)
      refine GO.aload_n dX5_piece_42 rfl rfl ?_
      refine GO.dup dX5_piece_43 rfl ?_
      refine GO.getI h_x fl_RX5_15 rfl rfl dX5_piece_44 (fun _ _ => ?_)
      refine GO.iconst dX5_piece_47 ?_
      refine GO.isub dX5_piece_48 ?_
      have q66 : -2147483648 ≤ vi V62 x 4 ∧ vi V62 x 4 ≤ 2147483647 := vi_ir
      refine GO.putI h_x fp_RX5_15 rfl (by decide +kernel) ⟨by omega, by omega⟩ (by omega) (by omega) dX5_piece_49 (fun V67 e65 => ?_)
      refine GO.aload_n dX5_piece_52 rfl rfl ?_
      refine GO.bipush dX5_piece_53 rfl ?_
      have e68 : vi V67 x 5 = vi V62 x 5 := vi_up e65 (Or.inr (by decide))
      refine GO.callV (ci := 4) (N := mX5_take) dX5_piece_55 (RX5, TX5, 7) rfl gV_RX5_38 h_x (t_X5_take h_x (ir_c rfl) (by omega)) rfl [] rfl rfl (Nat.le_of_ble_eq_true rfl) rfl (k_vs fun V71 h70 hF69 => ?_)
      have raw_take := h70.2
      have rw55 := h70.2
      refine GO.goto (tgt := 98) dX5_piece_58 (by decide) ?_
      have e74 : vi V67 x 4 = (vi V62 x 4) - 1 := upd2_int e65 ⟨by omega, by omega⟩
      have e73 : vi V71 x 4 = vi V67 x 4 := vi_fr hF69 h_x h_x (by decide +kernel)
      have q75 : -2147483648 ≤ vi V71 x 5 ∧ vi V71 x 5 ≤ 2147483647 := vi_ir
      exact GO.retv rfl rfl dX5_piece_98 ⟨rfl, rfl, ⟨by omega, (by first | exact CRg.bad (by omega) | exact PIE.par (by omega) (by omega) rw35 rw39 (by omega) h_x hWb (by assumption) rw55)⟩⟩
  ·
    refine GO.aload_n dX5_piece_19 rfl rfl ?_
    have q76 : -2147483648 ≤ vi V x 4 ∧ vi V x 4 ≤ 2147483647 := vi_ir
    refine GO.callV (ci := 4) (N := mX5_negation_8) dX5_piece_20 (RX5, TX5, 7) rfl gV_RX5_99 h_x (t_X5_negation_8 h_x (by omega)) rfl [] rfl rfl (Nat.le_of_ble_eq_true rfl) rfl (k_vs fun V79 h78 hF77 => ?_)
    have raw_negation := h78.2
    have rw20 := h78.2
    refine GO.goto (tgt := 98) dX5_piece_23 (by decide) ?_
    have q82 : -2147483648 ≤ vi V79 x 4 ∧ vi V79 x 4 ≤ 2147483647 := vi_ir
    have q83 : -2147483648 ≤ vi V79 x 5 ∧ vi V79 x 5 ≤ 2147483647 := vi_ir
    exact GO.retv rfl rfl dX5_piece_98 ⟨rfl, rfl, ⟨by omega, (by first | exact CRg.bad (by omega) | exact PIE.neg (by omega) (by omega) rw20)⟩⟩

theorem t_X5_piece_8 {K : Kmap} {V : Vmap} {x : Nat} (h_x : K x = some (0, 4)) (q_0 : (vi V x 5 ≠ 0 ∨ (vi V x 5 = 0 ∧ vi V x 4 ≥ 1 ∧ vi V x 4 ≤ 8))) : MC mX5_piece_8 K V [.ref x] (VS K (fun V1 => (vi V1 x 4 = vi V x 4 ∧ (vi V x 5 ≠ 0 → vi V1 x 5 ≠ 0)) ∧ (CR K V V1 x (fun src e => pieD src e (vi V x 4).toNat)))) := by
  rcases q_0 with h | h
  · exact t_X5_piece_8_F h_x (by omega)
  · exact t_X5_piece_8_G h_x (by omega) (by omega) (by omega)

set_option maxHeartbeats 1000000 in
theorem t_X5_part_8_F {K : Kmap} {V : Vmap} {x : Nat} (h_x : K x = some (0, 4)) (q_0 : vi V x 5 ≠ 0) : MC mX5_part_8 K V [.ref x] (VS K (fun V1 => (vi V1 x 4 = vi V x 4 ∧ (vi V x 5 ≠ 0 → vi V1 x 5 ≠ 0)) ∧ (CR K V V1 x (fun src e => parG src e (pieD src e (vi V x 4).toNat))))) := by
  refine MC.start 2 (by decide +kernel) rfl rfl rfl (ls0 := [some (.ref x), none, none]) rfl ?_
  refine GO.useWT (fun hW_0 => ?_)
  refine GO.iconst dX5_part_0 ?_
  refine GO.istore_n (ls1 := [some (.ref x), some (ti (-1)), none]) dX5_part_1 rfl rfl rfl ?_
  refine GO.aload_n dX5_part_2 rfl rfl ?_
  have q1 : -2147483648 ≤ vi V x 4 ∧ vi V x 4 ≤ 2147483647 := vi_ir
  have q2 : -2147483648 ≤ vi V x 5 ∧ vi V x 5 ≤ 2147483647 := vi_ir
  refine GO.callV (ci := 4) (N := mX5_piece_8) dX5_part_3 (RX5, TX5, 7) rfl gV_RX5_96 h_x (t_X5_piece_8 h_x (by omega)) rfl [] rfl rfl (Nat.le_of_ble_eq_true rfl) rfl (k_vs fun V5 h4 hF3 => ?_)
  have raw_piece := h4.2
  have rw3 := h4.2
  refine GO.iconst dX5_part_6 ?_
  refine GO.istore_n (ls1 := [some (.ref x), some (ti (-1)), some (ti 0)]) dX5_part_7 rfl rfl rfl ?_
  have q10 : -2147483648 ≤ vi V5 x 4 ∧ vi V5 x 4 ≤ 2147483647 := vi_ir
  have q11 : -2147483648 ≤ vi V5 x 5 ∧ vi V5 x 5 ≤ 2147483647 := vi_ir
  refine GO.loop2 (fun i8 i9 W => (-1) ≤ i8 ∧ i8 ≤ (-1) ∧ 0 ≤ i9 ∧ i9 ≤ 0 ∧ (vi W x 4 = vi V5 x 4 ∧ (vi V5 x 5 ≠ 0 → vi W x 5 ≠ 0)) ∧ (AJI K V W x (vi V x 4).toNat i8 i9) ∧ True) (fun i8 i9 => [some (.ref x), some (ti i8), some (ti i9)]) (fun i8 i9 W => (2147483647 - i8).toNat) (-1) 0 ⟨by omega, by omega, by omega, by omega, by omega, (by first | exact AJI.beg rw3), trivial⟩ rfl (fun i8 i9 Wi8 hp24 ih23 => ?_)
  obtain ⟨l_i8, u_i8, l_i9, u_i9, n_i8, haj, -⟩ := hp24
  have r_i8 : ir i8 := ⟨by omega, by omega⟩
  have r_i9 : ir i9 := ⟨by omega, by omega⟩
  show GO mX5_part_8 K V (VS K (fun V1 => (vi V1 x 4 = vi V x 4 ∧ (vi V x 5 ≠ 0 → vi V1 x 5 ≠ 0)) ∧ (CR K V V1 x (fun src e => parG src e (pieD src e (vi V x 4).toNat))))) K Wi8 0 0 8 [some (.ref x), some (ti i8), some (ti i9)] []
  refine GO.useWT (fun hWh => ?_)
  refine GO.iload_n dX5_part_8 rfl rfl ?_
  refine GO.sipush dX5_part_9 rfl ?_
  refine GO.icmp_ge (tgt := 69) dX5_part_12 (by decide) r_i9 (ir_c rfl) (fun h => by exfalso; omega) (fun c25 => ?_)
  refine GO.aload_n dX5_part_15 rfl rfl ?_
  refine GO.getI h_x fl_RX5_18 rfl rfl dX5_part_16 (fun _ _ => ?_)
  have q27 : -2147483648 ≤ vi Wi8 x 5 ∧ vi Wi8 x 5 ≤ 2147483647 := vi_ir
  refine GO.if_ne (tgt := 69) dX5_part_19 (by decide) vi_ir (fun c26 => ?_) (fun h => by exfalso; omega)
  refine GO.aload_n dX5_part_69 rfl rfl ?_
  refine GO.getR h_x fl_RX5_31 rfl rfl dX5_part_70 (fun hv29 h28 => ?_)
  refine GO.iload_n dX5_part_73 rfl rfl ?_
  refine GO.callV (ci := 8) (N := mX9_lead) dX5_part_74 (RX9, TX9, 5) rfl gV_RX5_89 h28 (t_X9_lead h28 r_i8) rfl [] rfl rfl (Nat.le_of_ble_eq_true rfl) rfl (k_vs fun V32 h31 hF30 => ?_)
  have raw_lead := h31.2
  have rw74 := h31.2
  have e33 : vi V32 x 4 = vi Wi8 x 4 := vi_fr hF30 h_x h_x (by decide +kernel)
  have q34 : -2147483648 ≤ vi Wi8 x 4 ∧ vi Wi8 x 4 ≤ 2147483647 := vi_ir
  have e35 : vi V32 x 5 = vi Wi8 x 5 := vi_fr hF30 h_x h_x (by decide +kernel)
  exact GO.retv rfl rfl dX5_part_77 ⟨rfl, rfl, ⟨by omega, AJI.end haj (by omega) (by omega) h_x hWh rw74⟩⟩

set_option maxHeartbeats 1000000 in
theorem t_X5_part_8_G {K : Kmap} {V : Vmap} {x : Nat} (h_x : K x = some (0, 4)) (q_0 : vi V x 5 = 0) (q_1 : vi V x 4 ≥ 1) (q_2 : vi V x 4 ≤ 8) : MC mX5_part_8 K V [.ref x] (VS K (fun V1 => (vi V1 x 4 = vi V x 4 ∧ (vi V x 5 ≠ 0 → vi V1 x 5 ≠ 0)) ∧ (CR K V V1 x (fun src e => parG src e (pieD src e (vi V x 4).toNat))))) := by
  refine MC.start 2 (by decide +kernel) rfl rfl rfl (ls0 := [some (.ref x), none, none]) rfl ?_
  refine GO.useWT (fun hW_0 => ?_)
  refine GO.iconst dX5_part_0 ?_
  refine GO.istore_n (ls1 := [some (.ref x), some (ti (-1)), none]) dX5_part_1 rfl rfl rfl ?_
  refine GO.aload_n dX5_part_2 rfl rfl ?_
  have q1 : -2147483648 ≤ vi V x 4 ∧ vi V x 4 ≤ 2147483647 := vi_ir
  have q2 : -2147483648 ≤ vi V x 5 ∧ vi V x 5 ≤ 2147483647 := vi_ir
  refine GO.callV (ci := 4) (N := mX5_piece_8) dX5_part_3 (RX5, TX5, 7) rfl gV_RX5_96 h_x (t_X5_piece_8 h_x (by omega)) rfl [] rfl rfl (Nat.le_of_ble_eq_true rfl) rfl (k_vs fun V5 h4 hF3 => ?_)
  have raw_piece := h4.2
  have rw3 := h4.2
  refine GO.iconst dX5_part_6 ?_
  refine GO.istore_n (ls1 := [some (.ref x), some (ti (-1)), some (ti 0)]) dX5_part_7 rfl rfl rfl ?_
  have q10 : -2147483648 ≤ vi V5 x 4 ∧ vi V5 x 4 ≤ 2147483647 := vi_ir
  have q11 : -2147483648 ≤ vi V5 x 5 ∧ vi V5 x 5 ≤ 2147483647 := vi_ir
  refine GO.loop2 (fun i8 i9 W => (-2147483648) ≤ i8 ∧ i8 ≤ 2147483647 ∧ 0 ≤ i9 ∧ i9 ≤ 200 ∧ (vi W x 4 = vi V5 x 4 ∧ (vi V5 x 5 ≠ 0 → vi W x 5 ≠ 0)) ∧ (AJI K V W x (vi V x 4).toNat i8 i9) ∧ True) (fun i8 i9 => [some (.ref x), some (ti i8), some (ti i9)]) (fun i8 i9 W => (2147483647 - i9).toNat) (-1) 0 ⟨by omega, by omega, by omega, by omega, by omega, (by first | exact AJI.beg rw3), trivial⟩ rfl (fun i8 i9 Wi8 hp1870 ih1869 => ?_)
  obtain ⟨l_i8, u_i8, l_i9, u_i9, n_i8, haj, -⟩ := hp1870
  have r_i8 : ir i8 := ⟨by omega, by omega⟩
  have r_i9 : ir i9 := ⟨by omega, by omega⟩
  show GO mX5_part_8 K V (VS K (fun V1 => (vi V1 x 4 = vi V x 4 ∧ (vi V x 5 ≠ 0 → vi V1 x 5 ≠ 0)) ∧ (CR K V V1 x (fun src e => parG src e (pieD src e (vi V x 4).toNat))))) K Wi8 0 0 8 [some (.ref x), some (ti i8), some (ti i9)] []
  refine GO.useWT (fun hWh => ?_)
  refine GO.iload_n dX5_part_8 rfl rfl ?_
  refine GO.sipush dX5_part_9 rfl ?_
  refine GO.icmp_ge (tgt := 69) dX5_part_12 (by decide) r_i9 (ir_c rfl) (fun c1871 => ?_) (fun c1871 => ?_)
  ·
    refine GO.aload_n dX5_part_69 rfl rfl ?_
    refine GO.getR h_x fl_RX5_31 rfl rfl dX5_part_70 (fun hv1873 h1872 => ?_)
    refine GO.iload_n dX5_part_73 rfl rfl ?_
    refine GO.callV (ci := 8) (N := mX9_lead) dX5_part_74 (RX9, TX9, 5) rfl gV_RX5_89 h1872 (t_X9_lead h1872 r_i8) rfl [] rfl rfl (Nat.le_of_ble_eq_true rfl) rfl (k_vs fun V1876 h1875 hF1874 => ?_)
    have raw_lead := h1875.2
    have rw74 := h1875.2
    have e1877 : vi V1876 x 4 = vi Wi8 x 4 := vi_fr hF1874 h_x h_x (by decide +kernel)
    have q1878 : -2147483648 ≤ vi Wi8 x 4 ∧ vi Wi8 x 4 ≤ 2147483647 := vi_ir
    have e1879 : vi V1876 x 5 = vi Wi8 x 5 := vi_fr hF1874 h_x h_x (by decide +kernel)
    have q1880 : -2147483648 ≤ vi Wi8 x 5 ∧ vi Wi8 x 5 ≤ 2147483647 := vi_ir
    exact GO.retv rfl rfl dX5_part_77 ⟨rfl, rfl, ⟨by omega, AJI.end haj (by omega) (by omega) h_x hWh rw74⟩⟩
  ·
    refine GO.aload_n dX5_part_15 rfl rfl ?_
    refine GO.getI h_x fl_RX5_18 rfl rfl dX5_part_16 (fun _ _ => ?_)
    refine GO.if_ne (tgt := 69) dX5_part_19 (by decide) vi_ir (fun c1881 => ?_) (fun c1881 => ?_)
    ·
      refine GO.aload_n dX5_part_69 rfl rfl ?_
      refine GO.getR h_x fl_RX5_31 rfl rfl dX5_part_70 (fun hv1883 h1882 => ?_)
      refine GO.iload_n dX5_part_73 rfl rfl ?_
      refine GO.callV (ci := 8) (N := mX9_lead) dX5_part_74 (RX9, TX9, 5) rfl gV_RX5_89 h1882 (t_X9_lead h1882 r_i8) rfl [] rfl rfl (Nat.le_of_ble_eq_true rfl) rfl (k_vs fun V1886 h1885 hF1884 => ?_)
      have raw_lead := h1885.2
      have rw74 := h1885.2
      have e1887 : vi V1886 x 4 = vi Wi8 x 4 := vi_fr hF1884 h_x h_x (by decide +kernel)
      have q1888 : -2147483648 ≤ vi Wi8 x 4 ∧ vi Wi8 x 4 ≤ 2147483647 := vi_ir
      have e1889 : vi V1886 x 5 = vi Wi8 x 5 := vi_fr hF1884 h_x h_x (by decide +kernel)
      have q1890 : -2147483648 ≤ vi Wi8 x 5 ∧ vi Wi8 x 5 ≤ 2147483647 := vi_ir
      exact GO.retv rfl rfl dX5_part_77 ⟨rfl, rfl, ⟨by omega, AJI.end haj (by omega) (by omega) h_x hWh rw74⟩⟩
    ·
      refine GO.aload_n dX5_part_22 rfl rfl ?_
      refine GO.callV (ci := 4) (N := mX5_next) dX5_part_23 (RX5, TX5, 7) rfl gV_RX5_61 h_x (t_X5_next h_x) rfl [] rfl rfl (Nat.le_of_ble_eq_true rfl) rfl (k_ip fun X1891 r1892 h1893 => ?_)
      refine GO.bipush dX5_part_26 rfl ?_
      refine GO.icmp_ne (tgt := 69) dX5_part_28 (by decide) r1892 (ir_c rfl) (fun c1894 => ?_) (fun c1894 => ?_)
      ·
        refine GO.aload_n dX5_part_69 rfl rfl ?_
        refine GO.getR h_x fl_RX5_31 rfl rfl dX5_part_70 (fun hv1896 h1895 => ?_)
        refine GO.iload_n dX5_part_73 rfl rfl ?_
        refine GO.callV (ci := 8) (N := mX9_lead) dX5_part_74 (RX9, TX9, 5) rfl gV_RX5_89 h1895 (t_X9_lead h1895 r_i8) rfl [] rfl rfl (Nat.le_of_ble_eq_true rfl) rfl (k_vs fun V1899 h1898 hF1897 => ?_)
        have raw_lead := h1898.2
        have rw74 := h1898.2
        have e1900 : vi V1899 x 4 = vi Wi8 x 4 := vi_fr hF1897 h_x h_x (by decide +kernel)
        have q1901 : -2147483648 ≤ vi Wi8 x 4 ∧ vi Wi8 x 4 ≤ 2147483647 := vi_ir
        have e1902 : vi V1899 x 5 = vi Wi8 x 5 := vi_fr hF1897 h_x h_x (by decide +kernel)
        have q1903 : -2147483648 ≤ vi Wi8 x 5 ∧ vi Wi8 x 5 ≤ 2147483647 := vi_ir
        exact GO.retv rfl rfl dX5_part_77 ⟨rfl, rfl, ⟨by omega, AJI.end haj (by omega) (by omega) h_x hWh rw74⟩⟩
      ·
        refine GO.aload_n dX5_part_31 rfl rfl ?_
        refine GO.dup dX5_part_32 rfl ?_
        refine GO.getI h_x fl_RX5_9 rfl rfl dX5_part_33 (fun _ _ => ?_)
        refine GO.iconst dX5_part_36 ?_
        refine GO.iadd dX5_part_37 ?_
        refine GO.norm2 (fun z1904 r1905 hn1906 hw1907 => ?_)
        refine GO.putI h_x fp_RX5_9 rfl (by decide +kernel) r1905 (r1905).1 (r1905).2 dX5_part_38 (fun V1909 e1908 => ?_)
        refine GO.useWT (fun hW2 => ?_)
        refine GO.aload_n dX5_part_41 rfl rfl ?_
        refine GO.getR h_x fl_RX5_31 rfl rfl dX5_part_42 (fun hv1911 h1910 => ?_)
        refine GO.iload_n dX5_part_45 rfl rfl ?_
        refine GO.callV (ci := 8) (N := mX9_lead) dX5_part_46 (RX9, TX9, 5) rfl gV_RX5_89 h1910 (t_X9_lead h1910 r_i8) rfl [] rfl rfl (Nat.le_of_ble_eq_true rfl) rfl (k_vs fun V1914 h1913 hF1912 => ?_)
        have raw_lead := h1913.2
        have rw46 := h1913.2
        refine GO.useWT (fun hW3 => ?_)
        refine GO.aload_n dX5_part_49 rfl rfl ?_
        refine GO.getRaw h_x fl_RX5_31 (Eq.trans (hF1912 _ _ _ h_x h_x (by decide +kernel)) hv1911) dX5_part_50 ?_
        refine GO.iconst dX5_part_53 ?_
        refine GO.iconst dX5_part_54 ?_
        refine GO.callV (ci := 8) (N := mX9_addStep) dX5_part_55 (RX9, TX9, 5) rfl gV_RX5_92 h1910 (t_X9_addStep h1910 (ir_c rfl) (ir_c rfl)) rfl [] rfl rfl (Nat.le_of_ble_eq_true rfl) rfl (k_is fun X1917 V1921 r1918 h1919 hF1920 => ?_)
        have raw_addStep := h1919.2
        have rw55 := h1919.2
        refine GO.istore_n (ls1 := [some (.ref x), some (ti X1917), some (ti i9)]) dX5_part_58 rfl rfl rfl ?_
        refine GO.aload_n dX5_part_59 rfl rfl ?_
        have e1924 : vi V1909 x 5 = vi Wi8 x 5 := vi_up e1908 (Or.inr (by decide))
        have e1923 : vi V1914 x 5 = vi V1909 x 5 := vi_fr hF1912 h_x h_x (by decide +kernel)
        have e1922 : vi V1921 x 5 = vi V1914 x 5 := vi_fr hF1920 h_x h_x (by decide +kernel)
        have e1927 : vi V1909 x 4 = vi Wi8 x 4 := vi_up e1908 (Or.inr (by decide))
        have e1926 : vi V1914 x 4 = vi V1909 x 4 := vi_fr hF1912 h_x h_x (by decide +kernel)
        have e1925 : vi V1921 x 4 = vi V1914 x 4 := vi_fr hF1920 h_x h_x (by decide +kernel)
        have q1928 : -2147483648 ≤ vi Wi8 x 4 ∧ vi Wi8 x 4 ≤ 2147483647 := vi_ir
        have q1929 : -2147483648 ≤ vi Wi8 x 5 ∧ vi Wi8 x 5 ≤ 2147483647 := vi_ir
        refine GO.callV (ci := 4) (N := mX5_piece_8) dX5_part_60 (RX5, TX5, 7) rfl gV_RX5_96 h_x (t_X5_piece_8 h_x (by omega)) rfl [] rfl rfl (Nat.le_of_ble_eq_true rfl) rfl (k_vs fun V1932 h1931 hF1930 => ?_)
        have raw_piece := h1931.2
        have rw60 := h1931.2
        refine GO.iinc (X := i9) (n := 1) (Y := i9 + 1) (ls1 := [some (.ref x), some (ti X1917), some (ti (i9 + 1))]) dX5_part_63 rfl rfl rfl rfl ?_
        refine GO.goto (tgt := 8) dX5_part_66 (by decide) ?_
        have q1935 : -2147483648 ≤ vi V1932 x 4 ∧ vi V1932 x 4 ≤ 2147483647 := vi_ir
        have q1936 : -2147483648 ≤ vi V1932 x 5 ∧ vi V1932 x 5 ≤ 2147483647 := vi_ir
        exact ih1869 X1917 (i9 + 1) V1932 ⟨by omega, by omega, by omega, by omega, by omega, (by first | exact AJI.beg rw3 | exact AJI.step haj (by omega) (by omega) (by omega) h_x hWh hW2 hW3 (by assumption) (by assumption) (by assumption) rw46 rw55 (CR.pie rw60 (by omega))), trivial⟩ (by show (2147483647 - (i9 + 1)).toNat < (2147483647 - i9).toNat; omega)

theorem t_X5_part_8 {K : Kmap} {V : Vmap} {x : Nat} (h_x : K x = some (0, 4)) (q_0 : (vi V x 5 ≠ 0 ∨ (vi V x 5 = 0 ∧ vi V x 4 ≥ 1 ∧ vi V x 4 ≤ 8))) : MC mX5_part_8 K V [.ref x] (VS K (fun V1 => (vi V1 x 4 = vi V x 4 ∧ (vi V x 5 ≠ 0 → vi V1 x 5 ≠ 0)) ∧ (CR K V V1 x (fun src e => parG src e (pieD src e (vi V x 4).toNat))))) := by
  rcases q_0 with h | h
  · exact t_X5_part_8_F h_x (by omega)
  · exact t_X5_part_8_G h_x (by omega) (by omega) (by omega)

set_option maxHeartbeats 1000000 in
theorem t_X5_parts_8_F {K : Kmap} {V : Vmap} {x : Nat} (h_x : K x = some (0, 4)) (q_0 : vi V x 5 ≠ 0) : MC mX5_parts_8 K V [.ref x] (VS K (fun V1 => (vi V1 x 4 = vi V x 4 ∧ (vi V x 5 ≠ 0 → vi V1 x 5 ≠ 0)) ∧ (CR K V V1 x (fun src e => parD src e (vi V x 4).toNat)))) := by
  refine MC.start 2 (by decide +kernel) rfl rfl rfl (ls0 := [some (.ref x), none, none]) rfl ?_
  refine GO.useWT (fun hW_0 => ?_)
  refine GO.iconst dX5_parts_0 ?_
  refine GO.istore_n (ls1 := [some (.ref x), some (ti (-1)), none]) dX5_parts_1 rfl rfl rfl ?_
  refine GO.aload_n dX5_parts_2 rfl rfl ?_
  have q1 : -2147483648 ≤ vi V x 4 ∧ vi V x 4 ≤ 2147483647 := vi_ir
  have q2 : -2147483648 ≤ vi V x 5 ∧ vi V x 5 ≤ 2147483647 := vi_ir
  refine GO.callV (ci := 4) (N := mX5_part_8) dX5_parts_3 (RX5, TX5, 7) rfl gV_RX5_86 h_x (t_X5_part_8 h_x (by omega)) rfl [] rfl rfl (Nat.le_of_ble_eq_true rfl) rfl (k_vs fun V5 h4 hF3 => ?_)
  have raw_part := h4.2
  have rw3 := h4.2
  refine GO.iconst dX5_parts_6 ?_
  refine GO.istore_n (ls1 := [some (.ref x), some (ti (-1)), some (ti 0)]) dX5_parts_7 rfl rfl rfl ?_
  have q10 : -2147483648 ≤ vi V5 x 4 ∧ vi V5 x 4 ≤ 2147483647 := vi_ir
  have q11 : -2147483648 ≤ vi V5 x 5 ∧ vi V5 x 5 ≤ 2147483647 := vi_ir
  refine GO.loop2 (fun i8 i9 W => (-1) ≤ i8 ∧ i8 ≤ (-1) ∧ 0 ≤ i9 ∧ i9 ≤ 0 ∧ (vi W x 4 = vi V5 x 4 ∧ (vi V5 x 5 ≠ 0 → vi W x 5 ≠ 0)) ∧ (OJI K V W x (vi V x 4).toNat i8 i9) ∧ True) (fun i8 i9 => [some (.ref x), some (ti i8), some (ti i9)]) (fun i8 i9 W => (2147483647 - i8).toNat) (-1) 0 ⟨by omega, by omega, by omega, by omega, by omega, (by first | exact OJI.beg rw3), trivial⟩ rfl (fun i8 i9 Wi8 hp24 ih23 => ?_)
  obtain ⟨l_i8, u_i8, l_i9, u_i9, n_i8, hoj, -⟩ := hp24
  have r_i8 : ir i8 := ⟨by omega, by omega⟩
  have r_i9 : ir i9 := ⟨by omega, by omega⟩
  show GO mX5_parts_8 K V (VS K (fun V1 => (vi V1 x 4 = vi V x 4 ∧ (vi V x 5 ≠ 0 → vi V1 x 5 ≠ 0)) ∧ (CR K V V1 x (fun src e => parD src e (vi V x 4).toNat)))) K Wi8 0 0 8 [some (.ref x), some (ti i8), some (ti i9)] []
  refine GO.useWT (fun hWh => ?_)
  refine GO.iload_n dX5_parts_8 rfl rfl ?_
  refine GO.sipush dX5_parts_9 rfl ?_
  refine GO.icmp_ge (tgt := 69) dX5_parts_12 (by decide) r_i9 (ir_c rfl) (fun h => by exfalso; omega) (fun c25 => ?_)
  refine GO.aload_n dX5_parts_15 rfl rfl ?_
  refine GO.getI h_x fl_RX5_18 rfl rfl dX5_parts_16 (fun _ _ => ?_)
  have q27 : -2147483648 ≤ vi Wi8 x 5 ∧ vi Wi8 x 5 ≤ 2147483647 := vi_ir
  refine GO.if_ne (tgt := 69) dX5_parts_19 (by decide) vi_ir (fun c26 => ?_) (fun h => by exfalso; omega)
  refine GO.aload_n dX5_parts_69 rfl rfl ?_
  refine GO.getR h_x fl_RX5_31 rfl rfl dX5_parts_70 (fun hv29 h28 => ?_)
  refine GO.iload_n dX5_parts_73 rfl rfl ?_
  refine GO.callV (ci := 8) (N := mX9_lead) dX5_parts_74 (RX9, TX9, 5) rfl gV_RX5_89 h28 (t_X9_lead h28 r_i8) rfl [] rfl rfl (Nat.le_of_ble_eq_true rfl) rfl (k_vs fun V32 h31 hF30 => ?_)
  have raw_lead := h31.2
  have rw74 := h31.2
  have e33 : vi V32 x 4 = vi Wi8 x 4 := vi_fr hF30 h_x h_x (by decide +kernel)
  have q34 : -2147483648 ≤ vi Wi8 x 4 ∧ vi Wi8 x 4 ≤ 2147483647 := vi_ir
  have e35 : vi V32 x 5 = vi Wi8 x 5 := vi_fr hF30 h_x h_x (by decide +kernel)
  exact GO.retv rfl rfl dX5_parts_77 ⟨rfl, rfl, ⟨by omega, OJI.end hoj (by omega) (by omega) h_x hWh rw74⟩⟩

set_option maxHeartbeats 1000000 in
theorem t_X5_parts_8_G {K : Kmap} {V : Vmap} {x : Nat} (h_x : K x = some (0, 4)) (q_0 : vi V x 5 = 0) (q_1 : vi V x 4 ≥ 1) (q_2 : vi V x 4 ≤ 8) : MC mX5_parts_8 K V [.ref x] (VS K (fun V1 => (vi V1 x 4 = vi V x 4 ∧ (vi V x 5 ≠ 0 → vi V1 x 5 ≠ 0)) ∧ (CR K V V1 x (fun src e => parD src e (vi V x 4).toNat)))) := by
  refine MC.start 2 (by decide +kernel) rfl rfl rfl (ls0 := [some (.ref x), none, none]) rfl ?_
  refine GO.useWT (fun hW_0 => ?_)
  refine GO.iconst dX5_parts_0 ?_
  refine GO.istore_n (ls1 := [some (.ref x), some (ti (-1)), none]) dX5_parts_1 rfl rfl rfl ?_
  refine GO.aload_n dX5_parts_2 rfl rfl ?_
  have q1 : -2147483648 ≤ vi V x 4 ∧ vi V x 4 ≤ 2147483647 := vi_ir
  have q2 : -2147483648 ≤ vi V x 5 ∧ vi V x 5 ≤ 2147483647 := vi_ir
  refine GO.callV (ci := 4) (N := mX5_part_8) dX5_parts_3 (RX5, TX5, 7) rfl gV_RX5_86 h_x (t_X5_part_8 h_x (by omega)) rfl [] rfl rfl (Nat.le_of_ble_eq_true rfl) rfl (k_vs fun V5 h4 hF3 => ?_)
  have raw_part := h4.2
  have rw3 := h4.2
  refine GO.iconst dX5_parts_6 ?_
  refine GO.istore_n (ls1 := [some (.ref x), some (ti (-1)), some (ti 0)]) dX5_parts_7 rfl rfl rfl ?_
  have q10 : -2147483648 ≤ vi V5 x 4 ∧ vi V5 x 4 ≤ 2147483647 := vi_ir
  have q11 : -2147483648 ≤ vi V5 x 5 ∧ vi V5 x 5 ≤ 2147483647 := vi_ir
  refine GO.loop2 (fun i8 i9 W => (-2147483648) ≤ i8 ∧ i8 ≤ 2147483647 ∧ 0 ≤ i9 ∧ i9 ≤ 200 ∧ (vi W x 4 = vi V5 x 4 ∧ (vi V5 x 5 ≠ 0 → vi W x 5 ≠ 0)) ∧ (OJI K V W x (vi V x 4).toNat i8 i9) ∧ True) (fun i8 i9 => [some (.ref x), some (ti i8), some (ti i9)]) (fun i8 i9 W => (2147483647 - i9).toNat) (-1) 0 ⟨by omega, by omega, by omega, by omega, by omega, (by first | exact OJI.beg rw3), trivial⟩ rfl (fun i8 i9 Wi8 hp1870 ih1869 => ?_)
  obtain ⟨l_i8, u_i8, l_i9, u_i9, n_i8, hoj, -⟩ := hp1870
  have r_i8 : ir i8 := ⟨by omega, by omega⟩
  have r_i9 : ir i9 := ⟨by omega, by omega⟩
  show GO mX5_parts_8 K V (VS K (fun V1 => (vi V1 x 4 = vi V x 4 ∧ (vi V x 5 ≠ 0 → vi V1 x 5 ≠ 0)) ∧ (CR K V V1 x (fun src e => parD src e (vi V x 4).toNat)))) K Wi8 0 0 8 [some (.ref x), some (ti i8), some (ti i9)] []
  refine GO.useWT (fun hWh => ?_)
  refine GO.iload_n dX5_parts_8 rfl rfl ?_
  refine GO.sipush dX5_parts_9 rfl ?_
  refine GO.icmp_ge (tgt := 69) dX5_parts_12 (by decide) r_i9 (ir_c rfl) (fun c1871 => ?_) (fun c1871 => ?_)
  ·
    refine GO.aload_n dX5_parts_69 rfl rfl ?_
    refine GO.getR h_x fl_RX5_31 rfl rfl dX5_parts_70 (fun hv1873 h1872 => ?_)
    refine GO.iload_n dX5_parts_73 rfl rfl ?_
    refine GO.callV (ci := 8) (N := mX9_lead) dX5_parts_74 (RX9, TX9, 5) rfl gV_RX5_89 h1872 (t_X9_lead h1872 r_i8) rfl [] rfl rfl (Nat.le_of_ble_eq_true rfl) rfl (k_vs fun V1876 h1875 hF1874 => ?_)
    have raw_lead := h1875.2
    have rw74 := h1875.2
    have e1877 : vi V1876 x 4 = vi Wi8 x 4 := vi_fr hF1874 h_x h_x (by decide +kernel)
    have q1878 : -2147483648 ≤ vi Wi8 x 4 ∧ vi Wi8 x 4 ≤ 2147483647 := vi_ir
    have e1879 : vi V1876 x 5 = vi Wi8 x 5 := vi_fr hF1874 h_x h_x (by decide +kernel)
    have q1880 : -2147483648 ≤ vi Wi8 x 5 ∧ vi Wi8 x 5 ≤ 2147483647 := vi_ir
    exact GO.retv rfl rfl dX5_parts_77 ⟨rfl, rfl, ⟨by omega, OJI.end hoj (by omega) (by omega) h_x hWh rw74⟩⟩
  ·
    refine GO.aload_n dX5_parts_15 rfl rfl ?_
    refine GO.getI h_x fl_RX5_18 rfl rfl dX5_parts_16 (fun _ _ => ?_)
    refine GO.if_ne (tgt := 69) dX5_parts_19 (by decide) vi_ir (fun c1881 => ?_) (fun c1881 => ?_)
    ·
      refine GO.aload_n dX5_parts_69 rfl rfl ?_
      refine GO.getR h_x fl_RX5_31 rfl rfl dX5_parts_70 (fun hv1883 h1882 => ?_)
      refine GO.iload_n dX5_parts_73 rfl rfl ?_
      refine GO.callV (ci := 8) (N := mX9_lead) dX5_parts_74 (RX9, TX9, 5) rfl gV_RX5_89 h1882 (t_X9_lead h1882 r_i8) rfl [] rfl rfl (Nat.le_of_ble_eq_true rfl) rfl (k_vs fun V1886 h1885 hF1884 => ?_)
      have raw_lead := h1885.2
      have rw74 := h1885.2
      have e1887 : vi V1886 x 4 = vi Wi8 x 4 := vi_fr hF1884 h_x h_x (by decide +kernel)
      have q1888 : -2147483648 ≤ vi Wi8 x 4 ∧ vi Wi8 x 4 ≤ 2147483647 := vi_ir
      have e1889 : vi V1886 x 5 = vi Wi8 x 5 := vi_fr hF1884 h_x h_x (by decide +kernel)
      have q1890 : -2147483648 ≤ vi Wi8 x 5 ∧ vi Wi8 x 5 ≤ 2147483647 := vi_ir
      exact GO.retv rfl rfl dX5_parts_77 ⟨rfl, rfl, ⟨by omega, OJI.end hoj (by omega) (by omega) h_x hWh rw74⟩⟩
    ·
      refine GO.aload_n dX5_parts_22 rfl rfl ?_
      refine GO.callV (ci := 4) (N := mX5_next) dX5_parts_23 (RX5, TX5, 7) rfl gV_RX5_61 h_x (t_X5_next h_x) rfl [] rfl rfl (Nat.le_of_ble_eq_true rfl) rfl (k_ip fun X1891 r1892 h1893 => ?_)
      refine GO.bipush dX5_parts_26 rfl ?_
      refine GO.icmp_ne (tgt := 69) dX5_parts_28 (by decide) r1892 (ir_c rfl) (fun c1894 => ?_) (fun c1894 => ?_)
      ·
        refine GO.aload_n dX5_parts_69 rfl rfl ?_
        refine GO.getR h_x fl_RX5_31 rfl rfl dX5_parts_70 (fun hv1896 h1895 => ?_)
        refine GO.iload_n dX5_parts_73 rfl rfl ?_
        refine GO.callV (ci := 8) (N := mX9_lead) dX5_parts_74 (RX9, TX9, 5) rfl gV_RX5_89 h1895 (t_X9_lead h1895 r_i8) rfl [] rfl rfl (Nat.le_of_ble_eq_true rfl) rfl (k_vs fun V1899 h1898 hF1897 => ?_)
        have raw_lead := h1898.2
        have rw74 := h1898.2
        have e1900 : vi V1899 x 4 = vi Wi8 x 4 := vi_fr hF1897 h_x h_x (by decide +kernel)
        have q1901 : -2147483648 ≤ vi Wi8 x 4 ∧ vi Wi8 x 4 ≤ 2147483647 := vi_ir
        have e1902 : vi V1899 x 5 = vi Wi8 x 5 := vi_fr hF1897 h_x h_x (by decide +kernel)
        have q1903 : -2147483648 ≤ vi Wi8 x 5 ∧ vi Wi8 x 5 ≤ 2147483647 := vi_ir
        exact GO.retv rfl rfl dX5_parts_77 ⟨rfl, rfl, ⟨by omega, OJI.end hoj (by omega) (by omega) h_x hWh rw74⟩⟩
      ·
        refine GO.aload_n dX5_parts_31 rfl rfl ?_
        refine GO.dup dX5_parts_32 rfl ?_
        refine GO.getI h_x fl_RX5_9 rfl rfl dX5_parts_33 (fun _ _ => ?_)
        refine GO.iconst dX5_parts_36 ?_
        refine GO.iadd dX5_parts_37 ?_
        refine GO.norm2 (fun z1904 r1905 hn1906 hw1907 => ?_)
        refine GO.putI h_x fp_RX5_9 rfl (by decide +kernel) r1905 (r1905).1 (r1905).2 dX5_parts_38 (fun V1909 e1908 => ?_)
        refine GO.useWT (fun hW2 => ?_)
        refine GO.aload_n dX5_parts_41 rfl rfl ?_
        refine GO.getR h_x fl_RX5_31 rfl rfl dX5_parts_42 (fun hv1911 h1910 => ?_)
        refine GO.iload_n dX5_parts_45 rfl rfl ?_
        refine GO.callV (ci := 8) (N := mX9_lead) dX5_parts_46 (RX9, TX9, 5) rfl gV_RX5_89 h1910 (t_X9_lead h1910 r_i8) rfl [] rfl rfl (Nat.le_of_ble_eq_true rfl) rfl (k_vs fun V1914 h1913 hF1912 => ?_)
        have raw_lead := h1913.2
        have rw46 := h1913.2
        refine GO.useWT (fun hW3 => ?_)
        refine GO.aload_n dX5_parts_49 rfl rfl ?_
        refine GO.getRaw h_x fl_RX5_31 (Eq.trans (hF1912 _ _ _ h_x h_x (by decide +kernel)) hv1911) dX5_parts_50 ?_
        refine GO.iconst dX5_parts_53 ?_
        refine GO.iconst dX5_parts_54 ?_
        refine GO.callV (ci := 8) (N := mX9_addStep) dX5_parts_55 (RX9, TX9, 5) rfl gV_RX5_92 h1910 (t_X9_addStep h1910 (ir_c rfl) (ir_c rfl)) rfl [] rfl rfl (Nat.le_of_ble_eq_true rfl) rfl (k_is fun X1917 V1921 r1918 h1919 hF1920 => ?_)
        have raw_addStep := h1919.2
        have rw55 := h1919.2
        refine GO.istore_n (ls1 := [some (.ref x), some (ti X1917), some (ti i9)]) dX5_parts_58 rfl rfl rfl ?_
        refine GO.aload_n dX5_parts_59 rfl rfl ?_
        have e1924 : vi V1909 x 5 = vi Wi8 x 5 := vi_up e1908 (Or.inr (by decide))
        have e1923 : vi V1914 x 5 = vi V1909 x 5 := vi_fr hF1912 h_x h_x (by decide +kernel)
        have e1922 : vi V1921 x 5 = vi V1914 x 5 := vi_fr hF1920 h_x h_x (by decide +kernel)
        have e1927 : vi V1909 x 4 = vi Wi8 x 4 := vi_up e1908 (Or.inr (by decide))
        have e1926 : vi V1914 x 4 = vi V1909 x 4 := vi_fr hF1912 h_x h_x (by decide +kernel)
        have e1925 : vi V1921 x 4 = vi V1914 x 4 := vi_fr hF1920 h_x h_x (by decide +kernel)
        have q1928 : -2147483648 ≤ vi Wi8 x 4 ∧ vi Wi8 x 4 ≤ 2147483647 := vi_ir
        have q1929 : -2147483648 ≤ vi Wi8 x 5 ∧ vi Wi8 x 5 ≤ 2147483647 := vi_ir
        refine GO.callV (ci := 4) (N := mX5_part_8) dX5_parts_60 (RX5, TX5, 7) rfl gV_RX5_86 h_x (t_X5_part_8 h_x (by omega)) rfl [] rfl rfl (Nat.le_of_ble_eq_true rfl) rfl (k_vs fun V1932 h1931 hF1930 => ?_)
        have raw_part := h1931.2
        have rw60 := h1931.2
        refine GO.iinc (X := i9) (n := 1) (Y := i9 + 1) (ls1 := [some (.ref x), some (ti X1917), some (ti (i9 + 1))]) dX5_parts_63 rfl rfl rfl rfl ?_
        refine GO.goto (tgt := 8) dX5_parts_66 (by decide) ?_
        have q1935 : -2147483648 ≤ vi V1932 x 4 ∧ vi V1932 x 4 ≤ 2147483647 := vi_ir
        have q1936 : -2147483648 ≤ vi V1932 x 5 ∧ vi V1932 x 5 ≤ 2147483647 := vi_ir
        exact ih1869 X1917 (i9 + 1) V1932 ⟨by omega, by omega, by omega, by omega, by omega, (by first | exact OJI.beg rw3 | exact OJI.step hoj (by omega) (by omega) (by omega) h_x hWh hW2 hW3 (by assumption) (by assumption) (by assumption) rw46 rw55 (CR.prt rw60 (by omega))), trivial⟩ (by show (2147483647 - (i9 + 1)).toNat < (2147483647 - i9).toNat; omega)

theorem t_X5_parts_8 {K : Kmap} {V : Vmap} {x : Nat} (h_x : K x = some (0, 4)) (q_0 : (vi V x 5 ≠ 0 ∨ (vi V x 5 = 0 ∧ vi V x 4 ≥ 1 ∧ vi V x 4 ≤ 8))) : MC mX5_parts_8 K V [.ref x] (VS K (fun V1 => (vi V1 x 4 = vi V x 4 ∧ (vi V x 5 ≠ 0 → vi V1 x 5 ≠ 0)) ∧ (CR K V V1 x (fun src e => parD src e (vi V x 4).toNat)))) := by
  rcases q_0 with h | h
  · exact t_X5_parts_8_F h_x (by omega)
  · exact t_X5_parts_8_G h_x (by omega) (by omega) (by omega)

set_option maxHeartbeats 1000000 in
theorem t_X5_condition {K : Kmap} {V : Vmap} {x : Nat} (h_x : K x = some (0, 4)) (q_0 : vi V x 4 = 0) : MC mX5_condition K V [.ref x] (VS K (fun V1 => (vi V1 x 4 = 0) ∧ (CNT K V V1 x))) := by
  refine MC.start 0 (by decide +kernel) rfl rfl rfl (ls0 := [some (.ref x)]) rfl ?_
  refine GO.useWT (fun hW_0 => ?_)
  refine GO.aload_n dX5_condition_0 rfl rfl ?_
  refine GO.iconst dX5_condition_1 ?_
  refine GO.aload_n dX5_condition_2 rfl rfl ?_
  refine GO.getR h_x fl_RX5_31 rfl rfl dX5_condition_3 (fun hv2 h1 => ?_)
  refine GO.getI h1 fl_RX5_77 rfl rfl dX5_condition_6 (fun _ _ => ?_)
  refine GO.callV (ci := 4) (N := mX5_set) dX5_condition_9 (RX5, TX5, 7) rfl gV_RX5_73 h_x (t_X5_set h_x (ir_c rfl) vi_ir) rfl [] rfl rfl (Nat.le_of_ble_eq_true rfl) rfl (k_vs fun V5 h4 hF3 => ?_)
  have raw_set := h4.2
  have rw9 := h4.2
  refine GO.useWT (fun hW1 => ?_)
  refine GO.aload_n dX5_condition_12 rfl rfl ?_
  refine GO.bipush dX5_condition_13 rfl ?_
  have e6 : vi V5 x 4 = vi V x 4 := vi_fr hF3 h_x h_x (by decide +kernel)
  have q7 : -2147483648 ≤ vi V x 4 ∧ vi V x 4 ≤ 2147483647 := vi_ir
  refine GO.callV (ci := 4) (N := mX5_deepen) dX5_condition_15 (RX5, TX5, 7) rfl gV_RX5_80 h_x (t_X5_deepen h_x (ir_c rfl) (by omega) (by omega) (by omega)) rfl [] rfl rfl (Nat.le_of_ble_eq_true rfl) rfl (k_vs fun V11 h10 hF9 => ?_)
  have raw_deepen := h10.2
  have rw15 := h10.2
  refine GO.useWT (fun hW2 => ?_)
  refine GO.aload_n dX5_condition_18 rfl rfl ?_
  have q14 : -2147483648 ≤ vi V11 x 4 ∧ vi V11 x 4 ≤ 2147483647 := vi_ir
  have q15 : -2147483648 ≤ vi V11 x 5 ∧ vi V11 x 5 ≤ 2147483647 := vi_ir
  refine GO.callV (ci := 4) (N := mX5_parts_8) dX5_condition_19 (RX5, TX5, 7) rfl gV_RX5_83 h_x (t_X5_parts_8 h_x (by omega)) rfl [] rfl rfl (Nat.le_of_ble_eq_true rfl) rfl (k_vs fun V18 h17 hF16 => ?_)
  have raw_parts := h17.2
  have rw19 := h17.2
  refine GO.useWT (fun hW3 => ?_)
  refine GO.aload_n dX5_condition_22 rfl rfl ?_
  refine GO.dup dX5_condition_23 rfl ?_
  refine GO.getI h_x fl_RX5_15 rfl rfl dX5_condition_24 (fun _ _ => ?_)
  refine GO.iconst dX5_condition_27 ?_
  refine GO.isub dX5_condition_28 ?_
  have q22 : -2147483648 ≤ vi V18 x 4 ∧ vi V18 x 4 ≤ 2147483647 := vi_ir
  refine GO.putI h_x fp_RX5_15 rfl (by decide +kernel) ⟨by omega, by omega⟩ (by omega) (by omega) dX5_condition_29 (fun V23 e21 => ?_)
  refine GO.useWT (fun hW4 => ?_)
  refine GO.aload_n dX5_condition_32 rfl rfl ?_
  refine GO.bipush dX5_condition_33 rfl ?_
  have e24 : vi V23 x 5 = vi V18 x 5 := vi_up e21 (Or.inr (by decide))
  refine GO.callV (ci := 4) (N := mX5_take) dX5_condition_35 (RX5, TX5, 7) rfl gV_RX5_38 h_x (t_X5_take h_x (ir_c rfl) (by omega)) rfl [] rfl rfl (Nat.le_of_ble_eq_true rfl) rfl (k_vs fun V27 h26 hF25 => ?_)
  have raw_take := h26.2
  have rw35 := h26.2
  refine GO.useWT (fun hW5 => ?_)
  refine GO.useFR (fun hFz => ?_)
  have h2z : vq V27 x 2 = vq V x 2 := vq_eq (hFz _ _ 2 h_x h_x (by decide +kernel))
  refine GO.aload_n dX5_condition_38 rfl rfl ?_
  refine GO.iconst dX5_condition_39 ?_
  refine GO.aload_n dX5_condition_40 rfl rfl ?_
  refine GO.getRaw h_x fl_RX5_31 (Eq.trans (hF25 _ _ _ h_x h_x (by decide +kernel)) (Eq.trans (uq_ne e21 (Or.inr (by decide))) (Eq.trans (hF16 _ _ _ h_x h_x (by decide +kernel)) (Eq.trans (hF9 _ _ _ h_x h_x (by decide +kernel)) (Eq.trans (hF3 _ _ _ h_x h_x (by decide +kernel)) hv2))))) dX5_condition_41 ?_
  refine GO.getI h1 fl_RX5_77 rfl rfl dX5_condition_44 (fun _ _ => ?_)
  refine GO.callV (ci := 4) (N := mX5_set) dX5_condition_47 (RX5, TX5, 7) rfl gV_RX5_73 h_x (t_X5_set h_x (ir_c rfl) vi_ir) rfl [] rfl rfl (Nat.le_of_ble_eq_true rfl) rfl (k_vs fun V33 h32 hF31 => ?_)
  have raw_set := h32.2
  have rw47 := h32.2
  have e36 : vi V23 x 4 = (vi V18 x 4) - 1 := upd2_int e21 ⟨by omega, by omega⟩
  have e35 : vi V27 x 4 = vi V23 x 4 := vi_fr hF25 h_x h_x (by decide +kernel)
  have e34 : vi V33 x 4 = vi V27 x 4 := vi_fr hF31 h_x h_x (by decide +kernel)
  exact GO.retv rfl rfl dX5_condition_50 ⟨rfl, rfl, ⟨by omega, CNT.mk rw9 rfl h_x hW_0 hW1 (by assumption) (by decide +kernel) rw15 (by omega) (by assumption) (by decide +kernel) hW2 rw19 (by omega) (by assumption) (by decide +kernel) hW3 (by assumption) hW4 rw35 (by assumption) (by decide +kernel) hW5 rw47 (by unfold scN scT; rw [h2z]) (by assumption) (by decide +kernel)⟩⟩

set_option maxHeartbeats 1000000 in
theorem t_X5_clause {K : Kmap} {V : Vmap} {x : Nat} (h_x : K x = some (0, 4)) (q_0 : vi V x 4 = 0) (q_1 : vi V x 5 = 0) : MC mX5_clause K V [.ref x] (VS K (fun V1 => (vi V1 x 4 = 0) ∧ (CLS K V V1 x))) := by
  refine MC.start 1 (by decide +kernel) rfl rfl rfl (ls0 := [some (.ref x), none]) rfl ?_
  refine GO.useWT (fun hW_0 => ?_)
  refine GO.aload_n dX5_clause_0 rfl rfl ?_
  refine GO.callV (ci := 4) (N := mX5_next) dX5_clause_1 (RX5, TX5, 7) rfl gV_RX5_61 h_x (t_X5_next h_x) rfl [] rfl rfl (Nat.le_of_ble_eq_true rfl) rfl (k_ip fun X1 r2 h3 => ?_)
  refine GO.istore_n (ls1 := [some (.ref x), some (ti X1)]) dX5_clause_4 rfl rfl rfl ?_
  refine GO.iload_n dX5_clause_5 rfl rfl ?_
  refine GO.callS (N := mX5_isClauseLetter) dX5_clause_6 gS_RX5_65 (t_X5_isClauseLetter r2) rfl [] rfl rfl (Nat.le_of_ble_eq_true rfl) rfl (k_ip fun X4 r5 h6 => ?_)
  refine GO.if_ne (tgt := 22) dX5_clause_9 (by decide) r5 (fun c7 => ?_) (fun c7 => ?_)
  ·
    have q8 := h6.2.1 (by omega)
    refine GO.aload_n dX5_clause_22 rfl rfl ?_
    refine GO.getR h_x fl_RX5_31 rfl rfl dX5_clause_23 (fun hv10 h9 => ?_)
    refine GO.getR h9 fl_RX5_42 rfl rfl dX5_clause_26 (fun hv12 h11 => ?_)
    refine GO.iload_n dX5_clause_29 rfl rfl ?_
    refine GO.iconst dX5_clause_30 ?_
    refine GO.iconst dX5_clause_31 ?_
    refine GO.iconst dX5_clause_32 ?_
    refine GO.iconst dX5_clause_33 ?_
    refine GO.callV (ci := 33) (N := mX8_append_k33) dX5_clause_34 (RX8, TX8, 4) rfl gV_RX5_48 h11 (t_X8_append_k33 h11 r2 (ir_c rfl) (ir_c rfl) (ir_c rfl) (ir_c rfl)) rfl [] rfl rfl (Nat.le_of_ble_eq_true rfl) rfl (k_is fun X13 V17 r14 h15 hF16 => ?_)
    have raw_append := h15.2
    have rw34 := h15.2
    refine GO.iconst dX5_clause_37 ?_
    refine GO.icmp_ne (tgt := 51) dX5_clause_38 (by decide) r14 (ir_c rfl) (fun c18 => ?_) (fun c18 => ?_)
    ·
      refine GO.useWT (fun hW1 => ?_)
      refine GO.aload_n dX5_clause_51 rfl rfl ?_
      refine GO.dup dX5_clause_52 rfl ?_
      refine GO.getI h_x fl_RX5_9 rfl rfl dX5_clause_53 (fun _ _ => ?_)
      refine GO.iconst dX5_clause_56 ?_
      refine GO.iadd dX5_clause_57 ?_
      refine GO.norm2 (fun z20 r21 hn22 hw23 => ?_)
      refine GO.putI h_x fp_RX5_9 rfl (by decide +kernel) r21 (r21).1 (r21).2 dX5_clause_58 (fun V25 e24 => ?_)
      refine GO.useWT (fun hWp => ?_)
      have hci := CLI.beg (by unfold isCL; exact decide_eq_true (by omega)) (by omega) rw34 (by omega) h_x hW_0 hW1 (by assumption) (by decide +kernel) (by assumption) (by assumption) (by assumption) (by assumption)
      refine GO.iload_n dX5_clause_61 rfl rfl ?_
      refine GO.bipush dX5_clause_62 rfl ?_
      refine GO.icmp_ne (tgt := 102) dX5_clause_64 (by decide) r2 (ir_c rfl) (fun c26 => ?_) (fun c26 => ?_)
      ·
        refine GO.iload_n dX5_clause_102 rfl rfl ?_
        refine GO.bipush dX5_clause_103 rfl ?_
        refine GO.icmp_ne (tgt := 139) dX5_clause_105 (by decide) r2 (ir_c rfl) (fun c27 => ?_) (fun c27 => ?_)
        ·
          refine GO.iload_n dX5_clause_139 rfl rfl ?_
          refine GO.bipush dX5_clause_140 rfl ?_
          refine GO.icmp_eq (tgt := 169) dX5_clause_142 (by decide) r2 (ir_c rfl) (fun c28 => ?_) (fun c28 => ?_)
          ·
            have hci := hci.to (rest1 := fun src e s => bnc (conF src e s) (gL src e X1)) (fun src e s => by unfold claG; rw [if_neg (by omega), if_neg (by omega), if_pos (by omega)])
            refine GO.aload_n dX5_clause_169 rfl rfl ?_
            have e30 : vi V17 x 4 = vi V x 4 := vi_fr hF16 h_x h_x (by decide +kernel)
            have e29 : vi V25 x 4 = vi V17 x 4 := vi_up e24 (Or.inr (by decide))
            have q31 : -2147483648 ≤ vi V x 4 ∧ vi V x 4 ≤ 2147483647 := vi_ir
            refine GO.callV (ci := 4) (N := mX5_condition) dX5_clause_170 (RX5, TX5, 7) rfl gV_RX5_54 h_x (t_X5_condition h_x (by omega)) rfl [] rfl rfl (Nat.le_of_ble_eq_true rfl) rfl (k_vs fun V34 h33 hF32 => ?_)
            have raw_condition := h33.2
            have rw170 := h33.2
            try have hcq := CLI.con hci rw170
            refine GO.iload_n dX5_clause_173 rfl rfl ?_
            refine GO.bipush dX5_clause_174 rfl ?_
            refine GO.icmp_eq (tgt := 209) dX5_clause_176 (by decide) r2 (ir_c rfl) (fun h => by exfalso; omega) (fun c36 => ?_)
            refine GO.iload_n dX5_clause_179 rfl rfl ?_
            refine GO.bipush dX5_clause_180 rfl ?_
            refine GO.icmp_eq (tgt := 209) dX5_clause_182 (by decide) r2 (ir_c rfl) (fun h => by exfalso; omega) (fun c37 => ?_)
            refine GO.iload_n dX5_clause_185 rfl rfl ?_
            refine GO.bipush dX5_clause_186 rfl ?_
            refine GO.icmp_eq (tgt := 209) dX5_clause_188 (by decide) r2 (ir_c rfl) (fun h => by exfalso; omega) (fun c38 => ?_)
            refine GO.iload_n dX5_clause_191 rfl rfl ?_
            refine GO.bipush dX5_clause_192 rfl ?_
            refine GO.icmp_eq (tgt := 209) dX5_clause_194 (by decide) r2 (ir_c rfl) (fun h => by exfalso; omega) (fun c39 => ?_)
            refine GO.iload_n dX5_clause_197 rfl rfl ?_
            refine GO.bipush dX5_clause_198 rfl ?_
            refine GO.icmp_eq (tgt := 209) dX5_clause_200 (by decide) r2 (ir_c rfl) (fun h => by exfalso; omega) (fun c40 => ?_)
            refine GO.iload_n dX5_clause_203 rfl rfl ?_
            refine GO.bipush dX5_clause_204 rfl ?_
            refine GO.icmp_ne (tgt := 220) dX5_clause_206 (by decide) r2 (ir_c rfl) (fun c41 => ?_) (fun h => by exfalso; omega)
            try have hci := CLI.set hci rw217 h_x hW8 (by assumption) (by decide +kernel) (by decide) (by decide) (by assumption)
            have q42 : -2147483648 ≤ vi V34 x 4 ∧ vi V34 x 4 ≤ 2147483647 := vi_ir
            exact GO.retv rfl rfl dX5_clause_220 ⟨rfl, rfl, ⟨by omega, (by first | exact CLI.end hci rfl ⟨fun q => by first | exact Bool.noConfusion q | (show askB X1; unfold askB; omega), fun q => by first | rfl | (exfalso; have q1 : askB X1 := q; unfold askB at q1; omega)⟩ | exact CLI.end (hcq.to (rest1 := fun _ _ s => .ok (s, (X1, 0, 0, 0))) (fun src e s => by unfold gL; rw [if_neg (by omega)]; rfl)) rfl ⟨fun q => by first | exact Bool.noConfusion q | (show askB X1; unfold askB; omega), fun q => by first | rfl | (exfalso; have q1 : askB X1 := q; unfold askB at q1; omega)⟩ | exact CLI.end (hci.to (rest1 := fun _ _ s => .ok (s, (X1, 0, 0, 0))) (fun src e s => by unfold claG; rw [if_neg (by omega), if_neg (by omega), if_neg (by omega), if_neg (by omega)]; rfl)) rfl ⟨fun q => by first | exact Bool.noConfusion q | (show askB X1; unfold askB; omega), fun q => by first | rfl | (exfalso; have q1 : askB X1 := q; unfold askB at q1; omega)⟩)⟩⟩
          ·
            refine GO.iload_n dX5_clause_145 rfl rfl ?_
            refine GO.bipush dX5_clause_146 rfl ?_
            refine GO.icmp_eq (tgt := 169) dX5_clause_148 (by decide) r2 (ir_c rfl) (fun c43 => ?_) (fun c43 => ?_)
            ·
              have hci := hci.to (rest1 := fun src e s => bnc (conF src e s) (gL src e X1)) (fun src e s => by unfold claG; rw [if_neg (by omega), if_neg (by omega), if_pos (by omega)])
              refine GO.aload_n dX5_clause_169 rfl rfl ?_
              have e45 : vi V17 x 4 = vi V x 4 := vi_fr hF16 h_x h_x (by decide +kernel)
              have e44 : vi V25 x 4 = vi V17 x 4 := vi_up e24 (Or.inr (by decide))
              have q46 : -2147483648 ≤ vi V x 4 ∧ vi V x 4 ≤ 2147483647 := vi_ir
              refine GO.callV (ci := 4) (N := mX5_condition) dX5_clause_170 (RX5, TX5, 7) rfl gV_RX5_54 h_x (t_X5_condition h_x (by omega)) rfl [] rfl rfl (Nat.le_of_ble_eq_true rfl) rfl (k_vs fun V49 h48 hF47 => ?_)
              have raw_condition := h48.2
              have rw170 := h48.2
              try have hcq := CLI.con hci rw170
              refine GO.iload_n dX5_clause_173 rfl rfl ?_
              refine GO.bipush dX5_clause_174 rfl ?_
              refine GO.icmp_eq (tgt := 209) dX5_clause_176 (by decide) r2 (ir_c rfl) (fun h => by exfalso; omega) (fun c51 => ?_)
              refine GO.iload_n dX5_clause_179 rfl rfl ?_
              refine GO.bipush dX5_clause_180 rfl ?_
              refine GO.icmp_eq (tgt := 209) dX5_clause_182 (by decide) r2 (ir_c rfl) (fun h => by exfalso; omega) (fun c52 => ?_)
              refine GO.iload_n dX5_clause_185 rfl rfl ?_
              refine GO.bipush dX5_clause_186 rfl ?_
              refine GO.icmp_eq (tgt := 209) dX5_clause_188 (by decide) r2 (ir_c rfl) (fun h => by exfalso; omega) (fun c53 => ?_)
              refine GO.iload_n dX5_clause_191 rfl rfl ?_
              refine GO.bipush dX5_clause_192 rfl ?_
              refine GO.icmp_eq (tgt := 209) dX5_clause_194 (by decide) r2 (ir_c rfl) (fun h => by exfalso; omega) (fun c54 => ?_)
              refine GO.iload_n dX5_clause_197 rfl rfl ?_
              refine GO.bipush dX5_clause_198 rfl ?_
              refine GO.icmp_eq (tgt := 209) dX5_clause_200 (by decide) r2 (ir_c rfl) (fun h => by exfalso; omega) (fun c55 => ?_)
              refine GO.iload_n dX5_clause_203 rfl rfl ?_
              refine GO.bipush dX5_clause_204 rfl ?_
              refine GO.icmp_ne (tgt := 220) dX5_clause_206 (by decide) r2 (ir_c rfl) (fun c56 => ?_) (fun h => by exfalso; omega)
              try have hci := CLI.set hci rw217 h_x hW8 (by assumption) (by decide +kernel) (by decide) (by decide) (by assumption)
              have q57 : -2147483648 ≤ vi V49 x 4 ∧ vi V49 x 4 ≤ 2147483647 := vi_ir
              exact GO.retv rfl rfl dX5_clause_220 ⟨rfl, rfl, ⟨by omega, (by first | exact CLI.end hci rfl ⟨fun q => by first | exact Bool.noConfusion q | (show askB X1; unfold askB; omega), fun q => by first | rfl | (exfalso; have q1 : askB X1 := q; unfold askB at q1; omega)⟩ | exact CLI.end (hcq.to (rest1 := fun _ _ s => .ok (s, (X1, 0, 0, 0))) (fun src e s => by unfold gL; rw [if_neg (by omega)]; rfl)) rfl ⟨fun q => by first | exact Bool.noConfusion q | (show askB X1; unfold askB; omega), fun q => by first | rfl | (exfalso; have q1 : askB X1 := q; unfold askB at q1; omega)⟩ | exact CLI.end (hci.to (rest1 := fun _ _ s => .ok (s, (X1, 0, 0, 0))) (fun src e s => by unfold claG; rw [if_neg (by omega), if_neg (by omega), if_neg (by omega), if_neg (by omega)]; rfl)) rfl ⟨fun q => by first | exact Bool.noConfusion q | (show askB X1; unfold askB; omega), fun q => by first | rfl | (exfalso; have q1 : askB X1 := q; unfold askB at q1; omega)⟩)⟩⟩
            ·
              refine GO.iload_n dX5_clause_151 rfl rfl ?_
              refine GO.bipush dX5_clause_152 rfl ?_
              refine GO.icmp_eq (tgt := 169) dX5_clause_154 (by decide) r2 (ir_c rfl) (fun c58 => ?_) (fun c58 => ?_)
              ·
                have hci := hci.to (rest1 := fun src e s => bnc (conF src e s) (gL src e X1)) (fun src e s => by unfold claG; rw [if_neg (by omega), if_neg (by omega), if_pos (by omega)])
                refine GO.aload_n dX5_clause_169 rfl rfl ?_
                have e60 : vi V17 x 4 = vi V x 4 := vi_fr hF16 h_x h_x (by decide +kernel)
                have e59 : vi V25 x 4 = vi V17 x 4 := vi_up e24 (Or.inr (by decide))
                have q61 : -2147483648 ≤ vi V x 4 ∧ vi V x 4 ≤ 2147483647 := vi_ir
                refine GO.callV (ci := 4) (N := mX5_condition) dX5_clause_170 (RX5, TX5, 7) rfl gV_RX5_54 h_x (t_X5_condition h_x (by omega)) rfl [] rfl rfl (Nat.le_of_ble_eq_true rfl) rfl (k_vs fun V64 h63 hF62 => ?_)
                have raw_condition := h63.2
                have rw170 := h63.2
                try have hcq := CLI.con hci rw170
                refine GO.iload_n dX5_clause_173 rfl rfl ?_
                refine GO.bipush dX5_clause_174 rfl ?_
                refine GO.icmp_eq (tgt := 209) dX5_clause_176 (by decide) r2 (ir_c rfl) (fun c66 => ?_) (fun h => by exfalso; omega)
                refine GO.useWT (fun hW7 => ?_)
                try have hci := hcq.to (rest1 := fun src e => kE src e X1 0 0) (fun src e s => by unfold gL; rw [if_pos (by omega)])
                try have hci := hci.to (rest1 := fun src e => kE src e X1 0 0) (fun src e s => by unfold claG; rw [if_neg (by omega), if_neg (by omega), if_neg (by omega), if_pos (by omega)])
                refine GO.aload_n dX5_clause_209 rfl rfl ?_
                refine GO.iconst dX5_clause_210 ?_
                refine GO.aload_n dX5_clause_211 rfl rfl ?_
                refine GO.ldc (X := 999999) dX5_clause_212 gw_790 rfl ?_
                refine GO.callV (ci := 4) (N := mX5_digits) dX5_clause_214 (RX5, TX5, 7) rfl gV_RX5_69 h_x (t_X5_digits h_x (ir_c rfl)) rfl [ti 1, .ref x] rfl rfl (Nat.le_of_ble_eq_true rfl) rfl (k_is fun X68 V72 r69 h70 hF71 => ?_)
                have raw_digits := h70.2
                have rw214 := h70.2
                refine GO.useWT (fun hW8 => ?_)
                have hci := CLI.num (rn := fun src e v s => .ok (s, (X1, v, _, _))) hci rw214 (CSame.fr (by assumption) h_x hW7 (by decide +kernel))
                refine GO.callV (ci := 4) (N := mX5_set) dX5_clause_217 (RX5, TX5, 7) rfl gV_RX5_73 h_x (t_X5_set h_x (ir_c rfl) r69) rfl [] rfl rfl (Nat.le_of_ble_eq_true rfl) rfl (k_vs fun V76 h75 hF74 => ?_)
                have raw_set := h75.2
                have rw217 := h75.2
                try have hci := CLI.set hci rw217 h_x hW8 (by assumption) (by decide +kernel) (by decide) (by decide) (by assumption)
                have e78 : vi V72 x 4 = vi V64 x 4 := vi_fr hF71 h_x h_x (by decide +kernel)
                have e77 : vi V76 x 4 = vi V72 x 4 := vi_fr hF74 h_x h_x (by decide +kernel)
                have q79 : -2147483648 ≤ vi V64 x 4 ∧ vi V64 x 4 ≤ 2147483647 := vi_ir
                exact GO.retv rfl rfl dX5_clause_220 ⟨rfl, rfl, ⟨by omega, (by first | exact CLI.end hci rfl ⟨fun q => by first | exact Bool.noConfusion q | (show askB X1; unfold askB; omega), fun q => by first | rfl | (exfalso; have q1 : askB X1 := q; unfold askB at q1; omega)⟩ | exact CLI.end (hcq.to (rest1 := fun _ _ s => .ok (s, (X1, 0, 0, 0))) (fun src e s => by unfold gL; rw [if_neg (by omega)]; rfl)) rfl ⟨fun q => by first | exact Bool.noConfusion q | (show askB X1; unfold askB; omega), fun q => by first | rfl | (exfalso; have q1 : askB X1 := q; unfold askB at q1; omega)⟩ | exact CLI.end (hci.to (rest1 := fun _ _ s => .ok (s, (X1, 0, 0, 0))) (fun src e s => by unfold claG; rw [if_neg (by omega), if_neg (by omega), if_neg (by omega), if_neg (by omega)]; rfl)) rfl ⟨fun q => by first | exact Bool.noConfusion q | (show askB X1; unfold askB; omega), fun q => by first | rfl | (exfalso; have q1 : askB X1 := q; unfold askB at q1; omega)⟩)⟩⟩
              ·
                refine GO.iload_n dX5_clause_157 rfl rfl ?_
                refine GO.bipush dX5_clause_158 rfl ?_
                refine GO.icmp_eq (tgt := 169) dX5_clause_160 (by decide) r2 (ir_c rfl) (fun c80 => ?_) (fun c80 => ?_)
                ·
                  have hci := hci.to (rest1 := fun src e s => bnc (conF src e s) (gL src e X1)) (fun src e s => by unfold claG; rw [if_neg (by omega), if_neg (by omega), if_pos (by omega)])
                  refine GO.aload_n dX5_clause_169 rfl rfl ?_
                  have e82 : vi V17 x 4 = vi V x 4 := vi_fr hF16 h_x h_x (by decide +kernel)
                  have e81 : vi V25 x 4 = vi V17 x 4 := vi_up e24 (Or.inr (by decide))
                  have q83 : -2147483648 ≤ vi V x 4 ∧ vi V x 4 ≤ 2147483647 := vi_ir
                  refine GO.callV (ci := 4) (N := mX5_condition) dX5_clause_170 (RX5, TX5, 7) rfl gV_RX5_54 h_x (t_X5_condition h_x (by omega)) rfl [] rfl rfl (Nat.le_of_ble_eq_true rfl) rfl (k_vs fun V86 h85 hF84 => ?_)
                  have raw_condition := h85.2
                  have rw170 := h85.2
                  try have hcq := CLI.con hci rw170
                  refine GO.iload_n dX5_clause_173 rfl rfl ?_
                  refine GO.bipush dX5_clause_174 rfl ?_
                  refine GO.icmp_eq (tgt := 209) dX5_clause_176 (by decide) r2 (ir_c rfl) (fun h => by exfalso; omega) (fun c88 => ?_)
                  refine GO.iload_n dX5_clause_179 rfl rfl ?_
                  refine GO.bipush dX5_clause_180 rfl ?_
                  refine GO.icmp_eq (tgt := 209) dX5_clause_182 (by decide) r2 (ir_c rfl) (fun c89 => ?_) (fun h => by exfalso; omega)
                  refine GO.useWT (fun hW7 => ?_)
                  try have hci := hcq.to (rest1 := fun src e => kE src e X1 0 0) (fun src e s => by unfold gL; rw [if_pos (by omega)])
                  try have hci := hci.to (rest1 := fun src e => kE src e X1 0 0) (fun src e s => by unfold claG; rw [if_neg (by omega), if_neg (by omega), if_neg (by omega), if_pos (by omega)])
                  refine GO.aload_n dX5_clause_209 rfl rfl ?_
                  refine GO.iconst dX5_clause_210 ?_
                  refine GO.aload_n dX5_clause_211 rfl rfl ?_
                  refine GO.ldc (X := 999999) dX5_clause_212 gw_790 rfl ?_
                  refine GO.callV (ci := 4) (N := mX5_digits) dX5_clause_214 (RX5, TX5, 7) rfl gV_RX5_69 h_x (t_X5_digits h_x (ir_c rfl)) rfl [ti 1, .ref x] rfl rfl (Nat.le_of_ble_eq_true rfl) rfl (k_is fun X91 V95 r92 h93 hF94 => ?_)
                  have raw_digits := h93.2
                  have rw214 := h93.2
                  refine GO.useWT (fun hW8 => ?_)
                  have hci := CLI.num (rn := fun src e v s => .ok (s, (X1, v, _, _))) hci rw214 (CSame.fr (by assumption) h_x hW7 (by decide +kernel))
                  refine GO.callV (ci := 4) (N := mX5_set) dX5_clause_217 (RX5, TX5, 7) rfl gV_RX5_73 h_x (t_X5_set h_x (ir_c rfl) r92) rfl [] rfl rfl (Nat.le_of_ble_eq_true rfl) rfl (k_vs fun V99 h98 hF97 => ?_)
                  have raw_set := h98.2
                  have rw217 := h98.2
                  try have hci := CLI.set hci rw217 h_x hW8 (by assumption) (by decide +kernel) (by decide) (by decide) (by assumption)
                  have e101 : vi V95 x 4 = vi V86 x 4 := vi_fr hF94 h_x h_x (by decide +kernel)
                  have e100 : vi V99 x 4 = vi V95 x 4 := vi_fr hF97 h_x h_x (by decide +kernel)
                  have q102 : -2147483648 ≤ vi V86 x 4 ∧ vi V86 x 4 ≤ 2147483647 := vi_ir
                  exact GO.retv rfl rfl dX5_clause_220 ⟨rfl, rfl, ⟨by omega, (by first | exact CLI.end hci rfl ⟨fun q => by first | exact Bool.noConfusion q | (show askB X1; unfold askB; omega), fun q => by first | rfl | (exfalso; have q1 : askB X1 := q; unfold askB at q1; omega)⟩ | exact CLI.end (hcq.to (rest1 := fun _ _ s => .ok (s, (X1, 0, 0, 0))) (fun src e s => by unfold gL; rw [if_neg (by omega)]; rfl)) rfl ⟨fun q => by first | exact Bool.noConfusion q | (show askB X1; unfold askB; omega), fun q => by first | rfl | (exfalso; have q1 : askB X1 := q; unfold askB at q1; omega)⟩ | exact CLI.end (hci.to (rest1 := fun _ _ s => .ok (s, (X1, 0, 0, 0))) (fun src e s => by unfold claG; rw [if_neg (by omega), if_neg (by omega), if_neg (by omega), if_neg (by omega)]; rfl)) rfl ⟨fun q => by first | exact Bool.noConfusion q | (show askB X1; unfold askB; omega), fun q => by first | rfl | (exfalso; have q1 : askB X1 := q; unfold askB at q1; omega)⟩)⟩⟩
                ·
                  refine GO.iload_n dX5_clause_163 rfl rfl ?_
                  refine GO.bipush dX5_clause_164 rfl ?_
                  refine GO.icmp_ne (tgt := 173) dX5_clause_166 (by decide) r2 (ir_c rfl) (fun c103 => ?_) (fun c103 => ?_)
                  ·
                    try have hcq := CLI.con hci rw170
                    refine GO.iload_n dX5_clause_173 rfl rfl ?_
                    refine GO.bipush dX5_clause_174 rfl ?_
                    refine GO.icmp_eq (tgt := 209) dX5_clause_176 (by decide) r2 (ir_c rfl) (fun h => by exfalso; omega) (fun c104 => ?_)
                    refine GO.iload_n dX5_clause_179 rfl rfl ?_
                    refine GO.bipush dX5_clause_180 rfl ?_
                    refine GO.icmp_eq (tgt := 209) dX5_clause_182 (by decide) r2 (ir_c rfl) (fun h => by exfalso; omega) (fun c105 => ?_)
                    refine GO.iload_n dX5_clause_185 rfl rfl ?_
                    refine GO.bipush dX5_clause_186 rfl ?_
                    refine GO.icmp_eq (tgt := 209) dX5_clause_188 (by decide) r2 (ir_c rfl) (fun c106 => ?_) (fun c106 => ?_)
                    ·
                      refine GO.useWT (fun hW7 => ?_)
                      try have hci := hcq.to (rest1 := fun src e => kE src e X1 0 0) (fun src e s => by unfold gL; rw [if_pos (by omega)])
                      try have hci := hci.to (rest1 := fun src e => kE src e X1 0 0) (fun src e s => by unfold claG; rw [if_neg (by omega), if_neg (by omega), if_neg (by omega), if_pos (by omega)])
                      refine GO.aload_n dX5_clause_209 rfl rfl ?_
                      refine GO.iconst dX5_clause_210 ?_
                      refine GO.aload_n dX5_clause_211 rfl rfl ?_
                      refine GO.ldc (X := 999999) dX5_clause_212 gw_790 rfl ?_
                      have e108 : vi V17 x 5 = vi V x 5 := vi_fr hF16 h_x h_x (by decide +kernel)
                      have e107 : vi V25 x 5 = vi V17 x 5 := vi_up e24 (Or.inr (by decide))
                      refine GO.callV (ci := 4) (N := mX5_digits) dX5_clause_214 (RX5, TX5, 7) rfl gV_RX5_69 h_x (t_X5_digits h_x (ir_c rfl)) rfl [ti 1, .ref x] rfl rfl (Nat.le_of_ble_eq_true rfl) rfl (k_is fun X109 V113 r110 h111 hF112 => ?_)
                      have raw_digits := h111.2
                      have rw214 := h111.2
                      refine GO.useWT (fun hW8 => ?_)
                      have hci := CLI.num (rn := fun src e v s => .ok (s, (X1, v, _, _))) hci rw214 (CSame.fr (by assumption) h_x hW7 (by decide +kernel))
                      refine GO.callV (ci := 4) (N := mX5_set) dX5_clause_217 (RX5, TX5, 7) rfl gV_RX5_73 h_x (t_X5_set h_x (ir_c rfl) r110) rfl [] rfl rfl (Nat.le_of_ble_eq_true rfl) rfl (k_vs fun V117 h116 hF115 => ?_)
                      have raw_set := h116.2
                      have rw217 := h116.2
                      try have hci := CLI.set hci rw217 h_x hW8 (by assumption) (by decide +kernel) (by decide) (by decide) (by assumption)
                      have e121 : vi V17 x 4 = vi V x 4 := vi_fr hF16 h_x h_x (by decide +kernel)
                      have e120 : vi V25 x 4 = vi V17 x 4 := vi_up e24 (Or.inr (by decide))
                      have e119 : vi V113 x 4 = vi V25 x 4 := vi_fr hF112 h_x h_x (by decide +kernel)
                      have e118 : vi V117 x 4 = vi V113 x 4 := vi_fr hF115 h_x h_x (by decide +kernel)
                      have q122 : -2147483648 ≤ vi V x 4 ∧ vi V x 4 ≤ 2147483647 := vi_ir
                      exact GO.retv rfl rfl dX5_clause_220 ⟨rfl, rfl, ⟨by omega, (by first | exact CLI.end hci rfl ⟨fun q => by first | exact Bool.noConfusion q | (show askB X1; unfold askB; omega), fun q => by first | rfl | (exfalso; have q1 : askB X1 := q; unfold askB at q1; omega)⟩ | exact CLI.end (hcq.to (rest1 := fun _ _ s => .ok (s, (X1, 0, 0, 0))) (fun src e s => by unfold gL; rw [if_neg (by omega)]; rfl)) rfl ⟨fun q => by first | exact Bool.noConfusion q | (show askB X1; unfold askB; omega), fun q => by first | rfl | (exfalso; have q1 : askB X1 := q; unfold askB at q1; omega)⟩ | exact CLI.end (hci.to (rest1 := fun _ _ s => .ok (s, (X1, 0, 0, 0))) (fun src e s => by unfold claG; rw [if_neg (by omega), if_neg (by omega), if_neg (by omega), if_neg (by omega)]; rfl)) rfl ⟨fun q => by first | exact Bool.noConfusion q | (show askB X1; unfold askB; omega), fun q => by first | rfl | (exfalso; have q1 : askB X1 := q; unfold askB at q1; omega)⟩)⟩⟩
                    ·
                      refine GO.iload_n dX5_clause_191 rfl rfl ?_
                      refine GO.bipush dX5_clause_192 rfl ?_
                      refine GO.icmp_eq (tgt := 209) dX5_clause_194 (by decide) r2 (ir_c rfl) (fun c123 => ?_) (fun c123 => ?_)
                      ·
                        refine GO.useWT (fun hW7 => ?_)
                        try have hci := hcq.to (rest1 := fun src e => kE src e X1 0 0) (fun src e s => by unfold gL; rw [if_pos (by omega)])
                        try have hci := hci.to (rest1 := fun src e => kE src e X1 0 0) (fun src e s => by unfold claG; rw [if_neg (by omega), if_neg (by omega), if_neg (by omega), if_pos (by omega)])
                        refine GO.aload_n dX5_clause_209 rfl rfl ?_
                        refine GO.iconst dX5_clause_210 ?_
                        refine GO.aload_n dX5_clause_211 rfl rfl ?_
                        refine GO.ldc (X := 999999) dX5_clause_212 gw_790 rfl ?_
                        have e125 : vi V17 x 5 = vi V x 5 := vi_fr hF16 h_x h_x (by decide +kernel)
                        have e124 : vi V25 x 5 = vi V17 x 5 := vi_up e24 (Or.inr (by decide))
                        refine GO.callV (ci := 4) (N := mX5_digits) dX5_clause_214 (RX5, TX5, 7) rfl gV_RX5_69 h_x (t_X5_digits h_x (ir_c rfl)) rfl [ti 1, .ref x] rfl rfl (Nat.le_of_ble_eq_true rfl) rfl (k_is fun X126 V130 r127 h128 hF129 => ?_)
                        have raw_digits := h128.2
                        have rw214 := h128.2
                        refine GO.useWT (fun hW8 => ?_)
                        have hci := CLI.num (rn := fun src e v s => .ok (s, (X1, v, _, _))) hci rw214 (CSame.fr (by assumption) h_x hW7 (by decide +kernel))
                        refine GO.callV (ci := 4) (N := mX5_set) dX5_clause_217 (RX5, TX5, 7) rfl gV_RX5_73 h_x (t_X5_set h_x (ir_c rfl) r127) rfl [] rfl rfl (Nat.le_of_ble_eq_true rfl) rfl (k_vs fun V134 h133 hF132 => ?_)
                        have raw_set := h133.2
                        have rw217 := h133.2
                        try have hci := CLI.set hci rw217 h_x hW8 (by assumption) (by decide +kernel) (by decide) (by decide) (by assumption)
                        have e138 : vi V17 x 4 = vi V x 4 := vi_fr hF16 h_x h_x (by decide +kernel)
                        have e137 : vi V25 x 4 = vi V17 x 4 := vi_up e24 (Or.inr (by decide))
                        have e136 : vi V130 x 4 = vi V25 x 4 := vi_fr hF129 h_x h_x (by decide +kernel)
                        have e135 : vi V134 x 4 = vi V130 x 4 := vi_fr hF132 h_x h_x (by decide +kernel)
                        have q139 : -2147483648 ≤ vi V x 4 ∧ vi V x 4 ≤ 2147483647 := vi_ir
                        exact GO.retv rfl rfl dX5_clause_220 ⟨rfl, rfl, ⟨by omega, (by first | exact CLI.end hci rfl ⟨fun q => by first | exact Bool.noConfusion q | (show askB X1; unfold askB; omega), fun q => by first | rfl | (exfalso; have q1 : askB X1 := q; unfold askB at q1; omega)⟩ | exact CLI.end (hcq.to (rest1 := fun _ _ s => .ok (s, (X1, 0, 0, 0))) (fun src e s => by unfold gL; rw [if_neg (by omega)]; rfl)) rfl ⟨fun q => by first | exact Bool.noConfusion q | (show askB X1; unfold askB; omega), fun q => by first | rfl | (exfalso; have q1 : askB X1 := q; unfold askB at q1; omega)⟩ | exact CLI.end (hci.to (rest1 := fun _ _ s => .ok (s, (X1, 0, 0, 0))) (fun src e s => by unfold claG; rw [if_neg (by omega), if_neg (by omega), if_neg (by omega), if_neg (by omega)]; rfl)) rfl ⟨fun q => by first | exact Bool.noConfusion q | (show askB X1; unfold askB; omega), fun q => by first | rfl | (exfalso; have q1 : askB X1 := q; unfold askB at q1; omega)⟩)⟩⟩
                      ·
                        refine GO.iload_n dX5_clause_197 rfl rfl ?_
                        refine GO.bipush dX5_clause_198 rfl ?_
                        refine GO.icmp_eq (tgt := 209) dX5_clause_200 (by decide) r2 (ir_c rfl) (fun h => by exfalso; omega) (fun c140 => ?_)
                        refine GO.iload_n dX5_clause_203 rfl rfl ?_
                        refine GO.bipush dX5_clause_204 rfl ?_
                        refine GO.icmp_ne (tgt := 220) dX5_clause_206 (by decide) r2 (ir_c rfl) (fun c141 => ?_) (fun c141 => ?_)
                        ·
                          try have hci := CLI.set hci rw217 h_x hW8 (by assumption) (by decide +kernel) (by decide) (by decide) (by assumption)
                          have e143 : vi V17 x 4 = vi V x 4 := vi_fr hF16 h_x h_x (by decide +kernel)
                          have e142 : vi V25 x 4 = vi V17 x 4 := vi_up e24 (Or.inr (by decide))
                          have q144 : -2147483648 ≤ vi V x 4 ∧ vi V x 4 ≤ 2147483647 := vi_ir
                          exact GO.retv rfl rfl dX5_clause_220 ⟨rfl, rfl, ⟨by omega, (by first | exact CLI.end hci rfl ⟨fun q => by first | exact Bool.noConfusion q | (show askB X1; unfold askB; omega), fun q => by first | rfl | (exfalso; have q1 : askB X1 := q; unfold askB at q1; omega)⟩ | exact CLI.end (hcq.to (rest1 := fun _ _ s => .ok (s, (X1, 0, 0, 0))) (fun src e s => by unfold gL; rw [if_neg (by omega)]; rfl)) rfl ⟨fun q => by first | exact Bool.noConfusion q | (show askB X1; unfold askB; omega), fun q => by first | rfl | (exfalso; have q1 : askB X1 := q; unfold askB at q1; omega)⟩ | exact CLI.end (hci.to (rest1 := fun _ _ s => .ok (s, (X1, 0, 0, 0))) (fun src e s => by unfold claG; rw [if_neg (by omega), if_neg (by omega), if_neg (by omega), if_neg (by omega)]; rfl)) rfl ⟨fun q => by first | exact Bool.noConfusion q | (show askB X1; unfold askB; omega), fun q => by first | rfl | (exfalso; have q1 : askB X1 := q; unfold askB at q1; omega)⟩)⟩⟩
                        ·
                          refine GO.useWT (fun hW7 => ?_)
                          try have hci := hcq.to (rest1 := fun src e => kE src e X1 0 0) (fun src e s => by unfold gL; rw [if_pos (by omega)])
                          try have hci := hci.to (rest1 := fun src e => kE src e X1 0 0) (fun src e s => by unfold claG; rw [if_neg (by omega), if_neg (by omega), if_neg (by omega), if_pos (by omega)])
                          refine GO.aload_n dX5_clause_209 rfl rfl ?_
                          refine GO.iconst dX5_clause_210 ?_
                          refine GO.aload_n dX5_clause_211 rfl rfl ?_
                          refine GO.ldc (X := 999999) dX5_clause_212 gw_790 rfl ?_
                          have e146 : vi V17 x 5 = vi V x 5 := vi_fr hF16 h_x h_x (by decide +kernel)
                          have e145 : vi V25 x 5 = vi V17 x 5 := vi_up e24 (Or.inr (by decide))
                          refine GO.callV (ci := 4) (N := mX5_digits) dX5_clause_214 (RX5, TX5, 7) rfl gV_RX5_69 h_x (t_X5_digits h_x (ir_c rfl)) rfl [ti 1, .ref x] rfl rfl (Nat.le_of_ble_eq_true rfl) rfl (k_is fun X147 V151 r148 h149 hF150 => ?_)
                          have raw_digits := h149.2
                          have rw214 := h149.2
                          refine GO.useWT (fun hW8 => ?_)
                          have hci := CLI.num (rn := fun src e v s => .ok (s, (X1, v, _, _))) hci rw214 (CSame.fr (by assumption) h_x hW7 (by decide +kernel))
                          refine GO.callV (ci := 4) (N := mX5_set) dX5_clause_217 (RX5, TX5, 7) rfl gV_RX5_73 h_x (t_X5_set h_x (ir_c rfl) r148) rfl [] rfl rfl (Nat.le_of_ble_eq_true rfl) rfl (k_vs fun V155 h154 hF153 => ?_)
                          have raw_set := h154.2
                          have rw217 := h154.2
                          try have hci := CLI.set hci rw217 h_x hW8 (by assumption) (by decide +kernel) (by decide) (by decide) (by assumption)
                          have e159 : vi V17 x 4 = vi V x 4 := vi_fr hF16 h_x h_x (by decide +kernel)
                          have e158 : vi V25 x 4 = vi V17 x 4 := vi_up e24 (Or.inr (by decide))
                          have e157 : vi V151 x 4 = vi V25 x 4 := vi_fr hF150 h_x h_x (by decide +kernel)
                          have e156 : vi V155 x 4 = vi V151 x 4 := vi_fr hF153 h_x h_x (by decide +kernel)
                          have q160 : -2147483648 ≤ vi V x 4 ∧ vi V x 4 ≤ 2147483647 := vi_ir
                          exact GO.retv rfl rfl dX5_clause_220 ⟨rfl, rfl, ⟨by omega, (by first | exact CLI.end hci rfl ⟨fun q => by first | exact Bool.noConfusion q | (show askB X1; unfold askB; omega), fun q => by first | rfl | (exfalso; have q1 : askB X1 := q; unfold askB at q1; omega)⟩ | exact CLI.end (hcq.to (rest1 := fun _ _ s => .ok (s, (X1, 0, 0, 0))) (fun src e s => by unfold gL; rw [if_neg (by omega)]; rfl)) rfl ⟨fun q => by first | exact Bool.noConfusion q | (show askB X1; unfold askB; omega), fun q => by first | rfl | (exfalso; have q1 : askB X1 := q; unfold askB at q1; omega)⟩ | exact CLI.end (hci.to (rest1 := fun _ _ s => .ok (s, (X1, 0, 0, 0))) (fun src e s => by unfold claG; rw [if_neg (by omega), if_neg (by omega), if_neg (by omega), if_neg (by omega)]; rfl)) rfl ⟨fun q => by first | exact Bool.noConfusion q | (show askB X1; unfold askB; omega), fun q => by first | rfl | (exfalso; have q1 : askB X1 := q; unfold askB at q1; omega)⟩)⟩⟩
                  ·
                    have hci := hci.to (rest1 := fun src e s => bnc (conF src e s) (gL src e X1)) (fun src e s => by unfold claG; rw [if_neg (by omega), if_neg (by omega), if_pos (by omega)])
                    refine GO.aload_n dX5_clause_169 rfl rfl ?_
                    have e162 : vi V17 x 4 = vi V x 4 := vi_fr hF16 h_x h_x (by decide +kernel)
                    have e161 : vi V25 x 4 = vi V17 x 4 := vi_up e24 (Or.inr (by decide))
                    have q163 : -2147483648 ≤ vi V x 4 ∧ vi V x 4 ≤ 2147483647 := vi_ir
                    refine GO.callV (ci := 4) (N := mX5_condition) dX5_clause_170 (RX5, TX5, 7) rfl gV_RX5_54 h_x (t_X5_condition h_x (by omega)) rfl [] rfl rfl (Nat.le_of_ble_eq_true rfl) rfl (k_vs fun V166 h165 hF164 => ?_)
                    have raw_condition := h165.2
                    have rw170 := h165.2
                    try have hcq := CLI.con hci rw170
                    refine GO.iload_n dX5_clause_173 rfl rfl ?_
                    refine GO.bipush dX5_clause_174 rfl ?_
                    refine GO.icmp_eq (tgt := 209) dX5_clause_176 (by decide) r2 (ir_c rfl) (fun h => by exfalso; omega) (fun c168 => ?_)
                    refine GO.iload_n dX5_clause_179 rfl rfl ?_
                    refine GO.bipush dX5_clause_180 rfl ?_
                    refine GO.icmp_eq (tgt := 209) dX5_clause_182 (by decide) r2 (ir_c rfl) (fun h => by exfalso; omega) (fun c169 => ?_)
                    refine GO.iload_n dX5_clause_185 rfl rfl ?_
                    refine GO.bipush dX5_clause_186 rfl ?_
                    refine GO.icmp_eq (tgt := 209) dX5_clause_188 (by decide) r2 (ir_c rfl) (fun h => by exfalso; omega) (fun c170 => ?_)
                    refine GO.iload_n dX5_clause_191 rfl rfl ?_
                    refine GO.bipush dX5_clause_192 rfl ?_
                    refine GO.icmp_eq (tgt := 209) dX5_clause_194 (by decide) r2 (ir_c rfl) (fun h => by exfalso; omega) (fun c171 => ?_)
                    refine GO.iload_n dX5_clause_197 rfl rfl ?_
                    refine GO.bipush dX5_clause_198 rfl ?_
                    refine GO.icmp_eq (tgt := 209) dX5_clause_200 (by decide) r2 (ir_c rfl) (fun h => by exfalso; omega) (fun c172 => ?_)
                    refine GO.iload_n dX5_clause_203 rfl rfl ?_
                    refine GO.bipush dX5_clause_204 rfl ?_
                    refine GO.icmp_ne (tgt := 220) dX5_clause_206 (by decide) r2 (ir_c rfl) (fun c173 => ?_) (fun h => by exfalso; omega)
                    try have hci := CLI.set hci rw217 h_x hW8 (by assumption) (by decide +kernel) (by decide) (by decide) (by assumption)
                    have q174 : -2147483648 ≤ vi V166 x 4 ∧ vi V166 x 4 ≤ 2147483647 := vi_ir
                    exact GO.retv rfl rfl dX5_clause_220 ⟨rfl, rfl, ⟨by omega, (by first | exact CLI.end hci rfl ⟨fun q => by first | exact Bool.noConfusion q | (show askB X1; unfold askB; omega), fun q => by first | rfl | (exfalso; have q1 : askB X1 := q; unfold askB at q1; omega)⟩ | exact CLI.end (hcq.to (rest1 := fun _ _ s => .ok (s, (X1, 0, 0, 0))) (fun src e s => by unfold gL; rw [if_neg (by omega)]; rfl)) rfl ⟨fun q => by first | exact Bool.noConfusion q | (show askB X1; unfold askB; omega), fun q => by first | rfl | (exfalso; have q1 : askB X1 := q; unfold askB at q1; omega)⟩ | exact CLI.end (hci.to (rest1 := fun _ _ s => .ok (s, (X1, 0, 0, 0))) (fun src e s => by unfold claG; rw [if_neg (by omega), if_neg (by omega), if_neg (by omega), if_neg (by omega)]; rfl)) rfl ⟨fun q => by first | exact Bool.noConfusion q | (show askB X1; unfold askB; omega), fun q => by first | rfl | (exfalso; have q1 : askB X1 := q; unfold askB at q1; omega)⟩)⟩⟩
        ·
          have hci := hci.to (rest1 := fun src e => xA src e X1) (fun src e s => by unfold claG; rw [if_neg (by omega), if_pos (by omega)])
          refine GO.aload_n dX5_clause_108 rfl rfl ?_
          refine GO.iconst dX5_clause_109 ?_
          refine GO.aload_n dX5_clause_110 rfl rfl ?_
          refine GO.bipush dX5_clause_111 rfl ?_
          have e176 : vi V17 x 5 = vi V x 5 := vi_fr hF16 h_x h_x (by decide +kernel)
          have e175 : vi V25 x 5 = vi V17 x 5 := vi_up e24 (Or.inr (by decide))
          refine GO.callV (ci := 4) (N := mX5_digits) dX5_clause_113 (RX5, TX5, 7) rfl gV_RX5_69 h_x (t_X5_digits h_x (ir_c rfl)) rfl [ti 2, .ref x] rfl rfl (Nat.le_of_ble_eq_true rfl) rfl (k_is fun X177 V181 r178 h179 hF180 => ?_)
          have raw_digits := h179.2
          have rw113 := h179.2
          refine GO.useWT (fun hW2 => ?_)
          have hci := CLI.num (rn := fun src e v s => xB src e X1 v s) hci rw113 (CSame.fr (by assumption) h_x hWp (by decide +kernel))
          refine GO.callV (ci := 4) (N := mX5_set) dX5_clause_116 (RX5, TX5, 7) rfl gV_RX5_73 h_x (t_X5_set h_x (ir_c rfl) r178) rfl [] rfl rfl (Nat.le_of_ble_eq_true rfl) rfl (k_vs fun V185 h184 hF183 => ?_)
          have raw_set := h184.2
          have rw116 := h184.2
          refine GO.useWT (fun hW3 => ?_)
          have hci := CLI.set hci rw116 h_x hW2 (by assumption) (by decide +kernel) (by decide) (by decide) (by assumption)
          refine GO.aload_n dX5_clause_119 rfl rfl ?_
          refine GO.bipush dX5_clause_120 rfl ?_
          have e186 : vi V185 x 5 = vi V181 x 5 := vi_fr hF183 h_x h_x (by decide +kernel)
          refine GO.callV (ci := 4) (N := mX5_take) dX5_clause_122 (RX5, TX5, 7) rfl gV_RX5_38 h_x (t_X5_take h_x (ir_c rfl) (by omega)) rfl [] rfl rfl (Nat.le_of_ble_eq_true rfl) rfl (k_vs fun V189 h188 hF187 => ?_)
          have raw_take := h188.2
          have rw122 := h188.2
          refine GO.useWT (fun hW4 => ?_)
          have hci := CLI.cr (rest1 := fun src e => xC src e X1 _) hci rw122 (by decide) (CSame.fr (by assumption) h_x hW3 (by decide +kernel))
          refine GO.aload_n dX5_clause_125 rfl rfl ?_
          refine GO.iconst dX5_clause_126 ?_
          refine GO.aload_n dX5_clause_127 rfl rfl ?_
          refine GO.bipush dX5_clause_128 rfl ?_
          refine GO.callV (ci := 4) (N := mX5_digits) dX5_clause_130 (RX5, TX5, 7) rfl gV_RX5_69 h_x (t_X5_digits h_x (ir_c rfl)) rfl [ti 3, .ref x] rfl rfl (Nat.le_of_ble_eq_true rfl) rfl (k_is fun X191 V195 r192 h193 hF194 => ?_)
          have raw_digits := h193.2
          have rw130 := h193.2
          refine GO.useWT (fun hW5 => ?_)
          have hci := CLI.num (rn := fun src e v s => .ok (s, (X1, 0, _, v))) hci rw130 (CSame.fr (by assumption) h_x hW4 (by decide +kernel))
          refine GO.callV (ci := 4) (N := mX5_set) dX5_clause_133 (RX5, TX5, 7) rfl gV_RX5_73 h_x (t_X5_set h_x (ir_c rfl) r192) rfl [] rfl rfl (Nat.le_of_ble_eq_true rfl) rfl (k_vs fun V199 h198 hF197 => ?_)
          have raw_set := h198.2
          have rw133 := h198.2
          have hci := CLI.set hci rw133 h_x hW5 (by assumption) (by decide +kernel) (by decide) (by decide) (by assumption)
          refine GO.goto (tgt := 173) dX5_clause_136 (by decide) ?_
          try have hcq := CLI.con hci rw170
          refine GO.iload_n dX5_clause_173 rfl rfl ?_
          refine GO.bipush dX5_clause_174 rfl ?_
          refine GO.icmp_eq (tgt := 209) dX5_clause_176 (by decide) r2 (ir_c rfl) (fun h => by exfalso; omega) (fun c200 => ?_)
          refine GO.iload_n dX5_clause_179 rfl rfl ?_
          refine GO.bipush dX5_clause_180 rfl ?_
          refine GO.icmp_eq (tgt := 209) dX5_clause_182 (by decide) r2 (ir_c rfl) (fun h => by exfalso; omega) (fun c201 => ?_)
          refine GO.iload_n dX5_clause_185 rfl rfl ?_
          refine GO.bipush dX5_clause_186 rfl ?_
          refine GO.icmp_eq (tgt := 209) dX5_clause_188 (by decide) r2 (ir_c rfl) (fun h => by exfalso; omega) (fun c202 => ?_)
          refine GO.iload_n dX5_clause_191 rfl rfl ?_
          refine GO.bipush dX5_clause_192 rfl ?_
          refine GO.icmp_eq (tgt := 209) dX5_clause_194 (by decide) r2 (ir_c rfl) (fun h => by exfalso; omega) (fun c203 => ?_)
          refine GO.iload_n dX5_clause_197 rfl rfl ?_
          refine GO.bipush dX5_clause_198 rfl ?_
          refine GO.icmp_eq (tgt := 209) dX5_clause_200 (by decide) r2 (ir_c rfl) (fun h => by exfalso; omega) (fun c204 => ?_)
          refine GO.iload_n dX5_clause_203 rfl rfl ?_
          refine GO.bipush dX5_clause_204 rfl ?_
          refine GO.icmp_ne (tgt := 220) dX5_clause_206 (by decide) r2 (ir_c rfl) (fun c205 => ?_) (fun h => by exfalso; omega)
          try have hci := CLI.set hci rw217 h_x hW8 (by assumption) (by decide +kernel) (by decide) (by decide) (by assumption)
          have e212 : vi V17 x 4 = vi V x 4 := vi_fr hF16 h_x h_x (by decide +kernel)
          have e211 : vi V25 x 4 = vi V17 x 4 := vi_up e24 (Or.inr (by decide))
          have e210 : vi V181 x 4 = vi V25 x 4 := vi_fr hF180 h_x h_x (by decide +kernel)
          have e209 : vi V185 x 4 = vi V181 x 4 := vi_fr hF183 h_x h_x (by decide +kernel)
          have e208 : vi V189 x 4 = vi V185 x 4 := vi_fr hF187 h_x h_x (by decide +kernel)
          have e207 : vi V195 x 4 = vi V189 x 4 := vi_fr hF194 h_x h_x (by decide +kernel)
          have e206 : vi V199 x 4 = vi V195 x 4 := vi_fr hF197 h_x h_x (by decide +kernel)
          have q213 : -2147483648 ≤ vi V x 4 ∧ vi V x 4 ≤ 2147483647 := vi_ir
          exact GO.retv rfl rfl dX5_clause_220 ⟨rfl, rfl, ⟨by omega, (by first | exact CLI.end hci rfl ⟨fun q => by first | exact Bool.noConfusion q | (show askB X1; unfold askB; omega), fun q => by first | rfl | (exfalso; have q1 : askB X1 := q; unfold askB at q1; omega)⟩ | exact CLI.end (hcq.to (rest1 := fun _ _ s => .ok (s, (X1, 0, 0, 0))) (fun src e s => by unfold gL; rw [if_neg (by omega)]; rfl)) rfl ⟨fun q => by first | exact Bool.noConfusion q | (show askB X1; unfold askB; omega), fun q => by first | rfl | (exfalso; have q1 : askB X1 := q; unfold askB at q1; omega)⟩ | exact CLI.end (hci.to (rest1 := fun _ _ s => .ok (s, (X1, 0, 0, 0))) (fun src e s => by unfold claG; rw [if_neg (by omega), if_neg (by omega), if_neg (by omega), if_neg (by omega)]; rfl)) rfl ⟨fun q => by first | exact Bool.noConfusion q | (show askB X1; unfold askB; omega), fun q => by first | rfl | (exfalso; have q1 : askB X1 := q; unfold askB at q1; omega)⟩)⟩⟩
      ·
        have hci := hci.to (rest1 := fun src e => kA src e X1) (fun src e s => by unfold claG; rw [if_pos (by omega)])
        refine GO.aload_n dX5_clause_67 rfl rfl ?_
        refine GO.iconst dX5_clause_68 ?_
        refine GO.aload_n dX5_clause_69 rfl rfl ?_
        refine GO.iconst dX5_clause_70 ?_
        have e215 : vi V17 x 5 = vi V x 5 := vi_fr hF16 h_x h_x (by decide +kernel)
        have e214 : vi V25 x 5 = vi V17 x 5 := vi_up e24 (Or.inr (by decide))
        refine GO.callV (ci := 4) (N := mX5_digits) dX5_clause_71 (RX5, TX5, 7) rfl gV_RX5_69 h_x (t_X5_digits h_x (ir_c rfl)) rfl [ti 2, .ref x] rfl rfl (Nat.le_of_ble_eq_true rfl) rfl (k_is fun X216 V220 r217 h218 hF219 => ?_)
        have raw_digits := h218.2
        have rw71 := h218.2
        refine GO.useWT (fun hW2 => ?_)
        have hci := CLI.num (rn := fun src e v s => kB src e X1 v s) hci rw71 (CSame.fr (by assumption) h_x hWp (by decide +kernel))
        refine GO.callV (ci := 4) (N := mX5_set) dX5_clause_74 (RX5, TX5, 7) rfl gV_RX5_73 h_x (t_X5_set h_x (ir_c rfl) r217) rfl [] rfl rfl (Nat.le_of_ble_eq_true rfl) rfl (k_vs fun V224 h223 hF222 => ?_)
        have raw_set := h223.2
        have rw74 := h223.2
        refine GO.useWT (fun hW3 => ?_)
        have hci := CLI.set hci rw74 h_x hW2 (by assumption) (by decide +kernel) (by decide) (by decide) (by assumption)
        refine GO.aload_n dX5_clause_77 rfl rfl ?_
        refine GO.bipush dX5_clause_78 rfl ?_
        have e225 : vi V224 x 5 = vi V220 x 5 := vi_fr hF222 h_x h_x (by decide +kernel)
        refine GO.callV (ci := 4) (N := mX5_take) dX5_clause_80 (RX5, TX5, 7) rfl gV_RX5_38 h_x (t_X5_take h_x (ir_c rfl) (by omega)) rfl [] rfl rfl (Nat.le_of_ble_eq_true rfl) rfl (k_vs fun V228 h227 hF226 => ?_)
        have raw_take := h227.2
        have rw80 := h227.2
        refine GO.useWT (fun hW4 => ?_)
        have hci := CLI.cr (rest1 := fun src e => kC src e X1 _) hci rw80 (by decide) (CSame.fr (by assumption) h_x hW3 (by decide +kernel))
        refine GO.aload_n dX5_clause_83 rfl rfl ?_
        refine GO.iconst dX5_clause_84 ?_
        refine GO.aload_n dX5_clause_85 rfl rfl ?_
        refine GO.iconst dX5_clause_86 ?_
        refine GO.callV (ci := 4) (N := mX5_digits) dX5_clause_87 (RX5, TX5, 7) rfl gV_RX5_69 h_x (t_X5_digits h_x (ir_c rfl)) rfl [ti 3, .ref x] rfl rfl (Nat.le_of_ble_eq_true rfl) rfl (k_is fun X230 V234 r231 h232 hF233 => ?_)
        have raw_digits := h232.2
        have rw87 := h232.2
        refine GO.useWT (fun hW5 => ?_)
        have hci := CLI.num (rn := fun src e v s => kD src e X1 _ v s) hci rw87 (CSame.fr (by assumption) h_x hW4 (by decide +kernel))
        refine GO.callV (ci := 4) (N := mX5_set) dX5_clause_90 (RX5, TX5, 7) rfl gV_RX5_73 h_x (t_X5_set h_x (ir_c rfl) r231) rfl [] rfl rfl (Nat.le_of_ble_eq_true rfl) rfl (k_vs fun V238 h237 hF236 => ?_)
        have raw_set := h237.2
        have rw90 := h237.2
        refine GO.useWT (fun hW6 => ?_)
        have hci := CLI.set hci rw90 h_x hW5 (by assumption) (by decide +kernel) (by decide) (by decide) (by assumption)
        refine GO.aload_n dX5_clause_93 rfl rfl ?_
        refine GO.bipush dX5_clause_94 rfl ?_
        have e239 : vi V238 x 5 = vi V234 x 5 := vi_fr hF236 h_x h_x (by decide +kernel)
        refine GO.callV (ci := 4) (N := mX5_take) dX5_clause_96 (RX5, TX5, 7) rfl gV_RX5_38 h_x (t_X5_take h_x (ir_c rfl) (by omega)) rfl [] rfl rfl (Nat.le_of_ble_eq_true rfl) rfl (k_vs fun V242 h241 hF240 => ?_)
        have raw_take := h241.2
        have rw96 := h241.2
        have hci := CLI.cr (rest1 := fun src e => kE src e X1 _ _) hci rw96 (by decide) (CSame.fr (by assumption) h_x hW6 (by decide +kernel))
        refine GO.goto (tgt := 173) dX5_clause_99 (by decide) ?_
        try have hcq := CLI.con hci rw170
        refine GO.iload_n dX5_clause_173 rfl rfl ?_
        refine GO.bipush dX5_clause_174 rfl ?_
        refine GO.icmp_eq (tgt := 209) dX5_clause_176 (by decide) r2 (ir_c rfl) (fun h => by exfalso; omega) (fun c244 => ?_)
        refine GO.iload_n dX5_clause_179 rfl rfl ?_
        refine GO.bipush dX5_clause_180 rfl ?_
        refine GO.icmp_eq (tgt := 209) dX5_clause_182 (by decide) r2 (ir_c rfl) (fun h => by exfalso; omega) (fun c245 => ?_)
        refine GO.iload_n dX5_clause_185 rfl rfl ?_
        refine GO.bipush dX5_clause_186 rfl ?_
        refine GO.icmp_eq (tgt := 209) dX5_clause_188 (by decide) r2 (ir_c rfl) (fun h => by exfalso; omega) (fun c246 => ?_)
        refine GO.iload_n dX5_clause_191 rfl rfl ?_
        refine GO.bipush dX5_clause_192 rfl ?_
        refine GO.icmp_eq (tgt := 209) dX5_clause_194 (by decide) r2 (ir_c rfl) (fun h => by exfalso; omega) (fun c247 => ?_)
        refine GO.iload_n dX5_clause_197 rfl rfl ?_
        refine GO.bipush dX5_clause_198 rfl ?_
        refine GO.icmp_eq (tgt := 209) dX5_clause_200 (by decide) r2 (ir_c rfl) (fun c248 => ?_) (fun h => by exfalso; omega)
        refine GO.useWT (fun hW7 => ?_)
        try have hci := hcq.to (rest1 := fun src e => kE src e X1 0 0) (fun src e s => by unfold gL; rw [if_pos (by omega)])
        try have hci := hci.to (rest1 := fun src e => kE src e X1 0 0) (fun src e s => by unfold claG; rw [if_neg (by omega), if_neg (by omega), if_neg (by omega), if_pos (by omega)])
        refine GO.aload_n dX5_clause_209 rfl rfl ?_
        refine GO.iconst dX5_clause_210 ?_
        refine GO.aload_n dX5_clause_211 rfl rfl ?_
        refine GO.ldc (X := 999999) dX5_clause_212 gw_790 rfl ?_
        refine GO.callV (ci := 4) (N := mX5_digits) dX5_clause_214 (RX5, TX5, 7) rfl gV_RX5_69 h_x (t_X5_digits h_x (ir_c rfl)) rfl [ti 1, .ref x] rfl rfl (Nat.le_of_ble_eq_true rfl) rfl (k_is fun X249 V253 r250 h251 hF252 => ?_)
        have raw_digits := h251.2
        have rw214 := h251.2
        refine GO.useWT (fun hW8 => ?_)
        have hci := CLI.num (rn := fun src e v s => .ok (s, (X1, v, _, _))) hci rw214 (CSame.fr (by assumption) h_x hW7 (by decide +kernel))
        refine GO.callV (ci := 4) (N := mX5_set) dX5_clause_217 (RX5, TX5, 7) rfl gV_RX5_73 h_x (t_X5_set h_x (ir_c rfl) r250) rfl [] rfl rfl (Nat.le_of_ble_eq_true rfl) rfl (k_vs fun V257 h256 hF255 => ?_)
        have raw_set := h256.2
        have rw217 := h256.2
        try have hci := CLI.set hci rw217 h_x hW8 (by assumption) (by decide +kernel) (by decide) (by decide) (by assumption)
        have e267 : vi V17 x 4 = vi V x 4 := vi_fr hF16 h_x h_x (by decide +kernel)
        have e266 : vi V25 x 4 = vi V17 x 4 := vi_up e24 (Or.inr (by decide))
        have e265 : vi V220 x 4 = vi V25 x 4 := vi_fr hF219 h_x h_x (by decide +kernel)
        have e264 : vi V224 x 4 = vi V220 x 4 := vi_fr hF222 h_x h_x (by decide +kernel)
        have e263 : vi V228 x 4 = vi V224 x 4 := vi_fr hF226 h_x h_x (by decide +kernel)
        have e262 : vi V234 x 4 = vi V228 x 4 := vi_fr hF233 h_x h_x (by decide +kernel)
        have e261 : vi V238 x 4 = vi V234 x 4 := vi_fr hF236 h_x h_x (by decide +kernel)
        have e260 : vi V242 x 4 = vi V238 x 4 := vi_fr hF240 h_x h_x (by decide +kernel)
        have e259 : vi V253 x 4 = vi V242 x 4 := vi_fr hF252 h_x h_x (by decide +kernel)
        have e258 : vi V257 x 4 = vi V253 x 4 := vi_fr hF255 h_x h_x (by decide +kernel)
        have q268 : -2147483648 ≤ vi V x 4 ∧ vi V x 4 ≤ 2147483647 := vi_ir
        exact GO.retv rfl rfl dX5_clause_220 ⟨rfl, rfl, ⟨by omega, (by first | exact CLI.end hci rfl ⟨fun q => by first | exact Bool.noConfusion q | (show askB X1; unfold askB; omega), fun q => by first | rfl | (exfalso; have q1 : askB X1 := q; unfold askB at q1; omega)⟩ | exact CLI.end (hcq.to (rest1 := fun _ _ s => .ok (s, (X1, 0, 0, 0))) (fun src e s => by unfold gL; rw [if_neg (by omega)]; rfl)) rfl ⟨fun q => by first | exact Bool.noConfusion q | (show askB X1; unfold askB; omega), fun q => by first | rfl | (exfalso; have q1 : askB X1 := q; unfold askB at q1; omega)⟩ | exact CLI.end (hci.to (rest1 := fun _ _ s => .ok (s, (X1, 0, 0, 0))) (fun src e s => by unfold claG; rw [if_neg (by omega), if_neg (by omega), if_neg (by omega), if_neg (by omega)]; rfl)) rfl ⟨fun q => by first | exact Bool.noConfusion q | (show askB X1; unfold askB; omega), fun q => by first | rfl | (exfalso; have q1 : askB X1 := q; unfold askB at q1; omega)⟩)⟩⟩
    ·
      refine GO.aload_n dX5_clause_41 rfl rfl ?_
      refine GO.iconst dX5_clause_42 ?_
      refine GO.aload_n dX5_clause_43 rfl rfl ?_
      refine GO.getI h_x fl_RX5_9 rfl rfl dX5_clause_44 (fun _ _ => ?_)
      refine GO.callV (ci := 4) (N := mX5_refuse) dX5_clause_47 (RX5, TX5, 7) rfl gV_RX5_57 h_x (t_X5_refuse h_x (ir_c rfl) vi_ir (by omega)) rfl [] rfl rfl (Nat.le_of_ble_eq_true rfl) rfl (k_vs fun V272 h271 hF270 => ?_)
      have raw_refuse := h271.2
      have rw47 := h271.2
      have e275 : vi V17 x 4 = vi V x 4 := vi_fr hF16 h_x h_x (by decide +kernel)
      have e274 : vi V272 x 4 = vi V17 x 4 := vi_fr hF270 h_x h_x (by decide +kernel)
      have q276 : -2147483648 ≤ vi V x 4 ∧ vi V x 4 ≤ 2147483647 := vi_ir
      exact GO.retv rfl rfl dX5_clause_50 ⟨rfl, rfl, ⟨by omega, (by first | exact CLS.e4 (by unfold isCL; exact decide_eq_true (by omega)) rw34 (by omega) rw47 h_x hW_0 vi_ir rfl)⟩⟩
  ·
    have q277 := h6.2.2 (by omega)
    refine GO.aload_n dX5_clause_12 rfl rfl ?_
    refine GO.iconst dX5_clause_13 ?_
    refine GO.aload_n dX5_clause_14 rfl rfl ?_
    refine GO.getI h_x fl_RX5_9 rfl rfl dX5_clause_15 (fun _ _ => ?_)
    refine GO.callV (ci := 4) (N := mX5_refuse) dX5_clause_18 (RX5, TX5, 7) rfl gV_RX5_57 h_x (t_X5_refuse h_x (ir_c rfl) vi_ir (by omega)) rfl [] rfl rfl (Nat.le_of_ble_eq_true rfl) rfl (k_vs fun V280 h279 hF278 => ?_)
    have raw_refuse := h279.2
    have rw18 := h279.2
    have e282 : vi V280 x 4 = vi V x 4 := vi_fr hF278 h_x h_x (by decide +kernel)
    have q283 : -2147483648 ≤ vi V x 4 ∧ vi V x 4 ≤ 2147483647 := vi_ir
    exact GO.retv rfl rfl dX5_clause_21 ⟨rfl, rfl, ⟨by omega, (by first | exact CLS.e1 (by unfold isCL; exact decide_eq_false (by omega)) rw18 h_x hW_0 vi_ir rfl)⟩⟩
