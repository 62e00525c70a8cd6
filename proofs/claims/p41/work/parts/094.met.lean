def mX5_negation_3 : MRec := (RX5, cX5_negation, 1, (none : Option Jvm.ClassFile.FieldType), yX5_negation, 13, 354, 0, 0, 84615164005151820665845159428194693098035799419427996068435045795123941278247852265624218936283556470163081713008521863233536)
def mX5_piece_3 : MRec := (RX5, cX5_piece, 3, (none : Option Jvm.ClassFile.FieldType), yX5_piece, 15, 398, 0, 0, 84615164005151820665845159428194693098035799419427996068435045795123941278247852265624218936283556470163081713008521863233536)
def mX5_part_3 : MRec := (RX5, cX5_part, 3, (none : Option Jvm.ClassFile.FieldType), yX5_part, 16, 420, 0, 0, 84615164005151820665845159428194693098035799419427996068435045795123941278247852265624218936283556470163081713008521863233536)
def mX5_parts_3 : MRec := (RX5, cX5_parts, 3, (none : Option Jvm.ClassFile.FieldType), yX5_parts, 17, 442, 0, 0, 84615164005151820665845159428194693098035799419427996068435045795123941278247852265624218936283556470163081713008521863233536)
def mX5_negation_4 : MRec := (RX5, cX5_negation, 1, (none : Option Jvm.ClassFile.FieldType), yX5_negation, 16, 420, 0, 0, 84615164005151820665845159428194693098035799419427996068435045795123941278247852265624218936283556470163081713008521863233536)
def mX5_piece_4 : MRec := (RX5, cX5_piece, 3, (none : Option Jvm.ClassFile.FieldType), yX5_piece, 18, 464, 0, 0, 84615164005151820665845159428194693098035799419427996068435045795123941278247852265624218936283556470163081713008521863233536)
def mX5_part_4 : MRec := (RX5, cX5_part, 3, (none : Option Jvm.ClassFile.FieldType), yX5_part, 19, 486, 0, 0, 84615164005151820665845159428194693098035799419427996068435045795123941278247852265624218936283556470163081713008521863233536)
set_option maxHeartbeats 1000000 in
theorem t_X5_negation_3_G {K : Kmap} {V : Vmap} {x : Nat} (h_x : K x = some (0, 4)) (q_0 : vi V x 5 = 0) (q_1 : vi V x 4 ≥ 6) (q_2 : vi V x 4 ≤ 8) : MC mX5_negation_3 K V [.ref x] (VS K (fun V1 => (vi V1 x 4 = vi V x 4 ∧ (vi V x 5 ≠ 0 → vi V1 x 5 ≠ 0)) ∧ (CR K V V1 x (fun src e => negD src e (vi V x 4).toNat)))) := by
  refine MC.start 0 (by decide +kernel) rfl rfl rfl (ls0 := [some (.ref x)]) rfl ?_
  refine GO.useWT (fun hW_0 => ?_)
  refine GO.aload_n dX5_negation_0 rfl rfl ?_
  refine GO.bipush dX5_negation_1 rfl ?_
  have q1 : -2147483648 ≤ vi V x 4 ∧ vi V x 4 ≤ 2147483647 := vi_ir
  refine GO.callV (ci := 4) (N := mX5_deepen) dX5_negation_3 (RX5, TX5, 7) rfl gV_RX5_80 h_x (t_X5_deepen h_x (ir_c rfl) (by omega) (by omega) (by omega)) rfl [] rfl rfl (Nat.le_of_ble_eq_true rfl) rfl (k_vs fun V4 h3 hF2 => ?_)
  have raw_deepen := h3.2
  have rw3 := h3.2
  refine GO.aload_n dX5_negation_6 rfl rfl ?_
  have q7 : -2147483648 ≤ vi V4 x 4 ∧ vi V4 x 4 ≤ 2147483647 := vi_ir
  have q8 : -2147483648 ≤ vi V4 x 5 ∧ vi V4 x 5 ≤ 2147483647 := vi_ir
  refine GO.callV (ci := 4) (N := mX5_piece_2) dX5_negation_7 (RX5, TX5, 7) rfl gV_RX5_96 h_x (t_X5_piece_2 h_x (by omega)) rfl [] rfl rfl (Nat.le_of_ble_eq_true rfl) rfl (k_vs fun V11 h10 hF9 => ?_)
  have raw_piece := h10.2
  have rw7 := h10.2
  refine GO.useWT (fun hWb => ?_)
  refine GO.aload_n dX5_negation_10 rfl rfl ?_
  refine GO.dup dX5_negation_11 rfl ?_
  refine GO.getI h_x fl_RX5_15 rfl rfl dX5_negation_12 (fun _ _ => ?_)
  refine GO.iconst dX5_negation_15 ?_
  refine GO.isub dX5_negation_16 ?_
  have q15 : -2147483648 ≤ vi V11 x 4 ∧ vi V11 x 4 ≤ 2147483647 := vi_ir
  refine GO.putI h_x fp_RX5_15 rfl (by decide +kernel) ⟨by omega, by omega⟩ (by omega) (by omega) dX5_negation_17 (fun V16 e14 => ?_)
  refine GO.useWT (fun hWn => ?_)
  refine GO.aload_n dX5_negation_20 rfl rfl ?_
  refine GO.getR h_x fl_RX5_31 rfl rfl dX5_negation_21 (fun hv18 h17 => ?_)
  refine GO.iconst dX5_negation_24 ?_
  refine GO.iconst dX5_negation_25 ?_
  refine GO.callV (ci := 8) (N := mX9_addStep) dX5_negation_26 (RX9, TX9, 5) rfl gV_RX5_92 h17 (t_X9_addStep h17 (ir_c rfl) (ir_c rfl)) rfl [] rfl rfl (Nat.le_of_ble_eq_true rfl) rfl (k_is fun X19 V23 r20 h21 hF22 => ?_)
  have raw_addStep := h21.2
  have rw26 := h21.2
  refine GO.pop dX5_negation_29 rfl ?_
  have e25 : vi V16 x 4 = (vi V11 x 4) - 1 := upd2_int e14 ⟨by omega, by omega⟩
  have e24 : vi V23 x 4 = vi V16 x 4 := vi_fr hF22 h_x h_x (by decide +kernel)
  have q26 : -2147483648 ≤ vi V x 5 ∧ vi V x 5 ≤ 2147483647 := vi_ir
  have e28 : vi V16 x 5 = vi V11 x 5 := vi_up e14 (Or.inr (by decide))
  have e27 : vi V23 x 5 = vi V16 x 5 := vi_fr hF22 h_x h_x (by decide +kernel)
  have q29 : -2147483648 ≤ vi V11 x 5 ∧ vi V11 x 5 ≤ 2147483647 := vi_ir
  exact GO.retv rfl rfl dX5_negation_30 ⟨rfl, rfl, ⟨by omega, NEG.of rw3 rw7 (by omega) h_x hWb hWn (by assumption) rw26⟩⟩

theorem t_X5_negation_3 {K : Kmap} {V : Vmap} {x : Nat} (h_x : K x = some (0, 4)) (q_0 : ((vi V x 5 = 0 ∧ vi V x 4 ≥ 6 ∧ vi V x 4 ≤ 8))) : MC mX5_negation_3 K V [.ref x] (VS K (fun V1 => (vi V1 x 4 = vi V x 4 ∧ (vi V x 5 ≠ 0 → vi V1 x 5 ≠ 0)) ∧ (CR K V V1 x (fun src e => negD src e (vi V x 4).toNat)))) := by
  exact t_X5_negation_3_G h_x (by omega) (by omega) (by omega)

set_option maxHeartbeats 1000000 in
theorem t_X5_piece_3_F {K : Kmap} {V : Vmap} {x : Nat} (h_x : K x = some (0, 4)) (q_0 : vi V x 5 ≠ 0) : MC mX5_piece_3 K V [.ref x] (VS K (fun V1 => (vi V1 x 4 = vi V x 4 ∧ (vi V x 5 ≠ 0 → vi V1 x 5 ≠ 0)) ∧ (CR K V V1 x (fun src e => pieD src e (vi V x 4).toNat)))) := by
  refine MC.start 2 (by decide +kernel) rfl rfl rfl (ls0 := [some (.ref x), none, none]) rfl ?_
  refine GO.useWT (fun hW_0 => ?_)
  refine GO.aload_n dX5_piece_0 rfl rfl ?_
  refine GO.getI h_x fl_RX5_18 rfl rfl dX5_piece_1 (fun _ _ => ?_)
  have q2 : -2147483648 ≤ vi V x 5 ∧ vi V x 5 ≤ 2147483647 := vi_ir
  refine GO.if_eq (tgt := 8) dX5_piece_4 (by decide) vi_ir (fun h => by exfalso; omega) (fun c1 => ?_)
  have q3 : -2147483648 ≤ vi V x 4 ∧ vi V x 4 ≤ 2147483647 := vi_ir
  exact GO.retv rfl rfl dX5_piece_7 ⟨rfl, rfl, ⟨by omega, (by first | exact CRg.bad (by omega))⟩⟩

set_option maxHeartbeats 1000000 in
theorem t_X5_piece_3_G {K : Kmap} {V : Vmap} {x : Nat} (h_x : K x = some (0, 4)) (q_0 : vi V x 5 = 0) (q_1 : vi V x 4 ≥ 6) (q_2 : vi V x 4 ≤ 8) : MC mX5_piece_3 K V [.ref x] (VS K (fun V1 => (vi V1 x 4 = vi V x 4 ∧ (vi V x 5 ≠ 0 → vi V1 x 5 ≠ 0)) ∧ (CR K V V1 x (fun src e => pieD src e (vi V x 4).toNat)))) := by
  refine MC.start 2 (by decide +kernel) rfl rfl rfl (ls0 := [some (.ref x), none, none]) rfl ?_
  refine GO.useWT (fun hW_0 => ?_)
  refine GO.aload_n dX5_piece_0 rfl rfl ?_
  refine GO.getI h_x fl_RX5_18 rfl rfl dX5_piece_1 (fun _ _ => ?_)
  have q2 : -2147483648 ≤ vi V x 5 ∧ vi V x 5 ≤ 2147483647 := vi_ir
  refine GO.if_eq (tgt := 8) dX5_piece_4 (by decide) vi_ir (fun c1 => ?_) (fun h => by exfalso; omega)
  refine GO.aload_n dX5_piece_8 rfl rfl ?_
  refine GO.callV (ci := 4) (N := mX5_next) dX5_piece_9 (RX5, TX5, 7) rfl gV_RX5_61 h_x (t_X5_next h_x) rfl [] rfl rfl (Nat.le_of_ble_eq_true rfl) rfl (k_ip fun X3 r4 h5 => ?_)
  refine GO.istore_n (ls1 := [some (.ref x), some (ti X3), none]) dX5_piece_12 rfl rfl rfl ?_
  refine GO.iload_n dX5_piece_13 rfl rfl ?_
  refine GO.bipush dX5_piece_14 rfl ?_
  refine GO.icmp_ne (tgt := 26) dX5_piece_16 (by decide) r4 (ir_c rfl) (fun c6 => ?_) (fun c6 => ?_)
  ·
    refine GO.iload_n dX5_piece_26 rfl rfl ?_
    refine GO.bipush dX5_piece_27 rfl ?_
    refine GO.icmp_ne (tgt := 61) dX5_piece_29 (by decide) r4 (ir_c rfl) (fun c7 => ?_) (fun c7 => ?_)
    ·
      refine GO.aload_n dX5_piece_61 rfl rfl ?_
      have q8 : -2147483648 ≤ vi V x 4 ∧ vi V x 4 ≤ 2147483647 := vi_ir
      refine GO.callV (ci := 4) (N := mX5_terms_3) dX5_piece_62 (RX5, TX5, 7) rfl gV_RX5_102 h_x (t_X5_terms_3 h_x (by omega)) rfl [] rfl rfl (Nat.le_of_ble_eq_true rfl) rfl (k_vs fun V11 h10 hF9 => ?_)
      have raw_terms := h10.2
      have rw62 := h10.2
      refine GO.useWT (fun hW1 => ?_)
      refine GO.aload_n dX5_piece_65 rfl rfl ?_
      refine GO.aload_n dX5_piece_66 rfl rfl ?_
      refine GO.callV (ci := 4) (N := mX5_next) dX5_piece_67 (RX5, TX5, 7) rfl gV_RX5_61 h_x (t_X5_next h_x) rfl [.ref x] rfl rfl (Nat.le_of_ble_eq_true rfl) rfl (k_ip fun X14 r15 h16 => ?_)
      refine GO.callV (ci := 4) (N := mX5_comparison) dX5_piece_70 (RX5, TX5, 7) rfl gV_RX5_105 h_x (t_X5_comparison h_x r15) rfl [] rfl rfl (Nat.le_of_ble_eq_true rfl) rfl (k_is fun X17 V21 r18 h19 hF20 => ?_)
      have raw_comparison := h19.2
      have rw70 := h19.2
      refine GO.useWT (fun hW2 => ?_)
      refine GO.istore_n (ls1 := [some (.ref x), some (ti X3), some (ti X17)]) dX5_piece_73 rfl rfl rfl ?_
      refine GO.aload_n dX5_piece_74 rfl rfl ?_
      refine GO.dup dX5_piece_75 rfl ?_
      refine GO.getI h_x fl_RX5_9 rfl rfl dX5_piece_76 (fun _ _ => ?_)
      refine GO.iconst dX5_piece_79 ?_
      refine GO.iadd dX5_piece_80 ?_
      refine GO.norm (fun z25 r26 hn27 => ?_)
      refine GO.putI h_x fp_RX5_9 rfl (by decide +kernel) r26 (r26).1 (r26).2 dX5_piece_81 (fun V29 e28 => ?_)
      refine GO.aload_n dX5_piece_84 rfl rfl ?_
      have e30 : vi V29 x 5 = vi V21 x 5 := vi_up e28 (Or.inr (by decide))
      have e32 : vi V21 x 4 = vi V11 x 4 := vi_fr hF20 h_x h_x (by decide +kernel)
      have e31 : vi V29 x 4 = vi V21 x 4 := vi_up e28 (Or.inr (by decide))
      have q33 : -2147483648 ≤ vi V11 x 4 ∧ vi V11 x 4 ≤ 2147483647 := vi_ir
      have q34 : -2147483648 ≤ vi V21 x 5 ∧ vi V21 x 5 ≤ 2147483647 := vi_ir
      refine GO.callV (ci := 4) (N := mX5_terms_3) dX5_piece_85 (RX5, TX5, 7) rfl gV_RX5_102 h_x (t_X5_terms_3 h_x (by omega)) rfl [] rfl rfl (Nat.le_of_ble_eq_true rfl) rfl (k_vs fun V37 h36 hF35 => ?_)
      have raw_terms := h36.2
      have rw85 := h36.2
      refine GO.useWT (fun hW4 => ?_)
      refine GO.aload_n dX5_piece_88 rfl rfl ?_
      refine GO.getR h_x fl_RX5_31 rfl rfl dX5_piece_89 (fun hv41 h40 => ?_)
      refine GO.iload_n dX5_piece_92 rfl rfl ?_
      refine GO.iconst dX5_piece_93 ?_
      refine GO.callV (ci := 8) (N := mX9_addStep) dX5_piece_94 (RX9, TX9, 5) rfl gV_RX5_92 h40 (t_X9_addStep h40 r18 (ir_c rfl)) rfl [] rfl rfl (Nat.le_of_ble_eq_true rfl) rfl (k_is fun X42 V46 r43 h44 hF45 => ?_)
      have raw_addStep := h44.2
      have rw94 := h44.2
      refine GO.pop dX5_piece_97 rfl ?_
      have e47 : vi V46 x 4 = vi V37 x 4 := vi_fr hF45 h_x h_x (by decide +kernel)
      have q48 : -2147483648 ≤ vi V37 x 4 ∧ vi V37 x 4 ≤ 2147483647 := vi_ir
      have e49 : vi V46 x 5 = vi V37 x 5 := vi_fr hF45 h_x h_x (by decide +kernel)
      have q50 : -2147483648 ≤ vi V37 x 5 ∧ vi V37 x 5 ≤ 2147483647 := vi_ir
      exact GO.retv rfl rfl dX5_piece_98 ⟨rfl, rfl, ⟨by omega, (by first | exact CRg.bad (by omega) | exact PIE.cmp (by omega) rfl (by omega) (by omega) (by omega) (CR.ter rw62 rfl) rw70 h_x hW1 hW2 hW4 (by assumption) (by assumption) (by assumption) (CR.ter rw85 (by omega)) rw94)⟩⟩
    ·
      refine GO.aload_n dX5_piece_32 rfl rfl ?_
      refine GO.bipush dX5_piece_33 rfl ?_
      have q51 : -2147483648 ≤ vi V x 4 ∧ vi V x 4 ≤ 2147483647 := vi_ir
      refine GO.callV (ci := 4) (N := mX5_deepen) dX5_piece_35 (RX5, TX5, 7) rfl gV_RX5_80 h_x (t_X5_deepen h_x (ir_c rfl) (by omega) (by omega) (by omega)) rfl [] rfl rfl (Nat.le_of_ble_eq_true rfl) rfl (k_vs fun V54 h53 hF52 => ?_)
      have raw_deepen := h53.2
      have rw35 := h53.2
      refine GO.aload_n dX5_piece_38 rfl rfl ?_
      have q57 : -2147483648 ≤ vi V54 x 4 ∧ vi V54 x 4 ≤ 2147483647 := vi_ir
      have q58 : -2147483648 ≤ vi V54 x 5 ∧ vi V54 x 5 ≤ 2147483647 := vi_ir
      refine GO.callV (ci := 4) (N := mX5_parts_2) dX5_piece_39 (RX5, TX5, 7) rfl gV_RX5_83 h_x (t_X5_parts_2 h_x (by omega)) rfl [] rfl rfl (Nat.le_of_ble_eq_true rfl) rfl (k_vs fun V61 h60 hF59 => ?_)
      have raw_parts := h60.2
      have rw39 := h60.2
      refine GO.useWT (fun hWb => ?_)
      refine GO.aload_n dX5_piece_42 rfl rfl ?_
      refine GO.dup dX5_piece_43 rfl ?_
      refine GO.getI h_x fl_RX5_15 rfl rfl dX5_piece_44 (fun _ _ => ?_)
      refine GO.iconst dX5_piece_47 ?_
      refine GO.isub dX5_piece_48 ?_
      have q65 : -2147483648 ≤ vi V61 x 4 ∧ vi V61 x 4 ≤ 2147483647 := vi_ir
      refine GO.putI h_x fp_RX5_15 rfl (by decide +kernel) ⟨by omega, by omega⟩ (by omega) (by omega) dX5_piece_49 (fun V66 e64 => ?_)
      refine GO.aload_n dX5_piece_52 rfl rfl ?_
      refine GO.bipush dX5_piece_53 rfl ?_
      have e67 : vi V66 x 5 = vi V61 x 5 := vi_up e64 (Or.inr (by decide))
      refine GO.callV (ci := 4) (N := mX5_take) dX5_piece_55 (RX5, TX5, 7) rfl gV_RX5_38 h_x (t_X5_take h_x (ir_c rfl) (by omega)) rfl [] rfl rfl (Nat.le_of_ble_eq_true rfl) rfl (k_vs fun V70 h69 hF68 => ?_)
      have raw_take := h69.2
      have rw55 := h69.2
      refine GO.goto (tgt := 98) dX5_piece_58 (by decide) ?_
      have e73 : vi V66 x 4 = (vi V61 x 4) - 1 := upd2_int e64 ⟨by omega, by omega⟩
      have e72 : vi V70 x 4 = vi V66 x 4 := vi_fr hF68 h_x h_x (by decide +kernel)
      have q74 : -2147483648 ≤ vi V70 x 5 ∧ vi V70 x 5 ≤ 2147483647 := vi_ir
      exact GO.retv rfl rfl dX5_piece_98 ⟨rfl, rfl, ⟨by omega, (by first | exact CRg.bad (by omega) | exact PIE.par (by omega) (by omega) rw35 rw39 (by omega) h_x hWb (by assumption) rw55)⟩⟩
  ·
    refine GO.aload_n dX5_piece_19 rfl rfl ?_
    have q75 : -2147483648 ≤ vi V x 4 ∧ vi V x 4 ≤ 2147483647 := vi_ir
    refine GO.callV (ci := 4) (N := mX5_negation_3) dX5_piece_20 (RX5, TX5, 7) rfl gV_RX5_99 h_x (t_X5_negation_3 h_x (by omega)) rfl [] rfl rfl (Nat.le_of_ble_eq_true rfl) rfl (k_vs fun V78 h77 hF76 => ?_)
    have raw_negation := h77.2
    have rw20 := h77.2
    refine GO.goto (tgt := 98) dX5_piece_23 (by decide) ?_
    have q81 : -2147483648 ≤ vi V78 x 4 ∧ vi V78 x 4 ≤ 2147483647 := vi_ir
    have q82 : -2147483648 ≤ vi V78 x 5 ∧ vi V78 x 5 ≤ 2147483647 := vi_ir
    exact GO.retv rfl rfl dX5_piece_98 ⟨rfl, rfl, ⟨by omega, (by first | exact CRg.bad (by omega) | exact PIE.neg (by omega) (by omega) rw20)⟩⟩

theorem t_X5_piece_3 {K : Kmap} {V : Vmap} {x : Nat} (h_x : K x = some (0, 4)) (q_0 : (vi V x 5 ≠ 0 ∨ (vi V x 5 = 0 ∧ vi V x 4 ≥ 6 ∧ vi V x 4 ≤ 8))) : MC mX5_piece_3 K V [.ref x] (VS K (fun V1 => (vi V1 x 4 = vi V x 4 ∧ (vi V x 5 ≠ 0 → vi V1 x 5 ≠ 0)) ∧ (CR K V V1 x (fun src e => pieD src e (vi V x 4).toNat)))) := by
  rcases q_0 with h | h
  · exact t_X5_piece_3_F h_x (by omega)
  · exact t_X5_piece_3_G h_x (by omega) (by omega) (by omega)

set_option maxHeartbeats 1000000 in
theorem t_X5_part_3_F {K : Kmap} {V : Vmap} {x : Nat} (h_x : K x = some (0, 4)) (q_0 : vi V x 5 ≠ 0) : MC mX5_part_3 K V [.ref x] (VS K (fun V1 => (vi V1 x 4 = vi V x 4 ∧ (vi V x 5 ≠ 0 → vi V1 x 5 ≠ 0)) ∧ (CR K V V1 x (fun src e => parG src e (pieD src e (vi V x 4).toNat))))) := by
  refine MC.start 2 (by decide +kernel) rfl rfl rfl (ls0 := [some (.ref x), none, none]) rfl ?_
  refine GO.useWT (fun hW_0 => ?_)
  refine GO.iconst dX5_part_0 ?_
  refine GO.istore_n (ls1 := [some (.ref x), some (ti (-1)), none]) dX5_part_1 rfl rfl rfl ?_
  refine GO.aload_n dX5_part_2 rfl rfl ?_
  have q1 : -2147483648 ≤ vi V x 4 ∧ vi V x 4 ≤ 2147483647 := vi_ir
  have q2 : -2147483648 ≤ vi V x 5 ∧ vi V x 5 ≤ 2147483647 := vi_ir
  refine GO.callV (ci := 4) (N := mX5_piece_3) dX5_part_3 (RX5, TX5, 7) rfl gV_RX5_96 h_x (t_X5_piece_3 h_x (by omega)) rfl [] rfl rfl (Nat.le_of_ble_eq_true rfl) rfl (k_vs fun V5 h4 hF3 => ?_)
  have raw_piece := h4.2
  have rw3 := h4.2
  refine GO.iconst dX5_part_6 ?_
  refine GO.istore_n (ls1 := [some (.ref x), some (ti (-1)), some (ti 0)]) dX5_part_7 rfl rfl rfl ?_
  have q10 : -2147483648 ≤ vi V5 x 4 ∧ vi V5 x 4 ≤ 2147483647 := vi_ir
  have q11 : -2147483648 ≤ vi V5 x 5 ∧ vi V5 x 5 ≤ 2147483647 := vi_ir
  refine GO.loop2 (fun i8 i9 W => (-1) ≤ i8 ∧ i8 ≤ (-1) ∧ 0 ≤ i9 ∧ i9 ≤ 0 ∧ (vi W x 4 = vi V5 x 4 ∧ (vi V5 x 5 ≠ 0 → vi W x 5 ≠ 0)) ∧ (AJI K V W x (vi V x 4).toNat i8 i9) ∧ True) (fun i8 i9 => [some (.ref x), some (ti i8), some (ti i9)]) (fun i8 i9 W => (2147483647 - i8).toNat) (-1) 0 ⟨by omega, by omega, by omega, by omega, by omega, (by first | exact AJI.beg rw3), trivial⟩ rfl (fun i8 i9 Wi8 hp24 ih23 => ?_)
  obtain ⟨l_i8, u_i8, l_i9, u_i9, n_i8, haj, -⟩ := hp24
  have r_i8 : ir i8 := ⟨by omega, by omega⟩
  have r_i9 : ir i9 := ⟨by omega, by omega⟩
  show GO mX5_part_3 K V (VS K (fun V1 => (vi V1 x 4 = vi V x 4 ∧ (vi V x 5 ≠ 0 → vi V1 x 5 ≠ 0)) ∧ (CR K V V1 x (fun src e => parG src e (pieD src e (vi V x 4).toNat))))) K Wi8 0 0 8 [some (.ref x), some (ti i8), some (ti i9)] []
  refine GO.useWT (fun hWh => ?_)
  refine GO.iload_n dX5_part_8 rfl rfl ?_
  refine GO.sipush dX5_part_9 rfl ?_
  refine GO.icmp_ge (tgt := 69) dX5_part_12 (by decide) r_i9 (ir_c rfl) (fun h => by exfalso; omega) (fun c25 => ?_)
  refine GO.aload_n dX5_part_15 rfl rfl ?_
  refine GO.getI h_x fl_RX5_18 rfl rfl dX5_part_16 (fun _ _ => ?_)
  have q27 : -2147483648 ≤ vi Wi8 x 5 ∧ vi Wi8 x 5 ≤ 2147483647 := vi_ir
  refine GO.if_ne (tgt := 69) dX5_part_19 (by decide) vi_ir (fun c26 => ?_) (fun h => by exfalso; omega)
  refine GO.aload_n dX5_part_69 rfl rfl ?_
  refine GO.getR h_x fl_RX5_31 rfl rfl dX5_part_70 (fun hv29 h28 => ?_)
  refine GO.iload_n dX5_part_73 rfl rfl ?_
  refine GO.callV (ci := 8) (N := mX9_lead) dX5_part_74 (RX9, TX9, 5) rfl gV_RX5_89 h28 (t_X9_lead h28 r_i8) rfl [] rfl rfl (Nat.le_of_ble_eq_true rfl) rfl (k_vs fun V32 h31 hF30 => ?_)
  have raw_lead := h31.2
  have rw74 := h31.2
  have e33 : vi V32 x 4 = vi Wi8 x 4 := vi_fr hF30 h_x h_x (by decide +kernel)
  have q34 : -2147483648 ≤ vi Wi8 x 4 ∧ vi Wi8 x 4 ≤ 2147483647 := vi_ir
  have e35 : vi V32 x 5 = vi Wi8 x 5 := vi_fr hF30 h_x h_x (by decide +kernel)
  exact GO.retv rfl rfl dX5_part_77 ⟨rfl, rfl, ⟨by omega, AJI.end haj (by omega) (by omega) h_x hWh rw74⟩⟩

set_option maxHeartbeats 1000000 in
theorem t_X5_part_3_G {K : Kmap} {V : Vmap} {x : Nat} (h_x : K x = some (0, 4)) (q_0 : vi V x 5 = 0) (q_1 : vi V x 4 ≥ 6) (q_2 : vi V x 4 ≤ 8) : MC mX5_part_3 K V [.ref x] (VS K (fun V1 => (vi V1 x 4 = vi V x 4 ∧ (vi V x 5 ≠ 0 → vi V1 x 5 ≠ 0)) ∧ (CR K V V1 x (fun src e => parG src e (pieD src e (vi V x 4).toNat))))) := by
  refine MC.start 2 (by decide +kernel) rfl rfl rfl (ls0 := [some (.ref x), none, none]) rfl ?_
  refine GO.useWT (fun hW_0 => ?_)
  refine GO.iconst dX5_part_0 ?_
  refine GO.istore_n (ls1 := [some (.ref x), some (ti (-1)), none]) dX5_part_1 rfl rfl rfl ?_
  refine GO.aload_n dX5_part_2 rfl rfl ?_
  have q1 : -2147483648 ≤ vi V x 4 ∧ vi V x 4 ≤ 2147483647 := vi_ir
  have q2 : -2147483648 ≤ vi V x 5 ∧ vi V x 5 ≤ 2147483647 := vi_ir
  refine GO.callV (ci := 4) (N := mX5_piece_3) dX5_part_3 (RX5, TX5, 7) rfl gV_RX5_96 h_x (t_X5_piece_3 h_x (by omega)) rfl [] rfl rfl (Nat.le_of_ble_eq_true rfl) rfl (k_vs fun V5 h4 hF3 => ?_)
  have raw_piece := h4.2
  have rw3 := h4.2
  refine GO.iconst dX5_part_6 ?_
  refine GO.istore_n (ls1 := [some (.ref x), some (ti (-1)), some (ti 0)]) dX5_part_7 rfl rfl rfl ?_
  have q10 : -2147483648 ≤ vi V5 x 4 ∧ vi V5 x 4 ≤ 2147483647 := vi_ir
  have q11 : -2147483648 ≤ vi V5 x 5 ∧ vi V5 x 5 ≤ 2147483647 := vi_ir
  refine GO.loop2 (fun i8 i9 W => (-2147483648) ≤ i8 ∧ i8 ≤ 2147483647 ∧ 0 ≤ i9 ∧ i9 ≤ 200 ∧ (vi W x 4 = vi V5 x 4 ∧ (vi V5 x 5 ≠ 0 → vi W x 5 ≠ 0)) ∧ (AJI K V W x (vi V x 4).toNat i8 i9) ∧ True) (fun i8 i9 => [some (.ref x), some (ti i8), some (ti i9)]) (fun i8 i9 W => (2147483647 - i9).toNat) (-1) 0 ⟨by omega, by omega, by omega, by omega, by omega, (by first | exact AJI.beg rw3), trivial⟩ rfl (fun i8 i9 Wi8 hp1840 ih1839 => ?_)
  obtain ⟨l_i8, u_i8, l_i9, u_i9, n_i8, haj, -⟩ := hp1840
  have r_i8 : ir i8 := ⟨by omega, by omega⟩
  have r_i9 : ir i9 := ⟨by omega, by omega⟩
  show GO mX5_part_3 K V (VS K (fun V1 => (vi V1 x 4 = vi V x 4 ∧ (vi V x 5 ≠ 0 → vi V1 x 5 ≠ 0)) ∧ (CR K V V1 x (fun src e => parG src e (pieD src e (vi V x 4).toNat))))) K Wi8 0 0 8 [some (.ref x), some (ti i8), some (ti i9)] []
  refine GO.useWT (fun hWh => ?_)
  refine GO.iload_n dX5_part_8 rfl rfl ?_
  refine GO.sipush dX5_part_9 rfl ?_
  refine GO.icmp_ge (tgt := 69) dX5_part_12 (by decide) r_i9 (ir_c rfl) (fun c1841 => ?_) (fun c1841 => ?_)
  ·
    refine GO.aload_n dX5_part_69 rfl rfl ?_
    refine GO.getR h_x fl_RX5_31 rfl rfl dX5_part_70 (fun hv1843 h1842 => ?_)
    refine GO.iload_n dX5_part_73 rfl rfl ?_
    refine GO.callV (ci := 8) (N := mX9_lead) dX5_part_74 (RX9, TX9, 5) rfl gV_RX5_89 h1842 (t_X9_lead h1842 r_i8) rfl [] rfl rfl (Nat.le_of_ble_eq_true rfl) rfl (k_vs fun V1846 h1845 hF1844 => ?_)
    have raw_lead := h1845.2
    have rw74 := h1845.2
    have e1847 : vi V1846 x 4 = vi Wi8 x 4 := vi_fr hF1844 h_x h_x (by decide +kernel)
    have q1848 : -2147483648 ≤ vi Wi8 x 4 ∧ vi Wi8 x 4 ≤ 2147483647 := vi_ir
    have e1849 : vi V1846 x 5 = vi Wi8 x 5 := vi_fr hF1844 h_x h_x (by decide +kernel)
    have q1850 : -2147483648 ≤ vi Wi8 x 5 ∧ vi Wi8 x 5 ≤ 2147483647 := vi_ir
    exact GO.retv rfl rfl dX5_part_77 ⟨rfl, rfl, ⟨by omega, AJI.end haj (by omega) (by omega) h_x hWh rw74⟩⟩
  ·
    refine GO.aload_n dX5_part_15 rfl rfl ?_
    refine GO.getI h_x fl_RX5_18 rfl rfl dX5_part_16 (fun _ _ => ?_)
    refine GO.if_ne (tgt := 69) dX5_part_19 (by decide) vi_ir (fun c1851 => ?_) (fun c1851 => ?_)
    ·
      refine GO.aload_n dX5_part_69 rfl rfl ?_
      refine GO.getR h_x fl_RX5_31 rfl rfl dX5_part_70 (fun hv1853 h1852 => ?_)
      refine GO.iload_n dX5_part_73 rfl rfl ?_
      refine GO.callV (ci := 8) (N := mX9_lead) dX5_part_74 (RX9, TX9, 5) rfl gV_RX5_89 h1852 (t_X9_lead h1852 r_i8) rfl [] rfl rfl (Nat.le_of_ble_eq_true rfl) rfl (k_vs fun V1856 h1855 hF1854 => ?_)
      have raw_lead := h1855.2
      have rw74 := h1855.2
      have e1857 : vi V1856 x 4 = vi Wi8 x 4 := vi_fr hF1854 h_x h_x (by decide +kernel)
      have q1858 : -2147483648 ≤ vi Wi8 x 4 ∧ vi Wi8 x 4 ≤ 2147483647 := vi_ir
      have e1859 : vi V1856 x 5 = vi Wi8 x 5 := vi_fr hF1854 h_x h_x (by decide +kernel)
      have q1860 : -2147483648 ≤ vi Wi8 x 5 ∧ vi Wi8 x 5 ≤ 2147483647 := vi_ir
      exact GO.retv rfl rfl dX5_part_77 ⟨rfl, rfl, ⟨by omega, AJI.end haj (by omega) (by omega) h_x hWh rw74⟩⟩
    ·
      refine GO.aload_n dX5_part_22 rfl rfl ?_
      refine GO.callV (ci := 4) (N := mX5_next) dX5_part_23 (RX5, TX5, 7) rfl gV_RX5_61 h_x (t_X5_next h_x) rfl [] rfl rfl (Nat.le_of_ble_eq_true rfl) rfl (k_ip fun X1861 r1862 h1863 => ?_)
      refine GO.bipush dX5_part_26 rfl ?_
      refine GO.icmp_ne (tgt := 69) dX5_part_28 (by decide) r1862 (ir_c rfl) (fun c1864 => ?_) (fun c1864 => ?_)
      ·
        refine GO.aload_n dX5_part_69 rfl rfl ?_
        refine GO.getR h_x fl_RX5_31 rfl rfl dX5_part_70 (fun hv1866 h1865 => ?_)
        refine GO.iload_n dX5_part_73 rfl rfl ?_
        refine GO.callV (ci := 8) (N := mX9_lead) dX5_part_74 (RX9, TX9, 5) rfl gV_RX5_89 h1865 (t_X9_lead h1865 r_i8) rfl [] rfl rfl (Nat.le_of_ble_eq_true rfl) rfl (k_vs fun V1869 h1868 hF1867 => ?_)
        have raw_lead := h1868.2
        have rw74 := h1868.2
        have e1870 : vi V1869 x 4 = vi Wi8 x 4 := vi_fr hF1867 h_x h_x (by decide +kernel)
        have q1871 : -2147483648 ≤ vi Wi8 x 4 ∧ vi Wi8 x 4 ≤ 2147483647 := vi_ir
        have e1872 : vi V1869 x 5 = vi Wi8 x 5 := vi_fr hF1867 h_x h_x (by decide +kernel)
        have q1873 : -2147483648 ≤ vi Wi8 x 5 ∧ vi Wi8 x 5 ≤ 2147483647 := vi_ir
        exact GO.retv rfl rfl dX5_part_77 ⟨rfl, rfl, ⟨by omega, AJI.end haj (by omega) (by omega) h_x hWh rw74⟩⟩
      ·
        refine GO.aload_n dX5_part_31 rfl rfl ?_
        refine GO.dup dX5_part_32 rfl ?_
        refine GO.getI h_x fl_RX5_9 rfl rfl dX5_part_33 (fun _ _ => ?_)
        refine GO.iconst dX5_part_36 ?_
        refine GO.iadd dX5_part_37 ?_
        refine GO.norm (fun z1874 r1875 hn1876 => ?_)
        refine GO.putI h_x fp_RX5_9 rfl (by decide +kernel) r1875 (r1875).1 (r1875).2 dX5_part_38 (fun V1878 e1877 => ?_)
        refine GO.useWT (fun hW2 => ?_)
        refine GO.aload_n dX5_part_41 rfl rfl ?_
        refine GO.getR h_x fl_RX5_31 rfl rfl dX5_part_42 (fun hv1880 h1879 => ?_)
        refine GO.iload_n dX5_part_45 rfl rfl ?_
        refine GO.callV (ci := 8) (N := mX9_lead) dX5_part_46 (RX9, TX9, 5) rfl gV_RX5_89 h1879 (t_X9_lead h1879 r_i8) rfl [] rfl rfl (Nat.le_of_ble_eq_true rfl) rfl (k_vs fun V1883 h1882 hF1881 => ?_)
        have raw_lead := h1882.2
        have rw46 := h1882.2
        refine GO.useWT (fun hW3 => ?_)
        refine GO.aload_n dX5_part_49 rfl rfl ?_
        refine GO.getRaw h_x fl_RX5_31 (Eq.trans (hF1881 _ _ _ h_x h_x (by decide +kernel)) hv1880) dX5_part_50 ?_
        refine GO.iconst dX5_part_53 ?_
        refine GO.iconst dX5_part_54 ?_
        refine GO.callV (ci := 8) (N := mX9_addStep) dX5_part_55 (RX9, TX9, 5) rfl gV_RX5_92 h1879 (t_X9_addStep h1879 (ir_c rfl) (ir_c rfl)) rfl [] rfl rfl (Nat.le_of_ble_eq_true rfl) rfl (k_is fun X1886 V1890 r1887 h1888 hF1889 => ?_)
        have raw_addStep := h1888.2
        have rw55 := h1888.2
        refine GO.istore_n (ls1 := [some (.ref x), some (ti X1886), some (ti i9)]) dX5_part_58 rfl rfl rfl ?_
        refine GO.aload_n dX5_part_59 rfl rfl ?_
        have e1893 : vi V1878 x 5 = vi Wi8 x 5 := vi_up e1877 (Or.inr (by decide))
        have e1892 : vi V1883 x 5 = vi V1878 x 5 := vi_fr hF1881 h_x h_x (by decide +kernel)
        have e1891 : vi V1890 x 5 = vi V1883 x 5 := vi_fr hF1889 h_x h_x (by decide +kernel)
        have e1896 : vi V1878 x 4 = vi Wi8 x 4 := vi_up e1877 (Or.inr (by decide))
        have e1895 : vi V1883 x 4 = vi V1878 x 4 := vi_fr hF1881 h_x h_x (by decide +kernel)
        have e1894 : vi V1890 x 4 = vi V1883 x 4 := vi_fr hF1889 h_x h_x (by decide +kernel)
        have q1897 : -2147483648 ≤ vi Wi8 x 4 ∧ vi Wi8 x 4 ≤ 2147483647 := vi_ir
        have q1898 : -2147483648 ≤ vi Wi8 x 5 ∧ vi Wi8 x 5 ≤ 2147483647 := vi_ir
        refine GO.callV (ci := 4) (N := mX5_piece_3) dX5_part_60 (RX5, TX5, 7) rfl gV_RX5_96 h_x (t_X5_piece_3 h_x (by omega)) rfl [] rfl rfl (Nat.le_of_ble_eq_true rfl) rfl (k_vs fun V1901 h1900 hF1899 => ?_)
        have raw_piece := h1900.2
        have rw60 := h1900.2
        refine GO.iinc (X := i9) (n := 1) (Y := i9 + 1) (ls1 := [some (.ref x), some (ti X1886), some (ti (i9 + 1))]) dX5_part_63 rfl rfl rfl rfl ?_
        refine GO.goto (tgt := 8) dX5_part_66 (by decide) ?_
        have q1904 : -2147483648 ≤ vi V1901 x 4 ∧ vi V1901 x 4 ≤ 2147483647 := vi_ir
        have q1905 : -2147483648 ≤ vi V1901 x 5 ∧ vi V1901 x 5 ≤ 2147483647 := vi_ir
        exact ih1839 X1886 (i9 + 1) V1901 ⟨by omega, by omega, by omega, by omega, by omega, (by first | exact AJI.beg rw3 | exact AJI.step haj (by omega) (by omega) (by omega) h_x hWh hW2 hW3 (by assumption) (by assumption) (by assumption) rw46 rw55 (CR.pie rw60 (by omega))), trivial⟩ (by show (2147483647 - (i9 + 1)).toNat < (2147483647 - i9).toNat; omega)

theorem t_X5_part_3 {K : Kmap} {V : Vmap} {x : Nat} (h_x : K x = some (0, 4)) (q_0 : (vi V x 5 ≠ 0 ∨ (vi V x 5 = 0 ∧ vi V x 4 ≥ 6 ∧ vi V x 4 ≤ 8))) : MC mX5_part_3 K V [.ref x] (VS K (fun V1 => (vi V1 x 4 = vi V x 4 ∧ (vi V x 5 ≠ 0 → vi V1 x 5 ≠ 0)) ∧ (CR K V V1 x (fun src e => parG src e (pieD src e (vi V x 4).toNat))))) := by
  rcases q_0 with h | h
  · exact t_X5_part_3_F h_x (by omega)
  · exact t_X5_part_3_G h_x (by omega) (by omega) (by omega)

set_option maxHeartbeats 1000000 in
theorem t_X5_parts_3_F {K : Kmap} {V : Vmap} {x : Nat} (h_x : K x = some (0, 4)) (q_0 : vi V x 5 ≠ 0) : MC mX5_parts_3 K V [.ref x] (VS K (fun V1 => (vi V1 x 4 = vi V x 4 ∧ (vi V x 5 ≠ 0 → vi V1 x 5 ≠ 0)) ∧ (CR K V V1 x (fun src e => parD src e (vi V x 4).toNat)))) := by
  refine MC.start 2 (by decide +kernel) rfl rfl rfl (ls0 := [some (.ref x), none, none]) rfl ?_
  refine GO.useWT (fun hW_0 => ?_)
  refine GO.iconst dX5_parts_0 ?_
  refine GO.istore_n (ls1 := [some (.ref x), some (ti (-1)), none]) dX5_parts_1 rfl rfl rfl ?_
  refine GO.aload_n dX5_parts_2 rfl rfl ?_
  have q1 : -2147483648 ≤ vi V x 4 ∧ vi V x 4 ≤ 2147483647 := vi_ir
  have q2 : -2147483648 ≤ vi V x 5 ∧ vi V x 5 ≤ 2147483647 := vi_ir
  refine GO.callV (ci := 4) (N := mX5_part_3) dX5_parts_3 (RX5, TX5, 7) rfl gV_RX5_86 h_x (t_X5_part_3 h_x (by omega)) rfl [] rfl rfl (Nat.le_of_ble_eq_true rfl) rfl (k_vs fun V5 h4 hF3 => ?_)
  have raw_part := h4.2
  have rw3 := h4.2
  refine GO.iconst dX5_parts_6 ?_
  refine GO.istore_n (ls1 := [some (.ref x), some (ti (-1)), some (ti 0)]) dX5_parts_7 rfl rfl rfl ?_
  have q10 : -2147483648 ≤ vi V5 x 4 ∧ vi V5 x 4 ≤ 2147483647 := vi_ir
  have q11 : -2147483648 ≤ vi V5 x 5 ∧ vi V5 x 5 ≤ 2147483647 := vi_ir
  refine GO.loop2 (fun i8 i9 W => (-1) ≤ i8 ∧ i8 ≤ (-1) ∧ 0 ≤ i9 ∧ i9 ≤ 0 ∧ (vi W x 4 = vi V5 x 4 ∧ (vi V5 x 5 ≠ 0 → vi W x 5 ≠ 0)) ∧ (OJI K V W x (vi V x 4).toNat i8 i9) ∧ True) (fun i8 i9 => [some (.ref x), some (ti i8), some (ti i9)]) (fun i8 i9 W => (2147483647 - i8).toNat) (-1) 0 ⟨by omega, by omega, by omega, by omega, by omega, (by first | exact OJI.beg rw3), trivial⟩ rfl (fun i8 i9 Wi8 hp24 ih23 => ?_)
  obtain ⟨l_i8, u_i8, l_i9, u_i9, n_i8, hoj, -⟩ := hp24
  have r_i8 : ir i8 := ⟨by omega, by omega⟩
  have r_i9 : ir i9 := ⟨by omega, by omega⟩
  show GO mX5_parts_3 K V (VS K (fun V1 => (vi V1 x 4 = vi V x 4 ∧ (vi V x 5 ≠ 0 → vi V1 x 5 ≠ 0)) ∧ (CR K V V1 x (fun src e => parD src e (vi V x 4).toNat)))) K Wi8 0 0 8 [some (.ref x), some (ti i8), some (ti i9)] []
  refine GO.useWT (fun hWh => ?_)
  refine GO.iload_n dX5_parts_8 rfl rfl ?_
  refine GO.sipush dX5_parts_9 rfl ?_
  refine GO.icmp_ge (tgt := 69) dX5_parts_12 (by decide) r_i9 (ir_c rfl) (fun h => by exfalso; omega) (fun c25 => ?_)
  refine GO.aload_n dX5_parts_15 rfl rfl ?_
  refine GO.getI h_x fl_RX5_18 rfl rfl dX5_parts_16 (fun _ _ => ?_)
  have q27 : -2147483648 ≤ vi Wi8 x 5 ∧ vi Wi8 x 5 ≤ 2147483647 := vi_ir
  refine GO.if_ne (tgt := 69) dX5_parts_19 (by decide) vi_ir (fun c26 => ?_) (fun h => by exfalso; omega)
  refine GO.aload_n dX5_parts_69 rfl rfl ?_
  refine GO.getR h_x fl_RX5_31 rfl rfl dX5_parts_70 (fun hv29 h28 => ?_)
  refine GO.iload_n dX5_parts_73 rfl rfl ?_
  refine GO.callV (ci := 8) (N := mX9_lead) dX5_parts_74 (RX9, TX9, 5) rfl gV_RX5_89 h28 (t_X9_lead h28 r_i8) rfl [] rfl rfl (Nat.le_of_ble_eq_true rfl) rfl (k_vs fun V32 h31 hF30 => ?_)
  have raw_lead := h31.2
  have rw74 := h31.2
  have e33 : vi V32 x 4 = vi Wi8 x 4 := vi_fr hF30 h_x h_x (by decide +kernel)
  have q34 : -2147483648 ≤ vi Wi8 x 4 ∧ vi Wi8 x 4 ≤ 2147483647 := vi_ir
  have e35 : vi V32 x 5 = vi Wi8 x 5 := vi_fr hF30 h_x h_x (by decide +kernel)
  exact GO.retv rfl rfl dX5_parts_77 ⟨rfl, rfl, ⟨by omega, OJI.end hoj (by omega) (by omega) h_x hWh rw74⟩⟩

set_option maxHeartbeats 1000000 in
theorem t_X5_parts_3_G {K : Kmap} {V : Vmap} {x : Nat} (h_x : K x = some (0, 4)) (q_0 : vi V x 5 = 0) (q_1 : vi V x 4 ≥ 6) (q_2 : vi V x 4 ≤ 8) : MC mX5_parts_3 K V [.ref x] (VS K (fun V1 => (vi V1 x 4 = vi V x 4 ∧ (vi V x 5 ≠ 0 → vi V1 x 5 ≠ 0)) ∧ (CR K V V1 x (fun src e => parD src e (vi V x 4).toNat)))) := by
  refine MC.start 2 (by decide +kernel) rfl rfl rfl (ls0 := [some (.ref x), none, none]) rfl ?_
  refine GO.useWT (fun hW_0 => ?_)
  refine GO.iconst dX5_parts_0 ?_
  refine GO.istore_n (ls1 := [some (.ref x), some (ti (-1)), none]) dX5_parts_1 rfl rfl rfl ?_
  refine GO.aload_n dX5_parts_2 rfl rfl ?_
  have q1 : -2147483648 ≤ vi V x 4 ∧ vi V x 4 ≤ 2147483647 := vi_ir
  have q2 : -2147483648 ≤ vi V x 5 ∧ vi V x 5 ≤ 2147483647 := vi_ir
  refine GO.callV (ci := 4) (N := mX5_part_3) dX5_parts_3 (RX5, TX5, 7) rfl gV_RX5_86 h_x (t_X5_part_3 h_x (by omega)) rfl [] rfl rfl (Nat.le_of_ble_eq_true rfl) rfl (k_vs fun V5 h4 hF3 => ?_)
  have raw_part := h4.2
  have rw3 := h4.2
  refine GO.iconst dX5_parts_6 ?_
  refine GO.istore_n (ls1 := [some (.ref x), some (ti (-1)), some (ti 0)]) dX5_parts_7 rfl rfl rfl ?_
  have q10 : -2147483648 ≤ vi V5 x 4 ∧ vi V5 x 4 ≤ 2147483647 := vi_ir
  have q11 : -2147483648 ≤ vi V5 x 5 ∧ vi V5 x 5 ≤ 2147483647 := vi_ir
  refine GO.loop2 (fun i8 i9 W => (-2147483648) ≤ i8 ∧ i8 ≤ 2147483647 ∧ 0 ≤ i9 ∧ i9 ≤ 200 ∧ (vi W x 4 = vi V5 x 4 ∧ (vi V5 x 5 ≠ 0 → vi W x 5 ≠ 0)) ∧ (OJI K V W x (vi V x 4).toNat i8 i9) ∧ True) (fun i8 i9 => [some (.ref x), some (ti i8), some (ti i9)]) (fun i8 i9 W => (2147483647 - i9).toNat) (-1) 0 ⟨by omega, by omega, by omega, by omega, by omega, (by first | exact OJI.beg rw3), trivial⟩ rfl (fun i8 i9 Wi8 hp1840 ih1839 => ?_)
  obtain ⟨l_i8, u_i8, l_i9, u_i9, n_i8, hoj, -⟩ := hp1840
  have r_i8 : ir i8 := ⟨by omega, by omega⟩
  have r_i9 : ir i9 := ⟨by omega, by omega⟩
  show GO mX5_parts_3 K V (VS K (fun V1 => (vi V1 x 4 = vi V x 4 ∧ (vi V x 5 ≠ 0 → vi V1 x 5 ≠ 0)) ∧ (CR K V V1 x (fun src e => parD src e (vi V x 4).toNat)))) K Wi8 0 0 8 [some (.ref x), some (ti i8), some (ti i9)] []
  refine GO.useWT (fun hWh => ?_)
  refine GO.iload_n dX5_parts_8 rfl rfl ?_
  refine GO.sipush dX5_parts_9 rfl ?_
  refine GO.icmp_ge (tgt := 69) dX5_parts_12 (by decide) r_i9 (ir_c rfl) (fun c1841 => ?_) (fun c1841 => ?_)
  ·
    refine GO.aload_n dX5_parts_69 rfl rfl ?_
    refine GO.getR h_x fl_RX5_31 rfl rfl dX5_parts_70 (fun hv1843 h1842 => ?_)
    refine GO.iload_n dX5_parts_73 rfl rfl ?_
    refine GO.callV (ci := 8) (N := mX9_lead) dX5_parts_74 (RX9, TX9, 5) rfl gV_RX5_89 h1842 (t_X9_lead h1842 r_i8) rfl [] rfl rfl (Nat.le_of_ble_eq_true rfl) rfl (k_vs fun V1846 h1845 hF1844 => ?_)
    have raw_lead := h1845.2
    have rw74 := h1845.2
    have e1847 : vi V1846 x 4 = vi Wi8 x 4 := vi_fr hF1844 h_x h_x (by decide +kernel)
    have q1848 : -2147483648 ≤ vi Wi8 x 4 ∧ vi Wi8 x 4 ≤ 2147483647 := vi_ir
    have e1849 : vi V1846 x 5 = vi Wi8 x 5 := vi_fr hF1844 h_x h_x (by decide +kernel)
    have q1850 : -2147483648 ≤ vi Wi8 x 5 ∧ vi Wi8 x 5 ≤ 2147483647 := vi_ir
    exact GO.retv rfl rfl dX5_parts_77 ⟨rfl, rfl, ⟨by omega, OJI.end hoj (by omega) (by omega) h_x hWh rw74⟩⟩
  ·
    refine GO.aload_n dX5_parts_15 rfl rfl ?_
    refine GO.getI h_x fl_RX5_18 rfl rfl dX5_parts_16 (fun _ _ => ?_)
    refine GO.if_ne (tgt := 69) dX5_parts_19 (by decide) vi_ir (fun c1851 => ?_) (fun c1851 => ?_)
    ·
      refine GO.aload_n dX5_parts_69 rfl rfl ?_
      refine GO.getR h_x fl_RX5_31 rfl rfl dX5_parts_70 (fun hv1853 h1852 => ?_)
      refine GO.iload_n dX5_parts_73 rfl rfl ?_
      refine GO.callV (ci := 8) (N := mX9_lead) dX5_parts_74 (RX9, TX9, 5) rfl gV_RX5_89 h1852 (t_X9_lead h1852 r_i8) rfl [] rfl rfl (Nat.le_of_ble_eq_true rfl) rfl (k_vs fun V1856 h1855 hF1854 => ?_)
      have raw_lead := h1855.2
      have rw74 := h1855.2
      have e1857 : vi V1856 x 4 = vi Wi8 x 4 := vi_fr hF1854 h_x h_x (by decide +kernel)
      have q1858 : -2147483648 ≤ vi Wi8 x 4 ∧ vi Wi8 x 4 ≤ 2147483647 := vi_ir
      have e1859 : vi V1856 x 5 = vi Wi8 x 5 := vi_fr hF1854 h_x h_x (by decide +kernel)
      have q1860 : -2147483648 ≤ vi Wi8 x 5 ∧ vi Wi8 x 5 ≤ 2147483647 := vi_ir
      exact GO.retv rfl rfl dX5_parts_77 ⟨rfl, rfl, ⟨by omega, OJI.end hoj (by omega) (by omega) h_x hWh rw74⟩⟩
    ·
      refine GO.aload_n dX5_parts_22 rfl rfl ?_
      refine GO.callV (ci := 4) (N := mX5_next) dX5_parts_23 (RX5, TX5, 7) rfl gV_RX5_61 h_x (t_X5_next h_x) rfl [] rfl rfl (Nat.le_of_ble_eq_true rfl) rfl (k_ip fun X1861 r1862 h1863 => ?_)
      refine GO.bipush dX5_parts_26 rfl ?_
      refine GO.icmp_ne (tgt := 69) dX5_parts_28 (by decide) r1862 (ir_c rfl) (fun c1864 => ?_) (fun c1864 => ?_)
      ·
        refine GO.aload_n dX5_parts_69 rfl rfl ?_
        refine GO.getR h_x fl_RX5_31 rfl rfl dX5_parts_70 (fun hv1866 h1865 => ?_)
        refine GO.iload_n dX5_parts_73 rfl rfl ?_
        refine GO.callV (ci := 8) (N := mX9_lead) dX5_parts_74 (RX9, TX9, 5) rfl gV_RX5_89 h1865 (t_X9_lead h1865 r_i8) rfl [] rfl rfl (Nat.le_of_ble_eq_true rfl) rfl (k_vs fun V1869 h1868 hF1867 => ?_)
        have raw_lead := h1868.2
        have rw74 := h1868.2
        have e1870 : vi V1869 x 4 = vi Wi8 x 4 := vi_fr hF1867 h_x h_x (by decide +kernel)
        have q1871 : -2147483648 ≤ vi Wi8 x 4 ∧ vi Wi8 x 4 ≤ 2147483647 := vi_ir
        have e1872 : vi V1869 x 5 = vi Wi8 x 5 := vi_fr hF1867 h_x h_x (by decide +kernel)
        have q1873 : -2147483648 ≤ vi Wi8 x 5 ∧ vi Wi8 x 5 ≤ 2147483647 := vi_ir
        exact GO.retv rfl rfl dX5_parts_77 ⟨rfl, rfl, ⟨by omega, OJI.end hoj (by omega) (by omega) h_x hWh rw74⟩⟩
      ·
        refine GO.aload_n dX5_parts_31 rfl rfl ?_
        refine GO.dup dX5_parts_32 rfl ?_
        refine GO.getI h_x fl_RX5_9 rfl rfl dX5_parts_33 (fun _ _ => ?_)
        refine GO.iconst dX5_parts_36 ?_
        refine GO.iadd dX5_parts_37 ?_
        refine GO.norm (fun z1874 r1875 hn1876 => ?_)
        refine GO.putI h_x fp_RX5_9 rfl (by decide +kernel) r1875 (r1875).1 (r1875).2 dX5_parts_38 (fun V1878 e1877 => ?_)
        refine GO.useWT (fun hW2 => ?_)
        refine GO.aload_n dX5_parts_41 rfl rfl ?_
        refine GO.getR h_x fl_RX5_31 rfl rfl dX5_parts_42 (fun hv1880 h1879 => ?_)
        refine GO.iload_n dX5_parts_45 rfl rfl ?_
        refine GO.callV (ci := 8) (N := mX9_lead) dX5_parts_46 (RX9, TX9, 5) rfl gV_RX5_89 h1879 (t_X9_lead h1879 r_i8) rfl [] rfl rfl (Nat.le_of_ble_eq_true rfl) rfl (k_vs fun V1883 h1882 hF1881 => ?_)
        have raw_lead := h1882.2
        have rw46 := h1882.2
        refine GO.useWT (fun hW3 => ?_)
        refine GO.aload_n dX5_parts_49 rfl rfl ?_
        refine GO.getRaw h_x fl_RX5_31 (Eq.trans (hF1881 _ _ _ h_x h_x (by decide +kernel)) hv1880) dX5_parts_50 ?_
        refine GO.iconst dX5_parts_53 ?_
        refine GO.iconst dX5_parts_54 ?_
        refine GO.callV (ci := 8) (N := mX9_addStep) dX5_parts_55 (RX9, TX9, 5) rfl gV_RX5_92 h1879 (t_X9_addStep h1879 (ir_c rfl) (ir_c rfl)) rfl [] rfl rfl (Nat.le_of_ble_eq_true rfl) rfl (k_is fun X1886 V1890 r1887 h1888 hF1889 => ?_)
        have raw_addStep := h1888.2
        have rw55 := h1888.2
        refine GO.istore_n (ls1 := [some (.ref x), some (ti X1886), some (ti i9)]) dX5_parts_58 rfl rfl rfl ?_
        refine GO.aload_n dX5_parts_59 rfl rfl ?_
        have e1893 : vi V1878 x 5 = vi Wi8 x 5 := vi_up e1877 (Or.inr (by decide))
        have e1892 : vi V1883 x 5 = vi V1878 x 5 := vi_fr hF1881 h_x h_x (by decide +kernel)
        have e1891 : vi V1890 x 5 = vi V1883 x 5 := vi_fr hF1889 h_x h_x (by decide +kernel)
        have e1896 : vi V1878 x 4 = vi Wi8 x 4 := vi_up e1877 (Or.inr (by decide))
        have e1895 : vi V1883 x 4 = vi V1878 x 4 := vi_fr hF1881 h_x h_x (by decide +kernel)
        have e1894 : vi V1890 x 4 = vi V1883 x 4 := vi_fr hF1889 h_x h_x (by decide +kernel)
        have q1897 : -2147483648 ≤ vi Wi8 x 4 ∧ vi Wi8 x 4 ≤ 2147483647 := vi_ir
        have q1898 : -2147483648 ≤ vi Wi8 x 5 ∧ vi Wi8 x 5 ≤ 2147483647 := vi_ir
        refine GO.callV (ci := 4) (N := mX5_part_3) dX5_parts_60 (RX5, TX5, 7) rfl gV_RX5_86 h_x (t_X5_part_3 h_x (by omega)) rfl [] rfl rfl (Nat.le_of_ble_eq_true rfl) rfl (k_vs fun V1901 h1900 hF1899 => ?_)
        have raw_part := h1900.2
        have rw60 := h1900.2
        refine GO.iinc (X := i9) (n := 1) (Y := i9 + 1) (ls1 := [some (.ref x), some (ti X1886), some (ti (i9 + 1))]) dX5_parts_63 rfl rfl rfl rfl ?_
        refine GO.goto (tgt := 8) dX5_parts_66 (by decide) ?_
        have q1904 : -2147483648 ≤ vi V1901 x 4 ∧ vi V1901 x 4 ≤ 2147483647 := vi_ir
        have q1905 : -2147483648 ≤ vi V1901 x 5 ∧ vi V1901 x 5 ≤ 2147483647 := vi_ir
        exact ih1839 X1886 (i9 + 1) V1901 ⟨by omega, by omega, by omega, by omega, by omega, (by first | exact OJI.beg rw3 | exact OJI.step hoj (by omega) (by omega) (by omega) h_x hWh hW2 hW3 (by assumption) (by assumption) (by assumption) rw46 rw55 (CR.prt rw60 (by omega))), trivial⟩ (by show (2147483647 - (i9 + 1)).toNat < (2147483647 - i9).toNat; omega)

theorem t_X5_parts_3 {K : Kmap} {V : Vmap} {x : Nat} (h_x : K x = some (0, 4)) (q_0 : (vi V x 5 ≠ 0 ∨ (vi V x 5 = 0 ∧ vi V x 4 ≥ 6 ∧ vi V x 4 ≤ 8))) : MC mX5_parts_3 K V [.ref x] (VS K (fun V1 => (vi V1 x 4 = vi V x 4 ∧ (vi V x 5 ≠ 0 → vi V1 x 5 ≠ 0)) ∧ (CR K V V1 x (fun src e => parD src e (vi V x 4).toNat)))) := by
  rcases q_0 with h | h
  · exact t_X5_parts_3_F h_x (by omega)
  · exact t_X5_parts_3_G h_x (by omega) (by omega) (by omega)

set_option maxHeartbeats 1000000 in
theorem t_X5_negation_4_G {K : Kmap} {V : Vmap} {x : Nat} (h_x : K x = some (0, 4)) (q_0 : vi V x 5 = 0) (q_1 : vi V x 4 ≥ 5) (q_2 : vi V x 4 ≤ 8) : MC mX5_negation_4 K V [.ref x] (VS K (fun V1 => (vi V1 x 4 = vi V x 4 ∧ (vi V x 5 ≠ 0 → vi V1 x 5 ≠ 0)) ∧ (CR K V V1 x (fun src e => negD src e (vi V x 4).toNat)))) := by
  refine MC.start 0 (by decide +kernel) rfl rfl rfl (ls0 := [some (.ref x)]) rfl ?_
  refine GO.useWT (fun hW_0 => ?_)
  refine GO.aload_n dX5_negation_0 rfl rfl ?_
  refine GO.bipush dX5_negation_1 rfl ?_
  have q1 : -2147483648 ≤ vi V x 4 ∧ vi V x 4 ≤ 2147483647 := vi_ir
  refine GO.callV (ci := 4) (N := mX5_deepen) dX5_negation_3 (RX5, TX5, 7) rfl gV_RX5_80 h_x (t_X5_deepen h_x (ir_c rfl) (by omega) (by omega) (by omega)) rfl [] rfl rfl (Nat.le_of_ble_eq_true rfl) rfl (k_vs fun V4 h3 hF2 => ?_)
  have raw_deepen := h3.2
  have rw3 := h3.2
  refine GO.aload_n dX5_negation_6 rfl rfl ?_
  have q7 : -2147483648 ≤ vi V4 x 4 ∧ vi V4 x 4 ≤ 2147483647 := vi_ir
  have q8 : -2147483648 ≤ vi V4 x 5 ∧ vi V4 x 5 ≤ 2147483647 := vi_ir
  refine GO.callV (ci := 4) (N := mX5_piece_3) dX5_negation_7 (RX5, TX5, 7) rfl gV_RX5_96 h_x (t_X5_piece_3 h_x (by omega)) rfl [] rfl rfl (Nat.le_of_ble_eq_true rfl) rfl (k_vs fun V11 h10 hF9 => ?_)
  have raw_piece := h10.2
  have rw7 := h10.2
  refine GO.useWT (fun hWb => ?_)
  refine GO.aload_n dX5_negation_10 rfl rfl ?_
  refine GO.dup dX5_negation_11 rfl ?_
  refine GO.getI h_x fl_RX5_15 rfl rfl dX5_negation_12 (fun _ _ => ?_)
  refine GO.iconst dX5_negation_15 ?_
  refine GO.isub dX5_negation_16 ?_
  have q15 : -2147483648 ≤ vi V11 x 4 ∧ vi V11 x 4 ≤ 2147483647 := vi_ir
  refine GO.putI h_x fp_RX5_15 rfl (by decide +kernel) ⟨by omega, by omega⟩ (by omega) (by omega) dX5_negation_17 (fun V16 e14 => ?_)
  refine GO.useWT (fun hWn => ?_)
  refine GO.aload_n dX5_negation_20 rfl rfl ?_
  refine GO.getR h_x fl_RX5_31 rfl rfl dX5_negation_21 (fun hv18 h17 => ?_)
  refine GO.iconst dX5_negation_24 ?_
  refine GO.iconst dX5_negation_25 ?_
  refine GO.callV (ci := 8) (N := mX9_addStep) dX5_negation_26 (RX9, TX9, 5) rfl gV_RX5_92 h17 (t_X9_addStep h17 (ir_c rfl) (ir_c rfl)) rfl [] rfl rfl (Nat.le_of_ble_eq_true rfl) rfl (k_is fun X19 V23 r20 h21 hF22 => ?_)
  have raw_addStep := h21.2
  have rw26 := h21.2
  refine GO.pop dX5_negation_29 rfl ?_
  have e25 : vi V16 x 4 = (vi V11 x 4) - 1 := upd2_int e14 ⟨by omega, by omega⟩
  have e24 : vi V23 x 4 = vi V16 x 4 := vi_fr hF22 h_x h_x (by decide +kernel)
  have q26 : -2147483648 ≤ vi V x 5 ∧ vi V x 5 ≤ 2147483647 := vi_ir
  have e28 : vi V16 x 5 = vi V11 x 5 := vi_up e14 (Or.inr (by decide))
  have e27 : vi V23 x 5 = vi V16 x 5 := vi_fr hF22 h_x h_x (by decide +kernel)
  have q29 : -2147483648 ≤ vi V11 x 5 ∧ vi V11 x 5 ≤ 2147483647 := vi_ir
  exact GO.retv rfl rfl dX5_negation_30 ⟨rfl, rfl, ⟨by omega, NEG.of rw3 rw7 (by omega) h_x hWb hWn (by assumption) rw26⟩⟩

theorem t_X5_negation_4 {K : Kmap} {V : Vmap} {x : Nat} (h_x : K x = some (0, 4)) (q_0 : ((vi V x 5 = 0 ∧ vi V x 4 ≥ 5 ∧ vi V x 4 ≤ 8))) : MC mX5_negation_4 K V [.ref x] (VS K (fun V1 => (vi V1 x 4 = vi V x 4 ∧ (vi V x 5 ≠ 0 → vi V1 x 5 ≠ 0)) ∧ (CR K V V1 x (fun src e => negD src e (vi V x 4).toNat)))) := by
  exact t_X5_negation_4_G h_x (by omega) (by omega) (by omega)

set_option maxHeartbeats 1000000 in
theorem t_X5_piece_4_F {K : Kmap} {V : Vmap} {x : Nat} (h_x : K x = some (0, 4)) (q_0 : vi V x 5 ≠ 0) : MC mX5_piece_4 K V [.ref x] (VS K (fun V1 => (vi V1 x 4 = vi V x 4 ∧ (vi V x 5 ≠ 0 → vi V1 x 5 ≠ 0)) ∧ (CR K V V1 x (fun src e => pieD src e (vi V x 4).toNat)))) := by
  refine MC.start 2 (by decide +kernel) rfl rfl rfl (ls0 := [some (.ref x), none, none]) rfl ?_
  refine GO.useWT (fun hW_0 => ?_)
  refine GO.aload_n dX5_piece_0 rfl rfl ?_
  refine GO.getI h_x fl_RX5_18 rfl rfl dX5_piece_1 (fun _ _ => ?_)
  have q2 : -2147483648 ≤ vi V x 5 ∧ vi V x 5 ≤ 2147483647 := vi_ir
  refine GO.if_eq (tgt := 8) dX5_piece_4 (by decide) vi_ir (fun h => by exfalso; omega) (fun c1 => ?_)
  have q3 : -2147483648 ≤ vi V x 4 ∧ vi V x 4 ≤ 2147483647 := vi_ir
  exact GO.retv rfl rfl dX5_piece_7 ⟨rfl, rfl, ⟨by omega, (by first | exact CRg.bad (by omega))⟩⟩

set_option maxHeartbeats 1000000 in
theorem t_X5_piece_4_G {K : Kmap} {V : Vmap} {x : Nat} (h_x : K x = some (0, 4)) (q_0 : vi V x 5 = 0) (q_1 : vi V x 4 ≥ 5) (q_2 : vi V x 4 ≤ 8) : MC mX5_piece_4 K V [.ref x] (VS K (fun V1 => (vi V1 x 4 = vi V x 4 ∧ (vi V x 5 ≠ 0 → vi V1 x 5 ≠ 0)) ∧ (CR K V V1 x (fun src e => pieD src e (vi V x 4).toNat)))) := by
  refine MC.start 2 (by decide +kernel) rfl rfl rfl (ls0 := [some (.ref x), none, none]) rfl ?_
  refine GO.useWT (fun hW_0 => ?_)
  refine GO.aload_n dX5_piece_0 rfl rfl ?_
  refine GO.getI h_x fl_RX5_18 rfl rfl dX5_piece_1 (fun _ _ => ?_)
  have q2 : -2147483648 ≤ vi V x 5 ∧ vi V x 5 ≤ 2147483647 := vi_ir
  refine GO.if_eq (tgt := 8) dX5_piece_4 (by decide) vi_ir (fun c1 => ?_) (fun h => by exfalso; omega)
  refine GO.aload_n dX5_piece_8 rfl rfl ?_
  refine GO.callV (ci := 4) (N := mX5_next) dX5_piece_9 (RX5, TX5, 7) rfl gV_RX5_61 h_x (t_X5_next h_x) rfl [] rfl rfl (Nat.le_of_ble_eq_true rfl) rfl (k_ip fun X3 r4 h5 => ?_)
  refine GO.istore_n (ls1 := [some (.ref x), some (ti X3), none]) dX5_piece_12 rfl rfl rfl ?_
  refine GO.iload_n dX5_piece_13 rfl rfl ?_
  refine GO.bipush dX5_piece_14 rfl ?_
  refine GO.icmp_ne (tgt := 26) dX5_piece_16 (by decide) r4 (ir_c rfl) (fun c6 => ?_) (fun c6 => ?_)
  ·
    refine GO.iload_n dX5_piece_26 rfl rfl ?_
    refine GO.bipush dX5_piece_27 rfl ?_
    refine GO.icmp_ne (tgt := 61) dX5_piece_29 (by decide) r4 (ir_c rfl) (fun c7 => ?_) (fun c7 => ?_)
    ·
      refine GO.aload_n dX5_piece_61 rfl rfl ?_
      have q8 : -2147483648 ≤ vi V x 4 ∧ vi V x 4 ≤ 2147483647 := vi_ir
      refine GO.callV (ci := 4) (N := mX5_terms_4) dX5_piece_62 (RX5, TX5, 7) rfl gV_RX5_102 h_x (t_X5_terms_4 h_x (by omega)) rfl [] rfl rfl (Nat.le_of_ble_eq_true rfl) rfl (k_vs fun V11 h10 hF9 => ?_)
      have raw_terms := h10.2
      have rw62 := h10.2
      refine GO.useWT (fun hW1 => ?_)
      refine GO.aload_n dX5_piece_65 rfl rfl ?_
      refine GO.aload_n dX5_piece_66 rfl rfl ?_
      refine GO.callV (ci := 4) (N := mX5_next) dX5_piece_67 (RX5, TX5, 7) rfl gV_RX5_61 h_x (t_X5_next h_x) rfl [.ref x] rfl rfl (Nat.le_of_ble_eq_true rfl) rfl (k_ip fun X14 r15 h16 => ?_)
      refine GO.callV (ci := 4) (N := mX5_comparison) dX5_piece_70 (RX5, TX5, 7) rfl gV_RX5_105 h_x (t_X5_comparison h_x r15) rfl [] rfl rfl (Nat.le_of_ble_eq_true rfl) rfl (k_is fun X17 V21 r18 h19 hF20 => ?_)
      have raw_comparison := h19.2
      have rw70 := h19.2
      refine GO.useWT (fun hW2 => ?_)
      refine GO.istore_n (ls1 := [some (.ref x), some (ti X3), some (ti X17)]) dX5_piece_73 rfl rfl rfl ?_
      refine GO.aload_n dX5_piece_74 rfl rfl ?_
      refine GO.dup dX5_piece_75 rfl ?_
      refine GO.getI h_x fl_RX5_9 rfl rfl dX5_piece_76 (fun _ _ => ?_)
      refine GO.iconst dX5_piece_79 ?_
      refine GO.iadd dX5_piece_80 ?_
      refine GO.norm (fun z25 r26 hn27 => ?_)
      refine GO.putI h_x fp_RX5_9 rfl (by decide +kernel) r26 (r26).1 (r26).2 dX5_piece_81 (fun V29 e28 => ?_)
      refine GO.aload_n dX5_piece_84 rfl rfl ?_
      have e30 : vi V29 x 5 = vi V21 x 5 := vi_up e28 (Or.inr (by decide))
      have e32 : vi V21 x 4 = vi V11 x 4 := vi_fr hF20 h_x h_x (by decide +kernel)
      have e31 : vi V29 x 4 = vi V21 x 4 := vi_up e28 (Or.inr (by decide))
      have q33 : -2147483648 ≤ vi V11 x 4 ∧ vi V11 x 4 ≤ 2147483647 := vi_ir
      have q34 : -2147483648 ≤ vi V21 x 5 ∧ vi V21 x 5 ≤ 2147483647 := vi_ir
      refine GO.callV (ci := 4) (N := mX5_terms_4) dX5_piece_85 (RX5, TX5, 7) rfl gV_RX5_102 h_x (t_X5_terms_4 h_x (by omega)) rfl [] rfl rfl (Nat.le_of_ble_eq_true rfl) rfl (k_vs fun V37 h36 hF35 => ?_)
      have raw_terms := h36.2
      have rw85 := h36.2
      refine GO.useWT (fun hW4 => ?_)
      refine GO.aload_n dX5_piece_88 rfl rfl ?_
      refine GO.getR h_x fl_RX5_31 rfl rfl dX5_piece_89 (fun hv41 h40 => ?_)
      refine GO.iload_n dX5_piece_92 rfl rfl ?_
      refine GO.iconst dX5_piece_93 ?_
      refine GO.callV (ci := 8) (N := mX9_addStep) dX5_piece_94 (RX9, TX9, 5) rfl gV_RX5_92 h40 (t_X9_addStep h40 r18 (ir_c rfl)) rfl [] rfl rfl (Nat.le_of_ble_eq_true rfl) rfl (k_is fun X42 V46 r43 h44 hF45 => ?_)
      have raw_addStep := h44.2
      have rw94 := h44.2
      refine GO.pop dX5_piece_97 rfl ?_
      have e47 : vi V46 x 4 = vi V37 x 4 := vi_fr hF45 h_x h_x (by decide +kernel)
      have q48 : -2147483648 ≤ vi V37 x 4 ∧ vi V37 x 4 ≤ 2147483647 := vi_ir
      have e49 : vi V46 x 5 = vi V37 x 5 := vi_fr hF45 h_x h_x (by decide +kernel)
      have q50 : -2147483648 ≤ vi V37 x 5 ∧ vi V37 x 5 ≤ 2147483647 := vi_ir
      exact GO.retv rfl rfl dX5_piece_98 ⟨rfl, rfl, ⟨by omega, (by first | exact CRg.bad (by omega) | exact PIE.cmp (by omega) rfl (by omega) (by omega) (by omega) (CR.ter rw62 rfl) rw70 h_x hW1 hW2 hW4 (by assumption) (by assumption) (by assumption) (CR.ter rw85 (by omega)) rw94)⟩⟩
    ·
      refine GO.aload_n dX5_piece_32 rfl rfl ?_
      refine GO.bipush dX5_piece_33 rfl ?_
      have q51 : -2147483648 ≤ vi V x 4 ∧ vi V x 4 ≤ 2147483647 := vi_ir
      refine GO.callV (ci := 4) (N := mX5_deepen) dX5_piece_35 (RX5, TX5, 7) rfl gV_RX5_80 h_x (t_X5_deepen h_x (ir_c rfl) (by omega) (by omega) (by omega)) rfl [] rfl rfl (Nat.le_of_ble_eq_true rfl) rfl (k_vs fun V54 h53 hF52 => ?_)
      have raw_deepen := h53.2
      have rw35 := h53.2
      refine GO.aload_n dX5_piece_38 rfl rfl ?_
      have q57 : -2147483648 ≤ vi V54 x 4 ∧ vi V54 x 4 ≤ 2147483647 := vi_ir
      have q58 : -2147483648 ≤ vi V54 x 5 ∧ vi V54 x 5 ≤ 2147483647 := vi_ir
      refine GO.callV (ci := 4) (N := mX5_parts_3) dX5_piece_39 (RX5, TX5, 7) rfl gV_RX5_83 h_x (t_X5_parts_3 h_x (by omega)) rfl [] rfl rfl (Nat.le_of_ble_eq_true rfl) rfl (k_vs fun V61 h60 hF59 => ?_)
      have raw_parts := h60.2
      have rw39 := h60.2
      refine GO.useWT (fun hWb => ?_)
      refine GO.aload_n dX5_piece_42 rfl rfl ?_
      refine GO.dup dX5_piece_43 rfl ?_
      refine GO.getI h_x fl_RX5_15 rfl rfl dX5_piece_44 (fun _ _ => ?_)
      refine GO.iconst dX5_piece_47 ?_
      refine GO.isub dX5_piece_48 ?_
      have q65 : -2147483648 ≤ vi V61 x 4 ∧ vi V61 x 4 ≤ 2147483647 := vi_ir
      refine GO.putI h_x fp_RX5_15 rfl (by decide +kernel) ⟨by omega, by omega⟩ (by omega) (by omega) dX5_piece_49 (fun V66 e64 => ?_)
      refine GO.aload_n dX5_piece_52 rfl rfl ?_
      refine GO.bipush dX5_piece_53 rfl ?_
      have e67 : vi V66 x 5 = vi V61 x 5 := vi_up e64 (Or.inr (by decide))
      refine GO.callV (ci := 4) (N := mX5_take) dX5_piece_55 (RX5, TX5, 7) rfl gV_RX5_38 h_x (t_X5_take h_x (ir_c rfl) (by omega)) rfl [] rfl rfl (Nat.le_of_ble_eq_true rfl) rfl (k_vs fun V70 h69 hF68 => ?_)
      have raw_take := h69.2
      have rw55 := h69.2
      refine GO.goto (tgt := 98) dX5_piece_58 (by decide) ?_
      have e73 : vi V66 x 4 = (vi V61 x 4) - 1 := upd2_int e64 ⟨by omega, by omega⟩
      have e72 : vi V70 x 4 = vi V66 x 4 := vi_fr hF68 h_x h_x (by decide +kernel)
      have q74 : -2147483648 ≤ vi V70 x 5 ∧ vi V70 x 5 ≤ 2147483647 := vi_ir
      exact GO.retv rfl rfl dX5_piece_98 ⟨rfl, rfl, ⟨by omega, (by first | exact CRg.bad (by omega) | exact PIE.par (by omega) (by omega) rw35 rw39 (by omega) h_x hWb (by assumption) rw55)⟩⟩
  ·
    refine GO.aload_n dX5_piece_19 rfl rfl ?_
    have q75 : -2147483648 ≤ vi V x 4 ∧ vi V x 4 ≤ 2147483647 := vi_ir
    refine GO.callV (ci := 4) (N := mX5_negation_4) dX5_piece_20 (RX5, TX5, 7) rfl gV_RX5_99 h_x (t_X5_negation_4 h_x (by omega)) rfl [] rfl rfl (Nat.le_of_ble_eq_true rfl) rfl (k_vs fun V78 h77 hF76 => ?_)
    have raw_negation := h77.2
    have rw20 := h77.2
    refine GO.goto (tgt := 98) dX5_piece_23 (by decide) ?_
    have q81 : -2147483648 ≤ vi V78 x 4 ∧ vi V78 x 4 ≤ 2147483647 := vi_ir
    have q82 : -2147483648 ≤ vi V78 x 5 ∧ vi V78 x 5 ≤ 2147483647 := vi_ir
    exact GO.retv rfl rfl dX5_piece_98 ⟨rfl, rfl, ⟨by omega, (by first | exact CRg.bad (by omega) | exact PIE.neg (by omega) (by omega) rw20)⟩⟩

theorem t_X5_piece_4 {K : Kmap} {V : Vmap} {x : Nat} (h_x : K x = some (0, 4)) (q_0 : (vi V x 5 ≠ 0 ∨ (vi V x 5 = 0 ∧ vi V x 4 ≥ 5 ∧ vi V x 4 ≤ 8))) : MC mX5_piece_4 K V [.ref x] (VS K (fun V1 => (vi V1 x 4 = vi V x 4 ∧ (vi V x 5 ≠ 0 → vi V1 x 5 ≠ 0)) ∧ (CR K V V1 x (fun src e => pieD src e (vi V x 4).toNat)))) := by
  rcases q_0 with h | h
  · exact t_X5_piece_4_F h_x (by omega)
  · exact t_X5_piece_4_G h_x (by omega) (by omega) (by omega)

set_option maxHeartbeats 1000000 in
theorem t_X5_part_4_F {K : Kmap} {V : Vmap} {x : Nat} (h_x : K x = some (0, 4)) (q_0 : vi V x 5 ≠ 0) : MC mX5_part_4 K V [.ref x] (VS K (fun V1 => (vi V1 x 4 = vi V x 4 ∧ (vi V x 5 ≠ 0 → vi V1 x 5 ≠ 0)) ∧ (CR K V V1 x (fun src e => parG src e (pieD src e (vi V x 4).toNat))))) := by
  refine MC.start 2 (by decide +kernel) rfl rfl rfl (ls0 := [some (.ref x), none, none]) rfl ?_
  refine GO.useWT (fun hW_0 => ?_)
  refine GO.iconst dX5_part_0 ?_
  refine GO.istore_n (ls1 := [some (.ref x), some (ti (-1)), none]) dX5_part_1 rfl rfl rfl ?_
  refine GO.aload_n dX5_part_2 rfl rfl ?_
  have q1 : -2147483648 ≤ vi V x 4 ∧ vi V x 4 ≤ 2147483647 := vi_ir
  have q2 : -2147483648 ≤ vi V x 5 ∧ vi V x 5 ≤ 2147483647 := vi_ir
  refine GO.callV (ci := 4) (N := mX5_piece_4) dX5_part_3 (RX5, TX5, 7) rfl gV_RX5_96 h_x (t_X5_piece_4 h_x (by omega)) rfl [] rfl rfl (Nat.le_of_ble_eq_true rfl) rfl (k_vs fun V5 h4 hF3 => ?_)
  have raw_piece := h4.2
  have rw3 := h4.2
  refine GO.iconst dX5_part_6 ?_
  refine GO.istore_n (ls1 := [some (.ref x), some (ti (-1)), some (ti 0)]) dX5_part_7 rfl rfl rfl ?_
  have q10 : -2147483648 ≤ vi V5 x 4 ∧ vi V5 x 4 ≤ 2147483647 := vi_ir
  have q11 : -2147483648 ≤ vi V5 x 5 ∧ vi V5 x 5 ≤ 2147483647 := vi_ir
  refine GO.loop2 (fun i8 i9 W => (-1) ≤ i8 ∧ i8 ≤ (-1) ∧ 0 ≤ i9 ∧ i9 ≤ 0 ∧ (vi W x 4 = vi V5 x 4 ∧ (vi V5 x 5 ≠ 0 → vi W x 5 ≠ 0)) ∧ (AJI K V W x (vi V x 4).toNat i8 i9) ∧ True) (fun i8 i9 => [some (.ref x), some (ti i8), some (ti i9)]) (fun i8 i9 W => (2147483647 - i8).toNat) (-1) 0 ⟨by omega, by omega, by omega, by omega, by omega, (by first | exact AJI.beg rw3), trivial⟩ rfl (fun i8 i9 Wi8 hp24 ih23 => ?_)
  obtain ⟨l_i8, u_i8, l_i9, u_i9, n_i8, haj, -⟩ := hp24
  have r_i8 : ir i8 := ⟨by omega, by omega⟩
  have r_i9 : ir i9 := ⟨by omega, by omega⟩
  show GO mX5_part_4 K V (VS K (fun V1 => (vi V1 x 4 = vi V x 4 ∧ (vi V x 5 ≠ 0 → vi V1 x 5 ≠ 0)) ∧ (CR K V V1 x (fun src e => parG src e (pieD src e (vi V x 4).toNat))))) K Wi8 0 0 8 [some (.ref x), some (ti i8), some (ti i9)] []
  refine GO.useWT (fun hWh => ?_)
  refine GO.iload_n dX5_part_8 rfl rfl ?_
  refine GO.sipush dX5_part_9 rfl ?_
  refine GO.icmp_ge (tgt := 69) dX5_part_12 (by decide) r_i9 (ir_c rfl) (fun h => by exfalso; omega) (fun c25 => ?_)
  refine GO.aload_n dX5_part_15 rfl rfl ?_
  refine GO.getI h_x fl_RX5_18 rfl rfl dX5_part_16 (fun _ _ => ?_)
  have q27 : -2147483648 ≤ vi Wi8 x 5 ∧ vi Wi8 x 5 ≤ 2147483647 := vi_ir
  refine GO.if_ne (tgt := 69) dX5_part_19 (by decide) vi_ir (fun c26 => ?_) (fun h => by exfalso; omega)
  refine GO.aload_n dX5_part_69 rfl rfl ?_
  refine GO.getR h_x fl_RX5_31 rfl rfl dX5_part_70 (fun hv29 h28 => ?_)
  refine GO.iload_n dX5_part_73 rfl rfl ?_
  refine GO.callV (ci := 8) (N := mX9_lead) dX5_part_74 (RX9, TX9, 5) rfl gV_RX5_89 h28 (t_X9_lead h28 r_i8) rfl [] rfl rfl (Nat.le_of_ble_eq_true rfl) rfl (k_vs fun V32 h31 hF30 => ?_)
  have raw_lead := h31.2
  have rw74 := h31.2
  have e33 : vi V32 x 4 = vi Wi8 x 4 := vi_fr hF30 h_x h_x (by decide +kernel)
  have q34 : -2147483648 ≤ vi Wi8 x 4 ∧ vi Wi8 x 4 ≤ 2147483647 := vi_ir
  have e35 : vi V32 x 5 = vi Wi8 x 5 := vi_fr hF30 h_x h_x (by decide +kernel)
  exact GO.retv rfl rfl dX5_part_77 ⟨rfl, rfl, ⟨by omega, AJI.end haj (by omega) (by omega) h_x hWh rw74⟩⟩

set_option maxHeartbeats 1000000 in
theorem t_X5_part_4_G {K : Kmap} {V : Vmap} {x : Nat} (h_x : K x = some (0, 4)) (q_0 : vi V x 5 = 0) (q_1 : vi V x 4 ≥ 5) (q_2 : vi V x 4 ≤ 8) : MC mX5_part_4 K V [.ref x] (VS K (fun V1 => (vi V1 x 4 = vi V x 4 ∧ (vi V x 5 ≠ 0 → vi V1 x 5 ≠ 0)) ∧ (CR K V V1 x (fun src e => parG src e (pieD src e (vi V x 4).toNat))))) := by
  refine MC.start 2 (by decide +kernel) rfl rfl rfl (ls0 := [some (.ref x), none, none]) rfl ?_
  refine GO.useWT (fun hW_0 => ?_)
  refine GO.iconst dX5_part_0 ?_
  refine GO.istore_n (ls1 := [some (.ref x), some (ti (-1)), none]) dX5_part_1 rfl rfl rfl ?_
  refine GO.aload_n dX5_part_2 rfl rfl ?_
  have q1 : -2147483648 ≤ vi V x 4 ∧ vi V x 4 ≤ 2147483647 := vi_ir
  have q2 : -2147483648 ≤ vi V x 5 ∧ vi V x 5 ≤ 2147483647 := vi_ir
  refine GO.callV (ci := 4) (N := mX5_piece_4) dX5_part_3 (RX5, TX5, 7) rfl gV_RX5_96 h_x (t_X5_piece_4 h_x (by omega)) rfl [] rfl rfl (Nat.le_of_ble_eq_true rfl) rfl (k_vs fun V5 h4 hF3 => ?_)
  have raw_piece := h4.2
  have rw3 := h4.2
  refine GO.iconst dX5_part_6 ?_
  refine GO.istore_n (ls1 := [some (.ref x), some (ti (-1)), some (ti 0)]) dX5_part_7 rfl rfl rfl ?_
  have q10 : -2147483648 ≤ vi V5 x 4 ∧ vi V5 x 4 ≤ 2147483647 := vi_ir
  have q11 : -2147483648 ≤ vi V5 x 5 ∧ vi V5 x 5 ≤ 2147483647 := vi_ir
  refine GO.loop2 (fun i8 i9 W => (-2147483648) ≤ i8 ∧ i8 ≤ 2147483647 ∧ 0 ≤ i9 ∧ i9 ≤ 200 ∧ (vi W x 4 = vi V5 x 4 ∧ (vi V5 x 5 ≠ 0 → vi W x 5 ≠ 0)) ∧ (AJI K V W x (vi V x 4).toNat i8 i9) ∧ True) (fun i8 i9 => [some (.ref x), some (ti i8), some (ti i9)]) (fun i8 i9 W => (2147483647 - i9).toNat) (-1) 0 ⟨by omega, by omega, by omega, by omega, by omega, (by first | exact AJI.beg rw3), trivial⟩ rfl (fun i8 i9 Wi8 hp1840 ih1839 => ?_)
  obtain ⟨l_i8, u_i8, l_i9, u_i9, n_i8, haj, -⟩ := hp1840
  have r_i8 : ir i8 := ⟨by omega, by omega⟩
  have r_i9 : ir i9 := ⟨by omega, by omega⟩
  show GO mX5_part_4 K V (VS K (fun V1 => (vi V1 x 4 = vi V x 4 ∧ (vi V x 5 ≠ 0 → vi V1 x 5 ≠ 0)) ∧ (CR K V V1 x (fun src e => parG src e (pieD src e (vi V x 4).toNat))))) K Wi8 0 0 8 [some (.ref x), some (ti i8), some (ti i9)] []
  refine GO.useWT (fun hWh => ?_)
  refine GO.iload_n dX5_part_8 rfl rfl ?_
  refine GO.sipush dX5_part_9 rfl ?_
  refine GO.icmp_ge (tgt := 69) dX5_part_12 (by decide) r_i9 (ir_c rfl) (fun c1841 => ?_) (fun c1841 => ?_)
  ·
    refine GO.aload_n dX5_part_69 rfl rfl ?_
    refine GO.getR h_x fl_RX5_31 rfl rfl dX5_part_70 (fun hv1843 h1842 => ?_)
    refine GO.iload_n dX5_part_73 rfl rfl ?_
    refine GO.callV (ci := 8) (N := mX9_lead) dX5_part_74 (RX9, TX9, 5) rfl gV_RX5_89 h1842 (t_X9_lead h1842 r_i8) rfl [] rfl rfl (Nat.le_of_ble_eq_true rfl) rfl (k_vs fun V1846 h1845 hF1844 => ?_)
    have raw_lead := h1845.2
    have rw74 := h1845.2
    have e1847 : vi V1846 x 4 = vi Wi8 x 4 := vi_fr hF1844 h_x h_x (by decide +kernel)
    have q1848 : -2147483648 ≤ vi Wi8 x 4 ∧ vi Wi8 x 4 ≤ 2147483647 := vi_ir
    have e1849 : vi V1846 x 5 = vi Wi8 x 5 := vi_fr hF1844 h_x h_x (by decide +kernel)
    have q1850 : -2147483648 ≤ vi Wi8 x 5 ∧ vi Wi8 x 5 ≤ 2147483647 := vi_ir
    exact GO.retv rfl rfl dX5_part_77 ⟨rfl, rfl, ⟨by omega, AJI.end haj (by omega) (by omega) h_x hWh rw74⟩⟩
  ·
    refine GO.aload_n dX5_part_15 rfl rfl ?_
    refine GO.getI h_x fl_RX5_18 rfl rfl dX5_part_16 (fun _ _ => ?_)
    refine GO.if_ne (tgt := 69) dX5_part_19 (by decide) vi_ir (fun c1851 => ?_) (fun c1851 => ?_)
    ·
      refine GO.aload_n dX5_part_69 rfl rfl ?_
      refine GO.getR h_x fl_RX5_31 rfl rfl dX5_part_70 (fun hv1853 h1852 => ?_)
      refine GO.iload_n dX5_part_73 rfl rfl ?_
      refine GO.callV (ci := 8) (N := mX9_lead) dX5_part_74 (RX9, TX9, 5) rfl gV_RX5_89 h1852 (t_X9_lead h1852 r_i8) rfl [] rfl rfl (Nat.le_of_ble_eq_true rfl) rfl (k_vs fun V1856 h1855 hF1854 => ?_)
      have raw_lead := h1855.2
      have rw74 := h1855.2
      have e1857 : vi V1856 x 4 = vi Wi8 x 4 := vi_fr hF1854 h_x h_x (by decide +kernel)
      have q1858 : -2147483648 ≤ vi Wi8 x 4 ∧ vi Wi8 x 4 ≤ 2147483647 := vi_ir
      have e1859 : vi V1856 x 5 = vi Wi8 x 5 := vi_fr hF1854 h_x h_x (by decide +kernel)
      have q1860 : -2147483648 ≤ vi Wi8 x 5 ∧ vi Wi8 x 5 ≤ 2147483647 := vi_ir
      exact GO.retv rfl rfl dX5_part_77 ⟨rfl, rfl, ⟨by omega, AJI.end haj (by omega) (by omega) h_x hWh rw74⟩⟩
    ·
      refine GO.aload_n dX5_part_22 rfl rfl ?_
      refine GO.callV (ci := 4) (N := mX5_next) dX5_part_23 (RX5, TX5, 7) rfl gV_RX5_61 h_x (t_X5_next h_x) rfl [] rfl rfl (Nat.le_of_ble_eq_true rfl) rfl (k_ip fun X1861 r1862 h1863 => ?_)
      refine GO.bipush dX5_part_26 rfl ?_
      refine GO.icmp_ne (tgt := 69) dX5_part_28 (by decide) r1862 (ir_c rfl) (fun c1864 => ?_) (fun c1864 => ?_)
      ·
        refine GO.aload_n dX5_part_69 rfl rfl ?_
        refine GO.getR h_x fl_RX5_31 rfl rfl dX5_part_70 (fun hv1866 h1865 => ?_)
        refine GO.iload_n dX5_part_73 rfl rfl ?_
        refine GO.callV (ci := 8) (N := mX9_lead) dX5_part_74 (RX9, TX9, 5) rfl gV_RX5_89 h1865 (t_X9_lead h1865 r_i8) rfl [] rfl rfl (Nat.le_of_ble_eq_true rfl) rfl (k_vs fun V1869 h1868 hF1867 => ?_)
        have raw_lead := h1868.2
        have rw74 := h1868.2
        have e1870 : vi V1869 x 4 = vi Wi8 x 4 := vi_fr hF1867 h_x h_x (by decide +kernel)
        have q1871 : -2147483648 ≤ vi Wi8 x 4 ∧ vi Wi8 x 4 ≤ 2147483647 := vi_ir
        have e1872 : vi V1869 x 5 = vi Wi8 x 5 := vi_fr hF1867 h_x h_x (by decide +kernel)
        have q1873 : -2147483648 ≤ vi Wi8 x 5 ∧ vi Wi8 x 5 ≤ 2147483647 := vi_ir
        exact GO.retv rfl rfl dX5_part_77 ⟨rfl, rfl, ⟨by omega, AJI.end haj (by omega) (by omega) h_x hWh rw74⟩⟩
      ·
        refine GO.aload_n dX5_part_31 rfl rfl ?_
        refine GO.dup dX5_part_32 rfl ?_
        refine GO.getI h_x fl_RX5_9 rfl rfl dX5_part_33 (fun _ _ => ?_)
        refine GO.iconst dX5_part_36 ?_
        refine GO.iadd dX5_part_37 ?_
        refine GO.norm (fun z1874 r1875 hn1876 => ?_)
        refine GO.putI h_x fp_RX5_9 rfl (by decide +kernel) r1875 (r1875).1 (r1875).2 dX5_part_38 (fun V1878 e1877 => ?_)
        refine GO.useWT (fun hW2 => ?_)
        refine GO.aload_n dX5_part_41 rfl rfl ?_
        refine GO.getR h_x fl_RX5_31 rfl rfl dX5_part_42 (fun hv1880 h1879 => ?_)
        refine GO.iload_n dX5_part_45 rfl rfl ?_
        refine GO.callV (ci := 8) (N := mX9_lead) dX5_part_46 (RX9, TX9, 5) rfl gV_RX5_89 h1879 (t_X9_lead h1879 r_i8) rfl [] rfl rfl (Nat.le_of_ble_eq_true rfl) rfl (k_vs fun V1883 h1882 hF1881 => ?_)
        have raw_lead := h1882.2
        have rw46 := h1882.2
        refine GO.useWT (fun hW3 => ?_)
        refine GO.aload_n dX5_part_49 rfl rfl ?_
        refine GO.getRaw h_x fl_RX5_31 (Eq.trans (hF1881 _ _ _ h_x h_x (by decide +kernel)) hv1880) dX5_part_50 ?_
        refine GO.iconst dX5_part_53 ?_
        refine GO.iconst dX5_part_54 ?_
        refine GO.callV (ci := 8) (N := mX9_addStep) dX5_part_55 (RX9, TX9, 5) rfl gV_RX5_92 h1879 (t_X9_addStep h1879 (ir_c rfl) (ir_c rfl)) rfl [] rfl rfl (Nat.le_of_ble_eq_true rfl) rfl (k_is fun X1886 V1890 r1887 h1888 hF1889 => ?_)
        have raw_addStep := h1888.2
        have rw55 := h1888.2
        refine GO.istore_n (ls1 := [some (.ref x), some (ti X1886), some (ti i9)]) dX5_part_58 rfl rfl rfl ?_
        refine GO.aload_n dX5_part_59 rfl rfl ?_
        have e1893 : vi V1878 x 5 = vi Wi8 x 5 := vi_up e1877 (Or.inr (by decide))
        have e1892 : vi V1883 x 5 = vi V1878 x 5 := vi_fr hF1881 h_x h_x (by decide +kernel)
        have e1891 : vi V1890 x 5 = vi V1883 x 5 := vi_fr hF1889 h_x h_x (by decide +kernel)
        have e1896 : vi V1878 x 4 = vi Wi8 x 4 := vi_up e1877 (Or.inr (by decide))
        have e1895 : vi V1883 x 4 = vi V1878 x 4 := vi_fr hF1881 h_x h_x (by decide +kernel)
        have e1894 : vi V1890 x 4 = vi V1883 x 4 := vi_fr hF1889 h_x h_x (by decide +kernel)
        have q1897 : -2147483648 ≤ vi Wi8 x 4 ∧ vi Wi8 x 4 ≤ 2147483647 := vi_ir
        have q1898 : -2147483648 ≤ vi Wi8 x 5 ∧ vi Wi8 x 5 ≤ 2147483647 := vi_ir
        refine GO.callV (ci := 4) (N := mX5_piece_4) dX5_part_60 (RX5, TX5, 7) rfl gV_RX5_96 h_x (t_X5_piece_4 h_x (by omega)) rfl [] rfl rfl (Nat.le_of_ble_eq_true rfl) rfl (k_vs fun V1901 h1900 hF1899 => ?_)
        have raw_piece := h1900.2
        have rw60 := h1900.2
        refine GO.iinc (X := i9) (n := 1) (Y := i9 + 1) (ls1 := [some (.ref x), some (ti X1886), some (ti (i9 + 1))]) dX5_part_63 rfl rfl rfl rfl ?_
        refine GO.goto (tgt := 8) dX5_part_66 (by decide) ?_
        have q1904 : -2147483648 ≤ vi V1901 x 4 ∧ vi V1901 x 4 ≤ 2147483647 := vi_ir
        have q1905 : -2147483648 ≤ vi V1901 x 5 ∧ vi V1901 x 5 ≤ 2147483647 := vi_ir
        exact ih1839 X1886 (i9 + 1) V1901 ⟨by omega, by omega, by omega, by omega, by omega, (by first | exact AJI.beg rw3 | exact AJI.step haj (by omega) (by omega) (by omega) h_x hWh hW2 hW3 (by assumption) (by assumption) (by assumption) rw46 rw55 (CR.pie rw60 (by omega))), trivial⟩ (by show (2147483647 - (i9 + 1)).toNat < (2147483647 - i9).toNat; omega)

theorem t_X5_part_4 {K : Kmap} {V : Vmap} {x : Nat} (h_x : K x = some (0, 4)) (q_0 : (vi V x 5 ≠ 0 ∨ (vi V x 5 = 0 ∧ vi V x 4 ≥ 5 ∧ vi V x 4 ≤ 8))) : MC mX5_part_4 K V [.ref x] (VS K (fun V1 => (vi V1 x 4 = vi V x 4 ∧ (vi V x 5 ≠ 0 → vi V1 x 5 ≠ 0)) ∧ (CR K V V1 x (fun src e => parG src e (pieD src e (vi V x 4).toNat))))) := by
  rcases q_0 with h | h
  · exact t_X5_part_4_F h_x (by omega)
  · exact t_X5_part_4_G h_x (by omega) (by omega) (by omega)
