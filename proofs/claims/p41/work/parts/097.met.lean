def mX5_negation_8 : MRec := (RX5, cX5_negation, 1, (none : Option Jvm.ClassFile.FieldType), yX5_negation, 28, 684, 0, 0, 84615164005151820665845159428194693098035799419427996068435045795123941278247852265624218936283556470163081713008521863233536)
def mX5_piece_8 : MRec := (RX5, cX5_piece, 3, (none : Option Jvm.ClassFile.FieldType), yX5_piece, 30, 728, 0, 0, 84615164005151820665845159428194693098035799419427996068435045795123941278247852265624218936283556470163081713008521863233536)
def mX5_part_8 : MRec := (RX5, cX5_part, 3, (none : Option Jvm.ClassFile.FieldType), yX5_part, 31, 750, 0, 0, 84615164005151820665845159428194693098035799419427996068435045795123941278247852265624218936283556470163081713008521863233536)
def mX5_parts_8 : MRec := (RX5, cX5_parts, 3, (none : Option Jvm.ClassFile.FieldType), yX5_parts, 32, 772, 0, 0, 84615164005151820665845159428194693098035799419427996068435045795123941278247852265624218936283556470163081713008521863233536)
def mX5_condition : MRec := (RX5, cX5_condition, 1, (none : Option Jvm.ClassFile.FieldType), yX5_condition, 33, 794, 0, 0, 173376471046556080544316731668370926157875353010407963944223408834208955679129849292264024600445007187557113766800731761174118400)
def mX5_clause : MRec := (RX5, cX5_clause, 2, (none : Option Jvm.ClassFile.FieldType), yX5_clause, 34, 814, 0, 0, 2508228255056559327717299405517639477515382672702395372151508761915556027554247102225625402190692008089749696865421322977703054109852485596376082301365031896428200604842813990547687308375642969839908159488)
set_option maxHeartbeats 1000000 in
theorem t_X5_negation_8_G {K : Kmap} {V : Vmap} {x : Nat} (h_x : K x = some (0, 4)) (q_0 : vi V x 5 = 0) (q_1 : vi V x 4 ≥ 1) (q_2 : vi V x 4 ≤ 8) : MC mX5_negation_8 K V [.ref x] (VS K (fun V1 => (vi V1 x 4 = vi V x 4 ∧ (vi V x 5 ≠ 0 → vi V1 x 5 ≠ 0)) ∧ (CR K V V1 x (fun src e => negD src e (vi V x 4).toNat)))) := by
  refine MC.start 0 (by decide +kernel) rfl rfl rfl (ls0 := [some (.ref x)]) rfl ?_
  refine GO.useWT (fun hW_0 => ?_)
  refine GO.aload_n dX5_negation_0 rfl rfl ?_
  refine GO.bipush dX5_negation_1 rfl ?_
  have q1 : -2147483648 ≤ vi V x 4 ∧ vi V x 4 ≤ 2147483647 := vi_ir
  refine GO.callV (ci := 4) (N := mX5_deepen) dX5_negation_3 (RX5, TX5, 7) rfl gV_RX5_80 h_x (t_X5_deepen h_x (ir_c rfl) (by omega) (by omega) (by omega)) rfl [] rfl rfl (Nat.le_of_ble_eq_true rfl) rfl (k_vs fun V4 h3 hF2 => ?_)
  have raw_deepen := h3.2
  have rw3 := h3.2
  refine GO.aload_n dX5_negation_6 rfl rfl ?_
  have q7 : -2147483648 ≤ vi V4 x 4 ∧ vi V4 x 4 ≤ 2147483647 := vi_ir
  have q8 : -2147483648 ≤ vi V4 x 5 ∧ vi V4 x 5 ≤ 2147483647 := vi_ir
  refine GO.callV (ci := 4) (N := mX5_piece_7) dX5_negation_7 (RX5, TX5, 7) rfl gV_RX5_96 h_x (t_X5_piece_7 h_x (by omega)) rfl [] rfl rfl (Nat.le_of_ble_eq_true rfl) rfl (k_vs fun V11 h10 hF9 => ?_)
  have raw_piece := h10.2
  have rw7 := h10.2
  refine GO.useWT (fun hWb => ?_)
  refine GO.aload_n dX5_negation_10 rfl rfl ?_
  refine GO.dup dX5_negation_11 rfl ?_
  refine GO.getI h_x fl_RX5_15 rfl rfl dX5_negation_12 (fun _ _ => ?_)
  refine GO.iconst dX5_negation_15 ?_
  refine GO.isub dX5_negation_16 ?_
  have q15 : -2147483648 ≤ vi V11 x 4 ∧ vi V11 x 4 ≤ 2147483647 := vi_ir
  refine GO.putI h_x fp_RX5_15 rfl (by decide +kernel) ⟨by omega, by omega⟩ (by omega) (by omega) dX5_negation_17 (fun V16 e14 => ?_)
  refine GO.useWT (fun hWn => ?_)
  refine GO.aload_n dX5_negation_20 rfl rfl ?_
  refine GO.getR h_x fl_RX5_31 rfl rfl dX5_negation_21 (fun hv18 h17 => ?_)
  refine GO.iconst dX5_negation_24 ?_
  refine GO.iconst dX5_negation_25 ?_
  refine GO.callV (ci := 8) (N := mX9_addStep) dX5_negation_26 (RX9, TX9, 5) rfl gV_RX5_92 h17 (t_X9_addStep h17 (ir_c rfl) (ir_c rfl)) rfl [] rfl rfl (Nat.le_of_ble_eq_true rfl) rfl (k_is fun X19 V23 r20 h21 hF22 => ?_)
  have raw_addStep := h21.2
  have rw26 := h21.2
  refine GO.pop dX5_negation_29 rfl ?_
  have e25 : vi V16 x 4 = (vi V11 x 4) - 1 := upd2_int e14 ⟨by omega, by omega⟩
  have e24 : vi V23 x 4 = vi V16 x 4 := vi_fr hF22 h_x h_x (by decide +kernel)
  have q26 : -2147483648 ≤ vi V x 5 ∧ vi V x 5 ≤ 2147483647 := vi_ir
  have e28 : vi V16 x 5 = vi V11 x 5 := vi_up e14 (Or.inr (by decide))
  have e27 : vi V23 x 5 = vi V16 x 5 := vi_fr hF22 h_x h_x (by decide +kernel)
  have q29 : -2147483648 ≤ vi V11 x 5 ∧ vi V11 x 5 ≤ 2147483647 := vi_ir
  exact GO.retv rfl rfl dX5_negation_30 ⟨rfl, rfl, ⟨by omega, NEG.of rw3 rw7 (by omega) h_x hWb hWn (by assumption) rw26⟩⟩

theorem t_X5_negation_8 {K : Kmap} {V : Vmap} {x : Nat} (h_x : K x = some (0, 4)) (q_0 : ((vi V x 5 = 0 ∧ vi V x 4 ≥ 1 ∧ vi V x 4 ≤ 8))) : MC mX5_negation_8 K V [.ref x] (VS K (fun V1 => (vi V1 x 4 = vi V x 4 ∧ (vi V x 5 ≠ 0 → vi V1 x 5 ≠ 0)) ∧ (CR K V V1 x (fun src e => negD src e (vi V x 4).toNat)))) := by
  exact t_X5_negation_8_G h_x (by omega) (by omega) (by omega)

set_option maxHeartbeats 1000000 in
theorem t_X5_piece_8_F {K : Kmap} {V : Vmap} {x : Nat} (h_x : K x = some (0, 4)) (q_0 : vi V x 5 ≠ 0) : MC mX5_piece_8 K V [.ref x] (VS K (fun V1 => (vi V1 x 4 = vi V x 4 ∧ (vi V x 5 ≠ 0 → vi V1 x 5 ≠ 0)) ∧ (CR K V V1 x (fun src e => pieD src e (vi V x 4).toNat)))) := by
  refine MC.start 2 (by decide +kernel) rfl rfl rfl (ls0 := [some (.ref x), none, none]) rfl ?_
  refine GO.useWT (fun hW_0 => ?_)
  refine GO.aload_n dX5_piece_0 rfl rfl ?_
  refine GO.getI h_x fl_RX5_18 rfl rfl dX5_piece_1 (fun _ _ => ?_)
  have q2 : -2147483648 ≤ vi V x 5 ∧ vi V x 5 ≤ 2147483647 := vi_ir
  refine GO.if_eq (tgt := 8) dX5_piece_4 (by decide) vi_ir (fun h => by exfalso; omega) (fun c1 => ?_)
  have q3 : -2147483648 ≤ vi V x 4 ∧ vi V x 4 ≤ 2147483647 := vi_ir
  exact GO.retv rfl rfl dX5_piece_7 ⟨rfl, rfl, ⟨by omega, (by first | exact CRg.bad (by omega))⟩⟩

set_option maxHeartbeats 1000000 in
theorem t_X5_piece_8_G {K : Kmap} {V : Vmap} {x : Nat} (h_x : K x = some (0, 4)) (q_0 : vi V x 5 = 0) (q_1 : vi V x 4 ≥ 1) (q_2 : vi V x 4 ≤ 8) : MC mX5_piece_8 K V [.ref x] (VS K (fun V1 => (vi V1 x 4 = vi V x 4 ∧ (vi V x 5 ≠ 0 → vi V1 x 5 ≠ 0)) ∧ (CR K V V1 x (fun src e => pieD src e (vi V x 4).toNat)))) := by
  refine MC.start 2 (by decide +kernel) rfl rfl rfl (ls0 := [some (.ref x), none, none]) rfl ?_
  refine GO.useWT (fun hW_0 => ?_)
  refine GO.aload_n dX5_piece_0 rfl rfl ?_
  refine GO.getI h_x fl_RX5_18 rfl rfl dX5_piece_1 (fun _ _ => ?_)
  have q2 : -2147483648 ≤ vi V x 5 ∧ vi V x 5 ≤ 2147483647 := vi_ir
  refine GO.if_eq (tgt := 8) dX5_piece_4 (by decide) vi_ir (fun c1 => ?_) (fun h => by exfalso; omega)
  refine GO.aload_n dX5_piece_8 rfl rfl ?_
  refine GO.callV (ci := 4) (N := mX5_next) dX5_piece_9 (RX5, TX5, 7) rfl gV_RX5_61 h_x (t_X5_next h_x) rfl [] rfl rfl (Nat.le_of_ble_eq_true rfl) rfl (k_ip fun X3 r4 h5 => ?_)
  refine GO.istore_n (ls1 := [some (.ref x), some (ti X3), none]) dX5_piece_12 rfl rfl rfl ?_
  refine GO.iload_n dX5_piece_13 rfl rfl ?_
  refine GO.bipush dX5_piece_14 rfl ?_
  refine GO.icmp_ne (tgt := 26) dX5_piece_16 (by decide) r4 (ir_c rfl) (fun c6 => ?_) (fun c6 => ?_)
  ·
    refine GO.iload_n dX5_piece_26 rfl rfl ?_
    refine GO.bipush dX5_piece_27 rfl ?_
    refine GO.icmp_ne (tgt := 61) dX5_piece_29 (by decide) r4 (ir_c rfl) (fun c7 => ?_) (fun c7 => ?_)
    ·
      refine GO.aload_n dX5_piece_61 rfl rfl ?_
      have q8 : -2147483648 ≤ vi V x 4 ∧ vi V x 4 ≤ 2147483647 := vi_ir
      refine GO.callV (ci := 4) (N := mX5_terms_8) dX5_piece_62 (RX5, TX5, 7) rfl gV_RX5_102 h_x (t_X5_terms_8 h_x (by omega)) rfl [] rfl rfl (Nat.le_of_ble_eq_true rfl) rfl (k_vs fun V11 h10 hF9 => ?_)
      have raw_terms := h10.2
      have rw62 := h10.2
      refine GO.useWT (fun hW1 => ?_)
      refine GO.aload_n dX5_piece_65 rfl rfl ?_
      refine GO.aload_n dX5_piece_66 rfl rfl ?_
      refine GO.callV (ci := 4) (N := mX5_next) dX5_piece_67 (RX5, TX5, 7) rfl gV_RX5_61 h_x (t_X5_next h_x) rfl [.ref x] rfl rfl (Nat.le_of_ble_eq_true rfl) rfl (k_ip fun X14 r15 h16 => ?_)
      refine GO.callV (ci := 4) (N := mX5_comparison) dX5_piece_70 (RX5, TX5, 7) rfl gV_RX5_105 h_x (t_X5_comparison h_x r15) rfl [] rfl rfl (Nat.le_of_ble_eq_true rfl) rfl (k_is fun X17 V21 r18 h19 hF20 => ?_)
      have raw_comparison := h19.2
      have rw70 := h19.2
      refine GO.useWT (fun hW2 => ?_)
      refine GO.istore_n (ls1 := [some (.ref x), some (ti X3), some (ti X17)]) dX5_piece_73 rfl rfl rfl ?_
      refine GO.aload_n dX5_piece_74 rfl rfl ?_
      refine GO.dup dX5_piece_75 rfl ?_
      refine GO.getI h_x fl_RX5_9 rfl rfl dX5_piece_76 (fun _ _ => ?_)
      refine GO.iconst dX5_piece_79 ?_
      refine GO.iadd dX5_piece_80 ?_
      refine GO.norm (fun z25 r26 hn27 => ?_)
      refine GO.putI h_x fp_RX5_9 rfl (by decide +kernel) r26 (r26).1 (r26).2 dX5_piece_81 (fun V29 e28 => ?_)
      refine GO.aload_n dX5_piece_84 rfl rfl ?_
      have e30 : vi V29 x 5 = vi V21 x 5 := vi_up e28 (Or.inr (by decide))
      have e32 : vi V21 x 4 = vi V11 x 4 := vi_fr hF20 h_x h_x (by decide +kernel)
      have e31 : vi V29 x 4 = vi V21 x 4 := vi_up e28 (Or.inr (by decide))
      have q33 : -2147483648 ≤ vi V11 x 4 ∧ vi V11 x 4 ≤ 2147483647 := vi_ir
      have q34 : -2147483648 ≤ vi V21 x 5 ∧ vi V21 x 5 ≤ 2147483647 := vi_ir
      refine GO.callV (ci := 4) (N := mX5_terms_8) dX5_piece_85 (RX5, TX5, 7) rfl gV_RX5_102 h_x (t_X5_terms_8 h_x (by omega)) rfl [] rfl rfl (Nat.le_of_ble_eq_true rfl) rfl (k_vs fun V37 h36 hF35 => ?_)
      have raw_terms := h36.2
      have rw85 := h36.2
      refine GO.useWT (fun hW4 => ?_)
      refine GO.aload_n dX5_piece_88 rfl rfl ?_
      refine GO.getR h_x fl_RX5_31 rfl rfl dX5_piece_89 (fun hv41 h40 => ?_)
      refine GO.iload_n dX5_piece_92 rfl rfl ?_
      refine GO.iconst dX5_piece_93 ?_
      refine GO.callV (ci := 8) (N := mX9_addStep) dX5_piece_94 (RX9, TX9, 5) rfl gV_RX5_92 h40 (t_X9_addStep h40 r18 (ir_c rfl)) rfl [] rfl rfl (Nat.le_of_ble_eq_true rfl) rfl (k_is fun X42 V46 r43 h44 hF45 => ?_)
      have raw_addStep := h44.2
      have rw94 := h44.2
      refine GO.pop dX5_piece_97 rfl ?_
      have e47 : vi V46 x 4 = vi V37 x 4 := vi_fr hF45 h_x h_x (by decide +kernel)
      have q48 : -2147483648 ≤ vi V37 x 4 ∧ vi V37 x 4 ≤ 2147483647 := vi_ir
      have e49 : vi V46 x 5 = vi V37 x 5 := vi_fr hF45 h_x h_x (by decide +kernel)
      have q50 : -2147483648 ≤ vi V37 x 5 ∧ vi V37 x 5 ≤ 2147483647 := vi_ir
      exact GO.retv rfl rfl dX5_piece_98 ⟨rfl, rfl, ⟨by omega, (by first | exact CRg.bad (by omega) | exact PIE.cmp (by omega) rfl (by omega) (by omega) (by omega) (CR.ter rw62 rfl) rw70 h_x hW1 hW2 hW4 (by assumption) (by assumption) (by assumption) (CR.ter rw85 (by omega)) rw94)⟩⟩
    ·
      refine GO.aload_n dX5_piece_32 rfl rfl ?_
      refine GO.bipush dX5_piece_33 rfl ?_
      have q51 : -2147483648 ≤ vi V x 4 ∧ vi V x 4 ≤ 2147483647 := vi_ir
      refine GO.callV (ci := 4) (N := mX5_deepen) dX5_piece_35 (RX5, TX5, 7) rfl gV_RX5_80 h_x (t_X5_deepen h_x (ir_c rfl) (by omega) (by omega) (by omega)) rfl [] rfl rfl (Nat.le_of_ble_eq_true rfl) rfl (k_vs fun V54 h53 hF52 => ?_)
      have raw_deepen := h53.2
      have rw35 := h53.2
      refine GO.aload_n dX5_piece_38 rfl rfl ?_
      have q57 : -2147483648 ≤ vi V54 x 4 ∧ vi V54 x 4 ≤ 2147483647 := vi_ir
      have q58 : -2147483648 ≤ vi V54 x 5 ∧ vi V54 x 5 ≤ 2147483647 := vi_ir
      refine GO.callV (ci := 4) (N := mX5_parts_7) dX5_piece_39 (RX5, TX5, 7) rfl gV_RX5_83 h_x (t_X5_parts_7 h_x (by omega)) rfl [] rfl rfl (Nat.le_of_ble_eq_true rfl) rfl (k_vs fun V61 h60 hF59 => ?_)
      have raw_parts := h60.2
      have rw39 := h60.2
      refine GO.useWT (fun hWb => ?_)
      refine GO.aload_n dX5_piece_42 rfl rfl ?_
      refine GO.dup dX5_piece_43 rfl ?_
      refine GO.getI h_x fl_RX5_15 rfl rfl dX5_piece_44 (fun _ _ => ?_)
      refine GO.iconst dX5_piece_47 ?_
      refine GO.isub dX5_piece_48 ?_
      have q65 : -2147483648 ≤ vi V61 x 4 ∧ vi V61 x 4 ≤ 2147483647 := vi_ir
      refine GO.putI h_x fp_RX5_15 rfl (by decide +kernel) ⟨by omega, by omega⟩ (by omega) (by omega) dX5_piece_49 (fun V66 e64 => ?_)
      refine GO.aload_n dX5_piece_52 rfl rfl ?_
      refine GO.bipush dX5_piece_53 rfl ?_
      have e67 : vi V66 x 5 = vi V61 x 5 := vi_up e64 (Or.inr (by decide))
      refine GO.callV (ci := 4) (N := mX5_take) dX5_piece_55 (RX5, TX5, 7) rfl gV_RX5_38 h_x (t_X5_take h_x (ir_c rfl) (by omega)) rfl [] rfl rfl (Nat.le_of_ble_eq_true rfl) rfl (k_vs fun V70 h69 hF68 => ?_)
      have raw_take := h69.2
      have rw55 := h69.2
      refine GO.goto (tgt := 98) dX5_piece_58 (by decide) ?_
      have e73 : vi V66 x 4 = (vi V61 x 4) - 1 := upd2_int e64 ⟨by omega, by omega⟩
      have e72 : vi V70 x 4 = vi V66 x 4 := vi_fr hF68 h_x h_x (by decide +kernel)
      have q74 : -2147483648 ≤ vi V70 x 5 ∧ vi V70 x 5 ≤ 2147483647 := vi_ir
      exact GO.retv rfl rfl dX5_piece_98 ⟨rfl, rfl, ⟨by omega, (by first | exact CRg.bad (by omega) | exact PIE.par (by omega) (by omega) rw35 rw39 (by omega) h_x hWb (by assumption) rw55)⟩⟩
  ·
    refine GO.aload_n dX5_piece_19 rfl rfl ?_
    have q75 : -2147483648 ≤ vi V x 4 ∧ vi V x 4 ≤ 2147483647 := vi_ir
    refine GO.callV (ci := 4) (N := mX5_negation_8) dX5_piece_20 (RX5, TX5, 7) rfl gV_RX5_99 h_x (t_X5_negation_8 h_x (by omega)) rfl [] rfl rfl (Nat.le_of_ble_eq_true rfl) rfl (k_vs fun V78 h77 hF76 => ?_)
    have raw_negation := h77.2
    have rw20 := h77.2
    refine GO.goto (tgt := 98) dX5_piece_23 (by decide) ?_
    have q81 : -2147483648 ≤ vi V78 x 4 ∧ vi V78 x 4 ≤ 2147483647 := vi_ir
    have q82 : -2147483648 ≤ vi V78 x 5 ∧ vi V78 x 5 ≤ 2147483647 := vi_ir
    exact GO.retv rfl rfl dX5_piece_98 ⟨rfl, rfl, ⟨by omega, (by first | exact CRg.bad (by omega) | exact PIE.neg (by omega) (by omega) rw20)⟩⟩

theorem t_X5_piece_8 {K : Kmap} {V : Vmap} {x : Nat} (h_x : K x = some (0, 4)) (q_0 : (vi V x 5 ≠ 0 ∨ (vi V x 5 = 0 ∧ vi V x 4 ≥ 1 ∧ vi V x 4 ≤ 8))) : MC mX5_piece_8 K V [.ref x] (VS K (fun V1 => (vi V1 x 4 = vi V x 4 ∧ (vi V x 5 ≠ 0 → vi V1 x 5 ≠ 0)) ∧ (CR K V V1 x (fun src e => pieD src e (vi V x 4).toNat)))) := by
  rcases q_0 with h | h
  · exact t_X5_piece_8_F h_x (by omega)
  · exact t_X5_piece_8_G h_x (by omega) (by omega) (by omega)

set_option maxHeartbeats 1000000 in
theorem t_X5_part_8_F {K : Kmap} {V : Vmap} {x : Nat} (h_x : K x = some (0, 4)) (q_0 : vi V x 5 ≠ 0) : MC mX5_part_8 K V [.ref x] (VS K (fun V1 => (vi V1 x 4 = vi V x 4 ∧ (vi V x 5 ≠ 0 → vi V1 x 5 ≠ 0)) ∧ (CR K V V1 x (fun src e => parG src e (pieD src e (vi V x 4).toNat))))) := by
  refine MC.start 2 (by decide +kernel) rfl rfl rfl (ls0 := [some (.ref x), none, none]) rfl ?_
  refine GO.useWT (fun hW_0 => ?_)
  refine GO.iconst dX5_part_0 ?_
  refine GO.istore_n (ls1 := [some (.ref x), some (ti (-1)), none]) dX5_part_1 rfl rfl rfl ?_
  refine GO.aload_n dX5_part_2 rfl rfl ?_
  have q1 : -2147483648 ≤ vi V x 4 ∧ vi V x 4 ≤ 2147483647 := vi_ir
  have q2 : -2147483648 ≤ vi V x 5 ∧ vi V x 5 ≤ 2147483647 := vi_ir
  refine GO.callV (ci := 4) (N := mX5_piece_8) dX5_part_3 (RX5, TX5, 7) rfl gV_RX5_96 h_x (t_X5_piece_8 h_x (by omega)) rfl [] rfl rfl (Nat.le_of_ble_eq_true rfl) rfl (k_vs fun V5 h4 hF3 => ?_)
  have raw_piece := h4.2
  have rw3 := h4.2
  refine GO.iconst dX5_part_6 ?_
  refine GO.istore_n (ls1 := [some (.ref x), some (ti (-1)), some (ti 0)]) dX5_part_7 rfl rfl rfl ?_
  have q10 : -2147483648 ≤ vi V5 x 4 ∧ vi V5 x 4 ≤ 2147483647 := vi_ir
  have q11 : -2147483648 ≤ vi V5 x 5 ∧ vi V5 x 5 ≤ 2147483647 := vi_ir
  refine GO.loop2 (fun i8 i9 W => (-1) ≤ i8 ∧ i8 ≤ (-1) ∧ 0 ≤ i9 ∧ i9 ≤ 0 ∧ (vi W x 4 = vi V5 x 4 ∧ (vi V5 x 5 ≠ 0 → vi W x 5 ≠ 0)) ∧ (AJI K V W x (vi V x 4).toNat i8 i9) ∧ True) (fun i8 i9 => [some (.ref x), some (ti i8), some (ti i9)]) (fun i8 i9 W => (2147483647 - i8).toNat) (-1) 0 ⟨by omega, by omega, by omega, by omega, by omega, (by first | exact AJI.beg rw3), trivial⟩ rfl (fun i8 i9 Wi8 hp24 ih23 => ?_)
  obtain ⟨l_i8, u_i8, l_i9, u_i9, n_i8, haj, -⟩ := hp24
  have r_i8 : ir i8 := ⟨by omega, by omega⟩
  have r_i9 : ir i9 := ⟨by omega, by omega⟩
  show GO mX5_part_8 K V (VS K (fun V1 => (vi V1 x 4 = vi V x 4 ∧ (vi V x 5 ≠ 0 → vi V1 x 5 ≠ 0)) ∧ (CR K V V1 x (fun src e => parG src e (pieD src e (vi V x 4).toNat))))) K Wi8 0 0 8 [some (.ref x), some (ti i8), some (ti i9)] []
  refine GO.useWT (fun hWh => ?_)
  refine GO.iload_n dX5_part_8 rfl rfl ?_
  refine GO.sipush dX5_part_9 rfl ?_
  refine GO.icmp_ge (tgt := 69) dX5_part_12 (by decide) r_i9 (ir_c rfl) (fun h => by exfalso; omega) (fun c25 => ?_)
  refine GO.aload_n dX5_part_15 rfl rfl ?_
  refine GO.getI h_x fl_RX5_18 rfl rfl dX5_part_16 (fun _ _ => ?_)
  have q27 : -2147483648 ≤ vi Wi8 x 5 ∧ vi Wi8 x 5 ≤ 2147483647 := vi_ir
  refine GO.if_ne (tgt := 69) dX5_part_19 (by decide) vi_ir (fun c26 => ?_) (fun h => by exfalso; omega)
  refine GO.aload_n dX5_part_69 rfl rfl ?_
  refine GO.getR h_x fl_RX5_31 rfl rfl dX5_part_70 (fun hv29 h28 => ?_)
  refine GO.iload_n dX5_part_73 rfl rfl ?_
  refine GO.callV (ci := 8) (N := mX9_lead) dX5_part_74 (RX9, TX9, 5) rfl gV_RX5_89 h28 (t_X9_lead h28 r_i8) rfl [] rfl rfl (Nat.le_of_ble_eq_true rfl) rfl (k_vs fun V32 h31 hF30 => ?_)
  have raw_lead := h31.2
  have rw74 := h31.2
  have e33 : vi V32 x 4 = vi Wi8 x 4 := vi_fr hF30 h_x h_x (by decide +kernel)
  have q34 : -2147483648 ≤ vi Wi8 x 4 ∧ vi Wi8 x 4 ≤ 2147483647 := vi_ir
  have e35 : vi V32 x 5 = vi Wi8 x 5 := vi_fr hF30 h_x h_x (by decide +kernel)
  exact GO.retv rfl rfl dX5_part_77 ⟨rfl, rfl, ⟨by omega, AJI.end haj (by omega) (by omega) h_x hWh rw74⟩⟩

set_option maxHeartbeats 1000000 in
theorem t_X5_part_8_G {K : Kmap} {V : Vmap} {x : Nat} (h_x : K x = some (0, 4)) (q_0 : vi V x 5 = 0) (q_1 : vi V x 4 ≥ 1) (q_2 : vi V x 4 ≤ 8) : MC mX5_part_8 K V [.ref x] (VS K (fun V1 => (vi V1 x 4 = vi V x 4 ∧ (vi V x 5 ≠ 0 → vi V1 x 5 ≠ 0)) ∧ (CR K V V1 x (fun src e => parG src e (pieD src e (vi V x 4).toNat))))) := by
  refine MC.start 2 (by decide +kernel) rfl rfl rfl (ls0 := [some (.ref x), none, none]) rfl ?_
  refine GO.useWT (fun hW_0 => ?_)
  refine GO.iconst dX5_part_0 ?_
  refine GO.istore_n (ls1 := [some (.ref x), some (ti (-1)), none]) dX5_part_1 rfl rfl rfl ?_
  refine GO.aload_n dX5_part_2 rfl rfl ?_
  have q1 : -2147483648 ≤ vi V x 4 ∧ vi V x 4 ≤ 2147483647 := vi_ir
  have q2 : -2147483648 ≤ vi V x 5 ∧ vi V x 5 ≤ 2147483647 := vi_ir
  refine GO.callV (ci := 4) (N := mX5_piece_8) dX5_part_3 (RX5, TX5, 7) rfl gV_RX5_96 h_x (t_X5_piece_8 h_x (by omega)) rfl [] rfl rfl (Nat.le_of_ble_eq_true rfl) rfl (k_vs fun V5 h4 hF3 => ?_)
  have raw_piece := h4.2
  have rw3 := h4.2
  refine GO.iconst dX5_part_6 ?_
  refine GO.istore_n (ls1 := [some (.ref x), some (ti (-1)), some (ti 0)]) dX5_part_7 rfl rfl rfl ?_
  have q10 : -2147483648 ≤ vi V5 x 4 ∧ vi V5 x 4 ≤ 2147483647 := vi_ir
  have q11 : -2147483648 ≤ vi V5 x 5 ∧ vi V5 x 5 ≤ 2147483647 := vi_ir
  refine GO.loop2 (fun i8 i9 W => (-2147483648) ≤ i8 ∧ i8 ≤ 2147483647 ∧ 0 ≤ i9 ∧ i9 ≤ 200 ∧ (vi W x 4 = vi V5 x 4 ∧ (vi V5 x 5 ≠ 0 → vi W x 5 ≠ 0)) ∧ (AJI K V W x (vi V x 4).toNat i8 i9) ∧ True) (fun i8 i9 => [some (.ref x), some (ti i8), some (ti i9)]) (fun i8 i9 W => (2147483647 - i9).toNat) (-1) 0 ⟨by omega, by omega, by omega, by omega, by omega, (by first | exact AJI.beg rw3), trivial⟩ rfl (fun i8 i9 Wi8 hp1840 ih1839 => ?_)
  obtain ⟨l_i8, u_i8, l_i9, u_i9, n_i8, haj, -⟩ := hp1840
  have r_i8 : ir i8 := ⟨by omega, by omega⟩
  have r_i9 : ir i9 := ⟨by omega, by omega⟩
  show GO mX5_part_8 K V (VS K (fun V1 => (vi V1 x 4 = vi V x 4 ∧ (vi V x 5 ≠ 0 → vi V1 x 5 ≠ 0)) ∧ (CR K V V1 x (fun src e => parG src e (pieD src e (vi V x 4).toNat))))) K Wi8 0 0 8 [some (.ref x), some (ti i8), some (ti i9)] []
  refine GO.useWT (fun hWh => ?_)
  refine GO.iload_n dX5_part_8 rfl rfl ?_
  refine GO.sipush dX5_part_9 rfl ?_
  refine GO.icmp_ge (tgt := 69) dX5_part_12 (by decide) r_i9 (ir_c rfl) (fun c1841 => ?_) (fun c1841 => ?_)
  ·
    refine GO.aload_n dX5_part_69 rfl rfl ?_
    refine GO.getR h_x fl_RX5_31 rfl rfl dX5_part_70 (fun hv1843 h1842 => ?_)
    refine GO.iload_n dX5_part_73 rfl rfl ?_
    refine GO.callV (ci := 8) (N := mX9_lead) dX5_part_74 (RX9, TX9, 5) rfl gV_RX5_89 h1842 (t_X9_lead h1842 r_i8) rfl [] rfl rfl (Nat.le_of_ble_eq_true rfl) rfl (k_vs fun V1846 h1845 hF1844 => ?_)
    have raw_lead := h1845.2
    have rw74 := h1845.2
    have e1847 : vi V1846 x 4 = vi Wi8 x 4 := vi_fr hF1844 h_x h_x (by decide +kernel)
    have q1848 : -2147483648 ≤ vi Wi8 x 4 ∧ vi Wi8 x 4 ≤ 2147483647 := vi_ir
    have e1849 : vi V1846 x 5 = vi Wi8 x 5 := vi_fr hF1844 h_x h_x (by decide +kernel)
    have q1850 : -2147483648 ≤ vi Wi8 x 5 ∧ vi Wi8 x 5 ≤ 2147483647 := vi_ir
    exact GO.retv rfl rfl dX5_part_77 ⟨rfl, rfl, ⟨by omega, AJI.end haj (by omega) (by omega) h_x hWh rw74⟩⟩
  ·
    refine GO.aload_n dX5_part_15 rfl rfl ?_
    refine GO.getI h_x fl_RX5_18 rfl rfl dX5_part_16 (fun _ _ => ?_)
    refine GO.if_ne (tgt := 69) dX5_part_19 (by decide) vi_ir (fun c1851 => ?_) (fun c1851 => ?_)
    ·
      refine GO.aload_n dX5_part_69 rfl rfl ?_
      refine GO.getR h_x fl_RX5_31 rfl rfl dX5_part_70 (fun hv1853 h1852 => ?_)
      refine GO.iload_n dX5_part_73 rfl rfl ?_
      refine GO.callV (ci := 8) (N := mX9_lead) dX5_part_74 (RX9, TX9, 5) rfl gV_RX5_89 h1852 (t_X9_lead h1852 r_i8) rfl [] rfl rfl (Nat.le_of_ble_eq_true rfl) rfl (k_vs fun V1856 h1855 hF1854 => ?_)
      have raw_lead := h1855.2
      have rw74 := h1855.2
      have e1857 : vi V1856 x 4 = vi Wi8 x 4 := vi_fr hF1854 h_x h_x (by decide +kernel)
      have q1858 : -2147483648 ≤ vi Wi8 x 4 ∧ vi Wi8 x 4 ≤ 2147483647 := vi_ir
      have e1859 : vi V1856 x 5 = vi Wi8 x 5 := vi_fr hF1854 h_x h_x (by decide +kernel)
      have q1860 : -2147483648 ≤ vi Wi8 x 5 ∧ vi Wi8 x 5 ≤ 2147483647 := vi_ir
      exact GO.retv rfl rfl dX5_part_77 ⟨rfl, rfl, ⟨by omega, AJI.end haj (by omega) (by omega) h_x hWh rw74⟩⟩
    ·
      refine GO.aload_n dX5_part_22 rfl rfl ?_
      refine GO.callV (ci := 4) (N := mX5_next) dX5_part_23 (RX5, TX5, 7) rfl gV_RX5_61 h_x (t_X5_next h_x) rfl [] rfl rfl (Nat.le_of_ble_eq_true rfl) rfl (k_ip fun X1861 r1862 h1863 => ?_)
      refine GO.bipush dX5_part_26 rfl ?_
      refine GO.icmp_ne (tgt := 69) dX5_part_28 (by decide) r1862 (ir_c rfl) (fun c1864 => ?_) (fun c1864 => ?_)
      ·
        refine GO.aload_n dX5_part_69 rfl rfl ?_
        refine GO.getR h_x fl_RX5_31 rfl rfl dX5_part_70 (fun hv1866 h1865 => ?_)
        refine GO.iload_n dX5_part_73 rfl rfl ?_
        refine GO.callV (ci := 8) (N := mX9_lead) dX5_part_74 (RX9, TX9, 5) rfl gV_RX5_89 h1865 (t_X9_lead h1865 r_i8) rfl [] rfl rfl (Nat.le_of_ble_eq_true rfl) rfl (k_vs fun V1869 h1868 hF1867 => ?_)
        have raw_lead := h1868.2
        have rw74 := h1868.2
        have e1870 : vi V1869 x 4 = vi Wi8 x 4 := vi_fr hF1867 h_x h_x (by decide +kernel)
        have q1871 : -2147483648 ≤ vi Wi8 x 4 ∧ vi Wi8 x 4 ≤ 2147483647 := vi_ir
        have e1872 : vi V1869 x 5 = vi Wi8 x 5 := vi_fr hF1867 h_x h_x (by decide +kernel)
        have q1873 : -2147483648 ≤ vi Wi8 x 5 ∧ vi Wi8 x 5 ≤ 2147483647 := vi_ir
        exact GO.retv rfl rfl dX5_part_77 ⟨rfl, rfl, ⟨by omega, AJI.end haj (by omega) (by omega) h_x hWh rw74⟩⟩
      ·
        refine GO.aload_n dX5_part_31 rfl rfl ?_
        refine GO.dup dX5_part_32 rfl ?_
        refine GO.getI h_x fl_RX5_9 rfl rfl dX5_part_33 (fun _ _ => ?_)
        refine GO.iconst dX5_part_36 ?_
        refine GO.iadd dX5_part_37 ?_
        refine GO.norm (fun z1874 r1875 hn1876 => ?_)
        refine GO.putI h_x fp_RX5_9 rfl (by decide +kernel) r1875 (r1875).1 (r1875).2 dX5_part_38 (fun V1878 e1877 => ?_)
        refine GO.useWT (fun hW2 => ?_)
        refine GO.aload_n dX5_part_41 rfl rfl ?_
        refine GO.getR h_x fl_RX5_31 rfl rfl dX5_part_42 (fun hv1880 h1879 => ?_)
        refine GO.iload_n dX5_part_45 rfl rfl ?_
        refine GO.callV (ci := 8) (N := mX9_lead) dX5_part_46 (RX9, TX9, 5) rfl gV_RX5_89 h1879 (t_X9_lead h1879 r_i8) rfl [] rfl rfl (Nat.le_of_ble_eq_true rfl) rfl (k_vs fun V1883 h1882 hF1881 => ?_)
        have raw_lead := h1882.2
        have rw46 := h1882.2
        refine GO.useWT (fun hW3 => ?_)
        refine GO.aload_n dX5_part_49 rfl rfl ?_
        refine GO.getRaw h_x fl_RX5_31 (Eq.trans (hF1881 _ _ _ h_x h_x (by decide +kernel)) hv1880) dX5_part_50 ?_
        refine GO.iconst dX5_part_53 ?_
        refine GO.iconst dX5_part_54 ?_
        refine GO.callV (ci := 8) (N := mX9_addStep) dX5_part_55 (RX9, TX9, 5) rfl gV_RX5_92 h1879 (t_X9_addStep h1879 (ir_c rfl) (ir_c rfl)) rfl [] rfl rfl (Nat.le_of_ble_eq_true rfl) rfl (k_is fun X1886 V1890 r1887 h1888 hF1889 => ?_)
        have raw_addStep := h1888.2
        have rw55 := h1888.2
        refine GO.istore_n (ls1 := [some (.ref x), some (ti X1886), some (ti i9)]) dX5_part_58 rfl rfl rfl ?_
        refine GO.aload_n dX5_part_59 rfl rfl ?_
        have e1893 : vi V1878 x 5 = vi Wi8 x 5 := vi_up e1877 (Or.inr (by decide))
        have e1892 : vi V1883 x 5 = vi V1878 x 5 := vi_fr hF1881 h_x h_x (by decide +kernel)
        have e1891 : vi V1890 x 5 = vi V1883 x 5 := vi_fr hF1889 h_x h_x (by decide +kernel)
        have e1896 : vi V1878 x 4 = vi Wi8 x 4 := vi_up e1877 (Or.inr (by decide))
        have e1895 : vi V1883 x 4 = vi V1878 x 4 := vi_fr hF1881 h_x h_x (by decide +kernel)
        have e1894 : vi V1890 x 4 = vi V1883 x 4 := vi_fr hF1889 h_x h_x (by decide +kernel)
        have q1897 : -2147483648 ≤ vi Wi8 x 4 ∧ vi Wi8 x 4 ≤ 2147483647 := vi_ir
        have q1898 : -2147483648 ≤ vi Wi8 x 5 ∧ vi Wi8 x 5 ≤ 2147483647 := vi_ir
        refine GO.callV (ci := 4) (N := mX5_piece_8) dX5_part_60 (RX5, TX5, 7) rfl gV_RX5_96 h_x (t_X5_piece_8 h_x (by omega)) rfl [] rfl rfl (Nat.le_of_ble_eq_true rfl) rfl (k_vs fun V1901 h1900 hF1899 => ?_)
        have raw_piece := h1900.2
        have rw60 := h1900.2
        refine GO.iinc (X := i9) (n := 1) (Y := i9 + 1) (ls1 := [some (.ref x), some (ti X1886), some (ti (i9 + 1))]) dX5_part_63 rfl rfl rfl rfl ?_
        refine GO.goto (tgt := 8) dX5_part_66 (by decide) ?_
        have q1904 : -2147483648 ≤ vi V1901 x 4 ∧ vi V1901 x 4 ≤ 2147483647 := vi_ir
        have q1905 : -2147483648 ≤ vi V1901 x 5 ∧ vi V1901 x 5 ≤ 2147483647 := vi_ir
        exact ih1839 X1886 (i9 + 1) V1901 ⟨by omega, by omega, by omega, by omega, by omega, (by first | exact AJI.beg rw3 | exact AJI.step haj (by omega) (by omega) (by omega) h_x hWh hW2 hW3 (by assumption) (by assumption) (by assumption) rw46 rw55 (CR.pie rw60 (by omega))), trivial⟩ (by show (2147483647 - (i9 + 1)).toNat < (2147483647 - i9).toNat; omega)

theorem t_X5_part_8 {K : Kmap} {V : Vmap} {x : Nat} (h_x : K x = some (0, 4)) (q_0 : (vi V x 5 ≠ 0 ∨ (vi V x 5 = 0 ∧ vi V x 4 ≥ 1 ∧ vi V x 4 ≤ 8))) : MC mX5_part_8 K V [.ref x] (VS K (fun V1 => (vi V1 x 4 = vi V x 4 ∧ (vi V x 5 ≠ 0 → vi V1 x 5 ≠ 0)) ∧ (CR K V V1 x (fun src e => parG src e (pieD src e (vi V x 4).toNat))))) := by
  rcases q_0 with h | h
  · exact t_X5_part_8_F h_x (by omega)
  · exact t_X5_part_8_G h_x (by omega) (by omega) (by omega)

set_option maxHeartbeats 1000000 in
theorem t_X5_parts_8_F {K : Kmap} {V : Vmap} {x : Nat} (h_x : K x = some (0, 4)) (q_0 : vi V x 5 ≠ 0) : MC mX5_parts_8 K V [.ref x] (VS K (fun V1 => (vi V1 x 4 = vi V x 4 ∧ (vi V x 5 ≠ 0 → vi V1 x 5 ≠ 0)) ∧ (CR K V V1 x (fun src e => parD src e (vi V x 4).toNat)))) := by
  refine MC.start 2 (by decide +kernel) rfl rfl rfl (ls0 := [some (.ref x), none, none]) rfl ?_
  refine GO.useWT (fun hW_0 => ?_)
  refine GO.iconst dX5_parts_0 ?_
  refine GO.istore_n (ls1 := [some (.ref x), some (ti (-1)), none]) dX5_parts_1 rfl rfl rfl ?_
  refine GO.aload_n dX5_parts_2 rfl rfl ?_
  have q1 : -2147483648 ≤ vi V x 4 ∧ vi V x 4 ≤ 2147483647 := vi_ir
  have q2 : -2147483648 ≤ vi V x 5 ∧ vi V x 5 ≤ 2147483647 := vi_ir
  refine GO.callV (ci := 4) (N := mX5_part_8) dX5_parts_3 (RX5, TX5, 7) rfl gV_RX5_86 h_x (t_X5_part_8 h_x (by omega)) rfl [] rfl rfl (Nat.le_of_ble_eq_true rfl) rfl (k_vs fun V5 h4 hF3 => ?_)
  have raw_part := h4.2
  have rw3 := h4.2
  refine GO.iconst dX5_parts_6 ?_
  refine GO.istore_n (ls1 := [some (.ref x), some (ti (-1)), some (ti 0)]) dX5_parts_7 rfl rfl rfl ?_
  have q10 : -2147483648 ≤ vi V5 x 4 ∧ vi V5 x 4 ≤ 2147483647 := vi_ir
  have q11 : -2147483648 ≤ vi V5 x 5 ∧ vi V5 x 5 ≤ 2147483647 := vi_ir
  refine GO.loop2 (fun i8 i9 W => (-1) ≤ i8 ∧ i8 ≤ (-1) ∧ 0 ≤ i9 ∧ i9 ≤ 0 ∧ (vi W x 4 = vi V5 x 4 ∧ (vi V5 x 5 ≠ 0 → vi W x 5 ≠ 0)) ∧ (OJI K V W x (vi V x 4).toNat i8 i9) ∧ True) (fun i8 i9 => [some (.ref x), some (ti i8), some (ti i9)]) (fun i8 i9 W => (2147483647 - i8).toNat) (-1) 0 ⟨by omega, by omega, by omega, by omega, by omega, (by first | exact OJI.beg rw3), trivial⟩ rfl (fun i8 i9 Wi8 hp24 ih23 => ?_)
  obtain ⟨l_i8, u_i8, l_i9, u_i9, n_i8, hoj, -⟩ := hp24
  have r_i8 : ir i8 := ⟨by omega, by omega⟩
  have r_i9 : ir i9 := ⟨by omega, by omega⟩
  show GO mX5_parts_8 K V (VS K (fun V1 => (vi V1 x 4 = vi V x 4 ∧ (vi V x 5 ≠ 0 → vi V1 x 5 ≠ 0)) ∧ (CR K V V1 x (fun src e => parD src e (vi V x 4).toNat)))) K Wi8 0 0 8 [some (.ref x), some (ti i8), some (ti i9)] []
  refine GO.useWT (fun hWh => ?_)
  refine GO.iload_n dX5_parts_8 rfl rfl ?_
  refine GO.sipush dX5_parts_9 rfl ?_
  refine GO.icmp_ge (tgt := 69) dX5_parts_12 (by decide) r_i9 (ir_c rfl) (fun h => by exfalso; omega) (fun c25 => ?_)
  refine GO.aload_n dX5_parts_15 rfl rfl ?_
  refine GO.getI h_x fl_RX5_18 rfl rfl dX5_parts_16 (fun _ _ => ?_)
  have q27 : -2147483648 ≤ vi Wi8 x 5 ∧ vi Wi8 x 5 ≤ 2147483647 := vi_ir
  refine GO.if_ne (tgt := 69) dX5_parts_19 (by decide) vi_ir (fun c26 => ?_) (fun h => by exfalso; omega)
  refine GO.aload_n dX5_parts_69 rfl rfl ?_
  refine GO.getR h_x fl_RX5_31 rfl rfl dX5_parts_70 (fun hv29 h28 => ?_)
  refine GO.iload_n dX5_parts_73 rfl rfl ?_
  refine GO.callV (ci := 8) (N := mX9_lead) dX5_parts_74 (RX9, TX9, 5) rfl gV_RX5_89 h28 (t_X9_lead h28 r_i8) rfl [] rfl rfl (Nat.le_of_ble_eq_true rfl) rfl (k_vs fun V32 h31 hF30 => ?_)
  have raw_lead := h31.2
  have rw74 := h31.2
  have e33 : vi V32 x 4 = vi Wi8 x 4 := vi_fr hF30 h_x h_x (by decide +kernel)
  have q34 : -2147483648 ≤ vi Wi8 x 4 ∧ vi Wi8 x 4 ≤ 2147483647 := vi_ir
  have e35 : vi V32 x 5 = vi Wi8 x 5 := vi_fr hF30 h_x h_x (by decide +kernel)
  exact GO.retv rfl rfl dX5_parts_77 ⟨rfl, rfl, ⟨by omega, OJI.end hoj (by omega) (by omega) h_x hWh rw74⟩⟩

set_option maxHeartbeats 1000000 in
theorem t_X5_parts_8_G {K : Kmap} {V : Vmap} {x : Nat} (h_x : K x = some (0, 4)) (q_0 : vi V x 5 = 0) (q_1 : vi V x 4 ≥ 1) (q_2 : vi V x 4 ≤ 8) : MC mX5_parts_8 K V [.ref x] (VS K (fun V1 => (vi V1 x 4 = vi V x 4 ∧ (vi V x 5 ≠ 0 → vi V1 x 5 ≠ 0)) ∧ (CR K V V1 x (fun src e => parD src e (vi V x 4).toNat)))) := by
  refine MC.start 2 (by decide +kernel) rfl rfl rfl (ls0 := [some (.ref x), none, none]) rfl ?_
  refine GO.useWT (fun hW_0 => ?_)
  refine GO.iconst dX5_parts_0 ?_
  refine GO.istore_n (ls1 := [some (.ref x), some (ti (-1)), none]) dX5_parts_1 rfl rfl rfl ?_
  refine GO.aload_n dX5_parts_2 rfl rfl ?_
  have q1 : -2147483648 ≤ vi V x 4 ∧ vi V x 4 ≤ 2147483647 := vi_ir
  have q2 : -2147483648 ≤ vi V x 5 ∧ vi V x 5 ≤ 2147483647 := vi_ir
  refine GO.callV (ci := 4) (N := mX5_part_8) dX5_parts_3 (RX5, TX5, 7) rfl gV_RX5_86 h_x (t_X5_part_8 h_x (by omega)) rfl [] rfl rfl (Nat.le_of_ble_eq_true rfl) rfl (k_vs fun V5 h4 hF3 => ?_)
  have raw_part := h4.2
  have rw3 := h4.2
  refine GO.iconst dX5_parts_6 ?_
  refine GO.istore_n (ls1 := [some (.ref x), some (ti (-1)), some (ti 0)]) dX5_parts_7 rfl rfl rfl ?_
  have q10 : -2147483648 ≤ vi V5 x 4 ∧ vi V5 x 4 ≤ 2147483647 := vi_ir
  have q11 : -2147483648 ≤ vi V5 x 5 ∧ vi V5 x 5 ≤ 2147483647 := vi_ir
  refine GO.loop2 (fun i8 i9 W => (-2147483648) ≤ i8 ∧ i8 ≤ 2147483647 ∧ 0 ≤ i9 ∧ i9 ≤ 200 ∧ (vi W x 4 = vi V5 x 4 ∧ (vi V5 x 5 ≠ 0 → vi W x 5 ≠ 0)) ∧ (OJI K V W x (vi V x 4).toNat i8 i9) ∧ True) (fun i8 i9 => [some (.ref x), some (ti i8), some (ti i9)]) (fun i8 i9 W => (2147483647 - i9).toNat) (-1) 0 ⟨by omega, by omega, by omega, by omega, by omega, (by first | exact OJI.beg rw3), trivial⟩ rfl (fun i8 i9 Wi8 hp1840 ih1839 => ?_)
  obtain ⟨l_i8, u_i8, l_i9, u_i9, n_i8, hoj, -⟩ := hp1840
  have r_i8 : ir i8 := ⟨by omega, by omega⟩
  have r_i9 : ir i9 := ⟨by omega, by omega⟩
  show GO mX5_parts_8 K V (VS K (fun V1 => (vi V1 x 4 = vi V x 4 ∧ (vi V x 5 ≠ 0 → vi V1 x 5 ≠ 0)) ∧ (CR K V V1 x (fun src e => parD src e (vi V x 4).toNat)))) K Wi8 0 0 8 [some (.ref x), some (ti i8), some (ti i9)] []
  refine GO.useWT (fun hWh => ?_)
  refine GO.iload_n dX5_parts_8 rfl rfl ?_
  refine GO.sipush dX5_parts_9 rfl ?_
  refine GO.icmp_ge (tgt := 69) dX5_parts_12 (by decide) r_i9 (ir_c rfl) (fun c1841 => ?_) (fun c1841 => ?_)
  ·
    refine GO.aload_n dX5_parts_69 rfl rfl ?_
    refine GO.getR h_x fl_RX5_31 rfl rfl dX5_parts_70 (fun hv1843 h1842 => ?_)
    refine GO.iload_n dX5_parts_73 rfl rfl ?_
    refine GO.callV (ci := 8) (N := mX9_lead) dX5_parts_74 (RX9, TX9, 5) rfl gV_RX5_89 h1842 (t_X9_lead h1842 r_i8) rfl [] rfl rfl (Nat.le_of_ble_eq_true rfl) rfl (k_vs fun V1846 h1845 hF1844 => ?_)
    have raw_lead := h1845.2
    have rw74 := h1845.2
    have e1847 : vi V1846 x 4 = vi Wi8 x 4 := vi_fr hF1844 h_x h_x (by decide +kernel)
    have q1848 : -2147483648 ≤ vi Wi8 x 4 ∧ vi Wi8 x 4 ≤ 2147483647 := vi_ir
    have e1849 : vi V1846 x 5 = vi Wi8 x 5 := vi_fr hF1844 h_x h_x (by decide +kernel)
    have q1850 : -2147483648 ≤ vi Wi8 x 5 ∧ vi Wi8 x 5 ≤ 2147483647 := vi_ir
    exact GO.retv rfl rfl dX5_parts_77 ⟨rfl, rfl, ⟨by omega, OJI.end hoj (by omega) (by omega) h_x hWh rw74⟩⟩
  ·
    refine GO.aload_n dX5_parts_15 rfl rfl ?_
    refine GO.getI h_x fl_RX5_18 rfl rfl dX5_parts_16 (fun _ _ => ?_)
    refine GO.if_ne (tgt := 69) dX5_parts_19 (by decide) vi_ir (fun c1851 => ?_) (fun c1851 => ?_)
    ·
      refine GO.aload_n dX5_parts_69 rfl rfl ?_
      refine GO.getR h_x fl_RX5_31 rfl rfl dX5_parts_70 (fun hv1853 h1852 => ?_)
      refine GO.iload_n dX5_parts_73 rfl rfl ?_
      refine GO.callV (ci := 8) (N := mX9_lead) dX5_parts_74 (RX9, TX9, 5) rfl gV_RX5_89 h1852 (t_X9_lead h1852 r_i8) rfl [] rfl rfl (Nat.le_of_ble_eq_true rfl) rfl (k_vs fun V1856 h1855 hF1854 => ?_)
      have raw_lead := h1855.2
      have rw74 := h1855.2
      have e1857 : vi V1856 x 4 = vi Wi8 x 4 := vi_fr hF1854 h_x h_x (by decide +kernel)
      have q1858 : -2147483648 ≤ vi Wi8 x 4 ∧ vi Wi8 x 4 ≤ 2147483647 := vi_ir
      have e1859 : vi V1856 x 5 = vi Wi8 x 5 := vi_fr hF1854 h_x h_x (by decide +kernel)
      have q1860 : -2147483648 ≤ vi Wi8 x 5 ∧ vi Wi8 x 5 ≤ 2147483647 := vi_ir
      exact GO.retv rfl rfl dX5_parts_77 ⟨rfl, rfl, ⟨by omega, OJI.end hoj (by omega) (by omega) h_x hWh rw74⟩⟩
    ·
      refine GO.aload_n dX5_parts_22 rfl rfl ?_
      refine GO.callV (ci := 4) (N := mX5_next) dX5_parts_23 (RX5, TX5, 7) rfl gV_RX5_61 h_x (t_X5_next h_x) rfl [] rfl rfl (Nat.le_of_ble_eq_true rfl) rfl (k_ip fun X1861 r1862 h1863 => ?_)
      refine GO.bipush dX5_parts_26 rfl ?_
      refine GO.icmp_ne (tgt := 69) dX5_parts_28 (by decide) r1862 (ir_c rfl) (fun c1864 => ?_) (fun c1864 => ?_)
      ·
        refine GO.aload_n dX5_parts_69 rfl rfl ?_
        refine GO.getR h_x fl_RX5_31 rfl rfl dX5_parts_70 (fun hv1866 h1865 => ?_)
        refine GO.iload_n dX5_parts_73 rfl rfl ?_
        refine GO.callV (ci := 8) (N := mX9_lead) dX5_parts_74 (RX9, TX9, 5) rfl gV_RX5_89 h1865 (t_X9_lead h1865 r_i8) rfl [] rfl rfl (Nat.le_of_ble_eq_true rfl) rfl (k_vs fun V1869 h1868 hF1867 => ?_)
        have raw_lead := h1868.2
        have rw74 := h1868.2
        have e1870 : vi V1869 x 4 = vi Wi8 x 4 := vi_fr hF1867 h_x h_x (by decide +kernel)
        have q1871 : -2147483648 ≤ vi Wi8 x 4 ∧ vi Wi8 x 4 ≤ 2147483647 := vi_ir
        have e1872 : vi V1869 x 5 = vi Wi8 x 5 := vi_fr hF1867 h_x h_x (by decide +kernel)
        have q1873 : -2147483648 ≤ vi Wi8 x 5 ∧ vi Wi8 x 5 ≤ 2147483647 := vi_ir
        exact GO.retv rfl rfl dX5_parts_77 ⟨rfl, rfl, ⟨by omega, OJI.end hoj (by omega) (by omega) h_x hWh rw74⟩⟩
      ·
        refine GO.aload_n dX5_parts_31 rfl rfl ?_
        refine GO.dup dX5_parts_32 rfl ?_
        refine GO.getI h_x fl_RX5_9 rfl rfl dX5_parts_33 (fun _ _ => ?_)
        refine GO.iconst dX5_parts_36 ?_
        refine GO.iadd dX5_parts_37 ?_
        refine GO.norm (fun z1874 r1875 hn1876 => ?_)
        refine GO.putI h_x fp_RX5_9 rfl (by decide +kernel) r1875 (r1875).1 (r1875).2 dX5_parts_38 (fun V1878 e1877 => ?_)
        refine GO.useWT (fun hW2 => ?_)
        refine GO.aload_n dX5_parts_41 rfl rfl ?_
        refine GO.getR h_x fl_RX5_31 rfl rfl dX5_parts_42 (fun hv1880 h1879 => ?_)
        refine GO.iload_n dX5_parts_45 rfl rfl ?_
        refine GO.callV (ci := 8) (N := mX9_lead) dX5_parts_46 (RX9, TX9, 5) rfl gV_RX5_89 h1879 (t_X9_lead h1879 r_i8) rfl [] rfl rfl (Nat.le_of_ble_eq_true rfl) rfl (k_vs fun V1883 h1882 hF1881 => ?_)
        have raw_lead := h1882.2
        have rw46 := h1882.2
        refine GO.useWT (fun hW3 => ?_)
        refine GO.aload_n dX5_parts_49 rfl rfl ?_
        refine GO.getRaw h_x fl_RX5_31 (Eq.trans (hF1881 _ _ _ h_x h_x (by decide +kernel)) hv1880) dX5_parts_50 ?_
        refine GO.iconst dX5_parts_53 ?_
        refine GO.iconst dX5_parts_54 ?_
        refine GO.callV (ci := 8) (N := mX9_addStep) dX5_parts_55 (RX9, TX9, 5) rfl gV_RX5_92 h1879 (t_X9_addStep h1879 (ir_c rfl) (ir_c rfl)) rfl [] rfl rfl (Nat.le_of_ble_eq_true rfl) rfl (k_is fun X1886 V1890 r1887 h1888 hF1889 => ?_)
        have raw_addStep := h1888.2
        have rw55 := h1888.2
        refine GO.istore_n (ls1 := [some (.ref x), some (ti X1886), some (ti i9)]) dX5_parts_58 rfl rfl rfl ?_
        refine GO.aload_n dX5_parts_59 rfl rfl ?_
        have e1893 : vi V1878 x 5 = vi Wi8 x 5 := vi_up e1877 (Or.inr (by decide))
        have e1892 : vi V1883 x 5 = vi V1878 x 5 := vi_fr hF1881 h_x h_x (by decide +kernel)
        have e1891 : vi V1890 x 5 = vi V1883 x 5 := vi_fr hF1889 h_x h_x (by decide +kernel)
        have e1896 : vi V1878 x 4 = vi Wi8 x 4 := vi_up e1877 (Or.inr (by decide))
        have e1895 : vi V1883 x 4 = vi V1878 x 4 := vi_fr hF1881 h_x h_x (by decide +kernel)
        have e1894 : vi V1890 x 4 = vi V1883 x 4 := vi_fr hF1889 h_x h_x (by decide +kernel)
        have q1897 : -2147483648 ≤ vi Wi8 x 4 ∧ vi Wi8 x 4 ≤ 2147483647 := vi_ir
        have q1898 : -2147483648 ≤ vi Wi8 x 5 ∧ vi Wi8 x 5 ≤ 2147483647 := vi_ir
        refine GO.callV (ci := 4) (N := mX5_part_8) dX5_parts_60 (RX5, TX5, 7) rfl gV_RX5_86 h_x (t_X5_part_8 h_x (by omega)) rfl [] rfl rfl (Nat.le_of_ble_eq_true rfl) rfl (k_vs fun V1901 h1900 hF1899 => ?_)
        have raw_part := h1900.2
        have rw60 := h1900.2
        refine GO.iinc (X := i9) (n := 1) (Y := i9 + 1) (ls1 := [some (.ref x), some (ti X1886), some (ti (i9 + 1))]) dX5_parts_63 rfl rfl rfl rfl ?_
        refine GO.goto (tgt := 8) dX5_parts_66 (by decide) ?_
        have q1904 : -2147483648 ≤ vi V1901 x 4 ∧ vi V1901 x 4 ≤ 2147483647 := vi_ir
        have q1905 : -2147483648 ≤ vi V1901 x 5 ∧ vi V1901 x 5 ≤ 2147483647 := vi_ir
        exact ih1839 X1886 (i9 + 1) V1901 ⟨by omega, by omega, by omega, by omega, by omega, (by first | exact OJI.beg rw3 | exact OJI.step hoj (by omega) (by omega) (by omega) h_x hWh hW2 hW3 (by assumption) (by assumption) (by assumption) rw46 rw55 (CR.prt rw60 (by omega))), trivial⟩ (by show (2147483647 - (i9 + 1)).toNat < (2147483647 - i9).toNat; omega)

theorem t_X5_parts_8 {K : Kmap} {V : Vmap} {x : Nat} (h_x : K x = some (0, 4)) (q_0 : (vi V x 5 ≠ 0 ∨ (vi V x 5 = 0 ∧ vi V x 4 ≥ 1 ∧ vi V x 4 ≤ 8))) : MC mX5_parts_8 K V [.ref x] (VS K (fun V1 => (vi V1 x 4 = vi V x 4 ∧ (vi V x 5 ≠ 0 → vi V1 x 5 ≠ 0)) ∧ (CR K V V1 x (fun src e => parD src e (vi V x 4).toNat)))) := by
  rcases q_0 with h | h
  · exact t_X5_parts_8_F h_x (by omega)
  · exact t_X5_parts_8_G h_x (by omega) (by omega) (by omega)

set_option maxHeartbeats 1000000 in
theorem t_X5_condition {K : Kmap} {V : Vmap} {x : Nat} (h_x : K x = some (0, 4)) (q_0 : vi V x 4 = 0) : MC mX5_condition K V [.ref x] (VS K (fun V1 => (vi V1 x 4 = 0) ∧ (CNT K V V1 x))) := by
  refine MC.start 0 (by decide +kernel) rfl rfl rfl (ls0 := [some (.ref x)]) rfl ?_
  refine GO.useWT (fun hW_0 => ?_)
  refine GO.aload_n dX5_condition_0 rfl rfl ?_
  refine GO.iconst dX5_condition_1 ?_
  refine GO.aload_n dX5_condition_2 rfl rfl ?_
  refine GO.getR h_x fl_RX5_31 rfl rfl dX5_condition_3 (fun hv2 h1 => ?_)
  refine GO.getI h1 fl_RX5_77 rfl rfl dX5_condition_6 (fun _ _ => ?_)
  refine GO.callV (ci := 4) (N := mX5_set) dX5_condition_9 (RX5, TX5, 7) rfl gV_RX5_73 h_x (t_X5_set h_x (ir_c rfl) vi_ir) rfl [] rfl rfl (Nat.le_of_ble_eq_true rfl) rfl (k_vs fun V5 h4 hF3 => ?_)
  have raw_set := h4.2
  have rw9 := h4.2
  refine GO.useWT (fun hW1 => ?_)
  refine GO.aload_n dX5_condition_12 rfl rfl ?_
  refine GO.bipush dX5_condition_13 rfl ?_
  have e6 : vi V5 x 4 = vi V x 4 := vi_fr hF3 h_x h_x (by decide +kernel)
  have q7 : -2147483648 ≤ vi V x 4 ∧ vi V x 4 ≤ 2147483647 := vi_ir
  refine GO.callV (ci := 4) (N := mX5_deepen) dX5_condition_15 (RX5, TX5, 7) rfl gV_RX5_80 h_x (t_X5_deepen h_x (ir_c rfl) (by omega) (by omega) (by omega)) rfl [] rfl rfl (Nat.le_of_ble_eq_true rfl) rfl (k_vs fun V11 h10 hF9 => ?_)
  have raw_deepen := h10.2
  have rw15 := h10.2
  refine GO.useWT (fun hW2 => ?_)
  refine GO.aload_n dX5_condition_18 rfl rfl ?_
  have q14 : -2147483648 ≤ vi V11 x 4 ∧ vi V11 x 4 ≤ 2147483647 := vi_ir
  have q15 : -2147483648 ≤ vi V11 x 5 ∧ vi V11 x 5 ≤ 2147483647 := vi_ir
  refine GO.callV (ci := 4) (N := mX5_parts_8) dX5_condition_19 (RX5, TX5, 7) rfl gV_RX5_83 h_x (t_X5_parts_8 h_x (by omega)) rfl [] rfl rfl (Nat.le_of_ble_eq_true rfl) rfl (k_vs fun V18 h17 hF16 => ?_)
  have raw_parts := h17.2
  have rw19 := h17.2
  refine GO.useWT (fun hW3 => ?_)
  refine GO.aload_n dX5_condition_22 rfl rfl ?_
  refine GO.dup dX5_condition_23 rfl ?_
  refine GO.getI h_x fl_RX5_15 rfl rfl dX5_condition_24 (fun _ _ => ?_)
  refine GO.iconst dX5_condition_27 ?_
  refine GO.isub dX5_condition_28 ?_
  have q22 : -2147483648 ≤ vi V18 x 4 ∧ vi V18 x 4 ≤ 2147483647 := vi_ir
  refine GO.putI h_x fp_RX5_15 rfl (by decide +kernel) ⟨by omega, by omega⟩ (by omega) (by omega) dX5_condition_29 (fun V23 e21 => ?_)
  refine GO.useWT (fun hW4 => ?_)
  refine GO.aload_n dX5_condition_32 rfl rfl ?_
  refine GO.bipush dX5_condition_33 rfl ?_
  have e24 : vi V23 x 5 = vi V18 x 5 := vi_up e21 (Or.inr (by decide))
  refine GO.callV (ci := 4) (N := mX5_take) dX5_condition_35 (RX5, TX5, 7) rfl gV_RX5_38 h_x (t_X5_take h_x (ir_c rfl) (by omega)) rfl [] rfl rfl (Nat.le_of_ble_eq_true rfl) rfl (k_vs fun V27 h26 hF25 => ?_)
  have raw_take := h26.2
  have rw35 := h26.2
  refine GO.useWT (fun hW5 => ?_)
  refine GO.useFR (fun hFz => ?_)
  have h2z : vq V27 x 2 = vq V x 2 := vq_eq (hFz _ _ 2 h_x h_x (by decide +kernel))
  refine GO.aload_n dX5_condition_38 rfl rfl ?_
  refine GO.iconst dX5_condition_39 ?_
  refine GO.aload_n dX5_condition_40 rfl rfl ?_
  refine GO.getRaw h_x fl_RX5_31 (Eq.trans (hF25 _ _ _ h_x h_x (by decide +kernel)) (Eq.trans (uq_ne e21 (Or.inr (by decide))) (Eq.trans (hF16 _ _ _ h_x h_x (by decide +kernel)) (Eq.trans (hF9 _ _ _ h_x h_x (by decide +kernel)) (Eq.trans (hF3 _ _ _ h_x h_x (by decide +kernel)) hv2))))) dX5_condition_41 ?_
  refine GO.getI h1 fl_RX5_77 rfl rfl dX5_condition_44 (fun _ _ => ?_)
  refine GO.callV (ci := 4) (N := mX5_set) dX5_condition_47 (RX5, TX5, 7) rfl gV_RX5_73 h_x (t_X5_set h_x (ir_c rfl) vi_ir) rfl [] rfl rfl (Nat.le_of_ble_eq_true rfl) rfl (k_vs fun V33 h32 hF31 => ?_)
  have raw_set := h32.2
  have rw47 := h32.2
  have e36 : vi V23 x 4 = (vi V18 x 4) - 1 := upd2_int e21 ⟨by omega, by omega⟩
  have e35 : vi V27 x 4 = vi V23 x 4 := vi_fr hF25 h_x h_x (by decide +kernel)
  have e34 : vi V33 x 4 = vi V27 x 4 := vi_fr hF31 h_x h_x (by decide +kernel)
  exact GO.retv rfl rfl dX5_condition_50 ⟨rfl, rfl, ⟨by omega, CNT.mk rw9 rfl h_x hW_0 hW1 (by assumption) (by decide +kernel) rw15 (by omega) (by assumption) (by decide +kernel) hW2 rw19 (by omega) (by assumption) (by decide +kernel) hW3 (by assumption) hW4 rw35 (by assumption) (by decide +kernel) hW5 rw47 (by unfold scN scT; rw [h2z]) (by assumption) (by decide +kernel)⟩⟩

set_option maxHeartbeats 1000000 in
theorem t_X5_clause {K : Kmap} {V : Vmap} {x : Nat} (h_x : K x = some (0, 4)) (q_0 : vi V x 4 = 0) (q_1 : vi V x 5 = 0) : MC mX5_clause K V [.ref x] (VS K (fun V1 => (vi V1 x 4 = 0) ∧ (CLS K V V1 x))) := by
  refine MC.start 1 (by decide +kernel) rfl rfl rfl (ls0 := [some (.ref x), none]) rfl ?_
  refine GO.useWT (fun hW_0 => ?_)
  refine GO.aload_n dX5_clause_0 rfl rfl ?_
  refine GO.callV (ci := 4) (N := mX5_next) dX5_clause_1 (RX5, TX5, 7) rfl gV_RX5_61 h_x (t_X5_next h_x) rfl [] rfl rfl (Nat.le_of_ble_eq_true rfl) rfl (k_ip fun X1 r2 h3 => ?_)
  refine GO.istore_n (ls1 := [some (.ref x), some (ti X1)]) dX5_clause_4 rfl rfl rfl ?_
  refine GO.iload_n dX5_clause_5 rfl rfl ?_
  refine GO.callS (N := mX5_isClauseLetter) dX5_clause_6 gS_RX5_65 (t_X5_isClauseLetter r2) rfl [] rfl rfl (Nat.le_of_ble_eq_true rfl) rfl (k_ip fun X4 r5 h6 => ?_)
  refine GO.if_ne (tgt := 22) dX5_clause_9 (by decide) r5 (fun c7 => ?_) (fun c7 => ?_)
  ·
    have q8 := h6.2.1 (by omega)
    refine GO.aload_n dX5_clause_22 rfl rfl ?_
    refine GO.getR h_x fl_RX5_31 rfl rfl dX5_clause_23 (fun hv10 h9 => ?_)
    refine GO.getR h9 fl_RX5_42 rfl rfl dX5_clause_26 (fun hv12 h11 => ?_)
    refine GO.iload_n dX5_clause_29 rfl rfl ?_
    refine GO.iconst dX5_clause_30 ?_
    refine GO.iconst dX5_clause_31 ?_
    refine GO.iconst dX5_clause_32 ?_
    refine GO.iconst dX5_clause_33 ?_
    refine GO.callV (ci := 33) (N := mX8_append_k33) dX5_clause_34 (RX8, TX8, 4) rfl gV_RX5_48 h11 (t_X8_append_k33 h11 r2 (ir_c rfl) (ir_c rfl) (ir_c rfl) (ir_c rfl)) rfl [] rfl rfl (Nat.le_of_ble_eq_true rfl) rfl (k_is fun X13 V17 r14 h15 hF16 => ?_)
    have raw_append := h15.2
    have rw34 := h15.2
    refine GO.iconst dX5_clause_37 ?_
    refine GO.icmp_ne (tgt := 51) dX5_clause_38 (by decide) r14 (ir_c rfl) (fun c18 => ?_) (fun c18 => ?_)
    ·
      refine GO.useWT (fun hW1 => ?_)
      refine GO.aload_n dX5_clause_51 rfl rfl ?_
      refine GO.dup dX5_clause_52 rfl ?_
      refine GO.getI h_x fl_RX5_9 rfl rfl dX5_clause_53 (fun _ _ => ?_)
      refine GO.iconst dX5_clause_56 ?_
      refine GO.iadd dX5_clause_57 ?_
      refine GO.norm (fun z20 r21 hn22 => ?_)
      refine GO.putI h_x fp_RX5_9 rfl (by decide +kernel) r21 (r21).1 (r21).2 dX5_clause_58 (fun V24 e23 => ?_)
      refine GO.useWT (fun hWp => ?_)
      have hci := CLI.beg (by unfold isCL; exact decide_eq_true (by omega)) (by omega) rw34 (by omega) h_x hW_0 hW1 (by assumption) (by decide +kernel) (by assumption) (by assumption) (by assumption) (by assumption)
      refine GO.iload_n dX5_clause_61 rfl rfl ?_
      refine GO.bipush dX5_clause_62 rfl ?_
      refine GO.icmp_ne (tgt := 102) dX5_clause_64 (by decide) r2 (ir_c rfl) (fun c25 => ?_) (fun c25 => ?_)
      ·
        refine GO.iload_n dX5_clause_102 rfl rfl ?_
        refine GO.bipush dX5_clause_103 rfl ?_
        refine GO.icmp_ne (tgt := 139) dX5_clause_105 (by decide) r2 (ir_c rfl) (fun c26 => ?_) (fun c26 => ?_)
        ·
          refine GO.iload_n dX5_clause_139 rfl rfl ?_
          refine GO.bipush dX5_clause_140 rfl ?_
          refine GO.icmp_eq (tgt := 169) dX5_clause_142 (by decide) r2 (ir_c rfl) (fun c27 => ?_) (fun c27 => ?_)
          ·
            have hci := hci.to (rest1 := fun src e s => bnc (conF src e s) (gL src e X1)) (fun src e s => by unfold claG; rw [if_neg (by omega), if_neg (by omega), if_pos (by omega)])
            refine GO.aload_n dX5_clause_169 rfl rfl ?_
            have e29 : vi V17 x 4 = vi V x 4 := vi_fr hF16 h_x h_x (by decide +kernel)
            have e28 : vi V24 x 4 = vi V17 x 4 := vi_up e23 (Or.inr (by decide))
            have q30 : -2147483648 ≤ vi V x 4 ∧ vi V x 4 ≤ 2147483647 := vi_ir
            refine GO.callV (ci := 4) (N := mX5_condition) dX5_clause_170 (RX5, TX5, 7) rfl gV_RX5_54 h_x (t_X5_condition h_x (by omega)) rfl [] rfl rfl (Nat.le_of_ble_eq_true rfl) rfl (k_vs fun V33 h32 hF31 => ?_)
            have raw_condition := h32.2
            have rw170 := h32.2
            try have hcq := CLI.con hci rw170
            refine GO.iload_n dX5_clause_173 rfl rfl ?_
            refine GO.bipush dX5_clause_174 rfl ?_
            refine GO.icmp_eq (tgt := 209) dX5_clause_176 (by decide) r2 (ir_c rfl) (fun h => by exfalso; omega) (fun c35 => ?_)
            refine GO.iload_n dX5_clause_179 rfl rfl ?_
            refine GO.bipush dX5_clause_180 rfl ?_
            refine GO.icmp_eq (tgt := 209) dX5_clause_182 (by decide) r2 (ir_c rfl) (fun h => by exfalso; omega) (fun c36 => ?_)
            refine GO.iload_n dX5_clause_185 rfl rfl ?_
            refine GO.bipush dX5_clause_186 rfl ?_
            refine GO.icmp_eq (tgt := 209) dX5_clause_188 (by decide) r2 (ir_c rfl) (fun h => by exfalso; omega) (fun c37 => ?_)
            refine GO.iload_n dX5_clause_191 rfl rfl ?_
            refine GO.bipush dX5_clause_192 rfl ?_
            refine GO.icmp_eq (tgt := 209) dX5_clause_194 (by decide) r2 (ir_c rfl) (fun h => by exfalso; omega) (fun c38 => ?_)
            refine GO.iload_n dX5_clause_197 rfl rfl ?_
            refine GO.bipush dX5_clause_198 rfl ?_
            refine GO.icmp_eq (tgt := 209) dX5_clause_200 (by decide) r2 (ir_c rfl) (fun h => by exfalso; omega) (fun c39 => ?_)
            refine GO.iload_n dX5_clause_203 rfl rfl ?_
            refine GO.bipush dX5_clause_204 rfl ?_
            refine GO.icmp_ne (tgt := 220) dX5_clause_206 (by decide) r2 (ir_c rfl) (fun c40 => ?_) (fun h => by exfalso; omega)
            try have hci := CLI.set hci rw217 h_x hW8 (by assumption) (by decide +kernel) (by decide) (by decide) (by assumption)
            have q41 : -2147483648 ≤ vi V33 x 4 ∧ vi V33 x 4 ≤ 2147483647 := vi_ir
            exact GO.retv rfl rfl dX5_clause_220 ⟨rfl, rfl, ⟨by omega, (by first | exact CLI.end hci rfl ⟨fun q => by first | exact Bool.noConfusion q | (show askB X1; unfold askB; omega), fun q => by first | rfl | (exfalso; have q1 : askB X1 := q; unfold askB at q1; omega)⟩ | exact CLI.end (hcq.to (rest1 := fun _ _ s => .ok (s, (X1, 0, 0, 0))) (fun src e s => by unfold gL; rw [if_neg (by omega)]; rfl)) rfl ⟨fun q => by first | exact Bool.noConfusion q | (show askB X1; unfold askB; omega), fun q => by first | rfl | (exfalso; have q1 : askB X1 := q; unfold askB at q1; omega)⟩ | exact CLI.end (hci.to (rest1 := fun _ _ s => .ok (s, (X1, 0, 0, 0))) (fun src e s => by unfold claG; rw [if_neg (by omega), if_neg (by omega), if_neg (by omega), if_neg (by omega)]; rfl)) rfl ⟨fun q => by first | exact Bool.noConfusion q | (show askB X1; unfold askB; omega), fun q => by first | rfl | (exfalso; have q1 : askB X1 := q; unfold askB at q1; omega)⟩)⟩⟩
          ·
            refine GO.iload_n dX5_clause_145 rfl rfl ?_
            refine GO.bipush dX5_clause_146 rfl ?_
            refine GO.icmp_eq (tgt := 169) dX5_clause_148 (by decide) r2 (ir_c rfl) (fun c42 => ?_) (fun c42 => ?_)
            ·
              have hci := hci.to (rest1 := fun src e s => bnc (conF src e s) (gL src e X1)) (fun src e s => by unfold claG; rw [if_neg (by omega), if_neg (by omega), if_pos (by omega)])
              refine GO.aload_n dX5_clause_169 rfl rfl ?_
              have e44 : vi V17 x 4 = vi V x 4 := vi_fr hF16 h_x h_x (by decide +kernel)
              have e43 : vi V24 x 4 = vi V17 x 4 := vi_up e23 (Or.inr (by decide))
              have q45 : -2147483648 ≤ vi V x 4 ∧ vi V x 4 ≤ 2147483647 := vi_ir
              refine GO.callV (ci := 4) (N := mX5_condition) dX5_clause_170 (RX5, TX5, 7) rfl gV_RX5_54 h_x (t_X5_condition h_x (by omega)) rfl [] rfl rfl (Nat.le_of_ble_eq_true rfl) rfl (k_vs fun V48 h47 hF46 => ?_)
              have raw_condition := h47.2
              have rw170 := h47.2
              try have hcq := CLI.con hci rw170
              refine GO.iload_n dX5_clause_173 rfl rfl ?_
              refine GO.bipush dX5_clause_174 rfl ?_
              refine GO.icmp_eq (tgt := 209) dX5_clause_176 (by decide) r2 (ir_c rfl) (fun h => by exfalso; omega) (fun c50 => ?_)
              refine GO.iload_n dX5_clause_179 rfl rfl ?_
              refine GO.bipush dX5_clause_180 rfl ?_
              refine GO.icmp_eq (tgt := 209) dX5_clause_182 (by decide) r2 (ir_c rfl) (fun h => by exfalso; omega) (fun c51 => ?_)
              refine GO.iload_n dX5_clause_185 rfl rfl ?_
              refine GO.bipush dX5_clause_186 rfl ?_
              refine GO.icmp_eq (tgt := 209) dX5_clause_188 (by decide) r2 (ir_c rfl) (fun h => by exfalso; omega) (fun c52 => ?_)
              refine GO.iload_n dX5_clause_191 rfl rfl ?_
              refine GO.bipush dX5_clause_192 rfl ?_
              refine GO.icmp_eq (tgt := 209) dX5_clause_194 (by decide) r2 (ir_c rfl) (fun h => by exfalso; omega) (fun c53 => ?_)
              refine GO.iload_n dX5_clause_197 rfl rfl ?_
              refine GO.bipush dX5_clause_198 rfl ?_
              refine GO.icmp_eq (tgt := 209) dX5_clause_200 (by decide) r2 (ir_c rfl) (fun h => by exfalso; omega) (fun c54 => ?_)
              refine GO.iload_n dX5_clause_203 rfl rfl ?_
              refine GO.bipush dX5_clause_204 rfl ?_
              refine GO.icmp_ne (tgt := 220) dX5_clause_206 (by decide) r2 (ir_c rfl) (fun c55 => ?_) (fun h => by exfalso; omega)
              try have hci := CLI.set hci rw217 h_x hW8 (by assumption) (by decide +kernel) (by decide) (by decide) (by assumption)
              have q56 : -2147483648 ≤ vi V48 x 4 ∧ vi V48 x 4 ≤ 2147483647 := vi_ir
              exact GO.retv rfl rfl dX5_clause_220 ⟨rfl, rfl, ⟨by omega, (by first | exact CLI.end hci rfl ⟨fun q => by first | exact Bool.noConfusion q | (show askB X1; unfold askB; omega), fun q => by first | rfl | (exfalso; have q1 : askB X1 := q; unfold askB at q1; omega)⟩ | exact CLI.end (hcq.to (rest1 := fun _ _ s => .ok (s, (X1, 0, 0, 0))) (fun src e s => by unfold gL; rw [if_neg (by omega)]; rfl)) rfl ⟨fun q => by first | exact Bool.noConfusion q | (show askB X1; unfold askB; omega), fun q => by first | rfl | (exfalso; have q1 : askB X1 := q; unfold askB at q1; omega)⟩ | exact CLI.end (hci.to (rest1 := fun _ _ s => .ok (s, (X1, 0, 0, 0))) (fun src e s => by unfold claG; rw [if_neg (by omega), if_neg (by omega), if_neg (by omega), if_neg (by omega)]; rfl)) rfl ⟨fun q => by first | exact Bool.noConfusion q | (show askB X1; unfold askB; omega), fun q => by first | rfl | (exfalso; have q1 : askB X1 := q; unfold askB at q1; omega)⟩)⟩⟩
            ·
              refine GO.iload_n dX5_clause_151 rfl rfl ?_
              refine GO.bipush dX5_clause_152 rfl ?_
              refine GO.icmp_eq (tgt := 169) dX5_clause_154 (by decide) r2 (ir_c rfl) (fun c57 => ?_) (fun c57 => ?_)
              ·
                have hci := hci.to (rest1 := fun src e s => bnc (conF src e s) (gL src e X1)) (fun src e s => by unfold claG; rw [if_neg (by omega), if_neg (by omega), if_pos (by omega)])
                refine GO.aload_n dX5_clause_169 rfl rfl ?_
                have e59 : vi V17 x 4 = vi V x 4 := vi_fr hF16 h_x h_x (by decide +kernel)
                have e58 : vi V24 x 4 = vi V17 x 4 := vi_up e23 (Or.inr (by decide))
                have q60 : -2147483648 ≤ vi V x 4 ∧ vi V x 4 ≤ 2147483647 := vi_ir
                refine GO.callV (ci := 4) (N := mX5_condition) dX5_clause_170 (RX5, TX5, 7) rfl gV_RX5_54 h_x (t_X5_condition h_x (by omega)) rfl [] rfl rfl (Nat.le_of_ble_eq_true rfl) rfl (k_vs fun V63 h62 hF61 => ?_)
                have raw_condition := h62.2
                have rw170 := h62.2
                try have hcq := CLI.con hci rw170
                refine GO.iload_n dX5_clause_173 rfl rfl ?_
                refine GO.bipush dX5_clause_174 rfl ?_
                refine GO.icmp_eq (tgt := 209) dX5_clause_176 (by decide) r2 (ir_c rfl) (fun c65 => ?_) (fun h => by exfalso; omega)
                refine GO.useWT (fun hW7 => ?_)
                try have hci := hcq.to (rest1 := fun src e => kE src e X1 0 0) (fun src e s => by unfold gL; rw [if_pos (by omega)])
                try have hci := hci.to (rest1 := fun src e => kE src e X1 0 0) (fun src e s => by unfold claG; rw [if_neg (by omega), if_neg (by omega), if_neg (by omega), if_pos (by omega)])
                refine GO.aload_n dX5_clause_209 rfl rfl ?_
                refine GO.iconst dX5_clause_210 ?_
                refine GO.aload_n dX5_clause_211 rfl rfl ?_
                refine GO.ldc (X := 999999) dX5_clause_212 gw_790 rfl ?_
                refine GO.callV (ci := 4) (N := mX5_digits) dX5_clause_214 (RX5, TX5, 7) rfl gV_RX5_69 h_x (t_X5_digits h_x (ir_c rfl)) rfl [ti 1, .ref x] rfl rfl (Nat.le_of_ble_eq_true rfl) rfl (k_is fun X67 V71 r68 h69 hF70 => ?_)
                have raw_digits := h69.2
                have rw214 := h69.2
                refine GO.useWT (fun hW8 => ?_)
                have hci := CLI.num (rn := fun src e v s => .ok (s, (X1, v, _, _))) hci rw214 (CSame.fr (by assumption) h_x hW7 (by decide +kernel))
                refine GO.callV (ci := 4) (N := mX5_set) dX5_clause_217 (RX5, TX5, 7) rfl gV_RX5_73 h_x (t_X5_set h_x (ir_c rfl) r68) rfl [] rfl rfl (Nat.le_of_ble_eq_true rfl) rfl (k_vs fun V75 h74 hF73 => ?_)
                have raw_set := h74.2
                have rw217 := h74.2
                try have hci := CLI.set hci rw217 h_x hW8 (by assumption) (by decide +kernel) (by decide) (by decide) (by assumption)
                have e77 : vi V71 x 4 = vi V63 x 4 := vi_fr hF70 h_x h_x (by decide +kernel)
                have e76 : vi V75 x 4 = vi V71 x 4 := vi_fr hF73 h_x h_x (by decide +kernel)
                have q78 : -2147483648 ≤ vi V63 x 4 ∧ vi V63 x 4 ≤ 2147483647 := vi_ir
                exact GO.retv rfl rfl dX5_clause_220 ⟨rfl, rfl, ⟨by omega, (by first | exact CLI.end hci rfl ⟨fun q => by first | exact Bool.noConfusion q | (show askB X1; unfold askB; omega), fun q => by first | rfl | (exfalso; have q1 : askB X1 := q; unfold askB at q1; omega)⟩ | exact CLI.end (hcq.to (rest1 := fun _ _ s => .ok (s, (X1, 0, 0, 0))) (fun src e s => by unfold gL; rw [if_neg (by omega)]; rfl)) rfl ⟨fun q => by first | exact Bool.noConfusion q | (show askB X1; unfold askB; omega), fun q => by first | rfl | (exfalso; have q1 : askB X1 := q; unfold askB at q1; omega)⟩ | exact CLI.end (hci.to (rest1 := fun _ _ s => .ok (s, (X1, 0, 0, 0))) (fun src e s => by unfold claG; rw [if_neg (by omega), if_neg (by omega), if_neg (by omega), if_neg (by omega)]; rfl)) rfl ⟨fun q => by first | exact Bool.noConfusion q | (show askB X1; unfold askB; omega), fun q => by first | rfl | (exfalso; have q1 : askB X1 := q; unfold askB at q1; omega)⟩)⟩⟩
              ·
                refine GO.iload_n dX5_clause_157 rfl rfl ?_
                refine GO.bipush dX5_clause_158 rfl ?_
                refine GO.icmp_eq (tgt := 169) dX5_clause_160 (by decide) r2 (ir_c rfl) (fun c79 => ?_) (fun c79 => ?_)
                ·
                  have hci := hci.to (rest1 := fun src e s => bnc (conF src e s) (gL src e X1)) (fun src e s => by unfold claG; rw [if_neg (by omega), if_neg (by omega), if_pos (by omega)])
                  refine GO.aload_n dX5_clause_169 rfl rfl ?_
                  have e81 : vi V17 x 4 = vi V x 4 := vi_fr hF16 h_x h_x (by decide +kernel)
                  have e80 : vi V24 x 4 = vi V17 x 4 := vi_up e23 (Or.inr (by decide))
                  have q82 : -2147483648 ≤ vi V x 4 ∧ vi V x 4 ≤ 2147483647 := vi_ir
                  refine GO.callV (ci := 4) (N := mX5_condition) dX5_clause_170 (RX5, TX5, 7) rfl gV_RX5_54 h_x (t_X5_condition h_x (by omega)) rfl [] rfl rfl (Nat.le_of_ble_eq_true rfl) rfl (k_vs fun V85 h84 hF83 => ?_)
                  have raw_condition := h84.2
                  have rw170 := h84.2
                  try have hcq := CLI.con hci rw170
                  refine GO.iload_n dX5_clause_173 rfl rfl ?_
                  refine GO.bipush dX5_clause_174 rfl ?_
                  refine GO.icmp_eq (tgt := 209) dX5_clause_176 (by decide) r2 (ir_c rfl) (fun h => by exfalso; omega) (fun c87 => ?_)
                  refine GO.iload_n dX5_clause_179 rfl rfl ?_
                  refine GO.bipush dX5_clause_180 rfl ?_
                  refine GO.icmp_eq (tgt := 209) dX5_clause_182 (by decide) r2 (ir_c rfl) (fun c88 => ?_) (fun h => by exfalso; omega)
                  refine GO.useWT (fun hW7 => ?_)
                  try have hci := hcq.to (rest1 := fun src e => kE src e X1 0 0) (fun src e s => by unfold gL; rw [if_pos (by omega)])
                  try have hci := hci.to (rest1 := fun src e => kE src e X1 0 0) (fun src e s => by unfold claG; rw [if_neg (by omega), if_neg (by omega), if_neg (by omega), if_pos (by omega)])
                  refine GO.aload_n dX5_clause_209 rfl rfl ?_
                  refine GO.iconst dX5_clause_210 ?_
                  refine GO.aload_n dX5_clause_211 rfl rfl ?_
                  refine GO.ldc (X := 999999) dX5_clause_212 gw_790 rfl ?_
                  refine GO.callV (ci := 4) (N := mX5_digits) dX5_clause_214 (RX5, TX5, 7) rfl gV_RX5_69 h_x (t_X5_digits h_x (ir_c rfl)) rfl [ti 1, .ref x] rfl rfl (Nat.le_of_ble_eq_true rfl) rfl (k_is fun X90 V94 r91 h92 hF93 => ?_)
                  have raw_digits := h92.2
                  have rw214 := h92.2
                  refine GO.useWT (fun hW8 => ?_)
                  have hci := CLI.num (rn := fun src e v s => .ok (s, (X1, v, _, _))) hci rw214 (CSame.fr (by assumption) h_x hW7 (by decide +kernel))
                  refine GO.callV (ci := 4) (N := mX5_set) dX5_clause_217 (RX5, TX5, 7) rfl gV_RX5_73 h_x (t_X5_set h_x (ir_c rfl) r91) rfl [] rfl rfl (Nat.le_of_ble_eq_true rfl) rfl (k_vs fun V98 h97 hF96 => ?_)
                  have raw_set := h97.2
                  have rw217 := h97.2
                  try have hci := CLI.set hci rw217 h_x hW8 (by assumption) (by decide +kernel) (by decide) (by decide) (by assumption)
                  have e100 : vi V94 x 4 = vi V85 x 4 := vi_fr hF93 h_x h_x (by decide +kernel)
                  have e99 : vi V98 x 4 = vi V94 x 4 := vi_fr hF96 h_x h_x (by decide +kernel)
                  have q101 : -2147483648 ≤ vi V85 x 4 ∧ vi V85 x 4 ≤ 2147483647 := vi_ir
                  exact GO.retv rfl rfl dX5_clause_220 ⟨rfl, rfl, ⟨by omega, (by first | exact CLI.end hci rfl ⟨fun q => by first | exact Bool.noConfusion q | (show askB X1; unfold askB; omega), fun q => by first | rfl | (exfalso; have q1 : askB X1 := q; unfold askB at q1; omega)⟩ | exact CLI.end (hcq.to (rest1 := fun _ _ s => .ok (s, (X1, 0, 0, 0))) (fun src e s => by unfold gL; rw [if_neg (by omega)]; rfl)) rfl ⟨fun q => by first | exact Bool.noConfusion q | (show askB X1; unfold askB; omega), fun q => by first | rfl | (exfalso; have q1 : askB X1 := q; unfold askB at q1; omega)⟩ | exact CLI.end (hci.to (rest1 := fun _ _ s => .ok (s, (X1, 0, 0, 0))) (fun src e s => by unfold claG; rw [if_neg (by omega), if_neg (by omega), if_neg (by omega), if_neg (by omega)]; rfl)) rfl ⟨fun q => by first | exact Bool.noConfusion q | (show askB X1; unfold askB; omega), fun q => by first | rfl | (exfalso; have q1 : askB X1 := q; unfold askB at q1; omega)⟩)⟩⟩
                ·
                  refine GO.iload_n dX5_clause_163 rfl rfl ?_
                  refine GO.bipush dX5_clause_164 rfl ?_
                  refine GO.icmp_ne (tgt := 173) dX5_clause_166 (by decide) r2 (ir_c rfl) (fun c102 => ?_) (fun c102 => ?_)
                  ·
                    try have hcq := CLI.con hci rw170
                    refine GO.iload_n dX5_clause_173 rfl rfl ?_
                    refine GO.bipush dX5_clause_174 rfl ?_
                    refine GO.icmp_eq (tgt := 209) dX5_clause_176 (by decide) r2 (ir_c rfl) (fun h => by exfalso; omega) (fun c103 => ?_)
                    refine GO.iload_n dX5_clause_179 rfl rfl ?_
                    refine GO.bipush dX5_clause_180 rfl ?_
                    refine GO.icmp_eq (tgt := 209) dX5_clause_182 (by decide) r2 (ir_c rfl) (fun h => by exfalso; omega) (fun c104 => ?_)
                    refine GO.iload_n dX5_clause_185 rfl rfl ?_
                    refine GO.bipush dX5_clause_186 rfl ?_
                    refine GO.icmp_eq (tgt := 209) dX5_clause_188 (by decide) r2 (ir_c rfl) (fun c105 => ?_) (fun c105 => ?_)
                    ·
                      refine GO.useWT (fun hW7 => ?_)
                      try have hci := hcq.to (rest1 := fun src e => kE src e X1 0 0) (fun src e s => by unfold gL; rw [if_pos (by omega)])
                      try have hci := hci.to (rest1 := fun src e => kE src e X1 0 0) (fun src e s => by unfold claG; rw [if_neg (by omega), if_neg (by omega), if_neg (by omega), if_pos (by omega)])
                      refine GO.aload_n dX5_clause_209 rfl rfl ?_
                      refine GO.iconst dX5_clause_210 ?_
                      refine GO.aload_n dX5_clause_211 rfl rfl ?_
                      refine GO.ldc (X := 999999) dX5_clause_212 gw_790 rfl ?_
                      have e107 : vi V17 x 5 = vi V x 5 := vi_fr hF16 h_x h_x (by decide +kernel)
                      have e106 : vi V24 x 5 = vi V17 x 5 := vi_up e23 (Or.inr (by decide))
                      refine GO.callV (ci := 4) (N := mX5_digits) dX5_clause_214 (RX5, TX5, 7) rfl gV_RX5_69 h_x (t_X5_digits h_x (ir_c rfl)) rfl [ti 1, .ref x] rfl rfl (Nat.le_of_ble_eq_true rfl) rfl (k_is fun X108 V112 r109 h110 hF111 => ?_)
                      have raw_digits := h110.2
                      have rw214 := h110.2
                      refine GO.useWT (fun hW8 => ?_)
                      have hci := CLI.num (rn := fun src e v s => .ok (s, (X1, v, _, _))) hci rw214 (CSame.fr (by assumption) h_x hW7 (by decide +kernel))
                      refine GO.callV (ci := 4) (N := mX5_set) dX5_clause_217 (RX5, TX5, 7) rfl gV_RX5_73 h_x (t_X5_set h_x (ir_c rfl) r109) rfl [] rfl rfl (Nat.le_of_ble_eq_true rfl) rfl (k_vs fun V116 h115 hF114 => ?_)
                      have raw_set := h115.2
                      have rw217 := h115.2
                      try have hci := CLI.set hci rw217 h_x hW8 (by assumption) (by decide +kernel) (by decide) (by decide) (by assumption)
                      have e120 : vi V17 x 4 = vi V x 4 := vi_fr hF16 h_x h_x (by decide +kernel)
                      have e119 : vi V24 x 4 = vi V17 x 4 := vi_up e23 (Or.inr (by decide))
                      have e118 : vi V112 x 4 = vi V24 x 4 := vi_fr hF111 h_x h_x (by decide +kernel)
                      have e117 : vi V116 x 4 = vi V112 x 4 := vi_fr hF114 h_x h_x (by decide +kernel)
                      have q121 : -2147483648 ≤ vi V x 4 ∧ vi V x 4 ≤ 2147483647 := vi_ir
                      exact GO.retv rfl rfl dX5_clause_220 ⟨rfl, rfl, ⟨by omega, (by first | exact CLI.end hci rfl ⟨fun q => by first | exact Bool.noConfusion q | (show askB X1; unfold askB; omega), fun q => by first | rfl | (exfalso; have q1 : askB X1 := q; unfold askB at q1; omega)⟩ | exact CLI.end (hcq.to (rest1 := fun _ _ s => .ok (s, (X1, 0, 0, 0))) (fun src e s => by unfold gL; rw [if_neg (by omega)]; rfl)) rfl ⟨fun q => by first | exact Bool.noConfusion q | (show askB X1; unfold askB; omega), fun q => by first | rfl | (exfalso; have q1 : askB X1 := q; unfold askB at q1; omega)⟩ | exact CLI.end (hci.to (rest1 := fun _ _ s => .ok (s, (X1, 0, 0, 0))) (fun src e s => by unfold claG; rw [if_neg (by omega), if_neg (by omega), if_neg (by omega), if_neg (by omega)]; rfl)) rfl ⟨fun q => by first | exact Bool.noConfusion q | (show askB X1; unfold askB; omega), fun q => by first | rfl | (exfalso; have q1 : askB X1 := q; unfold askB at q1; omega)⟩)⟩⟩
                    ·
                      refine GO.iload_n dX5_clause_191 rfl rfl ?_
                      refine GO.bipush dX5_clause_192 rfl ?_
                      refine GO.icmp_eq (tgt := 209) dX5_clause_194 (by decide) r2 (ir_c rfl) (fun c122 => ?_) (fun c122 => ?_)
                      ·
                        refine GO.useWT (fun hW7 => ?_)
                        try have hci := hcq.to (rest1 := fun src e => kE src e X1 0 0) (fun src e s => by unfold gL; rw [if_pos (by omega)])
                        try have hci := hci.to (rest1 := fun src e => kE src e X1 0 0) (fun src e s => by unfold claG; rw [if_neg (by omega), if_neg (by omega), if_neg (by omega), if_pos (by omega)])
                        refine GO.aload_n dX5_clause_209 rfl rfl ?_
                        refine GO.iconst dX5_clause_210 ?_
                        refine GO.aload_n dX5_clause_211 rfl rfl ?_
                        refine GO.ldc (X := 999999) dX5_clause_212 gw_790 rfl ?_
                        have e124 : vi V17 x 5 = vi V x 5 := vi_fr hF16 h_x h_x (by decide +kernel)
                        have e123 : vi V24 x 5 = vi V17 x 5 := vi_up e23 (Or.inr (by decide))
                        refine GO.callV (ci := 4) (N := mX5_digits) dX5_clause_214 (RX5, TX5, 7) rfl gV_RX5_69 h_x (t_X5_digits h_x (ir_c rfl)) rfl [ti 1, .ref x] rfl rfl (Nat.le_of_ble_eq_true rfl) rfl (k_is fun X125 V129 r126 h127 hF128 => ?_)
                        have raw_digits := h127.2
                        have rw214 := h127.2
                        refine GO.useWT (fun hW8 => ?_)
                        have hci := CLI.num (rn := fun src e v s => .ok (s, (X1, v, _, _))) hci rw214 (CSame.fr (by assumption) h_x hW7 (by decide +kernel))
                        refine GO.callV (ci := 4) (N := mX5_set) dX5_clause_217 (RX5, TX5, 7) rfl gV_RX5_73 h_x (t_X5_set h_x (ir_c rfl) r126) rfl [] rfl rfl (Nat.le_of_ble_eq_true rfl) rfl (k_vs fun V133 h132 hF131 => ?_)
                        have raw_set := h132.2
                        have rw217 := h132.2
                        try have hci := CLI.set hci rw217 h_x hW8 (by assumption) (by decide +kernel) (by decide) (by decide) (by assumption)
                        have e137 : vi V17 x 4 = vi V x 4 := vi_fr hF16 h_x h_x (by decide +kernel)
                        have e136 : vi V24 x 4 = vi V17 x 4 := vi_up e23 (Or.inr (by decide))
                        have e135 : vi V129 x 4 = vi V24 x 4 := vi_fr hF128 h_x h_x (by decide +kernel)
                        have e134 : vi V133 x 4 = vi V129 x 4 := vi_fr hF131 h_x h_x (by decide +kernel)
                        have q138 : -2147483648 ≤ vi V x 4 ∧ vi V x 4 ≤ 2147483647 := vi_ir
                        exact GO.retv rfl rfl dX5_clause_220 ⟨rfl, rfl, ⟨by omega, (by first | exact CLI.end hci rfl ⟨fun q => by first | exact Bool.noConfusion q | (show askB X1; unfold askB; omega), fun q => by first | rfl | (exfalso; have q1 : askB X1 := q; unfold askB at q1; omega)⟩ | exact CLI.end (hcq.to (rest1 := fun _ _ s => .ok (s, (X1, 0, 0, 0))) (fun src e s => by unfold gL; rw [if_neg (by omega)]; rfl)) rfl ⟨fun q => by first | exact Bool.noConfusion q | (show askB X1; unfold askB; omega), fun q => by first | rfl | (exfalso; have q1 : askB X1 := q; unfold askB at q1; omega)⟩ | exact CLI.end (hci.to (rest1 := fun _ _ s => .ok (s, (X1, 0, 0, 0))) (fun src e s => by unfold claG; rw [if_neg (by omega), if_neg (by omega), if_neg (by omega), if_neg (by omega)]; rfl)) rfl ⟨fun q => by first | exact Bool.noConfusion q | (show askB X1; unfold askB; omega), fun q => by first | rfl | (exfalso; have q1 : askB X1 := q; unfold askB at q1; omega)⟩)⟩⟩
                      ·
                        refine GO.iload_n dX5_clause_197 rfl rfl ?_
                        refine GO.bipush dX5_clause_198 rfl ?_
                        refine GO.icmp_eq (tgt := 209) dX5_clause_200 (by decide) r2 (ir_c rfl) (fun h => by exfalso; omega) (fun c139 => ?_)
                        refine GO.iload_n dX5_clause_203 rfl rfl ?_
                        refine GO.bipush dX5_clause_204 rfl ?_
                        refine GO.icmp_ne (tgt := 220) dX5_clause_206 (by decide) r2 (ir_c rfl) (fun c140 => ?_) (fun c140 => ?_)
                        ·
                          try have hci := CLI.set hci rw217 h_x hW8 (by assumption) (by decide +kernel) (by decide) (by decide) (by assumption)
                          have e142 : vi V17 x 4 = vi V x 4 := vi_fr hF16 h_x h_x (by decide +kernel)
                          have e141 : vi V24 x 4 = vi V17 x 4 := vi_up e23 (Or.inr (by decide))
                          have q143 : -2147483648 ≤ vi V x 4 ∧ vi V x 4 ≤ 2147483647 := vi_ir
                          exact GO.retv rfl rfl dX5_clause_220 ⟨rfl, rfl, ⟨by omega, (by first | exact CLI.end hci rfl ⟨fun q => by first | exact Bool.noConfusion q | (show askB X1; unfold askB; omega), fun q => by first | rfl | (exfalso; have q1 : askB X1 := q; unfold askB at q1; omega)⟩ | exact CLI.end (hcq.to (rest1 := fun _ _ s => .ok (s, (X1, 0, 0, 0))) (fun src e s => by unfold gL; rw [if_neg (by omega)]; rfl)) rfl ⟨fun q => by first | exact Bool.noConfusion q | (show askB X1; unfold askB; omega), fun q => by first | rfl | (exfalso; have q1 : askB X1 := q; unfold askB at q1; omega)⟩ | exact CLI.end (hci.to (rest1 := fun _ _ s => .ok (s, (X1, 0, 0, 0))) (fun src e s => by unfold claG; rw [if_neg (by omega), if_neg (by omega), if_neg (by omega), if_neg (by omega)]; rfl)) rfl ⟨fun q => by first | exact Bool.noConfusion q | (show askB X1; unfold askB; omega), fun q => by first | rfl | (exfalso; have q1 : askB X1 := q; unfold askB at q1; omega)⟩)⟩⟩
                        ·
                          refine GO.useWT (fun hW7 => ?_)
                          try have hci := hcq.to (rest1 := fun src e => kE src e X1 0 0) (fun src e s => by unfold gL; rw [if_pos (by omega)])
                          try have hci := hci.to (rest1 := fun src e => kE src e X1 0 0) (fun src e s => by unfold claG; rw [if_neg (by omega), if_neg (by omega), if_neg (by omega), if_pos (by omega)])
                          refine GO.aload_n dX5_clause_209 rfl rfl ?_
                          refine GO.iconst dX5_clause_210 ?_
                          refine GO.aload_n dX5_clause_211 rfl rfl ?_
                          refine GO.ldc (X := 999999) dX5_clause_212 gw_790 rfl ?_
                          have e145 : vi V17 x 5 = vi V x 5 := vi_fr hF16 h_x h_x (by decide +kernel)
                          have e144 : vi V24 x 5 = vi V17 x 5 := vi_up e23 (Or.inr (by decide))
                          refine GO.callV (ci := 4) (N := mX5_digits) dX5_clause_214 (RX5, TX5, 7) rfl gV_RX5_69 h_x (t_X5_digits h_x (ir_c rfl)) rfl [ti 1, .ref x] rfl rfl (Nat.le_of_ble_eq_true rfl) rfl (k_is fun X146 V150 r147 h148 hF149 => ?_)
                          have raw_digits := h148.2
                          have rw214 := h148.2
                          refine GO.useWT (fun hW8 => ?_)
                          have hci := CLI.num (rn := fun src e v s => .ok (s, (X1, v, _, _))) hci rw214 (CSame.fr (by assumption) h_x hW7 (by decide +kernel))
                          refine GO.callV (ci := 4) (N := mX5_set) dX5_clause_217 (RX5, TX5, 7) rfl gV_RX5_73 h_x (t_X5_set h_x (ir_c rfl) r147) rfl [] rfl rfl (Nat.le_of_ble_eq_true rfl) rfl (k_vs fun V154 h153 hF152 => ?_)
                          have raw_set := h153.2
                          have rw217 := h153.2
                          try have hci := CLI.set hci rw217 h_x hW8 (by assumption) (by decide +kernel) (by decide) (by decide) (by assumption)
                          have e158 : vi V17 x 4 = vi V x 4 := vi_fr hF16 h_x h_x (by decide +kernel)
                          have e157 : vi V24 x 4 = vi V17 x 4 := vi_up e23 (Or.inr (by decide))
                          have e156 : vi V150 x 4 = vi V24 x 4 := vi_fr hF149 h_x h_x (by decide +kernel)
                          have e155 : vi V154 x 4 = vi V150 x 4 := vi_fr hF152 h_x h_x (by decide +kernel)
                          have q159 : -2147483648 ≤ vi V x 4 ∧ vi V x 4 ≤ 2147483647 := vi_ir
                          exact GO.retv rfl rfl dX5_clause_220 ⟨rfl, rfl, ⟨by omega, (by first | exact CLI.end hci rfl ⟨fun q => by first | exact Bool.noConfusion q | (show askB X1; unfold askB; omega), fun q => by first | rfl | (exfalso; have q1 : askB X1 := q; unfold askB at q1; omega)⟩ | exact CLI.end (hcq.to (rest1 := fun _ _ s => .ok (s, (X1, 0, 0, 0))) (fun src e s => by unfold gL; rw [if_neg (by omega)]; rfl)) rfl ⟨fun q => by first | exact Bool.noConfusion q | (show askB X1; unfold askB; omega), fun q => by first | rfl | (exfalso; have q1 : askB X1 := q; unfold askB at q1; omega)⟩ | exact CLI.end (hci.to (rest1 := fun _ _ s => .ok (s, (X1, 0, 0, 0))) (fun src e s => by unfold claG; rw [if_neg (by omega), if_neg (by omega), if_neg (by omega), if_neg (by omega)]; rfl)) rfl ⟨fun q => by first | exact Bool.noConfusion q | (show askB X1; unfold askB; omega), fun q => by first | rfl | (exfalso; have q1 : askB X1 := q; unfold askB at q1; omega)⟩)⟩⟩
                  ·
                    have hci := hci.to (rest1 := fun src e s => bnc (conF src e s) (gL src e X1)) (fun src e s => by unfold claG; rw [if_neg (by omega), if_neg (by omega), if_pos (by omega)])
                    refine GO.aload_n dX5_clause_169 rfl rfl ?_
                    have e161 : vi V17 x 4 = vi V x 4 := vi_fr hF16 h_x h_x (by decide +kernel)
                    have e160 : vi V24 x 4 = vi V17 x 4 := vi_up e23 (Or.inr (by decide))
                    have q162 : -2147483648 ≤ vi V x 4 ∧ vi V x 4 ≤ 2147483647 := vi_ir
                    refine GO.callV (ci := 4) (N := mX5_condition) dX5_clause_170 (RX5, TX5, 7) rfl gV_RX5_54 h_x (t_X5_condition h_x (by omega)) rfl [] rfl rfl (Nat.le_of_ble_eq_true rfl) rfl (k_vs fun V165 h164 hF163 => ?_)
                    have raw_condition := h164.2
                    have rw170 := h164.2
                    try have hcq := CLI.con hci rw170
                    refine GO.iload_n dX5_clause_173 rfl rfl ?_
                    refine GO.bipush dX5_clause_174 rfl ?_
                    refine GO.icmp_eq (tgt := 209) dX5_clause_176 (by decide) r2 (ir_c rfl) (fun h => by exfalso; omega) (fun c167 => ?_)
                    refine GO.iload_n dX5_clause_179 rfl rfl ?_
                    refine GO.bipush dX5_clause_180 rfl ?_
                    refine GO.icmp_eq (tgt := 209) dX5_clause_182 (by decide) r2 (ir_c rfl) (fun h => by exfalso; omega) (fun c168 => ?_)
                    refine GO.iload_n dX5_clause_185 rfl rfl ?_
                    refine GO.bipush dX5_clause_186 rfl ?_
                    refine GO.icmp_eq (tgt := 209) dX5_clause_188 (by decide) r2 (ir_c rfl) (fun h => by exfalso; omega) (fun c169 => ?_)
                    refine GO.iload_n dX5_clause_191 rfl rfl ?_
                    refine GO.bipush dX5_clause_192 rfl ?_
                    refine GO.icmp_eq (tgt := 209) dX5_clause_194 (by decide) r2 (ir_c rfl) (fun h => by exfalso; omega) (fun c170 => ?_)
                    refine GO.iload_n dX5_clause_197 rfl rfl ?_
                    refine GO.bipush dX5_clause_198 rfl ?_
                    refine GO.icmp_eq (tgt := 209) dX5_clause_200 (by decide) r2 (ir_c rfl) (fun h => by exfalso; omega) (fun c171 => ?_)
                    refine GO.iload_n dX5_clause_203 rfl rfl ?_
                    refine GO.bipush dX5_clause_204 rfl ?_
                    refine GO.icmp_ne (tgt := 220) dX5_clause_206 (by decide) r2 (ir_c rfl) (fun c172 => ?_) (fun h => by exfalso; omega)
                    try have hci := CLI.set hci rw217 h_x hW8 (by assumption) (by decide +kernel) (by decide) (by decide) (by assumption)
                    have q173 : -2147483648 ≤ vi V165 x 4 ∧ vi V165 x 4 ≤ 2147483647 := vi_ir
                    exact GO.retv rfl rfl dX5_clause_220 ⟨rfl, rfl, ⟨by omega, (by first | exact CLI.end hci rfl ⟨fun q => by first | exact Bool.noConfusion q | (show askB X1; unfold askB; omega), fun q => by first | rfl | (exfalso; have q1 : askB X1 := q; unfold askB at q1; omega)⟩ | exact CLI.end (hcq.to (rest1 := fun _ _ s => .ok (s, (X1, 0, 0, 0))) (fun src e s => by unfold gL; rw [if_neg (by omega)]; rfl)) rfl ⟨fun q => by first | exact Bool.noConfusion q | (show askB X1; unfold askB; omega), fun q => by first | rfl | (exfalso; have q1 : askB X1 := q; unfold askB at q1; omega)⟩ | exact CLI.end (hci.to (rest1 := fun _ _ s => .ok (s, (X1, 0, 0, 0))) (fun src e s => by unfold claG; rw [if_neg (by omega), if_neg (by omega), if_neg (by omega), if_neg (by omega)]; rfl)) rfl ⟨fun q => by first | exact Bool.noConfusion q | (show askB X1; unfold askB; omega), fun q => by first | rfl | (exfalso; have q1 : askB X1 := q; unfold askB at q1; omega)⟩)⟩⟩
        ·
          have hci := hci.to (rest1 := fun src e => xA src e X1) (fun src e s => by unfold claG; rw [if_neg (by omega), if_pos (by omega)])
          refine GO.aload_n dX5_clause_108 rfl rfl ?_
          refine GO.iconst dX5_clause_109 ?_
          refine GO.aload_n dX5_clause_110 rfl rfl ?_
          refine GO.bipush dX5_clause_111 rfl ?_
          have e175 : vi V17 x 5 = vi V x 5 := vi_fr hF16 h_x h_x (by decide +kernel)
          have e174 : vi V24 x 5 = vi V17 x 5 := vi_up e23 (Or.inr (by decide))
          refine GO.callV (ci := 4) (N := mX5_digits) dX5_clause_113 (RX5, TX5, 7) rfl gV_RX5_69 h_x (t_X5_digits h_x (ir_c rfl)) rfl [ti 2, .ref x] rfl rfl (Nat.le_of_ble_eq_true rfl) rfl (k_is fun X176 V180 r177 h178 hF179 => ?_)
          have raw_digits := h178.2
          have rw113 := h178.2
          refine GO.useWT (fun hW2 => ?_)
          have hci := CLI.num (rn := fun src e v s => xB src e X1 v s) hci rw113 (CSame.fr (by assumption) h_x hWp (by decide +kernel))
          refine GO.callV (ci := 4) (N := mX5_set) dX5_clause_116 (RX5, TX5, 7) rfl gV_RX5_73 h_x (t_X5_set h_x (ir_c rfl) r177) rfl [] rfl rfl (Nat.le_of_ble_eq_true rfl) rfl (k_vs fun V184 h183 hF182 => ?_)
          have raw_set := h183.2
          have rw116 := h183.2
          refine GO.useWT (fun hW3 => ?_)
          have hci := CLI.set hci rw116 h_x hW2 (by assumption) (by decide +kernel) (by decide) (by decide) (by assumption)
          refine GO.aload_n dX5_clause_119 rfl rfl ?_
          refine GO.bipush dX5_clause_120 rfl ?_
          have e185 : vi V184 x 5 = vi V180 x 5 := vi_fr hF182 h_x h_x (by decide +kernel)
          refine GO.callV (ci := 4) (N := mX5_take) dX5_clause_122 (RX5, TX5, 7) rfl gV_RX5_38 h_x (t_X5_take h_x (ir_c rfl) (by omega)) rfl [] rfl rfl (Nat.le_of_ble_eq_true rfl) rfl (k_vs fun V188 h187 hF186 => ?_)
          have raw_take := h187.2
          have rw122 := h187.2
          refine GO.useWT (fun hW4 => ?_)
          have hci := CLI.cr (rest1 := fun src e => xC src e X1 _) hci rw122 (by decide) (CSame.fr (by assumption) h_x hW3 (by decide +kernel))
          refine GO.aload_n dX5_clause_125 rfl rfl ?_
          refine GO.iconst dX5_clause_126 ?_
          refine GO.aload_n dX5_clause_127 rfl rfl ?_
          refine GO.bipush dX5_clause_128 rfl ?_
          refine GO.callV (ci := 4) (N := mX5_digits) dX5_clause_130 (RX5, TX5, 7) rfl gV_RX5_69 h_x (t_X5_digits h_x (ir_c rfl)) rfl [ti 3, .ref x] rfl rfl (Nat.le_of_ble_eq_true rfl) rfl (k_is fun X190 V194 r191 h192 hF193 => ?_)
          have raw_digits := h192.2
          have rw130 := h192.2
          refine GO.useWT (fun hW5 => ?_)
          have hci := CLI.num (rn := fun src e v s => .ok (s, (X1, 0, _, v))) hci rw130 (CSame.fr (by assumption) h_x hW4 (by decide +kernel))
          refine GO.callV (ci := 4) (N := mX5_set) dX5_clause_133 (RX5, TX5, 7) rfl gV_RX5_73 h_x (t_X5_set h_x (ir_c rfl) r191) rfl [] rfl rfl (Nat.le_of_ble_eq_true rfl) rfl (k_vs fun V198 h197 hF196 => ?_)
          have raw_set := h197.2
          have rw133 := h197.2
          have hci := CLI.set hci rw133 h_x hW5 (by assumption) (by decide +kernel) (by decide) (by decide) (by assumption)
          refine GO.goto (tgt := 173) dX5_clause_136 (by decide) ?_
          try have hcq := CLI.con hci rw170
          refine GO.iload_n dX5_clause_173 rfl rfl ?_
          refine GO.bipush dX5_clause_174 rfl ?_
          refine GO.icmp_eq (tgt := 209) dX5_clause_176 (by decide) r2 (ir_c rfl) (fun h => by exfalso; omega) (fun c199 => ?_)
          refine GO.iload_n dX5_clause_179 rfl rfl ?_
          refine GO.bipush dX5_clause_180 rfl ?_
          refine GO.icmp_eq (tgt := 209) dX5_clause_182 (by decide) r2 (ir_c rfl) (fun h => by exfalso; omega) (fun c200 => ?_)
          refine GO.iload_n dX5_clause_185 rfl rfl ?_
          refine GO.bipush dX5_clause_186 rfl ?_
          refine GO.icmp_eq (tgt := 209) dX5_clause_188 (by decide) r2 (ir_c rfl) (fun h => by exfalso; omega) (fun c201 => ?_)
          refine GO.iload_n dX5_clause_191 rfl rfl ?_
          refine GO.bipush dX5_clause_192 rfl ?_
          refine GO.icmp_eq (tgt := 209) dX5_clause_194 (by decide) r2 (ir_c rfl) (fun h => by exfalso; omega) (fun c202 => ?_)
          refine GO.iload_n dX5_clause_197 rfl rfl ?_
          refine GO.bipush dX5_clause_198 rfl ?_
          refine GO.icmp_eq (tgt := 209) dX5_clause_200 (by decide) r2 (ir_c rfl) (fun h => by exfalso; omega) (fun c203 => ?_)
          refine GO.iload_n dX5_clause_203 rfl rfl ?_
          refine GO.bipush dX5_clause_204 rfl ?_
          refine GO.icmp_ne (tgt := 220) dX5_clause_206 (by decide) r2 (ir_c rfl) (fun c204 => ?_) (fun h => by exfalso; omega)
          try have hci := CLI.set hci rw217 h_x hW8 (by assumption) (by decide +kernel) (by decide) (by decide) (by assumption)
          have e211 : vi V17 x 4 = vi V x 4 := vi_fr hF16 h_x h_x (by decide +kernel)
          have e210 : vi V24 x 4 = vi V17 x 4 := vi_up e23 (Or.inr (by decide))
          have e209 : vi V180 x 4 = vi V24 x 4 := vi_fr hF179 h_x h_x (by decide +kernel)
          have e208 : vi V184 x 4 = vi V180 x 4 := vi_fr hF182 h_x h_x (by decide +kernel)
          have e207 : vi V188 x 4 = vi V184 x 4 := vi_fr hF186 h_x h_x (by decide +kernel)
          have e206 : vi V194 x 4 = vi V188 x 4 := vi_fr hF193 h_x h_x (by decide +kernel)
          have e205 : vi V198 x 4 = vi V194 x 4 := vi_fr hF196 h_x h_x (by decide +kernel)
          have q212 : -2147483648 ≤ vi V x 4 ∧ vi V x 4 ≤ 2147483647 := vi_ir
          exact GO.retv rfl rfl dX5_clause_220 ⟨rfl, rfl, ⟨by omega, (by first | exact CLI.end hci rfl ⟨fun q => by first | exact Bool.noConfusion q | (show askB X1; unfold askB; omega), fun q => by first | rfl | (exfalso; have q1 : askB X1 := q; unfold askB at q1; omega)⟩ | exact CLI.end (hcq.to (rest1 := fun _ _ s => .ok (s, (X1, 0, 0, 0))) (fun src e s => by unfold gL; rw [if_neg (by omega)]; rfl)) rfl ⟨fun q => by first | exact Bool.noConfusion q | (show askB X1; unfold askB; omega), fun q => by first | rfl | (exfalso; have q1 : askB X1 := q; unfold askB at q1; omega)⟩ | exact CLI.end (hci.to (rest1 := fun _ _ s => .ok (s, (X1, 0, 0, 0))) (fun src e s => by unfold claG; rw [if_neg (by omega), if_neg (by omega), if_neg (by omega), if_neg (by omega)]; rfl)) rfl ⟨fun q => by first | exact Bool.noConfusion q | (show askB X1; unfold askB; omega), fun q => by first | rfl | (exfalso; have q1 : askB X1 := q; unfold askB at q1; omega)⟩)⟩⟩
      ·
        have hci := hci.to (rest1 := fun src e => kA src e X1) (fun src e s => by unfold claG; rw [if_pos (by omega)])
        refine GO.aload_n dX5_clause_67 rfl rfl ?_
        refine GO.iconst dX5_clause_68 ?_
        refine GO.aload_n dX5_clause_69 rfl rfl ?_
        refine GO.iconst dX5_clause_70 ?_
        have e214 : vi V17 x 5 = vi V x 5 := vi_fr hF16 h_x h_x (by decide +kernel)
        have e213 : vi V24 x 5 = vi V17 x 5 := vi_up e23 (Or.inr (by decide))
        refine GO.callV (ci := 4) (N := mX5_digits) dX5_clause_71 (RX5, TX5, 7) rfl gV_RX5_69 h_x (t_X5_digits h_x (ir_c rfl)) rfl [ti 2, .ref x] rfl rfl (Nat.le_of_ble_eq_true rfl) rfl (k_is fun X215 V219 r216 h217 hF218 => ?_)
        have raw_digits := h217.2
        have rw71 := h217.2
        refine GO.useWT (fun hW2 => ?_)
        have hci := CLI.num (rn := fun src e v s => kB src e X1 v s) hci rw71 (CSame.fr (by assumption) h_x hWp (by decide +kernel))
        refine GO.callV (ci := 4) (N := mX5_set) dX5_clause_74 (RX5, TX5, 7) rfl gV_RX5_73 h_x (t_X5_set h_x (ir_c rfl) r216) rfl [] rfl rfl (Nat.le_of_ble_eq_true rfl) rfl (k_vs fun V223 h222 hF221 => ?_)
        have raw_set := h222.2
        have rw74 := h222.2
        refine GO.useWT (fun hW3 => ?_)
        have hci := CLI.set hci rw74 h_x hW2 (by assumption) (by decide +kernel) (by decide) (by decide) (by assumption)
        refine GO.aload_n dX5_clause_77 rfl rfl ?_
        refine GO.bipush dX5_clause_78 rfl ?_
        have e224 : vi V223 x 5 = vi V219 x 5 := vi_fr hF221 h_x h_x (by decide +kernel)
        refine GO.callV (ci := 4) (N := mX5_take) dX5_clause_80 (RX5, TX5, 7) rfl gV_RX5_38 h_x (t_X5_take h_x (ir_c rfl) (by omega)) rfl [] rfl rfl (Nat.le_of_ble_eq_true rfl) rfl (k_vs fun V227 h226 hF225 => ?_)
        have raw_take := h226.2
        have rw80 := h226.2
        refine GO.useWT (fun hW4 => ?_)
        have hci := CLI.cr (rest1 := fun src e => kC src e X1 _) hci rw80 (by decide) (CSame.fr (by assumption) h_x hW3 (by decide +kernel))
        refine GO.aload_n dX5_clause_83 rfl rfl ?_
        refine GO.iconst dX5_clause_84 ?_
        refine GO.aload_n dX5_clause_85 rfl rfl ?_
        refine GO.iconst dX5_clause_86 ?_
        refine GO.callV (ci := 4) (N := mX5_digits) dX5_clause_87 (RX5, TX5, 7) rfl gV_RX5_69 h_x (t_X5_digits h_x (ir_c rfl)) rfl [ti 3, .ref x] rfl rfl (Nat.le_of_ble_eq_true rfl) rfl (k_is fun X229 V233 r230 h231 hF232 => ?_)
        have raw_digits := h231.2
        have rw87 := h231.2
        refine GO.useWT (fun hW5 => ?_)
        have hci := CLI.num (rn := fun src e v s => kD src e X1 _ v s) hci rw87 (CSame.fr (by assumption) h_x hW4 (by decide +kernel))
        refine GO.callV (ci := 4) (N := mX5_set) dX5_clause_90 (RX5, TX5, 7) rfl gV_RX5_73 h_x (t_X5_set h_x (ir_c rfl) r230) rfl [] rfl rfl (Nat.le_of_ble_eq_true rfl) rfl (k_vs fun V237 h236 hF235 => ?_)
        have raw_set := h236.2
        have rw90 := h236.2
        refine GO.useWT (fun hW6 => ?_)
        have hci := CLI.set hci rw90 h_x hW5 (by assumption) (by decide +kernel) (by decide) (by decide) (by assumption)
        refine GO.aload_n dX5_clause_93 rfl rfl ?_
        refine GO.bipush dX5_clause_94 rfl ?_
        have e238 : vi V237 x 5 = vi V233 x 5 := vi_fr hF235 h_x h_x (by decide +kernel)
        refine GO.callV (ci := 4) (N := mX5_take) dX5_clause_96 (RX5, TX5, 7) rfl gV_RX5_38 h_x (t_X5_take h_x (ir_c rfl) (by omega)) rfl [] rfl rfl (Nat.le_of_ble_eq_true rfl) rfl (k_vs fun V241 h240 hF239 => ?_)
        have raw_take := h240.2
        have rw96 := h240.2
        have hci := CLI.cr (rest1 := fun src e => kE src e X1 _ _) hci rw96 (by decide) (CSame.fr (by assumption) h_x hW6 (by decide +kernel))
        refine GO.goto (tgt := 173) dX5_clause_99 (by decide) ?_
        try have hcq := CLI.con hci rw170
        refine GO.iload_n dX5_clause_173 rfl rfl ?_
        refine GO.bipush dX5_clause_174 rfl ?_
        refine GO.icmp_eq (tgt := 209) dX5_clause_176 (by decide) r2 (ir_c rfl) (fun h => by exfalso; omega) (fun c243 => ?_)
        refine GO.iload_n dX5_clause_179 rfl rfl ?_
        refine GO.bipush dX5_clause_180 rfl ?_
        refine GO.icmp_eq (tgt := 209) dX5_clause_182 (by decide) r2 (ir_c rfl) (fun h => by exfalso; omega) (fun c244 => ?_)
        refine GO.iload_n dX5_clause_185 rfl rfl ?_
        refine GO.bipush dX5_clause_186 rfl ?_
        refine GO.icmp_eq (tgt := 209) dX5_clause_188 (by decide) r2 (ir_c rfl) (fun h => by exfalso; omega) (fun c245 => ?_)
        refine GO.iload_n dX5_clause_191 rfl rfl ?_
        refine GO.bipush dX5_clause_192 rfl ?_
        refine GO.icmp_eq (tgt := 209) dX5_clause_194 (by decide) r2 (ir_c rfl) (fun h => by exfalso; omega) (fun c246 => ?_)
        refine GO.iload_n dX5_clause_197 rfl rfl ?_
        refine GO.bipush dX5_clause_198 rfl ?_
        refine GO.icmp_eq (tgt := 209) dX5_clause_200 (by decide) r2 (ir_c rfl) (fun c247 => ?_) (fun h => by exfalso; omega)
        refine GO.useWT (fun hW7 => ?_)
        try have hci := hcq.to (rest1 := fun src e => kE src e X1 0 0) (fun src e s => by unfold gL; rw [if_pos (by omega)])
        try have hci := hci.to (rest1 := fun src e => kE src e X1 0 0) (fun src e s => by unfold claG; rw [if_neg (by omega), if_neg (by omega), if_neg (by omega), if_pos (by omega)])
        refine GO.aload_n dX5_clause_209 rfl rfl ?_
        refine GO.iconst dX5_clause_210 ?_
        refine GO.aload_n dX5_clause_211 rfl rfl ?_
        refine GO.ldc (X := 999999) dX5_clause_212 gw_790 rfl ?_
        refine GO.callV (ci := 4) (N := mX5_digits) dX5_clause_214 (RX5, TX5, 7) rfl gV_RX5_69 h_x (t_X5_digits h_x (ir_c rfl)) rfl [ti 1, .ref x] rfl rfl (Nat.le_of_ble_eq_true rfl) rfl (k_is fun X248 V252 r249 h250 hF251 => ?_)
        have raw_digits := h250.2
        have rw214 := h250.2
        refine GO.useWT (fun hW8 => ?_)
        have hci := CLI.num (rn := fun src e v s => .ok (s, (X1, v, _, _))) hci rw214 (CSame.fr (by assumption) h_x hW7 (by decide +kernel))
        refine GO.callV (ci := 4) (N := mX5_set) dX5_clause_217 (RX5, TX5, 7) rfl gV_RX5_73 h_x (t_X5_set h_x (ir_c rfl) r249) rfl [] rfl rfl (Nat.le_of_ble_eq_true rfl) rfl (k_vs fun V256 h255 hF254 => ?_)
        have raw_set := h255.2
        have rw217 := h255.2
        try have hci := CLI.set hci rw217 h_x hW8 (by assumption) (by decide +kernel) (by decide) (by decide) (by assumption)
        have e266 : vi V17 x 4 = vi V x 4 := vi_fr hF16 h_x h_x (by decide +kernel)
        have e265 : vi V24 x 4 = vi V17 x 4 := vi_up e23 (Or.inr (by decide))
        have e264 : vi V219 x 4 = vi V24 x 4 := vi_fr hF218 h_x h_x (by decide +kernel)
        have e263 : vi V223 x 4 = vi V219 x 4 := vi_fr hF221 h_x h_x (by decide +kernel)
        have e262 : vi V227 x 4 = vi V223 x 4 := vi_fr hF225 h_x h_x (by decide +kernel)
        have e261 : vi V233 x 4 = vi V227 x 4 := vi_fr hF232 h_x h_x (by decide +kernel)
        have e260 : vi V237 x 4 = vi V233 x 4 := vi_fr hF235 h_x h_x (by decide +kernel)
        have e259 : vi V241 x 4 = vi V237 x 4 := vi_fr hF239 h_x h_x (by decide +kernel)
        have e258 : vi V252 x 4 = vi V241 x 4 := vi_fr hF251 h_x h_x (by decide +kernel)
        have e257 : vi V256 x 4 = vi V252 x 4 := vi_fr hF254 h_x h_x (by decide +kernel)
        have q267 : -2147483648 ≤ vi V x 4 ∧ vi V x 4 ≤ 2147483647 := vi_ir
        exact GO.retv rfl rfl dX5_clause_220 ⟨rfl, rfl, ⟨by omega, (by first | exact CLI.end hci rfl ⟨fun q => by first | exact Bool.noConfusion q | (show askB X1; unfold askB; omega), fun q => by first | rfl | (exfalso; have q1 : askB X1 := q; unfold askB at q1; omega)⟩ | exact CLI.end (hcq.to (rest1 := fun _ _ s => .ok (s, (X1, 0, 0, 0))) (fun src e s => by unfold gL; rw [if_neg (by omega)]; rfl)) rfl ⟨fun q => by first | exact Bool.noConfusion q | (show askB X1; unfold askB; omega), fun q => by first | rfl | (exfalso; have q1 : askB X1 := q; unfold askB at q1; omega)⟩ | exact CLI.end (hci.to (rest1 := fun _ _ s => .ok (s, (X1, 0, 0, 0))) (fun src e s => by unfold claG; rw [if_neg (by omega), if_neg (by omega), if_neg (by omega), if_neg (by omega)]; rfl)) rfl ⟨fun q => by first | exact Bool.noConfusion q | (show askB X1; unfold askB; omega), fun q => by first | rfl | (exfalso; have q1 : askB X1 := q; unfold askB at q1; omega)⟩)⟩⟩
    ·
      refine GO.aload_n dX5_clause_41 rfl rfl ?_
      refine GO.iconst dX5_clause_42 ?_
      refine GO.aload_n dX5_clause_43 rfl rfl ?_
      refine GO.getI h_x fl_RX5_9 rfl rfl dX5_clause_44 (fun _ _ => ?_)
      refine GO.callV (ci := 4) (N := mX5_refuse) dX5_clause_47 (RX5, TX5, 7) rfl gV_RX5_57 h_x (t_X5_refuse h_x (ir_c rfl) vi_ir (by omega)) rfl [] rfl rfl (Nat.le_of_ble_eq_true rfl) rfl (k_vs fun V271 h270 hF269 => ?_)
      have raw_refuse := h270.2
      have rw47 := h270.2
      have e274 : vi V17 x 4 = vi V x 4 := vi_fr hF16 h_x h_x (by decide +kernel)
      have e273 : vi V271 x 4 = vi V17 x 4 := vi_fr hF269 h_x h_x (by decide +kernel)
      have q275 : -2147483648 ≤ vi V x 4 ∧ vi V x 4 ≤ 2147483647 := vi_ir
      exact GO.retv rfl rfl dX5_clause_50 ⟨rfl, rfl, ⟨by omega, (by first | exact CLS.e4 (by unfold isCL; exact decide_eq_true (by omega)) rw34 (by omega) rw47 h_x hW_0 vi_ir rfl)⟩⟩
  ·
    have q276 := h6.2.2 (by omega)
    refine GO.aload_n dX5_clause_12 rfl rfl ?_
    refine GO.iconst dX5_clause_13 ?_
    refine GO.aload_n dX5_clause_14 rfl rfl ?_
    refine GO.getI h_x fl_RX5_9 rfl rfl dX5_clause_15 (fun _ _ => ?_)
    refine GO.callV (ci := 4) (N := mX5_refuse) dX5_clause_18 (RX5, TX5, 7) rfl gV_RX5_57 h_x (t_X5_refuse h_x (ir_c rfl) vi_ir (by omega)) rfl [] rfl rfl (Nat.le_of_ble_eq_true rfl) rfl (k_vs fun V279 h278 hF277 => ?_)
    have raw_refuse := h278.2
    have rw18 := h278.2
    have e281 : vi V279 x 4 = vi V x 4 := vi_fr hF277 h_x h_x (by decide +kernel)
    have q282 : -2147483648 ≤ vi V x 4 ∧ vi V x 4 ≤ 2147483647 := vi_ir
    exact GO.retv rfl rfl dX5_clause_21 ⟨rfl, rfl, ⟨by omega, (by first | exact CLS.e1 (by unfold isCL; exact decide_eq_false (by omega)) rw18 h_x hW_0 vi_ir rfl)⟩⟩
