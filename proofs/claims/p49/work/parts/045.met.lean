def mX5_terms_7 : MRec := (RX5, cX5_terms, 3, (none : Option Jvm.ClassFile.FieldType), yX5_terms, 26, 640, 0, 0, 84615164005151820665845159428194693098035799419427996068435045795123941278247852265624218936283556470163081713008521863233536)
def mX5_factor_8 : MRec := (RX5, cX5_factor, 3, (none : Option Jvm.ClassFile.FieldType), yX5_factor, 27, 662, 0, 0, 84615164005151820665845159428194693098035799419427996068435045795123941278247852265624218936283556470163081713008521863233536)
def mX5_factors_8 : MRec := (RX5, cX5_factors, 3, (none : Option Jvm.ClassFile.FieldType), yX5_factors, 28, 684, 0, 0, 84615164005151820665845159428194693098035799419427996068435045795123941278247852265624218936283556470163081713008521863233536)
def mX5_terms_8 : MRec := (RX5, cX5_terms, 3, (none : Option Jvm.ClassFile.FieldType), yX5_terms, 29, 706, 0, 0, 84615164005151820665845159428194693098035799419427996068435045795123941278247852265624218936283556470163081713008521863233536)
def mX5_comparison : MRec := (RX5, cX5_comparison, 2, (some .int), yX5_comparison, 1, 22, 0, 0, 13510798882111488)
def mX5_piece_0 : MRec := (RX5, cX5_piece, 3, (none : Option Jvm.ClassFile.FieldType), yX5_piece, 0, 0, 0, 0, 0)
def mX9_lead : MRec := (RX9, cX9_lead, 2, (none : Option Jvm.ClassFile.FieldType), yX9_lead, 1, 22, 0, 0, 84615164005151820665845159428194693098035799419427996068435045795123941278247852265624218936283556460491675139202989862944768)
def mX5_part_0 : MRec := (RX5, cX5_part, 3, (none : Option Jvm.ClassFile.FieldType), yX5_part, 2, 43, 0, 0, 84615164005151820665845159428194693098035799419427996068435045795123941278247852265624218936283556460491675139202989862944768)
def mX5_parts_0 : MRec := (RX5, cX5_parts, 3, (none : Option Jvm.ClassFile.FieldType), yX5_parts, 3, 65, 0, 0, 84615164005151820665845159428194693098035799419427996068435045795123941278247852265624218936283556460491675139202989862944768)
def mX5_negation_1 : MRec := (RX5, cX5_negation, 1, (none : Option Jvm.ClassFile.FieldType), yX5_negation, 2, 45, 0, 0, 84615164005151820665845159428194693098035799419427996068435045795123941278247852265624218936283556470163081713008521863233536)
def mX5_piece_1 : MRec := (RX5, cX5_piece, 3, (none : Option Jvm.ClassFile.FieldType), yX5_piece, 9, 266, 0, 0, 84615164005151820665845159428194693098035799419427996068435045795123941278247852265624218936283556470163081713008521863233536)
set_option maxHeartbeats 1000000 in
theorem t_X5_terms_7_F {K : Kmap} {V : Vmap} {x : Nat} (h_x : K x = some (0, 4)) (q_0 : vi V x 5 ≠ 0) : MC mX5_terms_7 K V [.ref x] (VS K (fun V1 => (vi V1 x 4 = vi V x 4 ∧ (vi V x 5 ≠ 0 → vi V1 x 5 ≠ 0)))) := by
  refine MC.start 2 (by decide +kernel) rfl rfl rfl (ls0 := [some (.ref x), none, none]) rfl ?_
  refine GO.aload_n dX5_terms_0 rfl rfl ?_
  have q1 : -2147483648 ≤ vi V x 4 ∧ vi V x 4 ≤ 2147483647 := vi_ir
  have q2 : -2147483648 ≤ vi V x 5 ∧ vi V x 5 ≤ 2147483647 := vi_ir
  refine GO.callV (ci := 4) (N := mX5_factors_7) dX5_terms_1 (RX5, TX5, 7) rfl gV_RX5_108 h_x (t_X5_factors_7 h_x (by omega)) rfl [] rfl rfl (Nat.le_of_ble_eq_true rfl) rfl (k_vs fun V5 h4 hF3 => ?_)
  refine GO.iconst dX5_terms_4 ?_
  refine GO.istore_n (ls1 := [some (.ref x), some (ti 0), none]) dX5_terms_5 rfl rfl rfl ?_
  have q9 : -2147483648 ≤ vi V5 x 4 ∧ vi V5 x 4 ≤ 2147483647 := vi_ir
  have q10 : -2147483648 ≤ vi V5 x 5 ∧ vi V5 x 5 ≤ 2147483647 := vi_ir
  refine GO.loop1 (fun i8 W => 0 ≤ i8 ∧ i8 ≤ 0 ∧ (vi W x 4 = vi V5 x 4 ∧ (vi V5 x 5 ≠ 0 → vi W x 5 ≠ 0)) ∧ True) (fun i8 => [some (.ref x), some (ti i8), none]) (fun i8 W => (2147483647 - i8).toNat) 0 ⟨by omega, by omega, by omega, trivial⟩ rfl (fun i8 Wi8 hp16 ih15 => ?_)
  obtain ⟨l_i8, u_i8, n_i8, -⟩ := hp16
  have r_i8 : ir i8 := ⟨by omega, by omega⟩
  show GO mX5_terms_7 K V (VS K (fun V1 => (vi V1 x 4 = vi V x 4 ∧ (vi V x 5 ≠ 0 → vi V1 x 5 ≠ 0)))) K Wi8 0 0 6 [some (.ref x), some (ti i8), none] []
  refine GO.iload_n dX5_terms_6 rfl rfl ?_
  refine GO.sipush dX5_terms_7 rfl ?_
  refine GO.icmp_ge (tgt := 84) dX5_terms_10 (by decide) r_i8 (ir_c rfl) (fun h => by exfalso; omega) (fun c17 => ?_)
  refine GO.aload_n dX5_terms_13 rfl rfl ?_
  refine GO.getI h_x fl_RX5_18 rfl rfl dX5_terms_14 (fun _ _ => ?_)
  have q19 : -2147483648 ≤ vi Wi8 x 5 ∧ vi Wi8 x 5 ≤ 2147483647 := vi_ir
  refine GO.if_ne (tgt := 84) dX5_terms_17 (by decide) vi_ir (fun c18 => ?_) (fun h => by exfalso; omega)
  have q20 : -2147483648 ≤ vi Wi8 x 4 ∧ vi Wi8 x 4 ≤ 2147483647 := vi_ir
  exact GO.retv rfl rfl dX5_terms_84 ⟨rfl, rfl, by omega⟩

set_option maxHeartbeats 1000000 in
theorem t_X5_terms_7_G {K : Kmap} {V : Vmap} {x : Nat} (h_x : K x = some (0, 4)) (q_0 : vi V x 5 = 0) (q_1 : vi V x 4 ≥ 2) (q_2 : vi V x 4 ≤ 8) : MC mX5_terms_7 K V [.ref x] (VS K (fun V1 => (vi V1 x 4 = vi V x 4 ∧ (vi V x 5 ≠ 0 → vi V1 x 5 ≠ 0)))) := by
  refine MC.start 2 (by decide +kernel) rfl rfl rfl (ls0 := [some (.ref x), none, none]) rfl ?_
  refine GO.aload_n dX5_terms_0 rfl rfl ?_
  have q1 : -2147483648 ≤ vi V x 4 ∧ vi V x 4 ≤ 2147483647 := vi_ir
  have q2 : -2147483648 ≤ vi V x 5 ∧ vi V x 5 ≤ 2147483647 := vi_ir
  refine GO.callV (ci := 4) (N := mX5_factors_7) dX5_terms_1 (RX5, TX5, 7) rfl gV_RX5_108 h_x (t_X5_factors_7 h_x (by omega)) rfl [] rfl rfl (Nat.le_of_ble_eq_true rfl) rfl (k_vs fun V5 h4 hF3 => ?_)
  refine GO.iconst dX5_terms_4 ?_
  refine GO.istore_n (ls1 := [some (.ref x), some (ti 0), none]) dX5_terms_5 rfl rfl rfl ?_
  have q9 : -2147483648 ≤ vi V5 x 4 ∧ vi V5 x 4 ≤ 2147483647 := vi_ir
  have q10 : -2147483648 ≤ vi V5 x 5 ∧ vi V5 x 5 ≤ 2147483647 := vi_ir
  refine GO.loop1 (fun i8 W => 0 ≤ i8 ∧ i8 ≤ 200 ∧ (vi W x 4 = vi V5 x 4 ∧ (vi V5 x 5 ≠ 0 → vi W x 5 ≠ 0)) ∧ True) (fun i8 => [some (.ref x), some (ti i8), none]) (fun i8 W => (2147483647 - i8).toNat) 0 ⟨by omega, by omega, by omega, trivial⟩ rfl (fun i8 Wi8 hp493 ih492 => ?_)
  obtain ⟨l_i8, u_i8, n_i8, -⟩ := hp493
  have r_i8 : ir i8 := ⟨by omega, by omega⟩
  show GO mX5_terms_7 K V (VS K (fun V1 => (vi V1 x 4 = vi V x 4 ∧ (vi V x 5 ≠ 0 → vi V1 x 5 ≠ 0)))) K Wi8 0 0 6 [some (.ref x), some (ti i8), none] []
  refine GO.iload_n dX5_terms_6 rfl rfl ?_
  refine GO.sipush dX5_terms_7 rfl ?_
  refine GO.icmp_ge (tgt := 84) dX5_terms_10 (by decide) r_i8 (ir_c rfl) (fun c494 => ?_) (fun c494 => ?_)
  ·
    have q495 : -2147483648 ≤ vi Wi8 x 4 ∧ vi Wi8 x 4 ≤ 2147483647 := vi_ir
    have q496 : -2147483648 ≤ vi Wi8 x 5 ∧ vi Wi8 x 5 ≤ 2147483647 := vi_ir
    exact GO.retv rfl rfl dX5_terms_84 ⟨rfl, rfl, by omega⟩
  ·
    refine GO.aload_n dX5_terms_13 rfl rfl ?_
    refine GO.getI h_x fl_RX5_18 rfl rfl dX5_terms_14 (fun _ _ => ?_)
    refine GO.if_ne (tgt := 84) dX5_terms_17 (by decide) vi_ir (fun c497 => ?_) (fun c497 => ?_)
    ·
      have q498 : -2147483648 ≤ vi Wi8 x 4 ∧ vi Wi8 x 4 ≤ 2147483647 := vi_ir
      have q499 : -2147483648 ≤ vi Wi8 x 5 ∧ vi Wi8 x 5 ≤ 2147483647 := vi_ir
      exact GO.retv rfl rfl dX5_terms_84 ⟨rfl, rfl, by omega⟩
    ·
      refine GO.aload_n dX5_terms_20 rfl rfl ?_
      refine GO.callV (ci := 4) (N := mX5_next) dX5_terms_21 (RX5, TX5, 7) rfl gV_RX5_61 h_x (t_X5_next h_x) rfl [] rfl rfl (Nat.le_of_ble_eq_true rfl) rfl (k_ip fun X500 r501 h502 => ?_)
      refine GO.bipush dX5_terms_24 rfl ?_
      have hj510 : GO mX5_terms_7 K V (VS K (fun V1 => (vi V1 x 4 = vi V x 4 ∧ (vi V x 5 ≠ 0 → vi V1 x 5 ≠ 0)))) K Wi8 0 0 38 [some (.ref x), some (ti i8), none] [] := by
        skip
        refine GO.aload_n dX5_terms_38 rfl rfl ?_
        refine GO.callV (ci := 4) (N := mX5_next) dX5_terms_39 (RX5, TX5, 7) rfl gV_RX5_61 h_x (t_X5_next h_x) rfl [] rfl rfl (Nat.le_of_ble_eq_true rfl) rfl (k_ip fun X511 r512 h513 => ?_)
        refine GO.bipush dX5_terms_42 rfl ?_
        have hj516 : ∀ (z515 : Int), ∀ (l517 : 5 ≤ z515), ∀ (u518 : z515 ≤ 6), GO mX5_terms_7 K V (VS K (fun V1 => (vi V1 x 4 = vi V x 4 ∧ (vi V x 5 ≠ 0 → vi V1 x 5 ≠ 0)))) K Wi8 0 0 53 [some (.ref x), some (ti i8), none] [ti z515] := by
          intro z515 l517 u518
          have r519 : ir z515 := ⟨by omega, by omega⟩
          refine GO.istore_n (ls1 := [some (.ref x), some (ti i8), some (ti z515)]) dX5_terms_53 rfl rfl rfl ?_
          refine GO.aload_n dX5_terms_54 rfl rfl ?_
          refine GO.dup dX5_terms_55 rfl ?_
          refine GO.getI h_x fl_RX5_9 rfl rfl dX5_terms_56 (fun _ _ => ?_)
          refine GO.iconst dX5_terms_59 ?_
          refine GO.iadd dX5_terms_60 ?_
          refine GO.norm (fun z520 r521 hn522 => ?_)
          refine GO.putI h_x fp_RX5_9 rfl (by decide +kernel) r521 (r521).1 (r521).2 dX5_terms_61 (fun V524 e523 => ?_)
          refine GO.aload_n dX5_terms_64 rfl rfl ?_
          have e525 : vi V524 x 5 = vi Wi8 x 5 := vi_up e523 (Or.inr (by decide))
          have e526 : vi V524 x 4 = vi Wi8 x 4 := vi_up e523 (Or.inr (by decide))
          have q527 : -2147483648 ≤ vi Wi8 x 4 ∧ vi Wi8 x 4 ≤ 2147483647 := vi_ir
          have q528 : -2147483648 ≤ vi Wi8 x 5 ∧ vi Wi8 x 5 ≤ 2147483647 := vi_ir
          refine GO.callV (ci := 4) (N := mX5_factors_7) dX5_terms_65 (RX5, TX5, 7) rfl gV_RX5_108 h_x (t_X5_factors_7 h_x (by omega)) rfl [] rfl rfl (Nat.le_of_ble_eq_true rfl) rfl (k_vs fun V531 h530 hF529 => ?_)
          refine GO.aload_n dX5_terms_68 rfl rfl ?_
          refine GO.getR h_x fl_RX5_31 rfl rfl dX5_terms_69 (fun hv535 h534 => ?_)
          refine GO.iload_n dX5_terms_72 rfl rfl ?_
          refine GO.iconst dX5_terms_73 ?_
          refine GO.callV (ci := 8) (N := mX9_addStep) dX5_terms_74 (RX9, TX9, 5) rfl gV_RX5_92 h534 (t_X9_addStep h534 r519 (ir_c rfl)) rfl [] rfl rfl (Nat.le_of_ble_eq_true rfl) rfl (k_is fun X536 V540 r537 h538 hF539 => ?_)
          refine GO.pop dX5_terms_77 rfl ?_
          refine GO.iinc (X := i8) (n := 1) (Y := i8 + 1) (ls1 := [some (.ref x), some (ti (i8 + 1)), some (ti z515)]) dX5_terms_78 rfl rfl rfl rfl ?_
          refine GO.goto (tgt := 6) dX5_terms_81 (by decide) ?_
          refine GO.drop [true, true, false] rfl ?_
          have e541 : vi V540 x 4 = vi V531 x 4 := vi_fr hF539 h_x h_x (by decide +kernel)
          have q542 : -2147483648 ≤ vi V531 x 4 ∧ vi V531 x 4 ≤ 2147483647 := vi_ir
          have e543 : vi V540 x 5 = vi V531 x 5 := vi_fr hF539 h_x h_x (by decide +kernel)
          have q544 : -2147483648 ≤ vi V531 x 5 ∧ vi V531 x 5 ≤ 2147483647 := vi_ir
          exact ih492 (i8 + 1) V540 ⟨by omega, by omega, by omega, trivial⟩ (by show (2147483647 - (i8 + 1)).toNat < (2147483647 - i8).toNat; omega)
        refine GO.icmp_ne (tgt := 51) dX5_terms_44 (by decide) r512 (ir_c rfl) (fun c545 => ?_) (fun c545 => ?_)
        ·
          refine GO.bipush dX5_terms_51 rfl ?_
          exact hj516 6 (by omega) (by omega)
        ·
          refine GO.iconst dX5_terms_47 ?_
          refine GO.goto (tgt := 53) dX5_terms_48 (by decide) ?_
          exact hj516 5 (by omega) (by omega)
      refine GO.icmp_eq (tgt := 38) dX5_terms_26 (by decide) r501 (ir_c rfl) (fun c546 => ?_) (fun c546 => ?_)
      ·
        exact hj510 
      ·
        refine GO.aload_n dX5_terms_29 rfl rfl ?_
        refine GO.callV (ci := 4) (N := mX5_next) dX5_terms_30 (RX5, TX5, 7) rfl gV_RX5_61 h_x (t_X5_next h_x) rfl [] rfl rfl (Nat.le_of_ble_eq_true rfl) rfl (k_ip fun X547 r548 h549 => ?_)
        refine GO.bipush dX5_terms_33 rfl ?_
        refine GO.icmp_ne (tgt := 84) dX5_terms_35 (by decide) r548 (ir_c rfl) (fun c550 => ?_) (fun c550 => ?_)
        ·
          have q551 : -2147483648 ≤ vi Wi8 x 4 ∧ vi Wi8 x 4 ≤ 2147483647 := vi_ir
          have q552 : -2147483648 ≤ vi Wi8 x 5 ∧ vi Wi8 x 5 ≤ 2147483647 := vi_ir
          exact GO.retv rfl rfl dX5_terms_84 ⟨rfl, rfl, by omega⟩
        ·
          exact hj510 

theorem t_X5_terms_7 {K : Kmap} {V : Vmap} {x : Nat} (h_x : K x = some (0, 4)) (q_0 : (vi V x 5 ≠ 0 ∨ (vi V x 5 = 0 ∧ vi V x 4 ≥ 2 ∧ vi V x 4 ≤ 8))) : MC mX5_terms_7 K V [.ref x] (VS K (fun V1 => (vi V1 x 4 = vi V x 4 ∧ (vi V x 5 ≠ 0 → vi V1 x 5 ≠ 0)))) := by
  rcases q_0 with h | h
  · exact t_X5_terms_7_F h_x (by omega)
  · exact t_X5_terms_7_G h_x (by omega) (by omega) (by omega)

set_option maxHeartbeats 1000000 in
theorem t_X5_factor_8_F {K : Kmap} {V : Vmap} {x : Nat} (h_x : K x = some (0, 4)) (q_0 : vi V x 5 ≠ 0) : MC mX5_factor_8 K V [.ref x] (VS K (fun V1 => (vi V1 x 4 = vi V x 4 ∧ (vi V x 5 ≠ 0 → vi V1 x 5 ≠ 0)))) := by
  refine MC.start 2 (by decide +kernel) rfl rfl rfl (ls0 := [some (.ref x), none, none]) rfl ?_
  refine GO.aload_n dX5_factor_0 rfl rfl ?_
  refine GO.getI h_x fl_RX5_18 rfl rfl dX5_factor_1 (fun _ _ => ?_)
  have q2 : -2147483648 ≤ vi V x 5 ∧ vi V x 5 ≤ 2147483647 := vi_ir
  refine GO.if_eq (tgt := 8) dX5_factor_4 (by decide) vi_ir (fun h => by exfalso; omega) (fun c1 => ?_)
  have q3 : -2147483648 ≤ vi V x 4 ∧ vi V x 4 ≤ 2147483647 := vi_ir
  exact GO.retv rfl rfl dX5_factor_7 ⟨rfl, rfl, by omega⟩

set_option maxHeartbeats 1000000 in
theorem t_X5_factor_8_G {K : Kmap} {V : Vmap} {x : Nat} (h_x : K x = some (0, 4)) (q_0 : vi V x 5 = 0) (q_1 : vi V x 4 ≥ 1) (q_2 : vi V x 4 ≤ 8) : MC mX5_factor_8 K V [.ref x] (VS K (fun V1 => (vi V1 x 4 = vi V x 4 ∧ (vi V x 5 ≠ 0 → vi V1 x 5 ≠ 0)))) := by
  refine MC.start 2 (by decide +kernel) rfl rfl rfl (ls0 := [some (.ref x), none, none]) rfl ?_
  refine GO.aload_n dX5_factor_0 rfl rfl ?_
  refine GO.getI h_x fl_RX5_18 rfl rfl dX5_factor_1 (fun _ _ => ?_)
  have q2 : -2147483648 ≤ vi V x 5 ∧ vi V x 5 ≤ 2147483647 := vi_ir
  refine GO.if_eq (tgt := 8) dX5_factor_4 (by decide) vi_ir (fun c1 => ?_) (fun h => by exfalso; omega)
  refine GO.aload_n dX5_factor_8 rfl rfl ?_
  refine GO.callV (ci := 4) (N := mX5_next) dX5_factor_9 (RX5, TX5, 7) rfl gV_RX5_61 h_x (t_X5_next h_x) rfl [] rfl rfl (Nat.le_of_ble_eq_true rfl) rfl (k_ip fun X3 r4 h5 => ?_)
  refine GO.istore_n (ls1 := [some (.ref x), some (ti X3), none]) dX5_factor_12 rfl rfl rfl ?_
  refine GO.iload_n dX5_factor_13 rfl rfl ?_
  have hj11 : ∀ (z10 : Int), ∀ (l12 : (-1) ≤ z10), ∀ (u13 : z10 ≤ 13), GO mX5_factor_8 K V (VS K (fun V1 => (vi V1 x 4 = vi V x 4 ∧ (vi V x 5 ≠ 0 → vi V1 x 5 ≠ 0)))) K V 0 0 28 [some (.ref x), some (ti X3), none] [ti z10] := by
    intro z10 l12 u13
    have r14 : ir z10 := ⟨by omega, by omega⟩
    refine GO.istore_n (ls1 := [some (.ref x), some (ti X3), some (ti z10)]) dX5_factor_28 rfl rfl rfl ?_
    refine GO.iload_n dX5_factor_29 rfl rfl ?_
    refine GO.bipush dX5_factor_30 rfl ?_
    refine GO.icmp_ne (tgt := 64) dX5_factor_32 (by decide) r4 (ir_c rfl) (fun c15 => ?_) (fun c15 => ?_)
    ·
      refine GO.iload_n dX5_factor_64 rfl rfl ?_
      refine GO.if_lt (tgt := 91) dX5_factor_65 (by decide) r14 (fun c16 => ?_) (fun c16 => ?_)
      ·
        refine GO.aload_n dX5_factor_91 rfl rfl ?_
        refine GO.getR h_x fl_RX5_31 rfl rfl dX5_factor_92 (fun hv18 h17 => ?_)
        refine GO.iconst dX5_factor_95 ?_
        refine GO.aload_n dX5_factor_96 rfl rfl ?_
        refine GO.ldc (X := 999999) dX5_factor_97 gw_790 rfl ?_
        refine GO.callV (ci := 4) (N := mX5_digits) dX5_factor_99 (RX5, TX5, 7) rfl gV_RX5_69 h_x (t_X5_digits h_x (ir_c rfl)) rfl [ti 0, .ref (vq V x 2)] rfl rfl (Nat.le_of_ble_eq_true rfl) rfl (k_is fun X19 V23 r20 h21 hF22 => ?_)
        refine GO.callV (ci := 8) (N := mX9_addStep) dX5_factor_102 (RX9, TX9, 5) rfl gV_RX5_92 h17 (t_X9_addStep h17 (ir_c rfl) r20) rfl [] rfl rfl (Nat.le_of_ble_eq_true rfl) rfl (k_is fun X25 V29 r26 h27 hF28 => ?_)
        refine GO.pop dX5_factor_105 rfl ?_
        have e31 : vi V23 x 4 = vi V x 4 := vi_fr hF22 h_x h_x (by decide +kernel)
        have e30 : vi V29 x 4 = vi V23 x 4 := vi_fr hF28 h_x h_x (by decide +kernel)
        have q32 : -2147483648 ≤ vi V x 4 ∧ vi V x 4 ≤ 2147483647 := vi_ir
        have e33 : vi V29 x 5 = vi V23 x 5 := vi_fr hF28 h_x h_x (by decide +kernel)
        have q34 : -2147483648 ≤ vi V23 x 5 ∧ vi V23 x 5 ≤ 2147483647 := vi_ir
        exact GO.retv rfl rfl dX5_factor_106 ⟨rfl, rfl, by omega⟩
      ·
        refine GO.aload_n dX5_factor_68 rfl rfl ?_
        refine GO.dup dX5_factor_69 rfl ?_
        refine GO.getI h_x fl_RX5_9 rfl rfl dX5_factor_70 (fun _ _ => ?_)
        refine GO.iconst dX5_factor_73 ?_
        refine GO.iadd dX5_factor_74 ?_
        refine GO.norm (fun z35 r36 hn37 => ?_)
        refine GO.putI h_x fp_RX5_9 rfl (by decide +kernel) r36 (r36).1 (r36).2 dX5_factor_75 (fun V39 e38 => ?_)
        refine GO.aload_n dX5_factor_78 rfl rfl ?_
        refine GO.getR h_x fl_RX5_31 rfl rfl dX5_factor_79 (fun hv41 h40 => ?_)
        refine GO.iconst dX5_factor_82 ?_
        refine GO.iload_n dX5_factor_83 rfl rfl ?_
        refine GO.callV (ci := 8) (N := mX9_addStep) dX5_factor_84 (RX9, TX9, 5) rfl gV_RX5_92 h40 (t_X9_addStep h40 (ir_c rfl) r14) rfl [] rfl rfl (Nat.le_of_ble_eq_true rfl) rfl (k_is fun X42 V46 r43 h44 hF45 => ?_)
        refine GO.pop dX5_factor_87 rfl ?_
        refine GO.goto (tgt := 106) dX5_factor_88 (by decide) ?_
        have e48 : vi V39 x 4 = vi V x 4 := vi_up e38 (Or.inr (by decide))
        have e47 : vi V46 x 4 = vi V39 x 4 := vi_fr hF45 h_x h_x (by decide +kernel)
        have q49 : -2147483648 ≤ vi V x 4 ∧ vi V x 4 ≤ 2147483647 := vi_ir
        have e51 : vi V39 x 5 = vi V x 5 := vi_up e38 (Or.inr (by decide))
        have e50 : vi V46 x 5 = vi V39 x 5 := vi_fr hF45 h_x h_x (by decide +kernel)
        exact GO.retv rfl rfl dX5_factor_106 ⟨rfl, rfl, by omega⟩
    ·
      refine GO.aload_n dX5_factor_35 rfl rfl ?_
      refine GO.bipush dX5_factor_36 rfl ?_
      have q52 : -2147483648 ≤ vi V x 4 ∧ vi V x 4 ≤ 2147483647 := vi_ir
      refine GO.callV (ci := 4) (N := mX5_deepen) dX5_factor_38 (RX5, TX5, 7) rfl gV_RX5_80 h_x (t_X5_deepen h_x (ir_c rfl) (by omega) (by omega)) rfl [] rfl rfl (Nat.le_of_ble_eq_true rfl) rfl (k_vs fun V55 h54 hF53 => ?_)
      refine GO.aload_n dX5_factor_41 rfl rfl ?_
      have q58 : -2147483648 ≤ vi V55 x 4 ∧ vi V55 x 4 ≤ 2147483647 := vi_ir
      have q59 : -2147483648 ≤ vi V55 x 5 ∧ vi V55 x 5 ≤ 2147483647 := vi_ir
      refine GO.callV (ci := 4) (N := mX5_terms_7) dX5_factor_42 (RX5, TX5, 7) rfl gV_RX5_102 h_x (t_X5_terms_7 h_x (by omega)) rfl [] rfl rfl (Nat.le_of_ble_eq_true rfl) rfl (k_vs fun V62 h61 hF60 => ?_)
      refine GO.aload_n dX5_factor_45 rfl rfl ?_
      refine GO.dup dX5_factor_46 rfl ?_
      refine GO.getI h_x fl_RX5_15 rfl rfl dX5_factor_47 (fun _ _ => ?_)
      refine GO.iconst dX5_factor_50 ?_
      refine GO.isub dX5_factor_51 ?_
      have q66 : -2147483648 ≤ vi V62 x 4 ∧ vi V62 x 4 ≤ 2147483647 := vi_ir
      refine GO.putI h_x fp_RX5_15 rfl (by decide +kernel) ⟨by omega, by omega⟩ (by omega) (by omega) dX5_factor_52 (fun V67 e65 => ?_)
      refine GO.aload_n dX5_factor_55 rfl rfl ?_
      refine GO.bipush dX5_factor_56 rfl ?_
      have e68 : vi V67 x 5 = vi V62 x 5 := vi_up e65 (Or.inr (by decide))
      refine GO.callV (ci := 4) (N := mX5_take) dX5_factor_58 (RX5, TX5, 7) rfl gV_RX5_38 h_x (t_X5_take h_x (ir_c rfl)) rfl [] rfl rfl (Nat.le_of_ble_eq_true rfl) rfl (k_vs fun V71 h70 hF69 => ?_)
      refine GO.goto (tgt := 106) dX5_factor_61 (by decide) ?_
      have e74 : vi V67 x 4 = (vi V62 x 4) - 1 := upd2_int e65 ⟨by omega, by omega⟩
      have e73 : vi V71 x 4 = vi V67 x 4 := vi_fr hF69 h_x h_x (by decide +kernel)
      have q75 : -2147483648 ≤ vi V71 x 5 ∧ vi V71 x 5 ≤ 2147483647 := vi_ir
      exact GO.retv rfl rfl dX5_factor_106 ⟨rfl, rfl, by omega⟩
  refine GO.if_ge (tgt := 21) dX5_factor_14 (by decide) r4 (fun c76 => ?_) (fun c76 => ?_)
  ·
    refine GO.letters dX5_factor_21 dX5_factor_23 dX5_factor_24 dX5_factor_25 rfl gV_RX5_119 rfl rfl (Nat.le_of_ble_eq_true rfl) rfl rfl (fun X77 r78 h79 => ?_)
    exact hj11 X77 (by omega) (by omega)
  ·
    refine GO.iconst dX5_factor_17 ?_
    refine GO.goto (tgt := 28) dX5_factor_18 (by decide) ?_
    exact hj11 (-1) (by omega) (by omega)

theorem t_X5_factor_8 {K : Kmap} {V : Vmap} {x : Nat} (h_x : K x = some (0, 4)) (q_0 : (vi V x 5 ≠ 0 ∨ (vi V x 5 = 0 ∧ vi V x 4 ≥ 1 ∧ vi V x 4 ≤ 8))) : MC mX5_factor_8 K V [.ref x] (VS K (fun V1 => (vi V1 x 4 = vi V x 4 ∧ (vi V x 5 ≠ 0 → vi V1 x 5 ≠ 0)))) := by
  rcases q_0 with h | h
  · exact t_X5_factor_8_F h_x (by omega)
  · exact t_X5_factor_8_G h_x (by omega) (by omega) (by omega)

set_option maxHeartbeats 1000000 in
theorem t_X5_factors_8_F {K : Kmap} {V : Vmap} {x : Nat} (h_x : K x = some (0, 4)) (q_0 : vi V x 5 ≠ 0) : MC mX5_factors_8 K V [.ref x] (VS K (fun V1 => (vi V1 x 4 = vi V x 4 ∧ (vi V x 5 ≠ 0 → vi V1 x 5 ≠ 0)))) := by
  refine MC.start 2 (by decide +kernel) rfl rfl rfl (ls0 := [some (.ref x), none, none]) rfl ?_
  refine GO.aload_n dX5_factors_0 rfl rfl ?_
  have q1 : -2147483648 ≤ vi V x 4 ∧ vi V x 4 ≤ 2147483647 := vi_ir
  have q2 : -2147483648 ≤ vi V x 5 ∧ vi V x 5 ≤ 2147483647 := vi_ir
  refine GO.callV (ci := 4) (N := mX5_factor_8) dX5_factors_1 (RX5, TX5, 7) rfl gV_RX5_111 h_x (t_X5_factor_8 h_x (by omega)) rfl [] rfl rfl (Nat.le_of_ble_eq_true rfl) rfl (k_vs fun V5 h4 hF3 => ?_)
  refine GO.iconst dX5_factors_4 ?_
  refine GO.istore_n (ls1 := [some (.ref x), some (ti 0), none]) dX5_factors_5 rfl rfl rfl ?_
  have q9 : -2147483648 ≤ vi V5 x 4 ∧ vi V5 x 4 ≤ 2147483647 := vi_ir
  have q10 : -2147483648 ≤ vi V5 x 5 ∧ vi V5 x 5 ≤ 2147483647 := vi_ir
  refine GO.loop1 (fun i8 W => 0 ≤ i8 ∧ i8 ≤ 0 ∧ (vi W x 4 = vi V5 x 4 ∧ (vi V5 x 5 ≠ 0 → vi W x 5 ≠ 0)) ∧ True) (fun i8 => [some (.ref x), some (ti i8), none]) (fun i8 W => (2147483647 - i8).toNat) 0 ⟨by omega, by omega, by omega, trivial⟩ rfl (fun i8 Wi8 hp16 ih15 => ?_)
  obtain ⟨l_i8, u_i8, n_i8, -⟩ := hp16
  have r_i8 : ir i8 := ⟨by omega, by omega⟩
  show GO mX5_factors_8 K V (VS K (fun V1 => (vi V1 x 4 = vi V x 4 ∧ (vi V x 5 ≠ 0 → vi V1 x 5 ≠ 0)))) K Wi8 0 0 6 [some (.ref x), some (ti i8), none] []
  refine GO.iload_n dX5_factors_6 rfl rfl ?_
  refine GO.sipush dX5_factors_7 rfl ?_
  refine GO.icmp_ge (tgt := 91) dX5_factors_10 (by decide) r_i8 (ir_c rfl) (fun h => by exfalso; omega) (fun c17 => ?_)
  refine GO.aload_n dX5_factors_13 rfl rfl ?_
  refine GO.getI h_x fl_RX5_18 rfl rfl dX5_factors_14 (fun _ _ => ?_)
  have q19 : -2147483648 ≤ vi Wi8 x 5 ∧ vi Wi8 x 5 ≤ 2147483647 := vi_ir
  refine GO.if_ne (tgt := 91) dX5_factors_17 (by decide) vi_ir (fun c18 => ?_) (fun h => by exfalso; omega)
  have q20 : -2147483648 ≤ vi Wi8 x 4 ∧ vi Wi8 x 4 ≤ 2147483647 := vi_ir
  exact GO.retv rfl rfl dX5_factors_91 ⟨rfl, rfl, by omega⟩

set_option maxHeartbeats 1000000 in
theorem t_X5_factors_8_G {K : Kmap} {V : Vmap} {x : Nat} (h_x : K x = some (0, 4)) (q_0 : vi V x 5 = 0) (q_1 : vi V x 4 ≥ 1) (q_2 : vi V x 4 ≤ 8) : MC mX5_factors_8 K V [.ref x] (VS K (fun V1 => (vi V1 x 4 = vi V x 4 ∧ (vi V x 5 ≠ 0 → vi V1 x 5 ≠ 0)))) := by
  refine MC.start 2 (by decide +kernel) rfl rfl rfl (ls0 := [some (.ref x), none, none]) rfl ?_
  refine GO.aload_n dX5_factors_0 rfl rfl ?_
  have q1 : -2147483648 ≤ vi V x 4 ∧ vi V x 4 ≤ 2147483647 := vi_ir
  have q2 : -2147483648 ≤ vi V x 5 ∧ vi V x 5 ≤ 2147483647 := vi_ir
  refine GO.callV (ci := 4) (N := mX5_factor_8) dX5_factors_1 (RX5, TX5, 7) rfl gV_RX5_111 h_x (t_X5_factor_8 h_x (by omega)) rfl [] rfl rfl (Nat.le_of_ble_eq_true rfl) rfl (k_vs fun V5 h4 hF3 => ?_)
  refine GO.iconst dX5_factors_4 ?_
  refine GO.istore_n (ls1 := [some (.ref x), some (ti 0), none]) dX5_factors_5 rfl rfl rfl ?_
  have q9 : -2147483648 ≤ vi V5 x 4 ∧ vi V5 x 4 ≤ 2147483647 := vi_ir
  have q10 : -2147483648 ≤ vi V5 x 5 ∧ vi V5 x 5 ≤ 2147483647 := vi_ir
  refine GO.loop1 (fun i8 W => 0 ≤ i8 ∧ i8 ≤ 200 ∧ (vi W x 4 = vi V5 x 4 ∧ (vi V5 x 5 ≠ 0 → vi W x 5 ≠ 0)) ∧ True) (fun i8 => [some (.ref x), some (ti i8), none]) (fun i8 W => (2147483647 - i8).toNat) 0 ⟨by omega, by omega, by omega, trivial⟩ rfl (fun i8 Wi8 hp484 ih483 => ?_)
  obtain ⟨l_i8, u_i8, n_i8, -⟩ := hp484
  have r_i8 : ir i8 := ⟨by omega, by omega⟩
  show GO mX5_factors_8 K V (VS K (fun V1 => (vi V1 x 4 = vi V x 4 ∧ (vi V x 5 ≠ 0 → vi V1 x 5 ≠ 0)))) K Wi8 0 0 6 [some (.ref x), some (ti i8), none] []
  refine GO.iload_n dX5_factors_6 rfl rfl ?_
  refine GO.sipush dX5_factors_7 rfl ?_
  refine GO.icmp_ge (tgt := 91) dX5_factors_10 (by decide) r_i8 (ir_c rfl) (fun c485 => ?_) (fun c485 => ?_)
  ·
    have q486 : -2147483648 ≤ vi Wi8 x 4 ∧ vi Wi8 x 4 ≤ 2147483647 := vi_ir
    have q487 : -2147483648 ≤ vi Wi8 x 5 ∧ vi Wi8 x 5 ≤ 2147483647 := vi_ir
    exact GO.retv rfl rfl dX5_factors_91 ⟨rfl, rfl, by omega⟩
  ·
    refine GO.aload_n dX5_factors_13 rfl rfl ?_
    refine GO.getI h_x fl_RX5_18 rfl rfl dX5_factors_14 (fun _ _ => ?_)
    refine GO.if_ne (tgt := 91) dX5_factors_17 (by decide) vi_ir (fun c488 => ?_) (fun c488 => ?_)
    ·
      have q489 : -2147483648 ≤ vi Wi8 x 4 ∧ vi Wi8 x 4 ≤ 2147483647 := vi_ir
      have q490 : -2147483648 ≤ vi Wi8 x 5 ∧ vi Wi8 x 5 ≤ 2147483647 := vi_ir
      exact GO.retv rfl rfl dX5_factors_91 ⟨rfl, rfl, by omega⟩
    ·
      refine GO.aload_n dX5_factors_20 rfl rfl ?_
      refine GO.callV (ci := 4) (N := mX5_next) dX5_factors_21 (RX5, TX5, 7) rfl gV_RX5_61 h_x (t_X5_next h_x) rfl [] rfl rfl (Nat.le_of_ble_eq_true rfl) rfl (k_ip fun X491 r492 h493 => ?_)
      refine GO.callS (N := mX5_isFactorSign) dX5_factors_24 gS_RX5_114 (t_X5_isFactorSign r492) rfl [] rfl rfl (Nat.le_of_ble_eq_true rfl) rfl (k_ip fun X494 r495 h496 => ?_)
      refine GO.if_eq (tgt := 91) dX5_factors_27 (by decide) r495 (fun c497 => ?_) (fun c497 => ?_)
      ·
        have q498 : -2147483648 ≤ vi Wi8 x 4 ∧ vi Wi8 x 4 ≤ 2147483647 := vi_ir
        have q499 : -2147483648 ≤ vi Wi8 x 5 ∧ vi Wi8 x 5 ≤ 2147483647 := vi_ir
        exact GO.retv rfl rfl dX5_factors_91 ⟨rfl, rfl, by omega⟩
      ·
        refine GO.aload_n dX5_factors_30 rfl rfl ?_
        refine GO.callV (ci := 4) (N := mX5_next) dX5_factors_31 (RX5, TX5, 7) rfl gV_RX5_61 h_x (t_X5_next h_x) rfl [] rfl rfl (Nat.le_of_ble_eq_true rfl) rfl (k_ip fun X500 r501 h502 => ?_)
        refine GO.bipush dX5_factors_34 rfl ?_
        have hj509 : ∀ (z508 : Int), ∀ (l510 : 7 ≤ z508), ∀ (u511 : z508 ≤ 9), GO mX5_factors_8 K V (VS K (fun V1 => (vi V1 x 4 = vi V x 4 ∧ (vi V x 5 ≠ 0 → vi V1 x 5 ≠ 0)))) K Wi8 0 0 60 [some (.ref x), some (ti i8), none] [ti z508] := by
          intro z508 l510 u511
          have r512 : ir z508 := ⟨by omega, by omega⟩
          refine GO.istore_n (ls1 := [some (.ref x), some (ti i8), some (ti z508)]) dX5_factors_60 rfl rfl rfl ?_
          refine GO.aload_n dX5_factors_61 rfl rfl ?_
          refine GO.dup dX5_factors_62 rfl ?_
          refine GO.getI h_x fl_RX5_9 rfl rfl dX5_factors_63 (fun _ _ => ?_)
          refine GO.iconst dX5_factors_66 ?_
          refine GO.iadd dX5_factors_67 ?_
          refine GO.norm (fun z513 r514 hn515 => ?_)
          refine GO.putI h_x fp_RX5_9 rfl (by decide +kernel) r514 (r514).1 (r514).2 dX5_factors_68 (fun V517 e516 => ?_)
          refine GO.aload_n dX5_factors_71 rfl rfl ?_
          have e518 : vi V517 x 5 = vi Wi8 x 5 := vi_up e516 (Or.inr (by decide))
          have e519 : vi V517 x 4 = vi Wi8 x 4 := vi_up e516 (Or.inr (by decide))
          have q520 : -2147483648 ≤ vi Wi8 x 4 ∧ vi Wi8 x 4 ≤ 2147483647 := vi_ir
          have q521 : -2147483648 ≤ vi Wi8 x 5 ∧ vi Wi8 x 5 ≤ 2147483647 := vi_ir
          refine GO.callV (ci := 4) (N := mX5_factor_8) dX5_factors_72 (RX5, TX5, 7) rfl gV_RX5_111 h_x (t_X5_factor_8 h_x (by omega)) rfl [] rfl rfl (Nat.le_of_ble_eq_true rfl) rfl (k_vs fun V524 h523 hF522 => ?_)
          refine GO.aload_n dX5_factors_75 rfl rfl ?_
          refine GO.getR h_x fl_RX5_31 rfl rfl dX5_factors_76 (fun hv528 h527 => ?_)
          refine GO.iload_n dX5_factors_79 rfl rfl ?_
          refine GO.iconst dX5_factors_80 ?_
          refine GO.callV (ci := 8) (N := mX9_addStep) dX5_factors_81 (RX9, TX9, 5) rfl gV_RX5_92 h527 (t_X9_addStep h527 r512 (ir_c rfl)) rfl [] rfl rfl (Nat.le_of_ble_eq_true rfl) rfl (k_is fun X529 V533 r530 h531 hF532 => ?_)
          refine GO.pop dX5_factors_84 rfl ?_
          refine GO.iinc (X := i8) (n := 1) (Y := i8 + 1) (ls1 := [some (.ref x), some (ti (i8 + 1)), some (ti z508)]) dX5_factors_85 rfl rfl rfl rfl ?_
          refine GO.goto (tgt := 6) dX5_factors_88 (by decide) ?_
          refine GO.drop [true, true, false] rfl ?_
          have e534 : vi V533 x 4 = vi V524 x 4 := vi_fr hF532 h_x h_x (by decide +kernel)
          have q535 : -2147483648 ≤ vi V524 x 4 ∧ vi V524 x 4 ≤ 2147483647 := vi_ir
          have e536 : vi V533 x 5 = vi V524 x 5 := vi_fr hF532 h_x h_x (by decide +kernel)
          have q537 : -2147483648 ≤ vi V524 x 5 ∧ vi V524 x 5 ≤ 2147483647 := vi_ir
          exact ih483 (i8 + 1) V533 ⟨by omega, by omega, by omega, trivial⟩ (by show (2147483647 - (i8 + 1)).toNat < (2147483647 - i8).toNat; omega)
        refine GO.icmp_ne (tgt := 44) dX5_factors_36 (by decide) r501 (ir_c rfl) (fun c538 => ?_) (fun c538 => ?_)
        ·
          refine GO.aload_n dX5_factors_44 rfl rfl ?_
          refine GO.callV (ci := 4) (N := mX5_next) dX5_factors_45 (RX5, TX5, 7) rfl gV_RX5_61 h_x (t_X5_next h_x) rfl [] rfl rfl (Nat.le_of_ble_eq_true rfl) rfl (k_ip fun X539 r540 h541 => ?_)
          refine GO.bipush dX5_factors_48 rfl ?_
          refine GO.icmp_ne (tgt := 58) dX5_factors_50 (by decide) r540 (ir_c rfl) (fun c542 => ?_) (fun c542 => ?_)
          ·
            refine GO.bipush dX5_factors_58 rfl ?_
            exact hj509 9 (by omega) (by omega)
          ·
            refine GO.bipush dX5_factors_53 rfl ?_
            refine GO.goto (tgt := 60) dX5_factors_55 (by decide) ?_
            exact hj509 8 (by omega) (by omega)
        ·
          refine GO.bipush dX5_factors_39 rfl ?_
          refine GO.goto (tgt := 60) dX5_factors_41 (by decide) ?_
          exact hj509 7 (by omega) (by omega)

theorem t_X5_factors_8 {K : Kmap} {V : Vmap} {x : Nat} (h_x : K x = some (0, 4)) (q_0 : (vi V x 5 ≠ 0 ∨ (vi V x 5 = 0 ∧ vi V x 4 ≥ 1 ∧ vi V x 4 ≤ 8))) : MC mX5_factors_8 K V [.ref x] (VS K (fun V1 => (vi V1 x 4 = vi V x 4 ∧ (vi V x 5 ≠ 0 → vi V1 x 5 ≠ 0)))) := by
  rcases q_0 with h | h
  · exact t_X5_factors_8_F h_x (by omega)
  · exact t_X5_factors_8_G h_x (by omega) (by omega) (by omega)

set_option maxHeartbeats 1000000 in
theorem t_X5_terms_8_F {K : Kmap} {V : Vmap} {x : Nat} (h_x : K x = some (0, 4)) (q_0 : vi V x 5 ≠ 0) : MC mX5_terms_8 K V [.ref x] (VS K (fun V1 => (vi V1 x 4 = vi V x 4 ∧ (vi V x 5 ≠ 0 → vi V1 x 5 ≠ 0)))) := by
  refine MC.start 2 (by decide +kernel) rfl rfl rfl (ls0 := [some (.ref x), none, none]) rfl ?_
  refine GO.aload_n dX5_terms_0 rfl rfl ?_
  have q1 : -2147483648 ≤ vi V x 4 ∧ vi V x 4 ≤ 2147483647 := vi_ir
  have q2 : -2147483648 ≤ vi V x 5 ∧ vi V x 5 ≤ 2147483647 := vi_ir
  refine GO.callV (ci := 4) (N := mX5_factors_8) dX5_terms_1 (RX5, TX5, 7) rfl gV_RX5_108 h_x (t_X5_factors_8 h_x (by omega)) rfl [] rfl rfl (Nat.le_of_ble_eq_true rfl) rfl (k_vs fun V5 h4 hF3 => ?_)
  refine GO.iconst dX5_terms_4 ?_
  refine GO.istore_n (ls1 := [some (.ref x), some (ti 0), none]) dX5_terms_5 rfl rfl rfl ?_
  have q9 : -2147483648 ≤ vi V5 x 4 ∧ vi V5 x 4 ≤ 2147483647 := vi_ir
  have q10 : -2147483648 ≤ vi V5 x 5 ∧ vi V5 x 5 ≤ 2147483647 := vi_ir
  refine GO.loop1 (fun i8 W => 0 ≤ i8 ∧ i8 ≤ 0 ∧ (vi W x 4 = vi V5 x 4 ∧ (vi V5 x 5 ≠ 0 → vi W x 5 ≠ 0)) ∧ True) (fun i8 => [some (.ref x), some (ti i8), none]) (fun i8 W => (2147483647 - i8).toNat) 0 ⟨by omega, by omega, by omega, trivial⟩ rfl (fun i8 Wi8 hp16 ih15 => ?_)
  obtain ⟨l_i8, u_i8, n_i8, -⟩ := hp16
  have r_i8 : ir i8 := ⟨by omega, by omega⟩
  show GO mX5_terms_8 K V (VS K (fun V1 => (vi V1 x 4 = vi V x 4 ∧ (vi V x 5 ≠ 0 → vi V1 x 5 ≠ 0)))) K Wi8 0 0 6 [some (.ref x), some (ti i8), none] []
  refine GO.iload_n dX5_terms_6 rfl rfl ?_
  refine GO.sipush dX5_terms_7 rfl ?_
  refine GO.icmp_ge (tgt := 84) dX5_terms_10 (by decide) r_i8 (ir_c rfl) (fun h => by exfalso; omega) (fun c17 => ?_)
  refine GO.aload_n dX5_terms_13 rfl rfl ?_
  refine GO.getI h_x fl_RX5_18 rfl rfl dX5_terms_14 (fun _ _ => ?_)
  have q19 : -2147483648 ≤ vi Wi8 x 5 ∧ vi Wi8 x 5 ≤ 2147483647 := vi_ir
  refine GO.if_ne (tgt := 84) dX5_terms_17 (by decide) vi_ir (fun c18 => ?_) (fun h => by exfalso; omega)
  have q20 : -2147483648 ≤ vi Wi8 x 4 ∧ vi Wi8 x 4 ≤ 2147483647 := vi_ir
  exact GO.retv rfl rfl dX5_terms_84 ⟨rfl, rfl, by omega⟩

set_option maxHeartbeats 1000000 in
theorem t_X5_terms_8_G {K : Kmap} {V : Vmap} {x : Nat} (h_x : K x = some (0, 4)) (q_0 : vi V x 5 = 0) (q_1 : vi V x 4 ≥ 1) (q_2 : vi V x 4 ≤ 8) : MC mX5_terms_8 K V [.ref x] (VS K (fun V1 => (vi V1 x 4 = vi V x 4 ∧ (vi V x 5 ≠ 0 → vi V1 x 5 ≠ 0)))) := by
  refine MC.start 2 (by decide +kernel) rfl rfl rfl (ls0 := [some (.ref x), none, none]) rfl ?_
  refine GO.aload_n dX5_terms_0 rfl rfl ?_
  have q1 : -2147483648 ≤ vi V x 4 ∧ vi V x 4 ≤ 2147483647 := vi_ir
  have q2 : -2147483648 ≤ vi V x 5 ∧ vi V x 5 ≤ 2147483647 := vi_ir
  refine GO.callV (ci := 4) (N := mX5_factors_8) dX5_terms_1 (RX5, TX5, 7) rfl gV_RX5_108 h_x (t_X5_factors_8 h_x (by omega)) rfl [] rfl rfl (Nat.le_of_ble_eq_true rfl) rfl (k_vs fun V5 h4 hF3 => ?_)
  refine GO.iconst dX5_terms_4 ?_
  refine GO.istore_n (ls1 := [some (.ref x), some (ti 0), none]) dX5_terms_5 rfl rfl rfl ?_
  have q9 : -2147483648 ≤ vi V5 x 4 ∧ vi V5 x 4 ≤ 2147483647 := vi_ir
  have q10 : -2147483648 ≤ vi V5 x 5 ∧ vi V5 x 5 ≤ 2147483647 := vi_ir
  refine GO.loop1 (fun i8 W => 0 ≤ i8 ∧ i8 ≤ 200 ∧ (vi W x 4 = vi V5 x 4 ∧ (vi V5 x 5 ≠ 0 → vi W x 5 ≠ 0)) ∧ True) (fun i8 => [some (.ref x), some (ti i8), none]) (fun i8 W => (2147483647 - i8).toNat) 0 ⟨by omega, by omega, by omega, trivial⟩ rfl (fun i8 Wi8 hp493 ih492 => ?_)
  obtain ⟨l_i8, u_i8, n_i8, -⟩ := hp493
  have r_i8 : ir i8 := ⟨by omega, by omega⟩
  show GO mX5_terms_8 K V (VS K (fun V1 => (vi V1 x 4 = vi V x 4 ∧ (vi V x 5 ≠ 0 → vi V1 x 5 ≠ 0)))) K Wi8 0 0 6 [some (.ref x), some (ti i8), none] []
  refine GO.iload_n dX5_terms_6 rfl rfl ?_
  refine GO.sipush dX5_terms_7 rfl ?_
  refine GO.icmp_ge (tgt := 84) dX5_terms_10 (by decide) r_i8 (ir_c rfl) (fun c494 => ?_) (fun c494 => ?_)
  ·
    have q495 : -2147483648 ≤ vi Wi8 x 4 ∧ vi Wi8 x 4 ≤ 2147483647 := vi_ir
    have q496 : -2147483648 ≤ vi Wi8 x 5 ∧ vi Wi8 x 5 ≤ 2147483647 := vi_ir
    exact GO.retv rfl rfl dX5_terms_84 ⟨rfl, rfl, by omega⟩
  ·
    refine GO.aload_n dX5_terms_13 rfl rfl ?_
    refine GO.getI h_x fl_RX5_18 rfl rfl dX5_terms_14 (fun _ _ => ?_)
    refine GO.if_ne (tgt := 84) dX5_terms_17 (by decide) vi_ir (fun c497 => ?_) (fun c497 => ?_)
    ·
      have q498 : -2147483648 ≤ vi Wi8 x 4 ∧ vi Wi8 x 4 ≤ 2147483647 := vi_ir
      have q499 : -2147483648 ≤ vi Wi8 x 5 ∧ vi Wi8 x 5 ≤ 2147483647 := vi_ir
      exact GO.retv rfl rfl dX5_terms_84 ⟨rfl, rfl, by omega⟩
    ·
      refine GO.aload_n dX5_terms_20 rfl rfl ?_
      refine GO.callV (ci := 4) (N := mX5_next) dX5_terms_21 (RX5, TX5, 7) rfl gV_RX5_61 h_x (t_X5_next h_x) rfl [] rfl rfl (Nat.le_of_ble_eq_true rfl) rfl (k_ip fun X500 r501 h502 => ?_)
      refine GO.bipush dX5_terms_24 rfl ?_
      have hj510 : GO mX5_terms_8 K V (VS K (fun V1 => (vi V1 x 4 = vi V x 4 ∧ (vi V x 5 ≠ 0 → vi V1 x 5 ≠ 0)))) K Wi8 0 0 38 [some (.ref x), some (ti i8), none] [] := by
        skip
        refine GO.aload_n dX5_terms_38 rfl rfl ?_
        refine GO.callV (ci := 4) (N := mX5_next) dX5_terms_39 (RX5, TX5, 7) rfl gV_RX5_61 h_x (t_X5_next h_x) rfl [] rfl rfl (Nat.le_of_ble_eq_true rfl) rfl (k_ip fun X511 r512 h513 => ?_)
        refine GO.bipush dX5_terms_42 rfl ?_
        have hj516 : ∀ (z515 : Int), ∀ (l517 : 5 ≤ z515), ∀ (u518 : z515 ≤ 6), GO mX5_terms_8 K V (VS K (fun V1 => (vi V1 x 4 = vi V x 4 ∧ (vi V x 5 ≠ 0 → vi V1 x 5 ≠ 0)))) K Wi8 0 0 53 [some (.ref x), some (ti i8), none] [ti z515] := by
          intro z515 l517 u518
          have r519 : ir z515 := ⟨by omega, by omega⟩
          refine GO.istore_n (ls1 := [some (.ref x), some (ti i8), some (ti z515)]) dX5_terms_53 rfl rfl rfl ?_
          refine GO.aload_n dX5_terms_54 rfl rfl ?_
          refine GO.dup dX5_terms_55 rfl ?_
          refine GO.getI h_x fl_RX5_9 rfl rfl dX5_terms_56 (fun _ _ => ?_)
          refine GO.iconst dX5_terms_59 ?_
          refine GO.iadd dX5_terms_60 ?_
          refine GO.norm (fun z520 r521 hn522 => ?_)
          refine GO.putI h_x fp_RX5_9 rfl (by decide +kernel) r521 (r521).1 (r521).2 dX5_terms_61 (fun V524 e523 => ?_)
          refine GO.aload_n dX5_terms_64 rfl rfl ?_
          have e525 : vi V524 x 5 = vi Wi8 x 5 := vi_up e523 (Or.inr (by decide))
          have e526 : vi V524 x 4 = vi Wi8 x 4 := vi_up e523 (Or.inr (by decide))
          have q527 : -2147483648 ≤ vi Wi8 x 4 ∧ vi Wi8 x 4 ≤ 2147483647 := vi_ir
          have q528 : -2147483648 ≤ vi Wi8 x 5 ∧ vi Wi8 x 5 ≤ 2147483647 := vi_ir
          refine GO.callV (ci := 4) (N := mX5_factors_8) dX5_terms_65 (RX5, TX5, 7) rfl gV_RX5_108 h_x (t_X5_factors_8 h_x (by omega)) rfl [] rfl rfl (Nat.le_of_ble_eq_true rfl) rfl (k_vs fun V531 h530 hF529 => ?_)
          refine GO.aload_n dX5_terms_68 rfl rfl ?_
          refine GO.getR h_x fl_RX5_31 rfl rfl dX5_terms_69 (fun hv535 h534 => ?_)
          refine GO.iload_n dX5_terms_72 rfl rfl ?_
          refine GO.iconst dX5_terms_73 ?_
          refine GO.callV (ci := 8) (N := mX9_addStep) dX5_terms_74 (RX9, TX9, 5) rfl gV_RX5_92 h534 (t_X9_addStep h534 r519 (ir_c rfl)) rfl [] rfl rfl (Nat.le_of_ble_eq_true rfl) rfl (k_is fun X536 V540 r537 h538 hF539 => ?_)
          refine GO.pop dX5_terms_77 rfl ?_
          refine GO.iinc (X := i8) (n := 1) (Y := i8 + 1) (ls1 := [some (.ref x), some (ti (i8 + 1)), some (ti z515)]) dX5_terms_78 rfl rfl rfl rfl ?_
          refine GO.goto (tgt := 6) dX5_terms_81 (by decide) ?_
          refine GO.drop [true, true, false] rfl ?_
          have e541 : vi V540 x 4 = vi V531 x 4 := vi_fr hF539 h_x h_x (by decide +kernel)
          have q542 : -2147483648 ≤ vi V531 x 4 ∧ vi V531 x 4 ≤ 2147483647 := vi_ir
          have e543 : vi V540 x 5 = vi V531 x 5 := vi_fr hF539 h_x h_x (by decide +kernel)
          have q544 : -2147483648 ≤ vi V531 x 5 ∧ vi V531 x 5 ≤ 2147483647 := vi_ir
          exact ih492 (i8 + 1) V540 ⟨by omega, by omega, by omega, trivial⟩ (by show (2147483647 - (i8 + 1)).toNat < (2147483647 - i8).toNat; omega)
        refine GO.icmp_ne (tgt := 51) dX5_terms_44 (by decide) r512 (ir_c rfl) (fun c545 => ?_) (fun c545 => ?_)
        ·
          refine GO.bipush dX5_terms_51 rfl ?_
          exact hj516 6 (by omega) (by omega)
        ·
          refine GO.iconst dX5_terms_47 ?_
          refine GO.goto (tgt := 53) dX5_terms_48 (by decide) ?_
          exact hj516 5 (by omega) (by omega)
      refine GO.icmp_eq (tgt := 38) dX5_terms_26 (by decide) r501 (ir_c rfl) (fun c546 => ?_) (fun c546 => ?_)
      ·
        exact hj510 
      ·
        refine GO.aload_n dX5_terms_29 rfl rfl ?_
        refine GO.callV (ci := 4) (N := mX5_next) dX5_terms_30 (RX5, TX5, 7) rfl gV_RX5_61 h_x (t_X5_next h_x) rfl [] rfl rfl (Nat.le_of_ble_eq_true rfl) rfl (k_ip fun X547 r548 h549 => ?_)
        refine GO.bipush dX5_terms_33 rfl ?_
        refine GO.icmp_ne (tgt := 84) dX5_terms_35 (by decide) r548 (ir_c rfl) (fun c550 => ?_) (fun c550 => ?_)
        ·
          have q551 : -2147483648 ≤ vi Wi8 x 4 ∧ vi Wi8 x 4 ≤ 2147483647 := vi_ir
          have q552 : -2147483648 ≤ vi Wi8 x 5 ∧ vi Wi8 x 5 ≤ 2147483647 := vi_ir
          exact GO.retv rfl rfl dX5_terms_84 ⟨rfl, rfl, by omega⟩
        ·
          exact hj510 

theorem t_X5_terms_8 {K : Kmap} {V : Vmap} {x : Nat} (h_x : K x = some (0, 4)) (q_0 : (vi V x 5 ≠ 0 ∨ (vi V x 5 = 0 ∧ vi V x 4 ≥ 1 ∧ vi V x 4 ≤ 8))) : MC mX5_terms_8 K V [.ref x] (VS K (fun V1 => (vi V1 x 4 = vi V x 4 ∧ (vi V x 5 ≠ 0 → vi V1 x 5 ≠ 0)))) := by
  rcases q_0 with h | h
  · exact t_X5_terms_8_F h_x (by omega)
  · exact t_X5_terms_8_G h_x (by omega) (by omega) (by omega)

set_option maxHeartbeats 1000000 in
theorem t_X5_comparison {K : Kmap} {V : Vmap} {x : Nat} {p0 : Int} (h_x : K x = some (0, 4)) (r_p0 : ir p0) : MC mX5_comparison K V [.ref x, ti p0] (IS K (fun X V1 => (vi V x 5 ≠ 0 → vi V1 x 5 ≠ 0))) := by
  refine MC.start 0 (by decide +kernel) rfl rfl rfl (ls0 := [some (.ref x), some (ti p0)]) rfl ?_
  refine GO.iload_n dX5_comparison_0 rfl rfl ?_
  refine GO.bipush dX5_comparison_1 rfl ?_
  refine GO.icmp_eq (tgt := 27) dX5_comparison_3 (by decide) r_p0 (ir_c rfl) (fun c1 => ?_) (fun c1 => ?_)
  ·
    refine GO.iload_n dX5_comparison_27 rfl rfl ?_
    refine GO.bipush dX5_comparison_28 rfl ?_
    have q3 : -2147483648 ≤ p0 ∧ p0 ≤ 2147483647 := r_p0
    refine GO.icmp_ne (tgt := 38) dX5_comparison_30 (by decide) r_p0 (ir_c rfl) (fun h => by exfalso; omega) (fun c2 => ?_)
    refine GO.bipush dX5_comparison_33 rfl ?_
    refine GO.goto (tgt := 51) dX5_comparison_35 (by decide) ?_
    have q4 : -2147483648 ≤ vi V x 5 ∧ vi V x 5 ≤ 2147483647 := vi_ir
    exact GO.reti rfl rfl dX5_comparison_51 ⟨rfl, _, rfl, (ir_c rfl), by omega⟩
  ·
    refine GO.iload_n dX5_comparison_6 rfl rfl ?_
    refine GO.bipush dX5_comparison_7 rfl ?_
    refine GO.icmp_eq (tgt := 27) dX5_comparison_9 (by decide) r_p0 (ir_c rfl) (fun c5 => ?_) (fun c5 => ?_)
    ·
      refine GO.iload_n dX5_comparison_27 rfl rfl ?_
      refine GO.bipush dX5_comparison_28 rfl ?_
      have q7 : -2147483648 ≤ p0 ∧ p0 ≤ 2147483647 := r_p0
      refine GO.icmp_ne (tgt := 38) dX5_comparison_30 (by decide) r_p0 (ir_c rfl) (fun c6 => ?_) (fun h => by exfalso; omega)
      refine GO.iload_n dX5_comparison_38 rfl rfl ?_
      refine GO.bipush dX5_comparison_39 rfl ?_
      refine GO.icmp_ne (tgt := 49) dX5_comparison_41 (by decide) r_p0 (ir_c rfl) (fun h => by exfalso; omega) (fun c8 => ?_)
      refine GO.bipush dX5_comparison_44 rfl ?_
      refine GO.goto (tgt := 51) dX5_comparison_46 (by decide) ?_
      have q9 : -2147483648 ≤ vi V x 5 ∧ vi V x 5 ≤ 2147483647 := vi_ir
      exact GO.reti rfl rfl dX5_comparison_51 ⟨rfl, _, rfl, (ir_c rfl), by omega⟩
    ·
      refine GO.iload_n dX5_comparison_12 rfl rfl ?_
      refine GO.bipush dX5_comparison_13 rfl ?_
      refine GO.icmp_eq (tgt := 27) dX5_comparison_15 (by decide) r_p0 (ir_c rfl) (fun c10 => ?_) (fun c10 => ?_)
      ·
        refine GO.iload_n dX5_comparison_27 rfl rfl ?_
        refine GO.bipush dX5_comparison_28 rfl ?_
        have q12 : -2147483648 ≤ p0 ∧ p0 ≤ 2147483647 := r_p0
        refine GO.icmp_ne (tgt := 38) dX5_comparison_30 (by decide) r_p0 (ir_c rfl) (fun c11 => ?_) (fun h => by exfalso; omega)
        refine GO.iload_n dX5_comparison_38 rfl rfl ?_
        refine GO.bipush dX5_comparison_39 rfl ?_
        refine GO.icmp_ne (tgt := 49) dX5_comparison_41 (by decide) r_p0 (ir_c rfl) (fun c13 => ?_) (fun h => by exfalso; omega)
        refine GO.bipush dX5_comparison_49 rfl ?_
        have q14 : -2147483648 ≤ vi V x 5 ∧ vi V x 5 ≤ 2147483647 := vi_ir
        exact GO.reti rfl rfl dX5_comparison_51 ⟨rfl, _, rfl, (ir_c rfl), by omega⟩
      ·
        refine GO.aload_n dX5_comparison_18 rfl rfl ?_
        refine GO.iconst dX5_comparison_19 ?_
        refine GO.aload_n dX5_comparison_20 rfl rfl ?_
        refine GO.getI h_x fl_RX5_9 rfl rfl dX5_comparison_21 (fun _ _ => ?_)
        refine GO.callV (ci := 4) (N := mX5_refuse) dX5_comparison_24 (RX5, TX5, 7) rfl gV_RX5_57 h_x (t_X5_refuse h_x (ir_c rfl) vi_ir (by omega)) rfl [] rfl rfl (Nat.le_of_ble_eq_true rfl) rfl (k_vs fun V17 h16 hF15 => ?_)
        refine GO.iload_n dX5_comparison_27 rfl rfl ?_
        refine GO.bipush dX5_comparison_28 rfl ?_
        have q20 : -2147483648 ≤ p0 ∧ p0 ≤ 2147483647 := r_p0
        refine GO.icmp_ne (tgt := 38) dX5_comparison_30 (by decide) r_p0 (ir_c rfl) (fun c19 => ?_) (fun h => by exfalso; omega)
        refine GO.iload_n dX5_comparison_38 rfl rfl ?_
        refine GO.bipush dX5_comparison_39 rfl ?_
        refine GO.icmp_ne (tgt := 49) dX5_comparison_41 (by decide) r_p0 (ir_c rfl) (fun c21 => ?_) (fun h => by exfalso; omega)
        refine GO.bipush dX5_comparison_49 rfl ?_
        have q22 : -2147483648 ≤ vi V x 5 ∧ vi V x 5 ≤ 2147483647 := vi_ir
        have q23 : -2147483648 ≤ vi V17 x 5 ∧ vi V17 x 5 ≤ 2147483647 := vi_ir
        exact GO.reti rfl rfl dX5_comparison_51 ⟨rfl, _, rfl, (ir_c rfl), by omega⟩

set_option maxHeartbeats 1000000 in
theorem t_X5_piece_0_F {K : Kmap} {V : Vmap} {x : Nat} (h_x : K x = some (0, 4)) (q_0 : vi V x 5 ≠ 0) : MC mX5_piece_0 K V [.ref x] (VS K (fun V1 => (vi V1 x 4 = vi V x 4 ∧ (vi V x 5 ≠ 0 → vi V1 x 5 ≠ 0)))) := by
  refine MC.start 2 (by decide +kernel) rfl rfl rfl (ls0 := [some (.ref x), none, none]) rfl ?_
  refine GO.aload_n dX5_piece_0 rfl rfl ?_
  refine GO.getI h_x fl_RX5_18 rfl rfl dX5_piece_1 (fun _ _ => ?_)
  have q2 : -2147483648 ≤ vi V x 5 ∧ vi V x 5 ≤ 2147483647 := vi_ir
  refine GO.if_eq (tgt := 8) dX5_piece_4 (by decide) vi_ir (fun h => by exfalso; omega) (fun c1 => ?_)
  have q3 : -2147483648 ≤ vi V x 4 ∧ vi V x 4 ≤ 2147483647 := vi_ir
  exact GO.retv rfl rfl dX5_piece_7 ⟨rfl, rfl, by omega⟩

theorem t_X5_piece_0 {K : Kmap} {V : Vmap} {x : Nat} (h_x : K x = some (0, 4)) (q_0 : vi V x 5 ≠ 0) : MC mX5_piece_0 K V [.ref x] (VS K (fun V1 => (vi V1 x 4 = vi V x 4 ∧ (vi V x 5 ≠ 0 → vi V1 x 5 ≠ 0)))) := by
  exact t_X5_piece_0_F h_x (by omega)

set_option maxHeartbeats 1000000 in
theorem t_X9_lead {K : Kmap} {V : Vmap} {x : Nat} {p0 : Int} (h_x : K x = some (0, 8)) (r_p0 : ir p0) : MC mX9_lead K V [.ref x, ti p0] (VS K (fun V1 => (True))) := by
  refine MC.start 0 (by decide +kernel) rfl rfl rfl (ls0 := [some (.ref x), some (ti p0)]) rfl ?_
  refine GO.iload_n dX9_lead_0 rfl rfl ?_
  refine GO.iconst dX9_lead_1 ?_
  refine GO.icmp_eq (tgt := 31) dX9_lead_2 (by decide) r_p0 (ir_c rfl) (fun c1 => ?_) (fun c1 => ?_)
  ·
    exact GO.retv rfl rfl dX9_lead_31 ⟨rfl, rfl, trivial⟩
  ·
    refine GO.aload_n dX9_lead_5 rfl rfl ?_
    refine GO.getB h_x fl_RX9_36 rfl rfl dX9_lead_6 (fun n4 hv3 h2 b5 => ?_)
    refine GO.iload_n dX9_lead_9 rfl rfl ?_
    refine GO.aload_n dX9_lead_10 rfl rfl ?_
    refine GO.getI h_x fl_RX9_9 rfl rfl dX9_lead_11 (fun _ _ => ?_)
    refine GO.iconst dX9_lead_14 ?_
    refine GO.ishl dX9_lead_15 ?_
    refine GO.aload_n dX9_lead_16 rfl rfl ?_
    refine GO.getRaw h_x fl_RX9_36 hv3 dX9_lead_17 ?_
    refine GO.iload_n dX9_lead_20 rfl rfl ?_
    refine GO.callS (N := mX4_get) dX9_lead_21 gS_RX9_53 (t_X4_get rfl h2 r_p0) rfl [ti (wshl (vi V x 4) 5), ti p0, .ref (vq V x 3)] rfl rfl (Nat.le_of_ble_eq_true rfl) rfl (k_ip fun X8 r9 h10 => ?_)
    have raw_get := h10.2
    have rw21 := h10.2
    refine GO.bipush dX9_lead_24 rfl ?_
    refine GO.iand dX9_lead_26 ?_
    refine GO.ior dX9_lead_27 ?_
    refine GO.callS (N := mX4_put_t144) dX9_lead_28 gS_RX9_47 (t_X4_put_t144 h2 r_p0 wor_ir) rfl [] rfl rfl (Nat.le_of_ble_eq_true rfl) rfl (k_vs fun V13 h12 hF11 => ?_)
    have raw_put := h12.2
    have rw28 := h12.2
    exact GO.retv rfl rfl dX9_lead_31 ⟨rfl, rfl, trivial⟩

set_option maxHeartbeats 1000000 in
theorem t_X5_part_0_F {K : Kmap} {V : Vmap} {x : Nat} (h_x : K x = some (0, 4)) (q_0 : vi V x 5 ≠ 0) : MC mX5_part_0 K V [.ref x] (VS K (fun V1 => (vi V1 x 4 = vi V x 4 ∧ (vi V x 5 ≠ 0 → vi V1 x 5 ≠ 0)))) := by
  refine MC.start 2 (by decide +kernel) rfl rfl rfl (ls0 := [some (.ref x), none, none]) rfl ?_
  refine GO.iconst dX5_part_0 ?_
  refine GO.istore_n (ls1 := [some (.ref x), some (ti (-1)), none]) dX5_part_1 rfl rfl rfl ?_
  refine GO.aload_n dX5_part_2 rfl rfl ?_
  have q1 : -2147483648 ≤ vi V x 5 ∧ vi V x 5 ≤ 2147483647 := vi_ir
  refine GO.callV (ci := 4) (N := mX5_piece_0) dX5_part_3 (RX5, TX5, 7) rfl gV_RX5_96 h_x (t_X5_piece_0 h_x (by omega)) rfl [] rfl rfl (Nat.le_of_ble_eq_true rfl) rfl (k_vs fun V4 h3 hF2 => ?_)
  have e5 : vi V4 x 4 = vi V x 4 := vi_fr hF2 h_x h_x (by decide +kernel)
  have e6 : vi V4 x 5 = vi V x 5 := vi_fr hF2 h_x h_x (by decide +kernel)
  refine GO.iconst dX5_part_6 ?_
  refine GO.istore_n (ls1 := [some (.ref x), some (ti (-1)), some (ti 0)]) dX5_part_7 rfl rfl rfl ?_
  have q9 : -2147483648 ≤ vi V x 4 ∧ vi V x 4 ≤ 2147483647 := vi_ir
  refine GO.loop2 (fun i7 i8 W => (-1) ≤ i7 ∧ i7 ≤ (-1) ∧ 0 ≤ i8 ∧ i8 ≤ 0 ∧ (vi W x 4 = vi V4 x 4 ∧ (vi V4 x 5 ≠ 0 → vi W x 5 ≠ 0)) ∧ True) (fun i7 i8 => [some (.ref x), some (ti i7), some (ti i8)]) (fun i7 i8 W => (2147483647 - i7).toNat) (-1) 0 ⟨by omega, by omega, by omega, by omega, by omega, trivial⟩ rfl (fun i7 i8 Wi7 hp22 ih21 => ?_)
  obtain ⟨l_i7, u_i7, l_i8, u_i8, n_i7, -⟩ := hp22
  have r_i7 : ir i7 := ⟨by omega, by omega⟩
  have r_i8 : ir i8 := ⟨by omega, by omega⟩
  show GO mX5_part_0 K V (VS K (fun V1 => (vi V1 x 4 = vi V x 4 ∧ (vi V x 5 ≠ 0 → vi V1 x 5 ≠ 0)))) K Wi7 0 0 8 [some (.ref x), some (ti i7), some (ti i8)] []
  refine GO.iload_n dX5_part_8 rfl rfl ?_
  refine GO.sipush dX5_part_9 rfl ?_
  refine GO.icmp_ge (tgt := 69) dX5_part_12 (by decide) r_i8 (ir_c rfl) (fun h => by exfalso; omega) (fun c23 => ?_)
  refine GO.aload_n dX5_part_15 rfl rfl ?_
  refine GO.getI h_x fl_RX5_18 rfl rfl dX5_part_16 (fun _ _ => ?_)
  have q25 : -2147483648 ≤ vi Wi7 x 5 ∧ vi Wi7 x 5 ≤ 2147483647 := vi_ir
  refine GO.if_ne (tgt := 69) dX5_part_19 (by decide) vi_ir (fun c24 => ?_) (fun h => by exfalso; omega)
  refine GO.aload_n dX5_part_69 rfl rfl ?_
  refine GO.getR h_x fl_RX5_31 rfl rfl dX5_part_70 (fun hv27 h26 => ?_)
  refine GO.iload_n dX5_part_73 rfl rfl ?_
  refine GO.callV (ci := 8) (N := mX9_lead) dX5_part_74 (RX9, TX9, 5) rfl gV_RX5_89 h26 (t_X9_lead h26 r_i7) rfl [] rfl rfl (Nat.le_of_ble_eq_true rfl) rfl (k_vs fun V30 h29 hF28 => ?_)
  have e31 : vi V30 x 4 = vi Wi7 x 4 := vi_fr hF28 h_x h_x (by decide +kernel)
  have q32 : -2147483648 ≤ vi Wi7 x 4 ∧ vi Wi7 x 4 ≤ 2147483647 := vi_ir
  have e33 : vi V30 x 5 = vi Wi7 x 5 := vi_fr hF28 h_x h_x (by decide +kernel)
  exact GO.retv rfl rfl dX5_part_77 ⟨rfl, rfl, by omega⟩

theorem t_X5_part_0 {K : Kmap} {V : Vmap} {x : Nat} (h_x : K x = some (0, 4)) (q_0 : vi V x 5 ≠ 0) : MC mX5_part_0 K V [.ref x] (VS K (fun V1 => (vi V1 x 4 = vi V x 4 ∧ (vi V x 5 ≠ 0 → vi V1 x 5 ≠ 0)))) := by
  exact t_X5_part_0_F h_x (by omega)

set_option maxHeartbeats 1000000 in
theorem t_X5_parts_0_F {K : Kmap} {V : Vmap} {x : Nat} (h_x : K x = some (0, 4)) (q_0 : vi V x 5 ≠ 0) : MC mX5_parts_0 K V [.ref x] (VS K (fun V1 => (vi V1 x 4 = vi V x 4 ∧ (vi V x 5 ≠ 0 → vi V1 x 5 ≠ 0)))) := by
  refine MC.start 2 (by decide +kernel) rfl rfl rfl (ls0 := [some (.ref x), none, none]) rfl ?_
  refine GO.iconst dX5_parts_0 ?_
  refine GO.istore_n (ls1 := [some (.ref x), some (ti (-1)), none]) dX5_parts_1 rfl rfl rfl ?_
  refine GO.aload_n dX5_parts_2 rfl rfl ?_
  have q1 : -2147483648 ≤ vi V x 5 ∧ vi V x 5 ≤ 2147483647 := vi_ir
  refine GO.callV (ci := 4) (N := mX5_part_0) dX5_parts_3 (RX5, TX5, 7) rfl gV_RX5_86 h_x (t_X5_part_0 h_x (by omega)) rfl [] rfl rfl (Nat.le_of_ble_eq_true rfl) rfl (k_vs fun V4 h3 hF2 => ?_)
  have e5 : vi V4 x 4 = vi V x 4 := vi_fr hF2 h_x h_x (by decide +kernel)
  have e6 : vi V4 x 5 = vi V x 5 := vi_fr hF2 h_x h_x (by decide +kernel)
  refine GO.iconst dX5_parts_6 ?_
  refine GO.istore_n (ls1 := [some (.ref x), some (ti (-1)), some (ti 0)]) dX5_parts_7 rfl rfl rfl ?_
  have q9 : -2147483648 ≤ vi V x 4 ∧ vi V x 4 ≤ 2147483647 := vi_ir
  refine GO.loop2 (fun i7 i8 W => (-1) ≤ i7 ∧ i7 ≤ (-1) ∧ 0 ≤ i8 ∧ i8 ≤ 0 ∧ (vi W x 4 = vi V4 x 4 ∧ (vi V4 x 5 ≠ 0 → vi W x 5 ≠ 0)) ∧ True) (fun i7 i8 => [some (.ref x), some (ti i7), some (ti i8)]) (fun i7 i8 W => (2147483647 - i7).toNat) (-1) 0 ⟨by omega, by omega, by omega, by omega, by omega, trivial⟩ rfl (fun i7 i8 Wi7 hp22 ih21 => ?_)
  obtain ⟨l_i7, u_i7, l_i8, u_i8, n_i7, -⟩ := hp22
  have r_i7 : ir i7 := ⟨by omega, by omega⟩
  have r_i8 : ir i8 := ⟨by omega, by omega⟩
  show GO mX5_parts_0 K V (VS K (fun V1 => (vi V1 x 4 = vi V x 4 ∧ (vi V x 5 ≠ 0 → vi V1 x 5 ≠ 0)))) K Wi7 0 0 8 [some (.ref x), some (ti i7), some (ti i8)] []
  refine GO.iload_n dX5_parts_8 rfl rfl ?_
  refine GO.sipush dX5_parts_9 rfl ?_
  refine GO.icmp_ge (tgt := 69) dX5_parts_12 (by decide) r_i8 (ir_c rfl) (fun h => by exfalso; omega) (fun c23 => ?_)
  refine GO.aload_n dX5_parts_15 rfl rfl ?_
  refine GO.getI h_x fl_RX5_18 rfl rfl dX5_parts_16 (fun _ _ => ?_)
  have q25 : -2147483648 ≤ vi Wi7 x 5 ∧ vi Wi7 x 5 ≤ 2147483647 := vi_ir
  refine GO.if_ne (tgt := 69) dX5_parts_19 (by decide) vi_ir (fun c24 => ?_) (fun h => by exfalso; omega)
  refine GO.aload_n dX5_parts_69 rfl rfl ?_
  refine GO.getR h_x fl_RX5_31 rfl rfl dX5_parts_70 (fun hv27 h26 => ?_)
  refine GO.iload_n dX5_parts_73 rfl rfl ?_
  refine GO.callV (ci := 8) (N := mX9_lead) dX5_parts_74 (RX9, TX9, 5) rfl gV_RX5_89 h26 (t_X9_lead h26 r_i7) rfl [] rfl rfl (Nat.le_of_ble_eq_true rfl) rfl (k_vs fun V30 h29 hF28 => ?_)
  have e31 : vi V30 x 4 = vi Wi7 x 4 := vi_fr hF28 h_x h_x (by decide +kernel)
  have q32 : -2147483648 ≤ vi Wi7 x 4 ∧ vi Wi7 x 4 ≤ 2147483647 := vi_ir
  have e33 : vi V30 x 5 = vi Wi7 x 5 := vi_fr hF28 h_x h_x (by decide +kernel)
  exact GO.retv rfl rfl dX5_parts_77 ⟨rfl, rfl, by omega⟩

theorem t_X5_parts_0 {K : Kmap} {V : Vmap} {x : Nat} (h_x : K x = some (0, 4)) (q_0 : vi V x 5 ≠ 0) : MC mX5_parts_0 K V [.ref x] (VS K (fun V1 => (vi V1 x 4 = vi V x 4 ∧ (vi V x 5 ≠ 0 → vi V1 x 5 ≠ 0)))) := by
  exact t_X5_parts_0_F h_x (by omega)

set_option maxHeartbeats 1000000 in
theorem t_X5_negation_1_G {K : Kmap} {V : Vmap} {x : Nat} (h_x : K x = some (0, 4)) (q_0 : vi V x 5 = 0) (q_1 : vi V x 4 ≥ 8) (q_2 : vi V x 4 ≤ 8) : MC mX5_negation_1 K V [.ref x] (VS K (fun V1 => (vi V1 x 4 = vi V x 4 ∧ (vi V x 5 ≠ 0 → vi V1 x 5 ≠ 0)))) := by
  refine MC.start 0 (by decide +kernel) rfl rfl rfl (ls0 := [some (.ref x)]) rfl ?_
  refine GO.aload_n dX5_negation_0 rfl rfl ?_
  refine GO.bipush dX5_negation_1 rfl ?_
  have q1 : -2147483648 ≤ vi V x 4 ∧ vi V x 4 ≤ 2147483647 := vi_ir
  refine GO.callV (ci := 4) (N := mX5_deepen) dX5_negation_3 (RX5, TX5, 7) rfl gV_RX5_80 h_x (t_X5_deepen h_x (ir_c rfl) (by omega) (by omega)) rfl [] rfl rfl (Nat.le_of_ble_eq_true rfl) rfl (k_vs fun V4 h3 hF2 => ?_)
  refine GO.aload_n dX5_negation_6 rfl rfl ?_
  have q7 : -2147483648 ≤ vi V4 x 5 ∧ vi V4 x 5 ≤ 2147483647 := vi_ir
  refine GO.callV (ci := 4) (N := mX5_piece_0) dX5_negation_7 (RX5, TX5, 7) rfl gV_RX5_96 h_x (t_X5_piece_0 h_x (by omega)) rfl [] rfl rfl (Nat.le_of_ble_eq_true rfl) rfl (k_vs fun V10 h9 hF8 => ?_)
  have e11 : vi V10 x 4 = vi V4 x 4 := vi_fr hF8 h_x h_x (by decide +kernel)
  have e12 : vi V10 x 5 = vi V4 x 5 := vi_fr hF8 h_x h_x (by decide +kernel)
  refine GO.aload_n dX5_negation_10 rfl rfl ?_
  refine GO.dup dX5_negation_11 rfl ?_
  refine GO.getI h_x fl_RX5_15 rfl rfl dX5_negation_12 (fun _ _ => ?_)
  refine GO.iconst dX5_negation_15 ?_
  refine GO.isub dX5_negation_16 ?_
  have q14 : -2147483648 ≤ vi V4 x 4 ∧ vi V4 x 4 ≤ 2147483647 := vi_ir
  refine GO.putI h_x fp_RX5_15 rfl (by decide +kernel) ⟨by omega, by omega⟩ (by omega) (by omega) dX5_negation_17 (fun V15 e13 => ?_)
  refine GO.aload_n dX5_negation_20 rfl rfl ?_
  refine GO.getR h_x fl_RX5_31 rfl rfl dX5_negation_21 (fun hv17 h16 => ?_)
  refine GO.iconst dX5_negation_24 ?_
  refine GO.iconst dX5_negation_25 ?_
  refine GO.callV (ci := 8) (N := mX9_addStep) dX5_negation_26 (RX9, TX9, 5) rfl gV_RX5_92 h16 (t_X9_addStep h16 (ir_c rfl) (ir_c rfl)) rfl [] rfl rfl (Nat.le_of_ble_eq_true rfl) rfl (k_is fun X18 V22 r19 h20 hF21 => ?_)
  refine GO.pop dX5_negation_29 rfl ?_
  have e24 : vi V15 x 4 = (vi V10 x 4) - 1 := upd2_int e13 ⟨by omega, by omega⟩
  have e23 : vi V22 x 4 = vi V15 x 4 := vi_fr hF21 h_x h_x (by decide +kernel)
  have q25 : -2147483648 ≤ vi V x 5 ∧ vi V x 5 ≤ 2147483647 := vi_ir
  have e27 : vi V15 x 5 = vi V10 x 5 := vi_up e13 (Or.inr (by decide))
  have e26 : vi V22 x 5 = vi V15 x 5 := vi_fr hF21 h_x h_x (by decide +kernel)
  exact GO.retv rfl rfl dX5_negation_30 ⟨rfl, rfl, by omega⟩

theorem t_X5_negation_1 {K : Kmap} {V : Vmap} {x : Nat} (h_x : K x = some (0, 4)) (q_0 : ((vi V x 5 = 0 ∧ vi V x 4 ≥ 8 ∧ vi V x 4 ≤ 8))) : MC mX5_negation_1 K V [.ref x] (VS K (fun V1 => (vi V1 x 4 = vi V x 4 ∧ (vi V x 5 ≠ 0 → vi V1 x 5 ≠ 0)))) := by
  exact t_X5_negation_1_G h_x (by omega) (by omega) (by omega)

set_option maxHeartbeats 1000000 in
theorem t_X5_piece_1_F {K : Kmap} {V : Vmap} {x : Nat} (h_x : K x = some (0, 4)) (q_0 : vi V x 5 ≠ 0) : MC mX5_piece_1 K V [.ref x] (VS K (fun V1 => (vi V1 x 4 = vi V x 4 ∧ (vi V x 5 ≠ 0 → vi V1 x 5 ≠ 0)))) := by
  refine MC.start 2 (by decide +kernel) rfl rfl rfl (ls0 := [some (.ref x), none, none]) rfl ?_
  refine GO.aload_n dX5_piece_0 rfl rfl ?_
  refine GO.getI h_x fl_RX5_18 rfl rfl dX5_piece_1 (fun _ _ => ?_)
  have q2 : -2147483648 ≤ vi V x 5 ∧ vi V x 5 ≤ 2147483647 := vi_ir
  refine GO.if_eq (tgt := 8) dX5_piece_4 (by decide) vi_ir (fun h => by exfalso; omega) (fun c1 => ?_)
  have q3 : -2147483648 ≤ vi V x 4 ∧ vi V x 4 ≤ 2147483647 := vi_ir
  exact GO.retv rfl rfl dX5_piece_7 ⟨rfl, rfl, by omega⟩

set_option maxHeartbeats 1000000 in
theorem t_X5_piece_1_G {K : Kmap} {V : Vmap} {x : Nat} (h_x : K x = some (0, 4)) (q_0 : vi V x 5 = 0) (q_1 : vi V x 4 ≥ 8) (q_2 : vi V x 4 ≤ 8) : MC mX5_piece_1 K V [.ref x] (VS K (fun V1 => (vi V1 x 4 = vi V x 4 ∧ (vi V x 5 ≠ 0 → vi V1 x 5 ≠ 0)))) := by
  refine MC.start 2 (by decide +kernel) rfl rfl rfl (ls0 := [some (.ref x), none, none]) rfl ?_
  refine GO.aload_n dX5_piece_0 rfl rfl ?_
  refine GO.getI h_x fl_RX5_18 rfl rfl dX5_piece_1 (fun _ _ => ?_)
  have q2 : -2147483648 ≤ vi V x 5 ∧ vi V x 5 ≤ 2147483647 := vi_ir
  refine GO.if_eq (tgt := 8) dX5_piece_4 (by decide) vi_ir (fun c1 => ?_) (fun h => by exfalso; omega)
  refine GO.aload_n dX5_piece_8 rfl rfl ?_
  refine GO.callV (ci := 4) (N := mX5_next) dX5_piece_9 (RX5, TX5, 7) rfl gV_RX5_61 h_x (t_X5_next h_x) rfl [] rfl rfl (Nat.le_of_ble_eq_true rfl) rfl (k_ip fun X3 r4 h5 => ?_)
  refine GO.istore_n (ls1 := [some (.ref x), some (ti X3), none]) dX5_piece_12 rfl rfl rfl ?_
  refine GO.iload_n dX5_piece_13 rfl rfl ?_
  refine GO.bipush dX5_piece_14 rfl ?_
  refine GO.icmp_ne (tgt := 26) dX5_piece_16 (by decide) r4 (ir_c rfl) (fun c6 => ?_) (fun c6 => ?_)
  ·
    refine GO.iload_n dX5_piece_26 rfl rfl ?_
    refine GO.bipush dX5_piece_27 rfl ?_
    refine GO.icmp_ne (tgt := 61) dX5_piece_29 (by decide) r4 (ir_c rfl) (fun c7 => ?_) (fun c7 => ?_)
    ·
      refine GO.aload_n dX5_piece_61 rfl rfl ?_
      have q8 : -2147483648 ≤ vi V x 4 ∧ vi V x 4 ≤ 2147483647 := vi_ir
      refine GO.callV (ci := 4) (N := mX5_terms_1) dX5_piece_62 (RX5, TX5, 7) rfl gV_RX5_102 h_x (t_X5_terms_1 h_x (by omega)) rfl [] rfl rfl (Nat.le_of_ble_eq_true rfl) rfl (k_vs fun V11 h10 hF9 => ?_)
      refine GO.aload_n dX5_piece_65 rfl rfl ?_
      refine GO.aload_n dX5_piece_66 rfl rfl ?_
      refine GO.callV (ci := 4) (N := mX5_next) dX5_piece_67 (RX5, TX5, 7) rfl gV_RX5_61 h_x (t_X5_next h_x) rfl [.ref x] rfl rfl (Nat.le_of_ble_eq_true rfl) rfl (k_ip fun X14 r15 h16 => ?_)
      refine GO.callV (ci := 4) (N := mX5_comparison) dX5_piece_70 (RX5, TX5, 7) rfl gV_RX5_105 h_x (t_X5_comparison h_x r15) rfl [] rfl rfl (Nat.le_of_ble_eq_true rfl) rfl (k_is fun X17 V21 r18 h19 hF20 => ?_)
      refine GO.istore_n (ls1 := [some (.ref x), some (ti X3), some (ti X17)]) dX5_piece_73 rfl rfl rfl ?_
      refine GO.aload_n dX5_piece_74 rfl rfl ?_
      refine GO.dup dX5_piece_75 rfl ?_
      refine GO.getI h_x fl_RX5_9 rfl rfl dX5_piece_76 (fun _ _ => ?_)
      refine GO.iconst dX5_piece_79 ?_
      refine GO.iadd dX5_piece_80 ?_
      refine GO.norm (fun z25 r26 hn27 => ?_)
      refine GO.putI h_x fp_RX5_9 rfl (by decide +kernel) r26 (r26).1 (r26).2 dX5_piece_81 (fun V29 e28 => ?_)
      refine GO.aload_n dX5_piece_84 rfl rfl ?_
      have e30 : vi V29 x 5 = vi V21 x 5 := vi_up e28 (Or.inr (by decide))
      have e32 : vi V21 x 4 = vi V11 x 4 := vi_fr hF20 h_x h_x (by decide +kernel)
      have e31 : vi V29 x 4 = vi V21 x 4 := vi_up e28 (Or.inr (by decide))
      have q33 : -2147483648 ≤ vi V11 x 4 ∧ vi V11 x 4 ≤ 2147483647 := vi_ir
      have q34 : -2147483648 ≤ vi V21 x 5 ∧ vi V21 x 5 ≤ 2147483647 := vi_ir
      refine GO.callV (ci := 4) (N := mX5_terms_1) dX5_piece_85 (RX5, TX5, 7) rfl gV_RX5_102 h_x (t_X5_terms_1 h_x (by omega)) rfl [] rfl rfl (Nat.le_of_ble_eq_true rfl) rfl (k_vs fun V37 h36 hF35 => ?_)
      refine GO.aload_n dX5_piece_88 rfl rfl ?_
      refine GO.getR h_x fl_RX5_31 rfl rfl dX5_piece_89 (fun hv41 h40 => ?_)
      refine GO.iload_n dX5_piece_92 rfl rfl ?_
      refine GO.iconst dX5_piece_93 ?_
      refine GO.callV (ci := 8) (N := mX9_addStep) dX5_piece_94 (RX9, TX9, 5) rfl gV_RX5_92 h40 (t_X9_addStep h40 r18 (ir_c rfl)) rfl [] rfl rfl (Nat.le_of_ble_eq_true rfl) rfl (k_is fun X42 V46 r43 h44 hF45 => ?_)
      refine GO.pop dX5_piece_97 rfl ?_
      have e47 : vi V46 x 4 = vi V37 x 4 := vi_fr hF45 h_x h_x (by decide +kernel)
      have q48 : -2147483648 ≤ vi V37 x 4 ∧ vi V37 x 4 ≤ 2147483647 := vi_ir
      have e49 : vi V46 x 5 = vi V37 x 5 := vi_fr hF45 h_x h_x (by decide +kernel)
      have q50 : -2147483648 ≤ vi V37 x 5 ∧ vi V37 x 5 ≤ 2147483647 := vi_ir
      exact GO.retv rfl rfl dX5_piece_98 ⟨rfl, rfl, by omega⟩
    ·
      refine GO.aload_n dX5_piece_32 rfl rfl ?_
      refine GO.bipush dX5_piece_33 rfl ?_
      have q51 : -2147483648 ≤ vi V x 4 ∧ vi V x 4 ≤ 2147483647 := vi_ir
      refine GO.callV (ci := 4) (N := mX5_deepen) dX5_piece_35 (RX5, TX5, 7) rfl gV_RX5_80 h_x (t_X5_deepen h_x (ir_c rfl) (by omega) (by omega)) rfl [] rfl rfl (Nat.le_of_ble_eq_true rfl) rfl (k_vs fun V54 h53 hF52 => ?_)
      refine GO.aload_n dX5_piece_38 rfl rfl ?_
      have q57 : -2147483648 ≤ vi V54 x 5 ∧ vi V54 x 5 ≤ 2147483647 := vi_ir
      refine GO.callV (ci := 4) (N := mX5_parts_0) dX5_piece_39 (RX5, TX5, 7) rfl gV_RX5_83 h_x (t_X5_parts_0 h_x (by omega)) rfl [] rfl rfl (Nat.le_of_ble_eq_true rfl) rfl (k_vs fun V60 h59 hF58 => ?_)
      have e61 : vi V60 x 4 = vi V54 x 4 := vi_fr hF58 h_x h_x (by decide +kernel)
      have e62 : vi V60 x 5 = vi V54 x 5 := vi_fr hF58 h_x h_x (by decide +kernel)
      refine GO.aload_n dX5_piece_42 rfl rfl ?_
      refine GO.dup dX5_piece_43 rfl ?_
      refine GO.getI h_x fl_RX5_15 rfl rfl dX5_piece_44 (fun _ _ => ?_)
      refine GO.iconst dX5_piece_47 ?_
      refine GO.isub dX5_piece_48 ?_
      have q64 : -2147483648 ≤ vi V54 x 4 ∧ vi V54 x 4 ≤ 2147483647 := vi_ir
      refine GO.putI h_x fp_RX5_15 rfl (by decide +kernel) ⟨by omega, by omega⟩ (by omega) (by omega) dX5_piece_49 (fun V65 e63 => ?_)
      refine GO.aload_n dX5_piece_52 rfl rfl ?_
      refine GO.bipush dX5_piece_53 rfl ?_
      have e66 : vi V65 x 5 = vi V60 x 5 := vi_up e63 (Or.inr (by decide))
      refine GO.callV (ci := 4) (N := mX5_take) dX5_piece_55 (RX5, TX5, 7) rfl gV_RX5_38 h_x (t_X5_take h_x (ir_c rfl)) rfl [] rfl rfl (Nat.le_of_ble_eq_true rfl) rfl (k_vs fun V69 h68 hF67 => ?_)
      refine GO.goto (tgt := 98) dX5_piece_58 (by decide) ?_
      have e72 : vi V65 x 4 = (vi V60 x 4) - 1 := upd2_int e63 ⟨by omega, by omega⟩
      have e71 : vi V69 x 4 = vi V65 x 4 := vi_fr hF67 h_x h_x (by decide +kernel)
      have q73 : -2147483648 ≤ vi V69 x 5 ∧ vi V69 x 5 ≤ 2147483647 := vi_ir
      exact GO.retv rfl rfl dX5_piece_98 ⟨rfl, rfl, by omega⟩
  ·
    refine GO.aload_n dX5_piece_19 rfl rfl ?_
    have q74 : -2147483648 ≤ vi V x 4 ∧ vi V x 4 ≤ 2147483647 := vi_ir
    refine GO.callV (ci := 4) (N := mX5_negation_1) dX5_piece_20 (RX5, TX5, 7) rfl gV_RX5_99 h_x (t_X5_negation_1 h_x (by omega)) rfl [] rfl rfl (Nat.le_of_ble_eq_true rfl) rfl (k_vs fun V77 h76 hF75 => ?_)
    refine GO.goto (tgt := 98) dX5_piece_23 (by decide) ?_
    have q80 : -2147483648 ≤ vi V77 x 4 ∧ vi V77 x 4 ≤ 2147483647 := vi_ir
    have q81 : -2147483648 ≤ vi V77 x 5 ∧ vi V77 x 5 ≤ 2147483647 := vi_ir
    exact GO.retv rfl rfl dX5_piece_98 ⟨rfl, rfl, by omega⟩

theorem t_X5_piece_1 {K : Kmap} {V : Vmap} {x : Nat} (h_x : K x = some (0, 4)) (q_0 : (vi V x 5 ≠ 0 ∨ (vi V x 5 = 0 ∧ vi V x 4 ≥ 8 ∧ vi V x 4 ≤ 8))) : MC mX5_piece_1 K V [.ref x] (VS K (fun V1 => (vi V1 x 4 = vi V x 4 ∧ (vi V x 5 ≠ 0 → vi V1 x 5 ≠ 0)))) := by
  rcases q_0 with h | h
  · exact t_X5_piece_1_F h_x (by omega)
  · exact t_X5_piece_1_G h_x (by omega) (by omega) (by omega)
