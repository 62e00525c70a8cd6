def mX5_factors_5 : MRec := (RX5, cX5_factors, 3, (none : Option Jvm.ClassFile.FieldType), yX5_factors, 19, 486, 0, 0, 84615164005151820665845159428194693098035799419427996068435045795123941278247852265624218936283556470163081713008521863233536)
def mX5_terms_5 : MRec := (RX5, cX5_terms, 3, (none : Option Jvm.ClassFile.FieldType), yX5_terms, 20, 508, 0, 0, 84615164005151820665845159428194693098035799419427996068435045795123941278247852265624218936283556470163081713008521863233536)
def mX5_factor_6 : MRec := (RX5, cX5_factor, 3, (none : Option Jvm.ClassFile.FieldType), yX5_factor, 21, 530, 0, 0, 84615164005151820665845159428194693098035799419427996068435045795123941278247852265624218936283556470163081713008521863233536)
def mX5_factors_6 : MRec := (RX5, cX5_factors, 3, (none : Option Jvm.ClassFile.FieldType), yX5_factors, 22, 552, 0, 0, 84615164005151820665845159428194693098035799419427996068435045795123941278247852265624218936283556470163081713008521863233536)
def mX5_terms_6 : MRec := (RX5, cX5_terms, 3, (none : Option Jvm.ClassFile.FieldType), yX5_terms, 23, 574, 0, 0, 84615164005151820665845159428194693098035799419427996068435045795123941278247852265624218936283556470163081713008521863233536)
def mX5_factor_7 : MRec := (RX5, cX5_factor, 3, (none : Option Jvm.ClassFile.FieldType), yX5_factor, 24, 596, 0, 0, 84615164005151820665845159428194693098035799419427996068435045795123941278247852265624218936283556470163081713008521863233536)
def mX5_factors_7 : MRec := (RX5, cX5_factors, 3, (none : Option Jvm.ClassFile.FieldType), yX5_factors, 25, 618, 0, 0, 84615164005151820665845159428194693098035799419427996068435045795123941278247852265624218936283556470163081713008521863233536)
set_option maxHeartbeats 1000000 in
theorem t_X5_factors_5_F {K : Kmap} {V : Vmap} {x : Nat} (h_x : K x = some (0, 4)) (q_0 : vi V x 5 ≠ 0) : MC mX5_factors_5 K V [.ref x] (VS K (fun V1 => (vi V1 x 4 = vi V x 4 ∧ (vi V x 5 ≠ 0 → vi V1 x 5 ≠ 0)))) := by
  refine MC.start 2 (by decide +kernel) rfl rfl rfl (ls0 := [some (.ref x), none, none]) rfl ?_
  refine GO.aload_n dX5_factors_0 rfl rfl ?_
  have q1 : -2147483648 ≤ vi V x 4 ∧ vi V x 4 ≤ 2147483647 := vi_ir
  have q2 : -2147483648 ≤ vi V x 5 ∧ vi V x 5 ≤ 2147483647 := vi_ir
  refine GO.callV (ci := 4) (N := mX5_factor_5) dX5_factors_1 (RX5, TX5, 7) rfl gV_RX5_111 h_x (t_X5_factor_5 h_x (by omega)) rfl [] rfl rfl (Nat.le_of_ble_eq_true rfl) rfl (k_vs fun V5 h4 hF3 => ?_)
  refine GO.iconst dX5_factors_4 ?_
  refine GO.istore_n (ls1 := [some (.ref x), some (ti 0), none]) dX5_factors_5 rfl rfl rfl ?_
  have q9 : -2147483648 ≤ vi V5 x 4 ∧ vi V5 x 4 ≤ 2147483647 := vi_ir
  have q10 : -2147483648 ≤ vi V5 x 5 ∧ vi V5 x 5 ≤ 2147483647 := vi_ir
  refine GO.loop1 (fun i8 W => 0 ≤ i8 ∧ i8 ≤ 0 ∧ (vi W x 4 = vi V5 x 4 ∧ (vi V5 x 5 ≠ 0 → vi W x 5 ≠ 0)) ∧ True) (fun i8 => [some (.ref x), some (ti i8), none]) (fun i8 W => (2147483647 - i8).toNat) 0 ⟨by omega, by omega, by omega, trivial⟩ rfl (fun i8 Wi8 hp16 ih15 => ?_)
  obtain ⟨l_i8, u_i8, n_i8, -⟩ := hp16
  have r_i8 : ir i8 := ⟨by omega, by omega⟩
  show GO mX5_factors_5 K V (VS K (fun V1 => (vi V1 x 4 = vi V x 4 ∧ (vi V x 5 ≠ 0 → vi V1 x 5 ≠ 0)))) K Wi8 0 0 6 [some (.ref x), some (ti i8), none] []
  refine GO.iload_n dX5_factors_6 rfl rfl ?_
  refine GO.sipush dX5_factors_7 rfl ?_
  refine GO.icmp_ge (tgt := 91) dX5_factors_10 (by decide) r_i8 (ir_c rfl) (fun h => by exfalso; omega) (fun c17 => ?_)
  refine GO.aload_n dX5_factors_13 rfl rfl ?_
  refine GO.getI h_x fl_RX5_18 rfl rfl dX5_factors_14 (fun _ _ => ?_)
  have q19 : -2147483648 ≤ vi Wi8 x 5 ∧ vi Wi8 x 5 ≤ 2147483647 := vi_ir
  refine GO.if_ne (tgt := 91) dX5_factors_17 (by decide) vi_ir (fun c18 => ?_) (fun h => by exfalso; omega)
  have q20 : -2147483648 ≤ vi Wi8 x 4 ∧ vi Wi8 x 4 ≤ 2147483647 := vi_ir
  exact GO.retv rfl rfl dX5_factors_91 ⟨rfl, rfl, by omega⟩

set_option maxHeartbeats 1000000 in
theorem t_X5_factors_5_G {K : Kmap} {V : Vmap} {x : Nat} (h_x : K x = some (0, 4)) (q_0 : vi V x 5 = 0) (q_1 : vi V x 4 ≥ 4) (q_2 : vi V x 4 ≤ 8) : MC mX5_factors_5 K V [.ref x] (VS K (fun V1 => (vi V1 x 4 = vi V x 4 ∧ (vi V x 5 ≠ 0 → vi V1 x 5 ≠ 0)))) := by
  refine MC.start 2 (by decide +kernel) rfl rfl rfl (ls0 := [some (.ref x), none, none]) rfl ?_
  refine GO.aload_n dX5_factors_0 rfl rfl ?_
  have q1 : -2147483648 ≤ vi V x 4 ∧ vi V x 4 ≤ 2147483647 := vi_ir
  have q2 : -2147483648 ≤ vi V x 5 ∧ vi V x 5 ≤ 2147483647 := vi_ir
  refine GO.callV (ci := 4) (N := mX5_factor_5) dX5_factors_1 (RX5, TX5, 7) rfl gV_RX5_111 h_x (t_X5_factor_5 h_x (by omega)) rfl [] rfl rfl (Nat.le_of_ble_eq_true rfl) rfl (k_vs fun V5 h4 hF3 => ?_)
  refine GO.iconst dX5_factors_4 ?_
  refine GO.istore_n (ls1 := [some (.ref x), some (ti 0), none]) dX5_factors_5 rfl rfl rfl ?_
  have q9 : -2147483648 ≤ vi V5 x 4 ∧ vi V5 x 4 ≤ 2147483647 := vi_ir
  have q10 : -2147483648 ≤ vi V5 x 5 ∧ vi V5 x 5 ≤ 2147483647 := vi_ir
  refine GO.loop1 (fun i8 W => 0 ≤ i8 ∧ i8 ≤ 200 ∧ (vi W x 4 = vi V5 x 4 ∧ (vi V5 x 5 ≠ 0 → vi W x 5 ≠ 0)) ∧ True) (fun i8 => [some (.ref x), some (ti i8), none]) (fun i8 W => (2147483647 - i8).toNat) 0 ⟨by omega, by omega, by omega, trivial⟩ rfl (fun i8 Wi8 hp484 ih483 => ?_)
  obtain ⟨l_i8, u_i8, n_i8, -⟩ := hp484
  have r_i8 : ir i8 := ⟨by omega, by omega⟩
  show GO mX5_factors_5 K V (VS K (fun V1 => (vi V1 x 4 = vi V x 4 ∧ (vi V x 5 ≠ 0 → vi V1 x 5 ≠ 0)))) K Wi8 0 0 6 [some (.ref x), some (ti i8), none] []
  refine GO.iload_n dX5_factors_6 rfl rfl ?_
  refine GO.sipush dX5_factors_7 rfl ?_
  refine GO.icmp_ge (tgt := 91) dX5_factors_10 (by decide) r_i8 (ir_c rfl) (fun c485 => ?_) (fun c485 => ?_)
  ·
    have q486 : -2147483648 ≤ vi Wi8 x 4 ∧ vi Wi8 x 4 ≤ 2147483647 := vi_ir
    have q487 : -2147483648 ≤ vi Wi8 x 5 ∧ vi Wi8 x 5 ≤ 2147483647 := vi_ir
    exact GO.retv rfl rfl dX5_factors_91 ⟨rfl, rfl, by omega⟩
  ·
    refine GO.aload_n dX5_factors_13 rfl rfl ?_
    refine GO.getI h_x fl_RX5_18 rfl rfl dX5_factors_14 (fun _ _ => ?_)
    refine GO.if_ne (tgt := 91) dX5_factors_17 (by decide) vi_ir (fun c488 => ?_) (fun c488 => ?_)
    ·
      have q489 : -2147483648 ≤ vi Wi8 x 4 ∧ vi Wi8 x 4 ≤ 2147483647 := vi_ir
      have q490 : -2147483648 ≤ vi Wi8 x 5 ∧ vi Wi8 x 5 ≤ 2147483647 := vi_ir
      exact GO.retv rfl rfl dX5_factors_91 ⟨rfl, rfl, by omega⟩
    ·
      refine GO.aload_n dX5_factors_20 rfl rfl ?_
      refine GO.callV (ci := 4) (N := mX5_next) dX5_factors_21 (RX5, TX5, 7) rfl gV_RX5_61 h_x (t_X5_next h_x) rfl [] rfl rfl (Nat.le_of_ble_eq_true rfl) rfl (k_ip fun X491 r492 h493 => ?_)
      refine GO.callS (N := mX5_isFactorSign) dX5_factors_24 gS_RX5_114 (t_X5_isFactorSign r492) rfl [] rfl rfl (Nat.le_of_ble_eq_true rfl) rfl (k_ip fun X494 r495 h496 => ?_)
      refine GO.if_eq (tgt := 91) dX5_factors_27 (by decide) r495 (fun c497 => ?_) (fun c497 => ?_)
      ·
        have q498 : -2147483648 ≤ vi Wi8 x 4 ∧ vi Wi8 x 4 ≤ 2147483647 := vi_ir
        have q499 : -2147483648 ≤ vi Wi8 x 5 ∧ vi Wi8 x 5 ≤ 2147483647 := vi_ir
        exact GO.retv rfl rfl dX5_factors_91 ⟨rfl, rfl, by omega⟩
      ·
        refine GO.aload_n dX5_factors_30 rfl rfl ?_
        refine GO.callV (ci := 4) (N := mX5_next) dX5_factors_31 (RX5, TX5, 7) rfl gV_RX5_61 h_x (t_X5_next h_x) rfl [] rfl rfl (Nat.le_of_ble_eq_true rfl) rfl (k_ip fun X500 r501 h502 => ?_)
        refine GO.bipush dX5_factors_34 rfl ?_
        have hj509 : ∀ (z508 : Int), ∀ (l510 : 7 ≤ z508), ∀ (u511 : z508 ≤ 9), GO mX5_factors_5 K V (VS K (fun V1 => (vi V1 x 4 = vi V x 4 ∧ (vi V x 5 ≠ 0 → vi V1 x 5 ≠ 0)))) K Wi8 0 0 60 [some (.ref x), some (ti i8), none] [ti z508] := by
          intro z508 l510 u511
          have r512 : ir z508 := ⟨by omega, by omega⟩
          refine GO.istore_n (ls1 := [some (.ref x), some (ti i8), some (ti z508)]) dX5_factors_60 rfl rfl rfl ?_
          refine GO.aload_n dX5_factors_61 rfl rfl ?_
          refine GO.dup dX5_factors_62 rfl ?_
          refine GO.getI h_x fl_RX5_9 rfl rfl dX5_factors_63 (fun _ _ => ?_)
          refine GO.iconst dX5_factors_66 ?_
          refine GO.iadd dX5_factors_67 ?_
          refine GO.norm (fun z513 r514 hn515 => ?_)
          refine GO.putI h_x fp_RX5_9 rfl (by decide +kernel) r514 (r514).1 (r514).2 dX5_factors_68 (fun V517 e516 => ?_)
          refine GO.aload_n dX5_factors_71 rfl rfl ?_
          have e518 : vi V517 x 5 = vi Wi8 x 5 := vi_up e516 (Or.inr (by decide))
          have e519 : vi V517 x 4 = vi Wi8 x 4 := vi_up e516 (Or.inr (by decide))
          have q520 : -2147483648 ≤ vi Wi8 x 4 ∧ vi Wi8 x 4 ≤ 2147483647 := vi_ir
          have q521 : -2147483648 ≤ vi Wi8 x 5 ∧ vi Wi8 x 5 ≤ 2147483647 := vi_ir
          refine GO.callV (ci := 4) (N := mX5_factor_5) dX5_factors_72 (RX5, TX5, 7) rfl gV_RX5_111 h_x (t_X5_factor_5 h_x (by omega)) rfl [] rfl rfl (Nat.le_of_ble_eq_true rfl) rfl (k_vs fun V524 h523 hF522 => ?_)
          refine GO.aload_n dX5_factors_75 rfl rfl ?_
          refine GO.getR h_x fl_RX5_31 rfl rfl dX5_factors_76 (fun hv528 h527 => ?_)
          refine GO.iload_n dX5_factors_79 rfl rfl ?_
          refine GO.iconst dX5_factors_80 ?_
          refine GO.callV (ci := 8) (N := mX9_addStep) dX5_factors_81 (RX9, TX9, 5) rfl gV_RX5_92 h527 (t_X9_addStep h527 r512 (ir_c rfl)) rfl [] rfl rfl (Nat.le_of_ble_eq_true rfl) rfl (k_is fun X529 V533 r530 h531 hF532 => ?_)
          refine GO.pop dX5_factors_84 rfl ?_
          refine GO.iinc (X := i8) (n := 1) (Y := i8 + 1) (ls1 := [some (.ref x), some (ti (i8 + 1)), some (ti z508)]) dX5_factors_85 rfl rfl rfl rfl ?_
          refine GO.goto (tgt := 6) dX5_factors_88 (by decide) ?_
          refine GO.drop [true, true, false] rfl ?_
          have e534 : vi V533 x 4 = vi V524 x 4 := vi_fr hF532 h_x h_x (by decide +kernel)
          have q535 : -2147483648 ≤ vi V524 x 4 ∧ vi V524 x 4 ≤ 2147483647 := vi_ir
          have e536 : vi V533 x 5 = vi V524 x 5 := vi_fr hF532 h_x h_x (by decide +kernel)
          have q537 : -2147483648 ≤ vi V524 x 5 ∧ vi V524 x 5 ≤ 2147483647 := vi_ir
          exact ih483 (i8 + 1) V533 ⟨by omega, by omega, by omega, trivial⟩ (by show (2147483647 - (i8 + 1)).toNat < (2147483647 - i8).toNat; omega)
        refine GO.icmp_ne (tgt := 44) dX5_factors_36 (by decide) r501 (ir_c rfl) (fun c538 => ?_) (fun c538 => ?_)
        ·
          refine GO.aload_n dX5_factors_44 rfl rfl ?_
          refine GO.callV (ci := 4) (N := mX5_next) dX5_factors_45 (RX5, TX5, 7) rfl gV_RX5_61 h_x (t_X5_next h_x) rfl [] rfl rfl (Nat.le_of_ble_eq_true rfl) rfl (k_ip fun X539 r540 h541 => ?_)
          refine GO.bipush dX5_factors_48 rfl ?_
          refine GO.icmp_ne (tgt := 58) dX5_factors_50 (by decide) r540 (ir_c rfl) (fun c542 => ?_) (fun c542 => ?_)
          ·
            refine GO.bipush dX5_factors_58 rfl ?_
            exact hj509 9 (by omega) (by omega)
          ·
            refine GO.bipush dX5_factors_53 rfl ?_
            refine GO.goto (tgt := 60) dX5_factors_55 (by decide) ?_
            exact hj509 8 (by omega) (by omega)
        ·
          refine GO.bipush dX5_factors_39 rfl ?_
          refine GO.goto (tgt := 60) dX5_factors_41 (by decide) ?_
          exact hj509 7 (by omega) (by omega)

theorem t_X5_factors_5 {K : Kmap} {V : Vmap} {x : Nat} (h_x : K x = some (0, 4)) (q_0 : (vi V x 5 ≠ 0 ∨ (vi V x 5 = 0 ∧ vi V x 4 ≥ 4 ∧ vi V x 4 ≤ 8))) : MC mX5_factors_5 K V [.ref x] (VS K (fun V1 => (vi V1 x 4 = vi V x 4 ∧ (vi V x 5 ≠ 0 → vi V1 x 5 ≠ 0)))) := by
  rcases q_0 with h | h
  · exact t_X5_factors_5_F h_x (by omega)
  · exact t_X5_factors_5_G h_x (by omega) (by omega) (by omega)

set_option maxHeartbeats 1000000 in
theorem t_X5_terms_5_F {K : Kmap} {V : Vmap} {x : Nat} (h_x : K x = some (0, 4)) (q_0 : vi V x 5 ≠ 0) : MC mX5_terms_5 K V [.ref x] (VS K (fun V1 => (vi V1 x 4 = vi V x 4 ∧ (vi V x 5 ≠ 0 → vi V1 x 5 ≠ 0)))) := by
  refine MC.start 2 (by decide +kernel) rfl rfl rfl (ls0 := [some (.ref x), none, none]) rfl ?_
  refine GO.aload_n dX5_terms_0 rfl rfl ?_
  have q1 : -2147483648 ≤ vi V x 4 ∧ vi V x 4 ≤ 2147483647 := vi_ir
  have q2 : -2147483648 ≤ vi V x 5 ∧ vi V x 5 ≤ 2147483647 := vi_ir
  refine GO.callV (ci := 4) (N := mX5_factors_5) dX5_terms_1 (RX5, TX5, 7) rfl gV_RX5_108 h_x (t_X5_factors_5 h_x (by omega)) rfl [] rfl rfl (Nat.le_of_ble_eq_true rfl) rfl (k_vs fun V5 h4 hF3 => ?_)
  refine GO.iconst dX5_terms_4 ?_
  refine GO.istore_n (ls1 := [some (.ref x), some (ti 0), none]) dX5_terms_5 rfl rfl rfl ?_
  have q9 : -2147483648 ≤ vi V5 x 4 ∧ vi V5 x 4 ≤ 2147483647 := vi_ir
  have q10 : -2147483648 ≤ vi V5 x 5 ∧ vi V5 x 5 ≤ 2147483647 := vi_ir
  refine GO.loop1 (fun i8 W => 0 ≤ i8 ∧ i8 ≤ 0 ∧ (vi W x 4 = vi V5 x 4 ∧ (vi V5 x 5 ≠ 0 → vi W x 5 ≠ 0)) ∧ True) (fun i8 => [some (.ref x), some (ti i8), none]) (fun i8 W => (2147483647 - i8).toNat) 0 ⟨by omega, by omega, by omega, trivial⟩ rfl (fun i8 Wi8 hp16 ih15 => ?_)
  obtain ⟨l_i8, u_i8, n_i8, -⟩ := hp16
  have r_i8 : ir i8 := ⟨by omega, by omega⟩
  show GO mX5_terms_5 K V (VS K (fun V1 => (vi V1 x 4 = vi V x 4 ∧ (vi V x 5 ≠ 0 → vi V1 x 5 ≠ 0)))) K Wi8 0 0 6 [some (.ref x), some (ti i8), none] []
  refine GO.iload_n dX5_terms_6 rfl rfl ?_
  refine GO.sipush dX5_terms_7 rfl ?_
  refine GO.icmp_ge (tgt := 84) dX5_terms_10 (by decide) r_i8 (ir_c rfl) (fun h => by exfalso; omega) (fun c17 => ?_)
  refine GO.aload_n dX5_terms_13 rfl rfl ?_
  refine GO.getI h_x fl_RX5_18 rfl rfl dX5_terms_14 (fun _ _ => ?_)
  have q19 : -2147483648 ≤ vi Wi8 x 5 ∧ vi Wi8 x 5 ≤ 2147483647 := vi_ir
  refine GO.if_ne (tgt := 84) dX5_terms_17 (by decide) vi_ir (fun c18 => ?_) (fun h => by exfalso; omega)
  have q20 : -2147483648 ≤ vi Wi8 x 4 ∧ vi Wi8 x 4 ≤ 2147483647 := vi_ir
  exact GO.retv rfl rfl dX5_terms_84 ⟨rfl, rfl, by omega⟩

set_option maxHeartbeats 1000000 in
theorem t_X5_terms_5_G {K : Kmap} {V : Vmap} {x : Nat} (h_x : K x = some (0, 4)) (q_0 : vi V x 5 = 0) (q_1 : vi V x 4 ≥ 4) (q_2 : vi V x 4 ≤ 8) : MC mX5_terms_5 K V [.ref x] (VS K (fun V1 => (vi V1 x 4 = vi V x 4 ∧ (vi V x 5 ≠ 0 → vi V1 x 5 ≠ 0)))) := by
  refine MC.start 2 (by decide +kernel) rfl rfl rfl (ls0 := [some (.ref x), none, none]) rfl ?_
  refine GO.aload_n dX5_terms_0 rfl rfl ?_
  have q1 : -2147483648 ≤ vi V x 4 ∧ vi V x 4 ≤ 2147483647 := vi_ir
  have q2 : -2147483648 ≤ vi V x 5 ∧ vi V x 5 ≤ 2147483647 := vi_ir
  refine GO.callV (ci := 4) (N := mX5_factors_5) dX5_terms_1 (RX5, TX5, 7) rfl gV_RX5_108 h_x (t_X5_factors_5 h_x (by omega)) rfl [] rfl rfl (Nat.le_of_ble_eq_true rfl) rfl (k_vs fun V5 h4 hF3 => ?_)
  refine GO.iconst dX5_terms_4 ?_
  refine GO.istore_n (ls1 := [some (.ref x), some (ti 0), none]) dX5_terms_5 rfl rfl rfl ?_
  have q9 : -2147483648 ≤ vi V5 x 4 ∧ vi V5 x 4 ≤ 2147483647 := vi_ir
  have q10 : -2147483648 ≤ vi V5 x 5 ∧ vi V5 x 5 ≤ 2147483647 := vi_ir
  refine GO.loop1 (fun i8 W => 0 ≤ i8 ∧ i8 ≤ 200 ∧ (vi W x 4 = vi V5 x 4 ∧ (vi V5 x 5 ≠ 0 → vi W x 5 ≠ 0)) ∧ True) (fun i8 => [some (.ref x), some (ti i8), none]) (fun i8 W => (2147483647 - i8).toNat) 0 ⟨by omega, by omega, by omega, trivial⟩ rfl (fun i8 Wi8 hp493 ih492 => ?_)
  obtain ⟨l_i8, u_i8, n_i8, -⟩ := hp493
  have r_i8 : ir i8 := ⟨by omega, by omega⟩
  show GO mX5_terms_5 K V (VS K (fun V1 => (vi V1 x 4 = vi V x 4 ∧ (vi V x 5 ≠ 0 → vi V1 x 5 ≠ 0)))) K Wi8 0 0 6 [some (.ref x), some (ti i8), none] []
  refine GO.iload_n dX5_terms_6 rfl rfl ?_
  refine GO.sipush dX5_terms_7 rfl ?_
  refine GO.icmp_ge (tgt := 84) dX5_terms_10 (by decide) r_i8 (ir_c rfl) (fun c494 => ?_) (fun c494 => ?_)
  ·
    have q495 : -2147483648 ≤ vi Wi8 x 4 ∧ vi Wi8 x 4 ≤ 2147483647 := vi_ir
    have q496 : -2147483648 ≤ vi Wi8 x 5 ∧ vi Wi8 x 5 ≤ 2147483647 := vi_ir
    exact GO.retv rfl rfl dX5_terms_84 ⟨rfl, rfl, by omega⟩
  ·
    refine GO.aload_n dX5_terms_13 rfl rfl ?_
    refine GO.getI h_x fl_RX5_18 rfl rfl dX5_terms_14 (fun _ _ => ?_)
    refine GO.if_ne (tgt := 84) dX5_terms_17 (by decide) vi_ir (fun c497 => ?_) (fun c497 => ?_)
    ·
      have q498 : -2147483648 ≤ vi Wi8 x 4 ∧ vi Wi8 x 4 ≤ 2147483647 := vi_ir
      have q499 : -2147483648 ≤ vi Wi8 x 5 ∧ vi Wi8 x 5 ≤ 2147483647 := vi_ir
      exact GO.retv rfl rfl dX5_terms_84 ⟨rfl, rfl, by omega⟩
    ·
      refine GO.aload_n dX5_terms_20 rfl rfl ?_
      refine GO.callV (ci := 4) (N := mX5_next) dX5_terms_21 (RX5, TX5, 7) rfl gV_RX5_61 h_x (t_X5_next h_x) rfl [] rfl rfl (Nat.le_of_ble_eq_true rfl) rfl (k_ip fun X500 r501 h502 => ?_)
      refine GO.bipush dX5_terms_24 rfl ?_
      have hj510 : GO mX5_terms_5 K V (VS K (fun V1 => (vi V1 x 4 = vi V x 4 ∧ (vi V x 5 ≠ 0 → vi V1 x 5 ≠ 0)))) K Wi8 0 0 38 [some (.ref x), some (ti i8), none] [] := by
        skip
        refine GO.aload_n dX5_terms_38 rfl rfl ?_
        refine GO.callV (ci := 4) (N := mX5_next) dX5_terms_39 (RX5, TX5, 7) rfl gV_RX5_61 h_x (t_X5_next h_x) rfl [] rfl rfl (Nat.le_of_ble_eq_true rfl) rfl (k_ip fun X511 r512 h513 => ?_)
        refine GO.bipush dX5_terms_42 rfl ?_
        have hj516 : ∀ (z515 : Int), ∀ (l517 : 5 ≤ z515), ∀ (u518 : z515 ≤ 6), GO mX5_terms_5 K V (VS K (fun V1 => (vi V1 x 4 = vi V x 4 ∧ (vi V x 5 ≠ 0 → vi V1 x 5 ≠ 0)))) K Wi8 0 0 53 [some (.ref x), some (ti i8), none] [ti z515] := by
          intro z515 l517 u518
          have r519 : ir z515 := ⟨by omega, by omega⟩
          refine GO.istore_n (ls1 := [some (.ref x), some (ti i8), some (ti z515)]) dX5_terms_53 rfl rfl rfl ?_
          refine GO.aload_n dX5_terms_54 rfl rfl ?_
          refine GO.dup dX5_terms_55 rfl ?_
          refine GO.getI h_x fl_RX5_9 rfl rfl dX5_terms_56 (fun _ _ => ?_)
          refine GO.iconst dX5_terms_59 ?_
          refine GO.iadd dX5_terms_60 ?_
          refine GO.norm (fun z520 r521 hn522 => ?_)
          refine GO.putI h_x fp_RX5_9 rfl (by decide +kernel) r521 (r521).1 (r521).2 dX5_terms_61 (fun V524 e523 => ?_)
          refine GO.aload_n dX5_terms_64 rfl rfl ?_
          have e525 : vi V524 x 5 = vi Wi8 x 5 := vi_up e523 (Or.inr (by decide))
          have e526 : vi V524 x 4 = vi Wi8 x 4 := vi_up e523 (Or.inr (by decide))
          have q527 : -2147483648 ≤ vi Wi8 x 4 ∧ vi Wi8 x 4 ≤ 2147483647 := vi_ir
          have q528 : -2147483648 ≤ vi Wi8 x 5 ∧ vi Wi8 x 5 ≤ 2147483647 := vi_ir
          refine GO.callV (ci := 4) (N := mX5_factors_5) dX5_terms_65 (RX5, TX5, 7) rfl gV_RX5_108 h_x (t_X5_factors_5 h_x (by omega)) rfl [] rfl rfl (Nat.le_of_ble_eq_true rfl) rfl (k_vs fun V531 h530 hF529 => ?_)
          refine GO.aload_n dX5_terms_68 rfl rfl ?_
          refine GO.getR h_x fl_RX5_31 rfl rfl dX5_terms_69 (fun hv535 h534 => ?_)
          refine GO.iload_n dX5_terms_72 rfl rfl ?_
          refine GO.iconst dX5_terms_73 ?_
          refine GO.callV (ci := 8) (N := mX9_addStep) dX5_terms_74 (RX9, TX9, 5) rfl gV_RX5_92 h534 (t_X9_addStep h534 r519 (ir_c rfl)) rfl [] rfl rfl (Nat.le_of_ble_eq_true rfl) rfl (k_is fun X536 V540 r537 h538 hF539 => ?_)
          refine GO.pop dX5_terms_77 rfl ?_
          refine GO.iinc (X := i8) (n := 1) (Y := i8 + 1) (ls1 := [some (.ref x), some (ti (i8 + 1)), some (ti z515)]) dX5_terms_78 rfl rfl rfl rfl ?_
          refine GO.goto (tgt := 6) dX5_terms_81 (by decide) ?_
          refine GO.drop [true, true, false] rfl ?_
          have e541 : vi V540 x 4 = vi V531 x 4 := vi_fr hF539 h_x h_x (by decide +kernel)
          have q542 : -2147483648 ≤ vi V531 x 4 ∧ vi V531 x 4 ≤ 2147483647 := vi_ir
          have e543 : vi V540 x 5 = vi V531 x 5 := vi_fr hF539 h_x h_x (by decide +kernel)
          have q544 : -2147483648 ≤ vi V531 x 5 ∧ vi V531 x 5 ≤ 2147483647 := vi_ir
          exact ih492 (i8 + 1) V540 ⟨by omega, by omega, by omega, trivial⟩ (by show (2147483647 - (i8 + 1)).toNat < (2147483647 - i8).toNat; omega)
        refine GO.icmp_ne (tgt := 51) dX5_terms_44 (by decide) r512 (ir_c rfl) (fun c545 => ?_) (fun c545 => ?_)
        ·
          refine GO.bipush dX5_terms_51 rfl ?_
          exact hj516 6 (by omega) (by omega)
        ·
          refine GO.iconst dX5_terms_47 ?_
          refine GO.goto (tgt := 53) dX5_terms_48 (by decide) ?_
          exact hj516 5 (by omega) (by omega)
      refine GO.icmp_eq (tgt := 38) dX5_terms_26 (by decide) r501 (ir_c rfl) (fun c546 => ?_) (fun c546 => ?_)
      ·
        exact hj510 
      ·
        refine GO.aload_n dX5_terms_29 rfl rfl ?_
        refine GO.callV (ci := 4) (N := mX5_next) dX5_terms_30 (RX5, TX5, 7) rfl gV_RX5_61 h_x (t_X5_next h_x) rfl [] rfl rfl (Nat.le_of_ble_eq_true rfl) rfl (k_ip fun X547 r548 h549 => ?_)
        refine GO.bipush dX5_terms_33 rfl ?_
        refine GO.icmp_ne (tgt := 84) dX5_terms_35 (by decide) r548 (ir_c rfl) (fun c550 => ?_) (fun c550 => ?_)
        ·
          have q551 : -2147483648 ≤ vi Wi8 x 4 ∧ vi Wi8 x 4 ≤ 2147483647 := vi_ir
          have q552 : -2147483648 ≤ vi Wi8 x 5 ∧ vi Wi8 x 5 ≤ 2147483647 := vi_ir
          exact GO.retv rfl rfl dX5_terms_84 ⟨rfl, rfl, by omega⟩
        ·
          exact hj510 

theorem t_X5_terms_5 {K : Kmap} {V : Vmap} {x : Nat} (h_x : K x = some (0, 4)) (q_0 : (vi V x 5 ≠ 0 ∨ (vi V x 5 = 0 ∧ vi V x 4 ≥ 4 ∧ vi V x 4 ≤ 8))) : MC mX5_terms_5 K V [.ref x] (VS K (fun V1 => (vi V1 x 4 = vi V x 4 ∧ (vi V x 5 ≠ 0 → vi V1 x 5 ≠ 0)))) := by
  rcases q_0 with h | h
  · exact t_X5_terms_5_F h_x (by omega)
  · exact t_X5_terms_5_G h_x (by omega) (by omega) (by omega)

set_option maxHeartbeats 1000000 in
theorem t_X5_factor_6_F {K : Kmap} {V : Vmap} {x : Nat} (h_x : K x = some (0, 4)) (q_0 : vi V x 5 ≠ 0) : MC mX5_factor_6 K V [.ref x] (VS K (fun V1 => (vi V1 x 4 = vi V x 4 ∧ (vi V x 5 ≠ 0 → vi V1 x 5 ≠ 0)))) := by
  refine MC.start 2 (by decide +kernel) rfl rfl rfl (ls0 := [some (.ref x), none, none]) rfl ?_
  refine GO.aload_n dX5_factor_0 rfl rfl ?_
  refine GO.getI h_x fl_RX5_18 rfl rfl dX5_factor_1 (fun _ _ => ?_)
  have q2 : -2147483648 ≤ vi V x 5 ∧ vi V x 5 ≤ 2147483647 := vi_ir
  refine GO.if_eq (tgt := 8) dX5_factor_4 (by decide) vi_ir (fun h => by exfalso; omega) (fun c1 => ?_)
  have q3 : -2147483648 ≤ vi V x 4 ∧ vi V x 4 ≤ 2147483647 := vi_ir
  exact GO.retv rfl rfl dX5_factor_7 ⟨rfl, rfl, by omega⟩

set_option maxHeartbeats 1000000 in
theorem t_X5_factor_6_G {K : Kmap} {V : Vmap} {x : Nat} (h_x : K x = some (0, 4)) (q_0 : vi V x 5 = 0) (q_1 : vi V x 4 ≥ 3) (q_2 : vi V x 4 ≤ 8) : MC mX5_factor_6 K V [.ref x] (VS K (fun V1 => (vi V1 x 4 = vi V x 4 ∧ (vi V x 5 ≠ 0 → vi V1 x 5 ≠ 0)))) := by
  refine MC.start 2 (by decide +kernel) rfl rfl rfl (ls0 := [some (.ref x), none, none]) rfl ?_
  refine GO.aload_n dX5_factor_0 rfl rfl ?_
  refine GO.getI h_x fl_RX5_18 rfl rfl dX5_factor_1 (fun _ _ => ?_)
  have q2 : -2147483648 ≤ vi V x 5 ∧ vi V x 5 ≤ 2147483647 := vi_ir
  refine GO.if_eq (tgt := 8) dX5_factor_4 (by decide) vi_ir (fun c1 => ?_) (fun h => by exfalso; omega)
  refine GO.aload_n dX5_factor_8 rfl rfl ?_
  refine GO.callV (ci := 4) (N := mX5_next) dX5_factor_9 (RX5, TX5, 7) rfl gV_RX5_61 h_x (t_X5_next h_x) rfl [] rfl rfl (Nat.le_of_ble_eq_true rfl) rfl (k_ip fun X3 r4 h5 => ?_)
  refine GO.istore_n (ls1 := [some (.ref x), some (ti X3), none]) dX5_factor_12 rfl rfl rfl ?_
  refine GO.iload_n dX5_factor_13 rfl rfl ?_
  have hj11 : ∀ (z10 : Int), ∀ (l12 : (-1) ≤ z10), ∀ (u13 : z10 ≤ 13), GO mX5_factor_6 K V (VS K (fun V1 => (vi V1 x 4 = vi V x 4 ∧ (vi V x 5 ≠ 0 → vi V1 x 5 ≠ 0)))) K V 0 0 28 [some (.ref x), some (ti X3), none] [ti z10] := by
    intro z10 l12 u13
    have r14 : ir z10 := ⟨by omega, by omega⟩
    refine GO.istore_n (ls1 := [some (.ref x), some (ti X3), some (ti z10)]) dX5_factor_28 rfl rfl rfl ?_
    refine GO.iload_n dX5_factor_29 rfl rfl ?_
    refine GO.bipush dX5_factor_30 rfl ?_
    refine GO.icmp_ne (tgt := 64) dX5_factor_32 (by decide) r4 (ir_c rfl) (fun c15 => ?_) (fun c15 => ?_)
    ·
      refine GO.iload_n dX5_factor_64 rfl rfl ?_
      refine GO.if_lt (tgt := 91) dX5_factor_65 (by decide) r14 (fun c16 => ?_) (fun c16 => ?_)
      ·
        refine GO.aload_n dX5_factor_91 rfl rfl ?_
        refine GO.getR h_x fl_RX5_31 rfl rfl dX5_factor_92 (fun hv18 h17 => ?_)
        refine GO.iconst dX5_factor_95 ?_
        refine GO.aload_n dX5_factor_96 rfl rfl ?_
        refine GO.ldc (X := 999999) dX5_factor_97 gw_790 rfl ?_
        refine GO.callV (ci := 4) (N := mX5_digits) dX5_factor_99 (RX5, TX5, 7) rfl gV_RX5_69 h_x (t_X5_digits h_x (ir_c rfl)) rfl [ti 0, .ref (vq V x 2)] rfl rfl (Nat.le_of_ble_eq_true rfl) rfl (k_is fun X19 V23 r20 h21 hF22 => ?_)
        refine GO.callV (ci := 8) (N := mX9_addStep) dX5_factor_102 (RX9, TX9, 5) rfl gV_RX5_92 h17 (t_X9_addStep h17 (ir_c rfl) r20) rfl [] rfl rfl (Nat.le_of_ble_eq_true rfl) rfl (k_is fun X25 V29 r26 h27 hF28 => ?_)
        refine GO.pop dX5_factor_105 rfl ?_
        have e31 : vi V23 x 4 = vi V x 4 := vi_fr hF22 h_x h_x (by decide +kernel)
        have e30 : vi V29 x 4 = vi V23 x 4 := vi_fr hF28 h_x h_x (by decide +kernel)
        have q32 : -2147483648 ≤ vi V x 4 ∧ vi V x 4 ≤ 2147483647 := vi_ir
        have e33 : vi V29 x 5 = vi V23 x 5 := vi_fr hF28 h_x h_x (by decide +kernel)
        have q34 : -2147483648 ≤ vi V23 x 5 ∧ vi V23 x 5 ≤ 2147483647 := vi_ir
        exact GO.retv rfl rfl dX5_factor_106 ⟨rfl, rfl, by omega⟩
      ·
        refine GO.aload_n dX5_factor_68 rfl rfl ?_
        refine GO.dup dX5_factor_69 rfl ?_
        refine GO.getI h_x fl_RX5_9 rfl rfl dX5_factor_70 (fun _ _ => ?_)
        refine GO.iconst dX5_factor_73 ?_
        refine GO.iadd dX5_factor_74 ?_
        refine GO.norm (fun z35 r36 hn37 => ?_)
        refine GO.putI h_x fp_RX5_9 rfl (by decide +kernel) r36 (r36).1 (r36).2 dX5_factor_75 (fun V39 e38 => ?_)
        refine GO.aload_n dX5_factor_78 rfl rfl ?_
        refine GO.getR h_x fl_RX5_31 rfl rfl dX5_factor_79 (fun hv41 h40 => ?_)
        refine GO.iconst dX5_factor_82 ?_
        refine GO.iload_n dX5_factor_83 rfl rfl ?_
        refine GO.callV (ci := 8) (N := mX9_addStep) dX5_factor_84 (RX9, TX9, 5) rfl gV_RX5_92 h40 (t_X9_addStep h40 (ir_c rfl) r14) rfl [] rfl rfl (Nat.le_of_ble_eq_true rfl) rfl (k_is fun X42 V46 r43 h44 hF45 => ?_)
        refine GO.pop dX5_factor_87 rfl ?_
        refine GO.goto (tgt := 106) dX5_factor_88 (by decide) ?_
        have e48 : vi V39 x 4 = vi V x 4 := vi_up e38 (Or.inr (by decide))
        have e47 : vi V46 x 4 = vi V39 x 4 := vi_fr hF45 h_x h_x (by decide +kernel)
        have q49 : -2147483648 ≤ vi V x 4 ∧ vi V x 4 ≤ 2147483647 := vi_ir
        have e51 : vi V39 x 5 = vi V x 5 := vi_up e38 (Or.inr (by decide))
        have e50 : vi V46 x 5 = vi V39 x 5 := vi_fr hF45 h_x h_x (by decide +kernel)
        exact GO.retv rfl rfl dX5_factor_106 ⟨rfl, rfl, by omega⟩
    ·
      refine GO.aload_n dX5_factor_35 rfl rfl ?_
      refine GO.bipush dX5_factor_36 rfl ?_
      have q52 : -2147483648 ≤ vi V x 4 ∧ vi V x 4 ≤ 2147483647 := vi_ir
      refine GO.callV (ci := 4) (N := mX5_deepen) dX5_factor_38 (RX5, TX5, 7) rfl gV_RX5_80 h_x (t_X5_deepen h_x (ir_c rfl) (by omega) (by omega)) rfl [] rfl rfl (Nat.le_of_ble_eq_true rfl) rfl (k_vs fun V55 h54 hF53 => ?_)
      refine GO.aload_n dX5_factor_41 rfl rfl ?_
      have q58 : -2147483648 ≤ vi V55 x 4 ∧ vi V55 x 4 ≤ 2147483647 := vi_ir
      have q59 : -2147483648 ≤ vi V55 x 5 ∧ vi V55 x 5 ≤ 2147483647 := vi_ir
      refine GO.callV (ci := 4) (N := mX5_terms_5) dX5_factor_42 (RX5, TX5, 7) rfl gV_RX5_102 h_x (t_X5_terms_5 h_x (by omega)) rfl [] rfl rfl (Nat.le_of_ble_eq_true rfl) rfl (k_vs fun V62 h61 hF60 => ?_)
      refine GO.aload_n dX5_factor_45 rfl rfl ?_
      refine GO.dup dX5_factor_46 rfl ?_
      refine GO.getI h_x fl_RX5_15 rfl rfl dX5_factor_47 (fun _ _ => ?_)
      refine GO.iconst dX5_factor_50 ?_
      refine GO.isub dX5_factor_51 ?_
      have q66 : -2147483648 ≤ vi V62 x 4 ∧ vi V62 x 4 ≤ 2147483647 := vi_ir
      refine GO.putI h_x fp_RX5_15 rfl (by decide +kernel) ⟨by omega, by omega⟩ (by omega) (by omega) dX5_factor_52 (fun V67 e65 => ?_)
      refine GO.aload_n dX5_factor_55 rfl rfl ?_
      refine GO.bipush dX5_factor_56 rfl ?_
      have e68 : vi V67 x 5 = vi V62 x 5 := vi_up e65 (Or.inr (by decide))
      refine GO.callV (ci := 4) (N := mX5_take) dX5_factor_58 (RX5, TX5, 7) rfl gV_RX5_38 h_x (t_X5_take h_x (ir_c rfl)) rfl [] rfl rfl (Nat.le_of_ble_eq_true rfl) rfl (k_vs fun V71 h70 hF69 => ?_)
      refine GO.goto (tgt := 106) dX5_factor_61 (by decide) ?_
      have e74 : vi V67 x 4 = (vi V62 x 4) - 1 := upd2_int e65 ⟨by omega, by omega⟩
      have e73 : vi V71 x 4 = vi V67 x 4 := vi_fr hF69 h_x h_x (by decide +kernel)
      have q75 : -2147483648 ≤ vi V71 x 5 ∧ vi V71 x 5 ≤ 2147483647 := vi_ir
      exact GO.retv rfl rfl dX5_factor_106 ⟨rfl, rfl, by omega⟩
  refine GO.if_ge (tgt := 21) dX5_factor_14 (by decide) r4 (fun c76 => ?_) (fun c76 => ?_)
  ·
    refine GO.letters dX5_factor_21 dX5_factor_23 dX5_factor_24 dX5_factor_25 rfl gV_RX5_119 rfl rfl (Nat.le_of_ble_eq_true rfl) rfl rfl (fun X77 r78 h79 => ?_)
    exact hj11 X77 (by omega) (by omega)
  ·
    refine GO.iconst dX5_factor_17 ?_
    refine GO.goto (tgt := 28) dX5_factor_18 (by decide) ?_
    exact hj11 (-1) (by omega) (by omega)

theorem t_X5_factor_6 {K : Kmap} {V : Vmap} {x : Nat} (h_x : K x = some (0, 4)) (q_0 : (vi V x 5 ≠ 0 ∨ (vi V x 5 = 0 ∧ vi V x 4 ≥ 3 ∧ vi V x 4 ≤ 8))) : MC mX5_factor_6 K V [.ref x] (VS K (fun V1 => (vi V1 x 4 = vi V x 4 ∧ (vi V x 5 ≠ 0 → vi V1 x 5 ≠ 0)))) := by
  rcases q_0 with h | h
  · exact t_X5_factor_6_F h_x (by omega)
  · exact t_X5_factor_6_G h_x (by omega) (by omega) (by omega)

set_option maxHeartbeats 1000000 in
theorem t_X5_factors_6_F {K : Kmap} {V : Vmap} {x : Nat} (h_x : K x = some (0, 4)) (q_0 : vi V x 5 ≠ 0) : MC mX5_factors_6 K V [.ref x] (VS K (fun V1 => (vi V1 x 4 = vi V x 4 ∧ (vi V x 5 ≠ 0 → vi V1 x 5 ≠ 0)))) := by
  refine MC.start 2 (by decide +kernel) rfl rfl rfl (ls0 := [some (.ref x), none, none]) rfl ?_
  refine GO.aload_n dX5_factors_0 rfl rfl ?_
  have q1 : -2147483648 ≤ vi V x 4 ∧ vi V x 4 ≤ 2147483647 := vi_ir
  have q2 : -2147483648 ≤ vi V x 5 ∧ vi V x 5 ≤ 2147483647 := vi_ir
  refine GO.callV (ci := 4) (N := mX5_factor_6) dX5_factors_1 (RX5, TX5, 7) rfl gV_RX5_111 h_x (t_X5_factor_6 h_x (by omega)) rfl [] rfl rfl (Nat.le_of_ble_eq_true rfl) rfl (k_vs fun V5 h4 hF3 => ?_)
  refine GO.iconst dX5_factors_4 ?_
  refine GO.istore_n (ls1 := [some (.ref x), some (ti 0), none]) dX5_factors_5 rfl rfl rfl ?_
  have q9 : -2147483648 ≤ vi V5 x 4 ∧ vi V5 x 4 ≤ 2147483647 := vi_ir
  have q10 : -2147483648 ≤ vi V5 x 5 ∧ vi V5 x 5 ≤ 2147483647 := vi_ir
  refine GO.loop1 (fun i8 W => 0 ≤ i8 ∧ i8 ≤ 0 ∧ (vi W x 4 = vi V5 x 4 ∧ (vi V5 x 5 ≠ 0 → vi W x 5 ≠ 0)) ∧ True) (fun i8 => [some (.ref x), some (ti i8), none]) (fun i8 W => (2147483647 - i8).toNat) 0 ⟨by omega, by omega, by omega, trivial⟩ rfl (fun i8 Wi8 hp16 ih15 => ?_)
  obtain ⟨l_i8, u_i8, n_i8, -⟩ := hp16
  have r_i8 : ir i8 := ⟨by omega, by omega⟩
  show GO mX5_factors_6 K V (VS K (fun V1 => (vi V1 x 4 = vi V x 4 ∧ (vi V x 5 ≠ 0 → vi V1 x 5 ≠ 0)))) K Wi8 0 0 6 [some (.ref x), some (ti i8), none] []
  refine GO.iload_n dX5_factors_6 rfl rfl ?_
  refine GO.sipush dX5_factors_7 rfl ?_
  refine GO.icmp_ge (tgt := 91) dX5_factors_10 (by decide) r_i8 (ir_c rfl) (fun h => by exfalso; omega) (fun c17 => ?_)
  refine GO.aload_n dX5_factors_13 rfl rfl ?_
  refine GO.getI h_x fl_RX5_18 rfl rfl dX5_factors_14 (fun _ _ => ?_)
  have q19 : -2147483648 ≤ vi Wi8 x 5 ∧ vi Wi8 x 5 ≤ 2147483647 := vi_ir
  refine GO.if_ne (tgt := 91) dX5_factors_17 (by decide) vi_ir (fun c18 => ?_) (fun h => by exfalso; omega)
  have q20 : -2147483648 ≤ vi Wi8 x 4 ∧ vi Wi8 x 4 ≤ 2147483647 := vi_ir
  exact GO.retv rfl rfl dX5_factors_91 ⟨rfl, rfl, by omega⟩

set_option maxHeartbeats 1000000 in
theorem t_X5_factors_6_G {K : Kmap} {V : Vmap} {x : Nat} (h_x : K x = some (0, 4)) (q_0 : vi V x 5 = 0) (q_1 : vi V x 4 ≥ 3) (q_2 : vi V x 4 ≤ 8) : MC mX5_factors_6 K V [.ref x] (VS K (fun V1 => (vi V1 x 4 = vi V x 4 ∧ (vi V x 5 ≠ 0 → vi V1 x 5 ≠ 0)))) := by
  refine MC.start 2 (by decide +kernel) rfl rfl rfl (ls0 := [some (.ref x), none, none]) rfl ?_
  refine GO.aload_n dX5_factors_0 rfl rfl ?_
  have q1 : -2147483648 ≤ vi V x 4 ∧ vi V x 4 ≤ 2147483647 := vi_ir
  have q2 : -2147483648 ≤ vi V x 5 ∧ vi V x 5 ≤ 2147483647 := vi_ir
  refine GO.callV (ci := 4) (N := mX5_factor_6) dX5_factors_1 (RX5, TX5, 7) rfl gV_RX5_111 h_x (t_X5_factor_6 h_x (by omega)) rfl [] rfl rfl (Nat.le_of_ble_eq_true rfl) rfl (k_vs fun V5 h4 hF3 => ?_)
  refine GO.iconst dX5_factors_4 ?_
  refine GO.istore_n (ls1 := [some (.ref x), some (ti 0), none]) dX5_factors_5 rfl rfl rfl ?_
  have q9 : -2147483648 ≤ vi V5 x 4 ∧ vi V5 x 4 ≤ 2147483647 := vi_ir
  have q10 : -2147483648 ≤ vi V5 x 5 ∧ vi V5 x 5 ≤ 2147483647 := vi_ir
  refine GO.loop1 (fun i8 W => 0 ≤ i8 ∧ i8 ≤ 200 ∧ (vi W x 4 = vi V5 x 4 ∧ (vi V5 x 5 ≠ 0 → vi W x 5 ≠ 0)) ∧ True) (fun i8 => [some (.ref x), some (ti i8), none]) (fun i8 W => (2147483647 - i8).toNat) 0 ⟨by omega, by omega, by omega, trivial⟩ rfl (fun i8 Wi8 hp484 ih483 => ?_)
  obtain ⟨l_i8, u_i8, n_i8, -⟩ := hp484
  have r_i8 : ir i8 := ⟨by omega, by omega⟩
  show GO mX5_factors_6 K V (VS K (fun V1 => (vi V1 x 4 = vi V x 4 ∧ (vi V x 5 ≠ 0 → vi V1 x 5 ≠ 0)))) K Wi8 0 0 6 [some (.ref x), some (ti i8), none] []
  refine GO.iload_n dX5_factors_6 rfl rfl ?_
  refine GO.sipush dX5_factors_7 rfl ?_
  refine GO.icmp_ge (tgt := 91) dX5_factors_10 (by decide) r_i8 (ir_c rfl) (fun c485 => ?_) (fun c485 => ?_)
  ·
    have q486 : -2147483648 ≤ vi Wi8 x 4 ∧ vi Wi8 x 4 ≤ 2147483647 := vi_ir
    have q487 : -2147483648 ≤ vi Wi8 x 5 ∧ vi Wi8 x 5 ≤ 2147483647 := vi_ir
    exact GO.retv rfl rfl dX5_factors_91 ⟨rfl, rfl, by omega⟩
  ·
    refine GO.aload_n dX5_factors_13 rfl rfl ?_
    refine GO.getI h_x fl_RX5_18 rfl rfl dX5_factors_14 (fun _ _ => ?_)
    refine GO.if_ne (tgt := 91) dX5_factors_17 (by decide) vi_ir (fun c488 => ?_) (fun c488 => ?_)
    ·
      have q489 : -2147483648 ≤ vi Wi8 x 4 ∧ vi Wi8 x 4 ≤ 2147483647 := vi_ir
      have q490 : -2147483648 ≤ vi Wi8 x 5 ∧ vi Wi8 x 5 ≤ 2147483647 := vi_ir
      exact GO.retv rfl rfl dX5_factors_91 ⟨rfl, rfl, by omega⟩
    ·
      refine GO.aload_n dX5_factors_20 rfl rfl ?_
      refine GO.callV (ci := 4) (N := mX5_next) dX5_factors_21 (RX5, TX5, 7) rfl gV_RX5_61 h_x (t_X5_next h_x) rfl [] rfl rfl (Nat.le_of_ble_eq_true rfl) rfl (k_ip fun X491 r492 h493 => ?_)
      refine GO.callS (N := mX5_isFactorSign) dX5_factors_24 gS_RX5_114 (t_X5_isFactorSign r492) rfl [] rfl rfl (Nat.le_of_ble_eq_true rfl) rfl (k_ip fun X494 r495 h496 => ?_)
      refine GO.if_eq (tgt := 91) dX5_factors_27 (by decide) r495 (fun c497 => ?_) (fun c497 => ?_)
      ·
        have q498 : -2147483648 ≤ vi Wi8 x 4 ∧ vi Wi8 x 4 ≤ 2147483647 := vi_ir
        have q499 : -2147483648 ≤ vi Wi8 x 5 ∧ vi Wi8 x 5 ≤ 2147483647 := vi_ir
        exact GO.retv rfl rfl dX5_factors_91 ⟨rfl, rfl, by omega⟩
      ·
        refine GO.aload_n dX5_factors_30 rfl rfl ?_
        refine GO.callV (ci := 4) (N := mX5_next) dX5_factors_31 (RX5, TX5, 7) rfl gV_RX5_61 h_x (t_X5_next h_x) rfl [] rfl rfl (Nat.le_of_ble_eq_true rfl) rfl (k_ip fun X500 r501 h502 => ?_)
        refine GO.bipush dX5_factors_34 rfl ?_
        have hj509 : ∀ (z508 : Int), ∀ (l510 : 7 ≤ z508), ∀ (u511 : z508 ≤ 9), GO mX5_factors_6 K V (VS K (fun V1 => (vi V1 x 4 = vi V x 4 ∧ (vi V x 5 ≠ 0 → vi V1 x 5 ≠ 0)))) K Wi8 0 0 60 [some (.ref x), some (ti i8), none] [ti z508] := by
          intro z508 l510 u511
          have r512 : ir z508 := ⟨by omega, by omega⟩
          refine GO.istore_n (ls1 := [some (.ref x), some (ti i8), some (ti z508)]) dX5_factors_60 rfl rfl rfl ?_
          refine GO.aload_n dX5_factors_61 rfl rfl ?_
          refine GO.dup dX5_factors_62 rfl ?_
          refine GO.getI h_x fl_RX5_9 rfl rfl dX5_factors_63 (fun _ _ => ?_)
          refine GO.iconst dX5_factors_66 ?_
          refine GO.iadd dX5_factors_67 ?_
          refine GO.norm (fun z513 r514 hn515 => ?_)
          refine GO.putI h_x fp_RX5_9 rfl (by decide +kernel) r514 (r514).1 (r514).2 dX5_factors_68 (fun V517 e516 => ?_)
          refine GO.aload_n dX5_factors_71 rfl rfl ?_
          have e518 : vi V517 x 5 = vi Wi8 x 5 := vi_up e516 (Or.inr (by decide))
          have e519 : vi V517 x 4 = vi Wi8 x 4 := vi_up e516 (Or.inr (by decide))
          have q520 : -2147483648 ≤ vi Wi8 x 4 ∧ vi Wi8 x 4 ≤ 2147483647 := vi_ir
          have q521 : -2147483648 ≤ vi Wi8 x 5 ∧ vi Wi8 x 5 ≤ 2147483647 := vi_ir
          refine GO.callV (ci := 4) (N := mX5_factor_6) dX5_factors_72 (RX5, TX5, 7) rfl gV_RX5_111 h_x (t_X5_factor_6 h_x (by omega)) rfl [] rfl rfl (Nat.le_of_ble_eq_true rfl) rfl (k_vs fun V524 h523 hF522 => ?_)
          refine GO.aload_n dX5_factors_75 rfl rfl ?_
          refine GO.getR h_x fl_RX5_31 rfl rfl dX5_factors_76 (fun hv528 h527 => ?_)
          refine GO.iload_n dX5_factors_79 rfl rfl ?_
          refine GO.iconst dX5_factors_80 ?_
          refine GO.callV (ci := 8) (N := mX9_addStep) dX5_factors_81 (RX9, TX9, 5) rfl gV_RX5_92 h527 (t_X9_addStep h527 r512 (ir_c rfl)) rfl [] rfl rfl (Nat.le_of_ble_eq_true rfl) rfl (k_is fun X529 V533 r530 h531 hF532 => ?_)
          refine GO.pop dX5_factors_84 rfl ?_
          refine GO.iinc (X := i8) (n := 1) (Y := i8 + 1) (ls1 := [some (.ref x), some (ti (i8 + 1)), some (ti z508)]) dX5_factors_85 rfl rfl rfl rfl ?_
          refine GO.goto (tgt := 6) dX5_factors_88 (by decide) ?_
          refine GO.drop [true, true, false] rfl ?_
          have e534 : vi V533 x 4 = vi V524 x 4 := vi_fr hF532 h_x h_x (by decide +kernel)
          have q535 : -2147483648 ≤ vi V524 x 4 ∧ vi V524 x 4 ≤ 2147483647 := vi_ir
          have e536 : vi V533 x 5 = vi V524 x 5 := vi_fr hF532 h_x h_x (by decide +kernel)
          have q537 : -2147483648 ≤ vi V524 x 5 ∧ vi V524 x 5 ≤ 2147483647 := vi_ir
          exact ih483 (i8 + 1) V533 ⟨by omega, by omega, by omega, trivial⟩ (by show (2147483647 - (i8 + 1)).toNat < (2147483647 - i8).toNat; omega)
        refine GO.icmp_ne (tgt := 44) dX5_factors_36 (by decide) r501 (ir_c rfl) (fun c538 => ?_) (fun c538 => ?_)
        ·
          refine GO.aload_n dX5_factors_44 rfl rfl ?_
          refine GO.callV (ci := 4) (N := mX5_next) dX5_factors_45 (RX5, TX5, 7) rfl gV_RX5_61 h_x (t_X5_next h_x) rfl [] rfl rfl (Nat.le_of_ble_eq_true rfl) rfl (k_ip fun X539 r540 h541 => ?_)
          refine GO.bipush dX5_factors_48 rfl ?_
          refine GO.icmp_ne (tgt := 58) dX5_factors_50 (by decide) r540 (ir_c rfl) (fun c542 => ?_) (fun c542 => ?_)
          ·
            refine GO.bipush dX5_factors_58 rfl ?_
            exact hj509 9 (by omega) (by omega)
          ·
            refine GO.bipush dX5_factors_53 rfl ?_
            refine GO.goto (tgt := 60) dX5_factors_55 (by decide) ?_
            exact hj509 8 (by omega) (by omega)
        ·
          refine GO.bipush dX5_factors_39 rfl ?_
          refine GO.goto (tgt := 60) dX5_factors_41 (by decide) ?_
          exact hj509 7 (by omega) (by omega)

theorem t_X5_factors_6 {K : Kmap} {V : Vmap} {x : Nat} (h_x : K x = some (0, 4)) (q_0 : (vi V x 5 ≠ 0 ∨ (vi V x 5 = 0 ∧ vi V x 4 ≥ 3 ∧ vi V x 4 ≤ 8))) : MC mX5_factors_6 K V [.ref x] (VS K (fun V1 => (vi V1 x 4 = vi V x 4 ∧ (vi V x 5 ≠ 0 → vi V1 x 5 ≠ 0)))) := by
  rcases q_0 with h | h
  · exact t_X5_factors_6_F h_x (by omega)
  · exact t_X5_factors_6_G h_x (by omega) (by omega) (by omega)

set_option maxHeartbeats 1000000 in
theorem t_X5_terms_6_F {K : Kmap} {V : Vmap} {x : Nat} (h_x : K x = some (0, 4)) (q_0 : vi V x 5 ≠ 0) : MC mX5_terms_6 K V [.ref x] (VS K (fun V1 => (vi V1 x 4 = vi V x 4 ∧ (vi V x 5 ≠ 0 → vi V1 x 5 ≠ 0)))) := by
  refine MC.start 2 (by decide +kernel) rfl rfl rfl (ls0 := [some (.ref x), none, none]) rfl ?_
  refine GO.aload_n dX5_terms_0 rfl rfl ?_
  have q1 : -2147483648 ≤ vi V x 4 ∧ vi V x 4 ≤ 2147483647 := vi_ir
  have q2 : -2147483648 ≤ vi V x 5 ∧ vi V x 5 ≤ 2147483647 := vi_ir
  refine GO.callV (ci := 4) (N := mX5_factors_6) dX5_terms_1 (RX5, TX5, 7) rfl gV_RX5_108 h_x (t_X5_factors_6 h_x (by omega)) rfl [] rfl rfl (Nat.le_of_ble_eq_true rfl) rfl (k_vs fun V5 h4 hF3 => ?_)
  refine GO.iconst dX5_terms_4 ?_
  refine GO.istore_n (ls1 := [some (.ref x), some (ti 0), none]) dX5_terms_5 rfl rfl rfl ?_
  have q9 : -2147483648 ≤ vi V5 x 4 ∧ vi V5 x 4 ≤ 2147483647 := vi_ir
  have q10 : -2147483648 ≤ vi V5 x 5 ∧ vi V5 x 5 ≤ 2147483647 := vi_ir
  refine GO.loop1 (fun i8 W => 0 ≤ i8 ∧ i8 ≤ 0 ∧ (vi W x 4 = vi V5 x 4 ∧ (vi V5 x 5 ≠ 0 → vi W x 5 ≠ 0)) ∧ True) (fun i8 => [some (.ref x), some (ti i8), none]) (fun i8 W => (2147483647 - i8).toNat) 0 ⟨by omega, by omega, by omega, trivial⟩ rfl (fun i8 Wi8 hp16 ih15 => ?_)
  obtain ⟨l_i8, u_i8, n_i8, -⟩ := hp16
  have r_i8 : ir i8 := ⟨by omega, by omega⟩
  show GO mX5_terms_6 K V (VS K (fun V1 => (vi V1 x 4 = vi V x 4 ∧ (vi V x 5 ≠ 0 → vi V1 x 5 ≠ 0)))) K Wi8 0 0 6 [some (.ref x), some (ti i8), none] []
  refine GO.iload_n dX5_terms_6 rfl rfl ?_
  refine GO.sipush dX5_terms_7 rfl ?_
  refine GO.icmp_ge (tgt := 84) dX5_terms_10 (by decide) r_i8 (ir_c rfl) (fun h => by exfalso; omega) (fun c17 => ?_)
  refine GO.aload_n dX5_terms_13 rfl rfl ?_
  refine GO.getI h_x fl_RX5_18 rfl rfl dX5_terms_14 (fun _ _ => ?_)
  have q19 : -2147483648 ≤ vi Wi8 x 5 ∧ vi Wi8 x 5 ≤ 2147483647 := vi_ir
  refine GO.if_ne (tgt := 84) dX5_terms_17 (by decide) vi_ir (fun c18 => ?_) (fun h => by exfalso; omega)
  have q20 : -2147483648 ≤ vi Wi8 x 4 ∧ vi Wi8 x 4 ≤ 2147483647 := vi_ir
  exact GO.retv rfl rfl dX5_terms_84 ⟨rfl, rfl, by omega⟩

set_option maxHeartbeats 1000000 in
theorem t_X5_terms_6_G {K : Kmap} {V : Vmap} {x : Nat} (h_x : K x = some (0, 4)) (q_0 : vi V x 5 = 0) (q_1 : vi V x 4 ≥ 3) (q_2 : vi V x 4 ≤ 8) : MC mX5_terms_6 K V [.ref x] (VS K (fun V1 => (vi V1 x 4 = vi V x 4 ∧ (vi V x 5 ≠ 0 → vi V1 x 5 ≠ 0)))) := by
  refine MC.start 2 (by decide +kernel) rfl rfl rfl (ls0 := [some (.ref x), none, none]) rfl ?_
  refine GO.aload_n dX5_terms_0 rfl rfl ?_
  have q1 : -2147483648 ≤ vi V x 4 ∧ vi V x 4 ≤ 2147483647 := vi_ir
  have q2 : -2147483648 ≤ vi V x 5 ∧ vi V x 5 ≤ 2147483647 := vi_ir
  refine GO.callV (ci := 4) (N := mX5_factors_6) dX5_terms_1 (RX5, TX5, 7) rfl gV_RX5_108 h_x (t_X5_factors_6 h_x (by omega)) rfl [] rfl rfl (Nat.le_of_ble_eq_true rfl) rfl (k_vs fun V5 h4 hF3 => ?_)
  refine GO.iconst dX5_terms_4 ?_
  refine GO.istore_n (ls1 := [some (.ref x), some (ti 0), none]) dX5_terms_5 rfl rfl rfl ?_
  have q9 : -2147483648 ≤ vi V5 x 4 ∧ vi V5 x 4 ≤ 2147483647 := vi_ir
  have q10 : -2147483648 ≤ vi V5 x 5 ∧ vi V5 x 5 ≤ 2147483647 := vi_ir
  refine GO.loop1 (fun i8 W => 0 ≤ i8 ∧ i8 ≤ 200 ∧ (vi W x 4 = vi V5 x 4 ∧ (vi V5 x 5 ≠ 0 → vi W x 5 ≠ 0)) ∧ True) (fun i8 => [some (.ref x), some (ti i8), none]) (fun i8 W => (2147483647 - i8).toNat) 0 ⟨by omega, by omega, by omega, trivial⟩ rfl (fun i8 Wi8 hp493 ih492 => ?_)
  obtain ⟨l_i8, u_i8, n_i8, -⟩ := hp493
  have r_i8 : ir i8 := ⟨by omega, by omega⟩
  show GO mX5_terms_6 K V (VS K (fun V1 => (vi V1 x 4 = vi V x 4 ∧ (vi V x 5 ≠ 0 → vi V1 x 5 ≠ 0)))) K Wi8 0 0 6 [some (.ref x), some (ti i8), none] []
  refine GO.iload_n dX5_terms_6 rfl rfl ?_
  refine GO.sipush dX5_terms_7 rfl ?_
  refine GO.icmp_ge (tgt := 84) dX5_terms_10 (by decide) r_i8 (ir_c rfl) (fun c494 => ?_) (fun c494 => ?_)
  ·
    have q495 : -2147483648 ≤ vi Wi8 x 4 ∧ vi Wi8 x 4 ≤ 2147483647 := vi_ir
    have q496 : -2147483648 ≤ vi Wi8 x 5 ∧ vi Wi8 x 5 ≤ 2147483647 := vi_ir
    exact GO.retv rfl rfl dX5_terms_84 ⟨rfl, rfl, by omega⟩
  ·
    refine GO.aload_n dX5_terms_13 rfl rfl ?_
    refine GO.getI h_x fl_RX5_18 rfl rfl dX5_terms_14 (fun _ _ => ?_)
    refine GO.if_ne (tgt := 84) dX5_terms_17 (by decide) vi_ir (fun c497 => ?_) (fun c497 => ?_)
    ·
      have q498 : -2147483648 ≤ vi Wi8 x 4 ∧ vi Wi8 x 4 ≤ 2147483647 := vi_ir
      have q499 : -2147483648 ≤ vi Wi8 x 5 ∧ vi Wi8 x 5 ≤ 2147483647 := vi_ir
      exact GO.retv rfl rfl dX5_terms_84 ⟨rfl, rfl, by omega⟩
    ·
      refine GO.aload_n dX5_terms_20 rfl rfl ?_
      refine GO.callV (ci := 4) (N := mX5_next) dX5_terms_21 (RX5, TX5, 7) rfl gV_RX5_61 h_x (t_X5_next h_x) rfl [] rfl rfl (Nat.le_of_ble_eq_true rfl) rfl (k_ip fun X500 r501 h502 => ?_)
      refine GO.bipush dX5_terms_24 rfl ?_
      have hj510 : GO mX5_terms_6 K V (VS K (fun V1 => (vi V1 x 4 = vi V x 4 ∧ (vi V x 5 ≠ 0 → vi V1 x 5 ≠ 0)))) K Wi8 0 0 38 [some (.ref x), some (ti i8), none] [] := by
        skip
        refine GO.aload_n dX5_terms_38 rfl rfl ?_
        refine GO.callV (ci := 4) (N := mX5_next) dX5_terms_39 (RX5, TX5, 7) rfl gV_RX5_61 h_x (t_X5_next h_x) rfl [] rfl rfl (Nat.le_of_ble_eq_true rfl) rfl (k_ip fun X511 r512 h513 => ?_)
        refine GO.bipush dX5_terms_42 rfl ?_
        have hj516 : ∀ (z515 : Int), ∀ (l517 : 5 ≤ z515), ∀ (u518 : z515 ≤ 6), GO mX5_terms_6 K V (VS K (fun V1 => (vi V1 x 4 = vi V x 4 ∧ (vi V x 5 ≠ 0 → vi V1 x 5 ≠ 0)))) K Wi8 0 0 53 [some (.ref x), some (ti i8), none] [ti z515] := by
          intro z515 l517 u518
          have r519 : ir z515 := ⟨by omega, by omega⟩
          refine GO.istore_n (ls1 := [some (.ref x), some (ti i8), some (ti z515)]) dX5_terms_53 rfl rfl rfl ?_
          refine GO.aload_n dX5_terms_54 rfl rfl ?_
          refine GO.dup dX5_terms_55 rfl ?_
          refine GO.getI h_x fl_RX5_9 rfl rfl dX5_terms_56 (fun _ _ => ?_)
          refine GO.iconst dX5_terms_59 ?_
          refine GO.iadd dX5_terms_60 ?_
          refine GO.norm (fun z520 r521 hn522 => ?_)
          refine GO.putI h_x fp_RX5_9 rfl (by decide +kernel) r521 (r521).1 (r521).2 dX5_terms_61 (fun V524 e523 => ?_)
          refine GO.aload_n dX5_terms_64 rfl rfl ?_
          have e525 : vi V524 x 5 = vi Wi8 x 5 := vi_up e523 (Or.inr (by decide))
          have e526 : vi V524 x 4 = vi Wi8 x 4 := vi_up e523 (Or.inr (by decide))
          have q527 : -2147483648 ≤ vi Wi8 x 4 ∧ vi Wi8 x 4 ≤ 2147483647 := vi_ir
          have q528 : -2147483648 ≤ vi Wi8 x 5 ∧ vi Wi8 x 5 ≤ 2147483647 := vi_ir
          refine GO.callV (ci := 4) (N := mX5_factors_6) dX5_terms_65 (RX5, TX5, 7) rfl gV_RX5_108 h_x (t_X5_factors_6 h_x (by omega)) rfl [] rfl rfl (Nat.le_of_ble_eq_true rfl) rfl (k_vs fun V531 h530 hF529 => ?_)
          refine GO.aload_n dX5_terms_68 rfl rfl ?_
          refine GO.getR h_x fl_RX5_31 rfl rfl dX5_terms_69 (fun hv535 h534 => ?_)
          refine GO.iload_n dX5_terms_72 rfl rfl ?_
          refine GO.iconst dX5_terms_73 ?_
          refine GO.callV (ci := 8) (N := mX9_addStep) dX5_terms_74 (RX9, TX9, 5) rfl gV_RX5_92 h534 (t_X9_addStep h534 r519 (ir_c rfl)) rfl [] rfl rfl (Nat.le_of_ble_eq_true rfl) rfl (k_is fun X536 V540 r537 h538 hF539 => ?_)
          refine GO.pop dX5_terms_77 rfl ?_
          refine GO.iinc (X := i8) (n := 1) (Y := i8 + 1) (ls1 := [some (.ref x), some (ti (i8 + 1)), some (ti z515)]) dX5_terms_78 rfl rfl rfl rfl ?_
          refine GO.goto (tgt := 6) dX5_terms_81 (by decide) ?_
          refine GO.drop [true, true, false] rfl ?_
          have e541 : vi V540 x 4 = vi V531 x 4 := vi_fr hF539 h_x h_x (by decide +kernel)
          have q542 : -2147483648 ≤ vi V531 x 4 ∧ vi V531 x 4 ≤ 2147483647 := vi_ir
          have e543 : vi V540 x 5 = vi V531 x 5 := vi_fr hF539 h_x h_x (by decide +kernel)
          have q544 : -2147483648 ≤ vi V531 x 5 ∧ vi V531 x 5 ≤ 2147483647 := vi_ir
          exact ih492 (i8 + 1) V540 ⟨by omega, by omega, by omega, trivial⟩ (by show (2147483647 - (i8 + 1)).toNat < (2147483647 - i8).toNat; omega)
        refine GO.icmp_ne (tgt := 51) dX5_terms_44 (by decide) r512 (ir_c rfl) (fun c545 => ?_) (fun c545 => ?_)
        ·
          refine GO.bipush dX5_terms_51 rfl ?_
          exact hj516 6 (by omega) (by omega)
        ·
          refine GO.iconst dX5_terms_47 ?_
          refine GO.goto (tgt := 53) dX5_terms_48 (by decide) ?_
          exact hj516 5 (by omega) (by omega)
      refine GO.icmp_eq (tgt := 38) dX5_terms_26 (by decide) r501 (ir_c rfl) (fun c546 => ?_) (fun c546 => ?_)
      ·
        exact hj510 
      ·
        refine GO.aload_n dX5_terms_29 rfl rfl ?_
        refine GO.callV (ci := 4) (N := mX5_next) dX5_terms_30 (RX5, TX5, 7) rfl gV_RX5_61 h_x (t_X5_next h_x) rfl [] rfl rfl (Nat.le_of_ble_eq_true rfl) rfl (k_ip fun X547 r548 h549 => ?_)
        refine GO.bipush dX5_terms_33 rfl ?_
        refine GO.icmp_ne (tgt := 84) dX5_terms_35 (by decide) r548 (ir_c rfl) (fun c550 => ?_) (fun c550 => ?_)
        ·
          have q551 : -2147483648 ≤ vi Wi8 x 4 ∧ vi Wi8 x 4 ≤ 2147483647 := vi_ir
          have q552 : -2147483648 ≤ vi Wi8 x 5 ∧ vi Wi8 x 5 ≤ 2147483647 := vi_ir
          exact GO.retv rfl rfl dX5_terms_84 ⟨rfl, rfl, by omega⟩
        ·
          exact hj510 

theorem t_X5_terms_6 {K : Kmap} {V : Vmap} {x : Nat} (h_x : K x = some (0, 4)) (q_0 : (vi V x 5 ≠ 0 ∨ (vi V x 5 = 0 ∧ vi V x 4 ≥ 3 ∧ vi V x 4 ≤ 8))) : MC mX5_terms_6 K V [.ref x] (VS K (fun V1 => (vi V1 x 4 = vi V x 4 ∧ (vi V x 5 ≠ 0 → vi V1 x 5 ≠ 0)))) := by
  rcases q_0 with h | h
  · exact t_X5_terms_6_F h_x (by omega)
  · exact t_X5_terms_6_G h_x (by omega) (by omega) (by omega)

set_option maxHeartbeats 1000000 in
theorem t_X5_factor_7_F {K : Kmap} {V : Vmap} {x : Nat} (h_x : K x = some (0, 4)) (q_0 : vi V x 5 ≠ 0) : MC mX5_factor_7 K V [.ref x] (VS K (fun V1 => (vi V1 x 4 = vi V x 4 ∧ (vi V x 5 ≠ 0 → vi V1 x 5 ≠ 0)))) := by
  refine MC.start 2 (by decide +kernel) rfl rfl rfl (ls0 := [some (.ref x), none, none]) rfl ?_
  refine GO.aload_n dX5_factor_0 rfl rfl ?_
  refine GO.getI h_x fl_RX5_18 rfl rfl dX5_factor_1 (fun _ _ => ?_)
  have q2 : -2147483648 ≤ vi V x 5 ∧ vi V x 5 ≤ 2147483647 := vi_ir
  refine GO.if_eq (tgt := 8) dX5_factor_4 (by decide) vi_ir (fun h => by exfalso; omega) (fun c1 => ?_)
  have q3 : -2147483648 ≤ vi V x 4 ∧ vi V x 4 ≤ 2147483647 := vi_ir
  exact GO.retv rfl rfl dX5_factor_7 ⟨rfl, rfl, by omega⟩

set_option maxHeartbeats 1000000 in
theorem t_X5_factor_7_G {K : Kmap} {V : Vmap} {x : Nat} (h_x : K x = some (0, 4)) (q_0 : vi V x 5 = 0) (q_1 : vi V x 4 ≥ 2) (q_2 : vi V x 4 ≤ 8) : MC mX5_factor_7 K V [.ref x] (VS K (fun V1 => (vi V1 x 4 = vi V x 4 ∧ (vi V x 5 ≠ 0 → vi V1 x 5 ≠ 0)))) := by
  refine MC.start 2 (by decide +kernel) rfl rfl rfl (ls0 := [some (.ref x), none, none]) rfl ?_
  refine GO.aload_n dX5_factor_0 rfl rfl ?_
  refine GO.getI h_x fl_RX5_18 rfl rfl dX5_factor_1 (fun _ _ => ?_)
  have q2 : -2147483648 ≤ vi V x 5 ∧ vi V x 5 ≤ 2147483647 := vi_ir
  refine GO.if_eq (tgt := 8) dX5_factor_4 (by decide) vi_ir (fun c1 => ?_) (fun h => by exfalso; omega)
  refine GO.aload_n dX5_factor_8 rfl rfl ?_
  refine GO.callV (ci := 4) (N := mX5_next) dX5_factor_9 (RX5, TX5, 7) rfl gV_RX5_61 h_x (t_X5_next h_x) rfl [] rfl rfl (Nat.le_of_ble_eq_true rfl) rfl (k_ip fun X3 r4 h5 => ?_)
  refine GO.istore_n (ls1 := [some (.ref x), some (ti X3), none]) dX5_factor_12 rfl rfl rfl ?_
  refine GO.iload_n dX5_factor_13 rfl rfl ?_
  have hj11 : ∀ (z10 : Int), ∀ (l12 : (-1) ≤ z10), ∀ (u13 : z10 ≤ 13), GO mX5_factor_7 K V (VS K (fun V1 => (vi V1 x 4 = vi V x 4 ∧ (vi V x 5 ≠ 0 → vi V1 x 5 ≠ 0)))) K V 0 0 28 [some (.ref x), some (ti X3), none] [ti z10] := by
    intro z10 l12 u13
    have r14 : ir z10 := ⟨by omega, by omega⟩
    refine GO.istore_n (ls1 := [some (.ref x), some (ti X3), some (ti z10)]) dX5_factor_28 rfl rfl rfl ?_
    refine GO.iload_n dX5_factor_29 rfl rfl ?_
    refine GO.bipush dX5_factor_30 rfl ?_
    refine GO.icmp_ne (tgt := 64) dX5_factor_32 (by decide) r4 (ir_c rfl) (fun c15 => ?_) (fun c15 => ?_)
    ·
      refine GO.iload_n dX5_factor_64 rfl rfl ?_
      refine GO.if_lt (tgt := 91) dX5_factor_65 (by decide) r14 (fun c16 => ?_) (fun c16 => ?_)
      ·
        refine GO.aload_n dX5_factor_91 rfl rfl ?_
        refine GO.getR h_x fl_RX5_31 rfl rfl dX5_factor_92 (fun hv18 h17 => ?_)
        refine GO.iconst dX5_factor_95 ?_
        refine GO.aload_n dX5_factor_96 rfl rfl ?_
        refine GO.ldc (X := 999999) dX5_factor_97 gw_790 rfl ?_
        refine GO.callV (ci := 4) (N := mX5_digits) dX5_factor_99 (RX5, TX5, 7) rfl gV_RX5_69 h_x (t_X5_digits h_x (ir_c rfl)) rfl [ti 0, .ref (vq V x 2)] rfl rfl (Nat.le_of_ble_eq_true rfl) rfl (k_is fun X19 V23 r20 h21 hF22 => ?_)
        refine GO.callV (ci := 8) (N := mX9_addStep) dX5_factor_102 (RX9, TX9, 5) rfl gV_RX5_92 h17 (t_X9_addStep h17 (ir_c rfl) r20) rfl [] rfl rfl (Nat.le_of_ble_eq_true rfl) rfl (k_is fun X25 V29 r26 h27 hF28 => ?_)
        refine GO.pop dX5_factor_105 rfl ?_
        have e31 : vi V23 x 4 = vi V x 4 := vi_fr hF22 h_x h_x (by decide +kernel)
        have e30 : vi V29 x 4 = vi V23 x 4 := vi_fr hF28 h_x h_x (by decide +kernel)
        have q32 : -2147483648 ≤ vi V x 4 ∧ vi V x 4 ≤ 2147483647 := vi_ir
        have e33 : vi V29 x 5 = vi V23 x 5 := vi_fr hF28 h_x h_x (by decide +kernel)
        have q34 : -2147483648 ≤ vi V23 x 5 ∧ vi V23 x 5 ≤ 2147483647 := vi_ir
        exact GO.retv rfl rfl dX5_factor_106 ⟨rfl, rfl, by omega⟩
      ·
        refine GO.aload_n dX5_factor_68 rfl rfl ?_
        refine GO.dup dX5_factor_69 rfl ?_
        refine GO.getI h_x fl_RX5_9 rfl rfl dX5_factor_70 (fun _ _ => ?_)
        refine GO.iconst dX5_factor_73 ?_
        refine GO.iadd dX5_factor_74 ?_
        refine GO.norm (fun z35 r36 hn37 => ?_)
        refine GO.putI h_x fp_RX5_9 rfl (by decide +kernel) r36 (r36).1 (r36).2 dX5_factor_75 (fun V39 e38 => ?_)
        refine GO.aload_n dX5_factor_78 rfl rfl ?_
        refine GO.getR h_x fl_RX5_31 rfl rfl dX5_factor_79 (fun hv41 h40 => ?_)
        refine GO.iconst dX5_factor_82 ?_
        refine GO.iload_n dX5_factor_83 rfl rfl ?_
        refine GO.callV (ci := 8) (N := mX9_addStep) dX5_factor_84 (RX9, TX9, 5) rfl gV_RX5_92 h40 (t_X9_addStep h40 (ir_c rfl) r14) rfl [] rfl rfl (Nat.le_of_ble_eq_true rfl) rfl (k_is fun X42 V46 r43 h44 hF45 => ?_)
        refine GO.pop dX5_factor_87 rfl ?_
        refine GO.goto (tgt := 106) dX5_factor_88 (by decide) ?_
        have e48 : vi V39 x 4 = vi V x 4 := vi_up e38 (Or.inr (by decide))
        have e47 : vi V46 x 4 = vi V39 x 4 := vi_fr hF45 h_x h_x (by decide +kernel)
        have q49 : -2147483648 ≤ vi V x 4 ∧ vi V x 4 ≤ 2147483647 := vi_ir
        have e51 : vi V39 x 5 = vi V x 5 := vi_up e38 (Or.inr (by decide))
        have e50 : vi V46 x 5 = vi V39 x 5 := vi_fr hF45 h_x h_x (by decide +kernel)
        exact GO.retv rfl rfl dX5_factor_106 ⟨rfl, rfl, by omega⟩
    ·
      refine GO.aload_n dX5_factor_35 rfl rfl ?_
      refine GO.bipush dX5_factor_36 rfl ?_
      have q52 : -2147483648 ≤ vi V x 4 ∧ vi V x 4 ≤ 2147483647 := vi_ir
      refine GO.callV (ci := 4) (N := mX5_deepen) dX5_factor_38 (RX5, TX5, 7) rfl gV_RX5_80 h_x (t_X5_deepen h_x (ir_c rfl) (by omega) (by omega)) rfl [] rfl rfl (Nat.le_of_ble_eq_true rfl) rfl (k_vs fun V55 h54 hF53 => ?_)
      refine GO.aload_n dX5_factor_41 rfl rfl ?_
      have q58 : -2147483648 ≤ vi V55 x 4 ∧ vi V55 x 4 ≤ 2147483647 := vi_ir
      have q59 : -2147483648 ≤ vi V55 x 5 ∧ vi V55 x 5 ≤ 2147483647 := vi_ir
      refine GO.callV (ci := 4) (N := mX5_terms_6) dX5_factor_42 (RX5, TX5, 7) rfl gV_RX5_102 h_x (t_X5_terms_6 h_x (by omega)) rfl [] rfl rfl (Nat.le_of_ble_eq_true rfl) rfl (k_vs fun V62 h61 hF60 => ?_)
      refine GO.aload_n dX5_factor_45 rfl rfl ?_
      refine GO.dup dX5_factor_46 rfl ?_
      refine GO.getI h_x fl_RX5_15 rfl rfl dX5_factor_47 (fun _ _ => ?_)
      refine GO.iconst dX5_factor_50 ?_
      refine GO.isub dX5_factor_51 ?_
      have q66 : -2147483648 ≤ vi V62 x 4 ∧ vi V62 x 4 ≤ 2147483647 := vi_ir
      refine GO.putI h_x fp_RX5_15 rfl (by decide +kernel) ⟨by omega, by omega⟩ (by omega) (by omega) dX5_factor_52 (fun V67 e65 => ?_)
      refine GO.aload_n dX5_factor_55 rfl rfl ?_
      refine GO.bipush dX5_factor_56 rfl ?_
      have e68 : vi V67 x 5 = vi V62 x 5 := vi_up e65 (Or.inr (by decide))
      refine GO.callV (ci := 4) (N := mX5_take) dX5_factor_58 (RX5, TX5, 7) rfl gV_RX5_38 h_x (t_X5_take h_x (ir_c rfl)) rfl [] rfl rfl (Nat.le_of_ble_eq_true rfl) rfl (k_vs fun V71 h70 hF69 => ?_)
      refine GO.goto (tgt := 106) dX5_factor_61 (by decide) ?_
      have e74 : vi V67 x 4 = (vi V62 x 4) - 1 := upd2_int e65 ⟨by omega, by omega⟩
      have e73 : vi V71 x 4 = vi V67 x 4 := vi_fr hF69 h_x h_x (by decide +kernel)
      have q75 : -2147483648 ≤ vi V71 x 5 ∧ vi V71 x 5 ≤ 2147483647 := vi_ir
      exact GO.retv rfl rfl dX5_factor_106 ⟨rfl, rfl, by omega⟩
  refine GO.if_ge (tgt := 21) dX5_factor_14 (by decide) r4 (fun c76 => ?_) (fun c76 => ?_)
  ·
    refine GO.letters dX5_factor_21 dX5_factor_23 dX5_factor_24 dX5_factor_25 rfl gV_RX5_119 rfl rfl (Nat.le_of_ble_eq_true rfl) rfl rfl (fun X77 r78 h79 => ?_)
    exact hj11 X77 (by omega) (by omega)
  ·
    refine GO.iconst dX5_factor_17 ?_
    refine GO.goto (tgt := 28) dX5_factor_18 (by decide) ?_
    exact hj11 (-1) (by omega) (by omega)

theorem t_X5_factor_7 {K : Kmap} {V : Vmap} {x : Nat} (h_x : K x = some (0, 4)) (q_0 : (vi V x 5 ≠ 0 ∨ (vi V x 5 = 0 ∧ vi V x 4 ≥ 2 ∧ vi V x 4 ≤ 8))) : MC mX5_factor_7 K V [.ref x] (VS K (fun V1 => (vi V1 x 4 = vi V x 4 ∧ (vi V x 5 ≠ 0 → vi V1 x 5 ≠ 0)))) := by
  rcases q_0 with h | h
  · exact t_X5_factor_7_F h_x (by omega)
  · exact t_X5_factor_7_G h_x (by omega) (by omega) (by omega)

set_option maxHeartbeats 1000000 in
theorem t_X5_factors_7_F {K : Kmap} {V : Vmap} {x : Nat} (h_x : K x = some (0, 4)) (q_0 : vi V x 5 ≠ 0) : MC mX5_factors_7 K V [.ref x] (VS K (fun V1 => (vi V1 x 4 = vi V x 4 ∧ (vi V x 5 ≠ 0 → vi V1 x 5 ≠ 0)))) := by
  refine MC.start 2 (by decide +kernel) rfl rfl rfl (ls0 := [some (.ref x), none, none]) rfl ?_
  refine GO.aload_n dX5_factors_0 rfl rfl ?_
  have q1 : -2147483648 ≤ vi V x 4 ∧ vi V x 4 ≤ 2147483647 := vi_ir
  have q2 : -2147483648 ≤ vi V x 5 ∧ vi V x 5 ≤ 2147483647 := vi_ir
  refine GO.callV (ci := 4) (N := mX5_factor_7) dX5_factors_1 (RX5, TX5, 7) rfl gV_RX5_111 h_x (t_X5_factor_7 h_x (by omega)) rfl [] rfl rfl (Nat.le_of_ble_eq_true rfl) rfl (k_vs fun V5 h4 hF3 => ?_)
  refine GO.iconst dX5_factors_4 ?_
  refine GO.istore_n (ls1 := [some (.ref x), some (ti 0), none]) dX5_factors_5 rfl rfl rfl ?_
  have q9 : -2147483648 ≤ vi V5 x 4 ∧ vi V5 x 4 ≤ 2147483647 := vi_ir
  have q10 : -2147483648 ≤ vi V5 x 5 ∧ vi V5 x 5 ≤ 2147483647 := vi_ir
  refine GO.loop1 (fun i8 W => 0 ≤ i8 ∧ i8 ≤ 0 ∧ (vi W x 4 = vi V5 x 4 ∧ (vi V5 x 5 ≠ 0 → vi W x 5 ≠ 0)) ∧ True) (fun i8 => [some (.ref x), some (ti i8), none]) (fun i8 W => (2147483647 - i8).toNat) 0 ⟨by omega, by omega, by omega, trivial⟩ rfl (fun i8 Wi8 hp16 ih15 => ?_)
  obtain ⟨l_i8, u_i8, n_i8, -⟩ := hp16
  have r_i8 : ir i8 := ⟨by omega, by omega⟩
  show GO mX5_factors_7 K V (VS K (fun V1 => (vi V1 x 4 = vi V x 4 ∧ (vi V x 5 ≠ 0 → vi V1 x 5 ≠ 0)))) K Wi8 0 0 6 [some (.ref x), some (ti i8), none] []
  refine GO.iload_n dX5_factors_6 rfl rfl ?_
  refine GO.sipush dX5_factors_7 rfl ?_
  refine GO.icmp_ge (tgt := 91) dX5_factors_10 (by decide) r_i8 (ir_c rfl) (fun h => by exfalso; omega) (fun c17 => ?_)
  refine GO.aload_n dX5_factors_13 rfl rfl ?_
  refine GO.getI h_x fl_RX5_18 rfl rfl dX5_factors_14 (fun _ _ => ?_)
  have q19 : -2147483648 ≤ vi Wi8 x 5 ∧ vi Wi8 x 5 ≤ 2147483647 := vi_ir
  refine GO.if_ne (tgt := 91) dX5_factors_17 (by decide) vi_ir (fun c18 => ?_) (fun h => by exfalso; omega)
  have q20 : -2147483648 ≤ vi Wi8 x 4 ∧ vi Wi8 x 4 ≤ 2147483647 := vi_ir
  exact GO.retv rfl rfl dX5_factors_91 ⟨rfl, rfl, by omega⟩

set_option maxHeartbeats 1000000 in
theorem t_X5_factors_7_G {K : Kmap} {V : Vmap} {x : Nat} (h_x : K x = some (0, 4)) (q_0 : vi V x 5 = 0) (q_1 : vi V x 4 ≥ 2) (q_2 : vi V x 4 ≤ 8) : MC mX5_factors_7 K V [.ref x] (VS K (fun V1 => (vi V1 x 4 = vi V x 4 ∧ (vi V x 5 ≠ 0 → vi V1 x 5 ≠ 0)))) := by
  refine MC.start 2 (by decide +kernel) rfl rfl rfl (ls0 := [some (.ref x), none, none]) rfl ?_
  refine GO.aload_n dX5_factors_0 rfl rfl ?_
  have q1 : -2147483648 ≤ vi V x 4 ∧ vi V x 4 ≤ 2147483647 := vi_ir
  have q2 : -2147483648 ≤ vi V x 5 ∧ vi V x 5 ≤ 2147483647 := vi_ir
  refine GO.callV (ci := 4) (N := mX5_factor_7) dX5_factors_1 (RX5, TX5, 7) rfl gV_RX5_111 h_x (t_X5_factor_7 h_x (by omega)) rfl [] rfl rfl (Nat.le_of_ble_eq_true rfl) rfl (k_vs fun V5 h4 hF3 => ?_)
  refine GO.iconst dX5_factors_4 ?_
  refine GO.istore_n (ls1 := [some (.ref x), some (ti 0), none]) dX5_factors_5 rfl rfl rfl ?_
  have q9 : -2147483648 ≤ vi V5 x 4 ∧ vi V5 x 4 ≤ 2147483647 := vi_ir
  have q10 : -2147483648 ≤ vi V5 x 5 ∧ vi V5 x 5 ≤ 2147483647 := vi_ir
  refine GO.loop1 (fun i8 W => 0 ≤ i8 ∧ i8 ≤ 200 ∧ (vi W x 4 = vi V5 x 4 ∧ (vi V5 x 5 ≠ 0 → vi W x 5 ≠ 0)) ∧ True) (fun i8 => [some (.ref x), some (ti i8), none]) (fun i8 W => (2147483647 - i8).toNat) 0 ⟨by omega, by omega, by omega, trivial⟩ rfl (fun i8 Wi8 hp484 ih483 => ?_)
  obtain ⟨l_i8, u_i8, n_i8, -⟩ := hp484
  have r_i8 : ir i8 := ⟨by omega, by omega⟩
  show GO mX5_factors_7 K V (VS K (fun V1 => (vi V1 x 4 = vi V x 4 ∧ (vi V x 5 ≠ 0 → vi V1 x 5 ≠ 0)))) K Wi8 0 0 6 [some (.ref x), some (ti i8), none] []
  refine GO.iload_n dX5_factors_6 rfl rfl ?_
  refine GO.sipush dX5_factors_7 rfl ?_
  refine GO.icmp_ge (tgt := 91) dX5_factors_10 (by decide) r_i8 (ir_c rfl) (fun c485 => ?_) (fun c485 => ?_)
  ·
    have q486 : -2147483648 ≤ vi Wi8 x 4 ∧ vi Wi8 x 4 ≤ 2147483647 := vi_ir
    have q487 : -2147483648 ≤ vi Wi8 x 5 ∧ vi Wi8 x 5 ≤ 2147483647 := vi_ir
    exact GO.retv rfl rfl dX5_factors_91 ⟨rfl, rfl, by omega⟩
  ·
    refine GO.aload_n dX5_factors_13 rfl rfl ?_
    refine GO.getI h_x fl_RX5_18 rfl rfl dX5_factors_14 (fun _ _ => ?_)
    refine GO.if_ne (tgt := 91) dX5_factors_17 (by decide) vi_ir (fun c488 => ?_) (fun c488 => ?_)
    ·
      have q489 : -2147483648 ≤ vi Wi8 x 4 ∧ vi Wi8 x 4 ≤ 2147483647 := vi_ir
      have q490 : -2147483648 ≤ vi Wi8 x 5 ∧ vi Wi8 x 5 ≤ 2147483647 := vi_ir
      exact GO.retv rfl rfl dX5_factors_91 ⟨rfl, rfl, by omega⟩
    ·
      refine GO.aload_n dX5_factors_20 rfl rfl ?_
      refine GO.callV (ci := 4) (N := mX5_next) dX5_factors_21 (RX5, TX5, 7) rfl gV_RX5_61 h_x (t_X5_next h_x) rfl [] rfl rfl (Nat.le_of_ble_eq_true rfl) rfl (k_ip fun X491 r492 h493 => ?_)
      refine GO.callS (N := mX5_isFactorSign) dX5_factors_24 gS_RX5_114 (t_X5_isFactorSign r492) rfl [] rfl rfl (Nat.le_of_ble_eq_true rfl) rfl (k_ip fun X494 r495 h496 => ?_)
      refine GO.if_eq (tgt := 91) dX5_factors_27 (by decide) r495 (fun c497 => ?_) (fun c497 => ?_)
      ·
        have q498 : -2147483648 ≤ vi Wi8 x 4 ∧ vi Wi8 x 4 ≤ 2147483647 := vi_ir
        have q499 : -2147483648 ≤ vi Wi8 x 5 ∧ vi Wi8 x 5 ≤ 2147483647 := vi_ir
        exact GO.retv rfl rfl dX5_factors_91 ⟨rfl, rfl, by omega⟩
      ·
        refine GO.aload_n dX5_factors_30 rfl rfl ?_
        refine GO.callV (ci := 4) (N := mX5_next) dX5_factors_31 (RX5, TX5, 7) rfl gV_RX5_61 h_x (t_X5_next h_x) rfl [] rfl rfl (Nat.le_of_ble_eq_true rfl) rfl (k_ip fun X500 r501 h502 => ?_)
        refine GO.bipush dX5_factors_34 rfl ?_
        have hj509 : ∀ (z508 : Int), ∀ (l510 : 7 ≤ z508), ∀ (u511 : z508 ≤ 9), GO mX5_factors_7 K V (VS K (fun V1 => (vi V1 x 4 = vi V x 4 ∧ (vi V x 5 ≠ 0 → vi V1 x 5 ≠ 0)))) K Wi8 0 0 60 [some (.ref x), some (ti i8), none] [ti z508] := by
          intro z508 l510 u511
          have r512 : ir z508 := ⟨by omega, by omega⟩
          refine GO.istore_n (ls1 := [some (.ref x), some (ti i8), some (ti z508)]) dX5_factors_60 rfl rfl rfl ?_
          refine GO.aload_n dX5_factors_61 rfl rfl ?_
          refine GO.dup dX5_factors_62 rfl ?_
          refine GO.getI h_x fl_RX5_9 rfl rfl dX5_factors_63 (fun _ _ => ?_)
          refine GO.iconst dX5_factors_66 ?_
          refine GO.iadd dX5_factors_67 ?_
          refine GO.norm (fun z513 r514 hn515 => ?_)
          refine GO.putI h_x fp_RX5_9 rfl (by decide +kernel) r514 (r514).1 (r514).2 dX5_factors_68 (fun V517 e516 => ?_)
          refine GO.aload_n dX5_factors_71 rfl rfl ?_
          have e518 : vi V517 x 5 = vi Wi8 x 5 := vi_up e516 (Or.inr (by decide))
          have e519 : vi V517 x 4 = vi Wi8 x 4 := vi_up e516 (Or.inr (by decide))
          have q520 : -2147483648 ≤ vi Wi8 x 4 ∧ vi Wi8 x 4 ≤ 2147483647 := vi_ir
          have q521 : -2147483648 ≤ vi Wi8 x 5 ∧ vi Wi8 x 5 ≤ 2147483647 := vi_ir
          refine GO.callV (ci := 4) (N := mX5_factor_7) dX5_factors_72 (RX5, TX5, 7) rfl gV_RX5_111 h_x (t_X5_factor_7 h_x (by omega)) rfl [] rfl rfl (Nat.le_of_ble_eq_true rfl) rfl (k_vs fun V524 h523 hF522 => ?_)
          refine GO.aload_n dX5_factors_75 rfl rfl ?_
          refine GO.getR h_x fl_RX5_31 rfl rfl dX5_factors_76 (fun hv528 h527 => ?_)
          refine GO.iload_n dX5_factors_79 rfl rfl ?_
          refine GO.iconst dX5_factors_80 ?_
          refine GO.callV (ci := 8) (N := mX9_addStep) dX5_factors_81 (RX9, TX9, 5) rfl gV_RX5_92 h527 (t_X9_addStep h527 r512 (ir_c rfl)) rfl [] rfl rfl (Nat.le_of_ble_eq_true rfl) rfl (k_is fun X529 V533 r530 h531 hF532 => ?_)
          refine GO.pop dX5_factors_84 rfl ?_
          refine GO.iinc (X := i8) (n := 1) (Y := i8 + 1) (ls1 := [some (.ref x), some (ti (i8 + 1)), some (ti z508)]) dX5_factors_85 rfl rfl rfl rfl ?_
          refine GO.goto (tgt := 6) dX5_factors_88 (by decide) ?_
          refine GO.drop [true, true, false] rfl ?_
          have e534 : vi V533 x 4 = vi V524 x 4 := vi_fr hF532 h_x h_x (by decide +kernel)
          have q535 : -2147483648 ≤ vi V524 x 4 ∧ vi V524 x 4 ≤ 2147483647 := vi_ir
          have e536 : vi V533 x 5 = vi V524 x 5 := vi_fr hF532 h_x h_x (by decide +kernel)
          have q537 : -2147483648 ≤ vi V524 x 5 ∧ vi V524 x 5 ≤ 2147483647 := vi_ir
          exact ih483 (i8 + 1) V533 ⟨by omega, by omega, by omega, trivial⟩ (by show (2147483647 - (i8 + 1)).toNat < (2147483647 - i8).toNat; omega)
        refine GO.icmp_ne (tgt := 44) dX5_factors_36 (by decide) r501 (ir_c rfl) (fun c538 => ?_) (fun c538 => ?_)
        ·
          refine GO.aload_n dX5_factors_44 rfl rfl ?_
          refine GO.callV (ci := 4) (N := mX5_next) dX5_factors_45 (RX5, TX5, 7) rfl gV_RX5_61 h_x (t_X5_next h_x) rfl [] rfl rfl (Nat.le_of_ble_eq_true rfl) rfl (k_ip fun X539 r540 h541 => ?_)
          refine GO.bipush dX5_factors_48 rfl ?_
          refine GO.icmp_ne (tgt := 58) dX5_factors_50 (by decide) r540 (ir_c rfl) (fun c542 => ?_) (fun c542 => ?_)
          ·
            refine GO.bipush dX5_factors_58 rfl ?_
            exact hj509 9 (by omega) (by omega)
          ·
            refine GO.bipush dX5_factors_53 rfl ?_
            refine GO.goto (tgt := 60) dX5_factors_55 (by decide) ?_
            exact hj509 8 (by omega) (by omega)
        ·
          refine GO.bipush dX5_factors_39 rfl ?_
          refine GO.goto (tgt := 60) dX5_factors_41 (by decide) ?_
          exact hj509 7 (by omega) (by omega)

theorem t_X5_factors_7 {K : Kmap} {V : Vmap} {x : Nat} (h_x : K x = some (0, 4)) (q_0 : (vi V x 5 ≠ 0 ∨ (vi V x 5 = 0 ∧ vi V x 4 ≥ 2 ∧ vi V x 4 ≤ 8))) : MC mX5_factors_7 K V [.ref x] (VS K (fun V1 => (vi V1 x 4 = vi V x 4 ∧ (vi V x 5 ≠ 0 → vi V1 x 5 ≠ 0)))) := by
  rcases q_0 with h | h
  · exact t_X5_factors_7_F h_x (by omega)
  · exact t_X5_factors_7_G h_x (by omega) (by omega) (by omega)
