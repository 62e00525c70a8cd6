def mX5_terms_6 : MRec := (RX5, cX5_terms, 3, (none : Option Jvm.ClassFile.FieldType), yX5_terms, 23, 574, 0, 0, 84615164005151820665845159428194693098035799419427996068435045795123941278247852265624218936283556470163081713008521863233536)
def mX5_factor_7 : MRec := (RX5, cX5_factor, 3, (none : Option Jvm.ClassFile.FieldType), yX5_factor, 24, 596, 0, 0, 84615164005151820665845159428194693098035799419427996068435045795123941278247852265624218936283556470163081713008521863233536)
def mX5_factors_7 : MRec := (RX5, cX5_factors, 3, (none : Option Jvm.ClassFile.FieldType), yX5_factors, 25, 618, 0, 0, 84615164005151820665845159428194693098035799419427996068435045795123941278247852265624218936283556470163081713008521863233536)
def mX5_terms_7 : MRec := (RX5, cX5_terms, 3, (none : Option Jvm.ClassFile.FieldType), yX5_terms, 26, 640, 0, 0, 84615164005151820665845159428194693098035799419427996068435045795123941278247852265624218936283556470163081713008521863233536)
def mX5_factor_8 : MRec := (RX5, cX5_factor, 3, (none : Option Jvm.ClassFile.FieldType), yX5_factor, 27, 662, 0, 0, 84615164005151820665845159428194693098035799419427996068435045795123941278247852265624218936283556470163081713008521863233536)
set_option maxHeartbeats 1000000 in
theorem t_X5_terms_6_F {K : Kmap} {V : Vmap} {x : Nat} (h_x : K x = some (0, 4)) (q_0 : vi V x 5 ≠ 0) : MC mX5_terms_6 K V [.ref x] (VS K (fun V1 => (vi V1 x 4 = vi V x 4 ∧ (vi V x 5 ≠ 0 → vi V1 x 5 ≠ 0)) ∧ (CR K V V1 x (fun src e => terD src e (vi V x 4).toNat)))) := by
  refine MC.start 2 (by decide +kernel) rfl rfl rfl (ls0 := [some (.ref x), none, none]) rfl ?_
  refine GO.useWT (fun hW_0 => ?_)
  refine GO.aload_n dX5_terms_0 rfl rfl ?_
  have q1 : -2147483648 ≤ vi V x 4 ∧ vi V x 4 ≤ 2147483647 := vi_ir
  have q2 : -2147483648 ≤ vi V x 5 ∧ vi V x 5 ≤ 2147483647 := vi_ir
  refine GO.callV (ci := 4) (N := mX5_factors_6) dX5_terms_1 (RX5, TX5, 7) rfl gV_RX5_108 h_x (t_X5_factors_6 h_x (by omega)) rfl [] rfl rfl (Nat.le_of_ble_eq_true rfl) rfl (k_vs fun V5 h4 hF3 => ?_)
  have raw_factors := h4.2
  have rw1 := h4.2
  refine GO.iconst dX5_terms_4 ?_
  refine GO.istore_n (ls1 := [some (.ref x), some (ti 0), none]) dX5_terms_5 rfl rfl rfl ?_
  have q9 : -2147483648 ≤ vi V5 x 4 ∧ vi V5 x 4 ≤ 2147483647 := vi_ir
  have q10 : -2147483648 ≤ vi V5 x 5 ∧ vi V5 x 5 ≤ 2147483647 := vi_ir
  refine GO.loop1 (fun i8 W => 0 ≤ i8 ∧ i8 ≤ 0 ∧ (vi W x 4 = vi V5 x 4 ∧ (vi V5 x 5 ≠ 0 → vi W x 5 ≠ 0)) ∧ (TSI K V W x (vi V x 4).toNat i8) ∧ True) (fun i8 => [some (.ref x), some (ti i8), none]) (fun i8 W => (2147483647 - i8).toNat) 0 ⟨by omega, by omega, by omega, (by first | exact TSI.beg rw1 (by omega) | exact TSI.bad rw1 (by omega)), trivial⟩ rfl (fun i8 Wi8 hp16 ih15 => ?_)
  obtain ⟨l_i8, u_i8, n_i8, hts, -⟩ := hp16
  have r_i8 : ir i8 := ⟨by omega, by omega⟩
  show GO mX5_terms_6 K V (VS K (fun V1 => (vi V1 x 4 = vi V x 4 ∧ (vi V x 5 ≠ 0 → vi V1 x 5 ≠ 0)) ∧ (CR K V V1 x (fun src e => terD src e (vi V x 4).toNat)))) K Wi8 0 0 6 [some (.ref x), some (ti i8), none] []
  refine GO.useWT (fun hWh => ?_)
  refine GO.iload_n dX5_terms_6 rfl rfl ?_
  refine GO.sipush dX5_terms_7 rfl ?_
  refine GO.icmp_ge (tgt := 84) dX5_terms_10 (by decide) r_i8 (ir_c rfl) (fun h => by exfalso; omega) (fun c17 => ?_)
  refine GO.aload_n dX5_terms_13 rfl rfl ?_
  refine GO.getI h_x fl_RX5_18 rfl rfl dX5_terms_14 (fun _ _ => ?_)
  have q19 : -2147483648 ≤ vi Wi8 x 5 ∧ vi Wi8 x 5 ≤ 2147483647 := vi_ir
  refine GO.if_ne (tgt := 84) dX5_terms_17 (by decide) vi_ir (fun c18 => ?_) (fun h => by exfalso; omega)
  have q20 : -2147483648 ≤ vi Wi8 x 4 ∧ vi Wi8 x 4 ≤ 2147483647 := vi_ir
  exact GO.retv rfl rfl dX5_terms_84 ⟨rfl, rfl, ⟨by omega, TSI.end hts (by omega) (by omega)⟩⟩

set_option maxHeartbeats 1000000 in
theorem t_X5_terms_6_G {K : Kmap} {V : Vmap} {x : Nat} (h_x : K x = some (0, 4)) (q_0 : vi V x 5 = 0) (q_1 : vi V x 4 ≥ 3) (q_2 : vi V x 4 ≤ 8) : MC mX5_terms_6 K V [.ref x] (VS K (fun V1 => (vi V1 x 4 = vi V x 4 ∧ (vi V x 5 ≠ 0 → vi V1 x 5 ≠ 0)) ∧ (CR K V V1 x (fun src e => terD src e (vi V x 4).toNat)))) := by
  refine MC.start 2 (by decide +kernel) rfl rfl rfl (ls0 := [some (.ref x), none, none]) rfl ?_
  refine GO.useWT (fun hW_0 => ?_)
  refine GO.aload_n dX5_terms_0 rfl rfl ?_
  have q1 : -2147483648 ≤ vi V x 4 ∧ vi V x 4 ≤ 2147483647 := vi_ir
  have q2 : -2147483648 ≤ vi V x 5 ∧ vi V x 5 ≤ 2147483647 := vi_ir
  refine GO.callV (ci := 4) (N := mX5_factors_6) dX5_terms_1 (RX5, TX5, 7) rfl gV_RX5_108 h_x (t_X5_factors_6 h_x (by omega)) rfl [] rfl rfl (Nat.le_of_ble_eq_true rfl) rfl (k_vs fun V5 h4 hF3 => ?_)
  have raw_factors := h4.2
  have rw1 := h4.2
  refine GO.iconst dX5_terms_4 ?_
  refine GO.istore_n (ls1 := [some (.ref x), some (ti 0), none]) dX5_terms_5 rfl rfl rfl ?_
  have q9 : -2147483648 ≤ vi V5 x 4 ∧ vi V5 x 4 ≤ 2147483647 := vi_ir
  have q10 : -2147483648 ≤ vi V5 x 5 ∧ vi V5 x 5 ≤ 2147483647 := vi_ir
  refine GO.loop1 (fun i8 W => 0 ≤ i8 ∧ i8 ≤ 200 ∧ (vi W x 4 = vi V5 x 4 ∧ (vi V5 x 5 ≠ 0 → vi W x 5 ≠ 0)) ∧ (TSI K V W x (vi V x 4).toNat i8) ∧ True) (fun i8 => [some (.ref x), some (ti i8), none]) (fun i8 W => (2147483647 - i8).toNat) 0 ⟨by omega, by omega, by omega, (by first | exact TSI.beg rw1 (by omega) | exact TSI.bad rw1 (by omega)), trivial⟩ rfl (fun i8 Wi8 hp610 ih609 => ?_)
  obtain ⟨l_i8, u_i8, n_i8, hts, -⟩ := hp610
  have r_i8 : ir i8 := ⟨by omega, by omega⟩
  show GO mX5_terms_6 K V (VS K (fun V1 => (vi V1 x 4 = vi V x 4 ∧ (vi V x 5 ≠ 0 → vi V1 x 5 ≠ 0)) ∧ (CR K V V1 x (fun src e => terD src e (vi V x 4).toNat)))) K Wi8 0 0 6 [some (.ref x), some (ti i8), none] []
  refine GO.useWT (fun hWh => ?_)
  refine GO.iload_n dX5_terms_6 rfl rfl ?_
  refine GO.sipush dX5_terms_7 rfl ?_
  refine GO.icmp_ge (tgt := 84) dX5_terms_10 (by decide) r_i8 (ir_c rfl) (fun c611 => ?_) (fun c611 => ?_)
  ·
    have q612 : -2147483648 ≤ vi Wi8 x 4 ∧ vi Wi8 x 4 ≤ 2147483647 := vi_ir
    have q613 : -2147483648 ≤ vi Wi8 x 5 ∧ vi Wi8 x 5 ≤ 2147483647 := vi_ir
    exact GO.retv rfl rfl dX5_terms_84 ⟨rfl, rfl, ⟨by omega, TSI.end hts (by omega) (by omega)⟩⟩
  ·
    refine GO.aload_n dX5_terms_13 rfl rfl ?_
    refine GO.getI h_x fl_RX5_18 rfl rfl dX5_terms_14 (fun _ _ => ?_)
    refine GO.if_ne (tgt := 84) dX5_terms_17 (by decide) vi_ir (fun c614 => ?_) (fun c614 => ?_)
    ·
      have q615 : -2147483648 ≤ vi Wi8 x 4 ∧ vi Wi8 x 4 ≤ 2147483647 := vi_ir
      have q616 : -2147483648 ≤ vi Wi8 x 5 ∧ vi Wi8 x 5 ≤ 2147483647 := vi_ir
      exact GO.retv rfl rfl dX5_terms_84 ⟨rfl, rfl, ⟨by omega, TSI.end hts (by omega) (by omega)⟩⟩
    ·
      refine GO.aload_n dX5_terms_20 rfl rfl ?_
      refine GO.callV (ci := 4) (N := mX5_next) dX5_terms_21 (RX5, TX5, 7) rfl gV_RX5_61 h_x (t_X5_next h_x) rfl [] rfl rfl (Nat.le_of_ble_eq_true rfl) rfl (k_ip fun X617 r618 h619 => ?_)
      refine GO.bipush dX5_terms_24 rfl ?_
      refine GO.icmp_eq (tgt := 38) dX5_terms_26 (by decide) r618 (ir_c rfl) (fun c620 => ?_) (fun c620 => ?_)
      ·
        refine GO.aload_n dX5_terms_38 rfl rfl ?_
        refine GO.callV (ci := 4) (N := mX5_next) dX5_terms_39 (RX5, TX5, 7) rfl gV_RX5_61 h_x (t_X5_next h_x) rfl [] rfl rfl (Nat.le_of_ble_eq_true rfl) rfl (k_ip fun X621 r622 h623 => ?_)
        refine GO.bipush dX5_terms_42 rfl ?_
        refine GO.icmp_ne (tgt := 51) dX5_terms_44 (by decide) r622 (ir_c rfl) (fun h => by exfalso; omega) (fun c624 => ?_)
        refine GO.iconst dX5_terms_47 ?_
        refine GO.goto (tgt := 53) dX5_terms_48 (by decide) ?_
        refine GO.istore_n (ls1 := [some (.ref x), some (ti i8), some (ti 5)]) dX5_terms_53 rfl rfl rfl ?_
        refine GO.aload_n dX5_terms_54 rfl rfl ?_
        refine GO.dup dX5_terms_55 rfl ?_
        refine GO.getI h_x fl_RX5_9 rfl rfl dX5_terms_56 (fun _ _ => ?_)
        refine GO.iconst dX5_terms_59 ?_
        refine GO.iadd dX5_terms_60 ?_
        refine GO.norm2 (fun z625 r626 hn627 hw628 => ?_)
        refine GO.putI h_x fp_RX5_9 rfl (by decide +kernel) r626 (r626).1 (r626).2 dX5_terms_61 (fun V630 e629 => ?_)
        refine GO.aload_n dX5_terms_64 rfl rfl ?_
        have e631 : vi V630 x 5 = vi Wi8 x 5 := vi_up e629 (Or.inr (by decide))
        have e632 : vi V630 x 4 = vi Wi8 x 4 := vi_up e629 (Or.inr (by decide))
        have q633 : -2147483648 ≤ vi Wi8 x 4 ∧ vi Wi8 x 4 ≤ 2147483647 := vi_ir
        have q634 : -2147483648 ≤ vi Wi8 x 5 ∧ vi Wi8 x 5 ≤ 2147483647 := vi_ir
        refine GO.callV (ci := 4) (N := mX5_factors_6) dX5_terms_65 (RX5, TX5, 7) rfl gV_RX5_108 h_x (t_X5_factors_6 h_x (by omega)) rfl [] rfl rfl (Nat.le_of_ble_eq_true rfl) rfl (k_vs fun V637 h636 hF635 => ?_)
        have raw_factors := h636.2
        have rw65 := h636.2
        refine GO.useWT (fun hWs => ?_)
        refine GO.aload_n dX5_terms_68 rfl rfl ?_
        refine GO.getR h_x fl_RX5_31 rfl rfl dX5_terms_69 (fun hv641 h640 => ?_)
        refine GO.iload_n dX5_terms_72 rfl rfl ?_
        refine GO.iconst dX5_terms_73 ?_
        refine GO.callV (ci := 8) (N := mX9_addStep) dX5_terms_74 (RX9, TX9, 5) rfl gV_RX5_92 h640 (t_X9_addStep h640 (ir_c rfl) (ir_c rfl)) rfl [] rfl rfl (Nat.le_of_ble_eq_true rfl) rfl (k_is fun X642 V646 r643 h644 hF645 => ?_)
        have raw_addStep := h644.2
        have rw74 := h644.2
        refine GO.pop dX5_terms_77 rfl ?_
        refine GO.iinc (X := i8) (n := 1) (Y := i8 + 1) (ls1 := [some (.ref x), some (ti (i8 + 1)), some (ti 5)]) dX5_terms_78 rfl rfl rfl rfl ?_
        refine GO.goto (tgt := 6) dX5_terms_81 (by decide) ?_
        refine GO.drop [true, true, false] rfl ?_
        have e647 : vi V646 x 4 = vi V637 x 4 := vi_fr hF645 h_x h_x (by decide +kernel)
        have q648 : -2147483648 ≤ vi V637 x 4 ∧ vi V637 x 4 ≤ 2147483647 := vi_ir
        have e649 : vi V646 x 5 = vi V637 x 5 := vi_fr hF645 h_x h_x (by decide +kernel)
        have q650 : -2147483648 ≤ vi V637 x 5 ∧ vi V637 x 5 ≤ 2147483647 := vi_ir
        exact ih609 (i8 + 1) V646 ⟨by omega, by omega, by omega, (by first | exact TSI.beg rw1 (by omega) | exact TSI.bad rw1 (by omega) | exact TSI.step hts (by omega) (by omega) rfl (by omega) h_x hWh hWs (by assumption) (by assumption) (by assumption) (CR.facs rw65 (by omega)) rw74), trivial⟩ (by show (2147483647 - (i8 + 1)).toNat < (2147483647 - i8).toNat; omega)
      ·
        refine GO.aload_n dX5_terms_29 rfl rfl ?_
        refine GO.callV (ci := 4) (N := mX5_next) dX5_terms_30 (RX5, TX5, 7) rfl gV_RX5_61 h_x (t_X5_next h_x) rfl [] rfl rfl (Nat.le_of_ble_eq_true rfl) rfl (k_ip fun X651 r652 h653 => ?_)
        refine GO.bipush dX5_terms_33 rfl ?_
        refine GO.icmp_ne (tgt := 84) dX5_terms_35 (by decide) r652 (ir_c rfl) (fun c654 => ?_) (fun c654 => ?_)
        ·
          have q655 : -2147483648 ≤ vi Wi8 x 4 ∧ vi Wi8 x 4 ≤ 2147483647 := vi_ir
          have q656 : -2147483648 ≤ vi Wi8 x 5 ∧ vi Wi8 x 5 ≤ 2147483647 := vi_ir
          exact GO.retv rfl rfl dX5_terms_84 ⟨rfl, rfl, ⟨by omega, TSI.end hts (by omega) (by omega)⟩⟩
        ·
          refine GO.aload_n dX5_terms_38 rfl rfl ?_
          refine GO.callV (ci := 4) (N := mX5_next) dX5_terms_39 (RX5, TX5, 7) rfl gV_RX5_61 h_x (t_X5_next h_x) rfl [] rfl rfl (Nat.le_of_ble_eq_true rfl) rfl (k_ip fun X657 r658 h659 => ?_)
          refine GO.bipush dX5_terms_42 rfl ?_
          refine GO.icmp_ne (tgt := 51) dX5_terms_44 (by decide) r658 (ir_c rfl) (fun c660 => ?_) (fun h => by exfalso; omega)
          refine GO.bipush dX5_terms_51 rfl ?_
          refine GO.istore_n (ls1 := [some (.ref x), some (ti i8), some (ti 6)]) dX5_terms_53 rfl rfl rfl ?_
          refine GO.aload_n dX5_terms_54 rfl rfl ?_
          refine GO.dup dX5_terms_55 rfl ?_
          refine GO.getI h_x fl_RX5_9 rfl rfl dX5_terms_56 (fun _ _ => ?_)
          refine GO.iconst dX5_terms_59 ?_
          refine GO.iadd dX5_terms_60 ?_
          refine GO.norm2 (fun z661 r662 hn663 hw664 => ?_)
          refine GO.putI h_x fp_RX5_9 rfl (by decide +kernel) r662 (r662).1 (r662).2 dX5_terms_61 (fun V666 e665 => ?_)
          refine GO.aload_n dX5_terms_64 rfl rfl ?_
          have e667 : vi V666 x 5 = vi Wi8 x 5 := vi_up e665 (Or.inr (by decide))
          have e668 : vi V666 x 4 = vi Wi8 x 4 := vi_up e665 (Or.inr (by decide))
          have q669 : -2147483648 ≤ vi Wi8 x 4 ∧ vi Wi8 x 4 ≤ 2147483647 := vi_ir
          have q670 : -2147483648 ≤ vi Wi8 x 5 ∧ vi Wi8 x 5 ≤ 2147483647 := vi_ir
          refine GO.callV (ci := 4) (N := mX5_factors_6) dX5_terms_65 (RX5, TX5, 7) rfl gV_RX5_108 h_x (t_X5_factors_6 h_x (by omega)) rfl [] rfl rfl (Nat.le_of_ble_eq_true rfl) rfl (k_vs fun V673 h672 hF671 => ?_)
          have raw_factors := h672.2
          have rw65 := h672.2
          refine GO.useWT (fun hWs => ?_)
          refine GO.aload_n dX5_terms_68 rfl rfl ?_
          refine GO.getR h_x fl_RX5_31 rfl rfl dX5_terms_69 (fun hv677 h676 => ?_)
          refine GO.iload_n dX5_terms_72 rfl rfl ?_
          refine GO.iconst dX5_terms_73 ?_
          refine GO.callV (ci := 8) (N := mX9_addStep) dX5_terms_74 (RX9, TX9, 5) rfl gV_RX5_92 h676 (t_X9_addStep h676 (ir_c rfl) (ir_c rfl)) rfl [] rfl rfl (Nat.le_of_ble_eq_true rfl) rfl (k_is fun X678 V682 r679 h680 hF681 => ?_)
          have raw_addStep := h680.2
          have rw74 := h680.2
          refine GO.pop dX5_terms_77 rfl ?_
          refine GO.iinc (X := i8) (n := 1) (Y := i8 + 1) (ls1 := [some (.ref x), some (ti (i8 + 1)), some (ti 6)]) dX5_terms_78 rfl rfl rfl rfl ?_
          refine GO.goto (tgt := 6) dX5_terms_81 (by decide) ?_
          refine GO.drop [true, true, false] rfl ?_
          have e683 : vi V682 x 4 = vi V673 x 4 := vi_fr hF681 h_x h_x (by decide +kernel)
          have q684 : -2147483648 ≤ vi V673 x 4 ∧ vi V673 x 4 ≤ 2147483647 := vi_ir
          have e685 : vi V682 x 5 = vi V673 x 5 := vi_fr hF681 h_x h_x (by decide +kernel)
          have q686 : -2147483648 ≤ vi V673 x 5 ∧ vi V673 x 5 ≤ 2147483647 := vi_ir
          exact ih609 (i8 + 1) V682 ⟨by omega, by omega, by omega, (by first | exact TSI.beg rw1 (by omega) | exact TSI.bad rw1 (by omega) | exact TSI.step hts (by omega) (by omega) rfl (by omega) h_x hWh hWs (by assumption) (by assumption) (by assumption) (CR.facs rw65 (by omega)) rw74), trivial⟩ (by show (2147483647 - (i8 + 1)).toNat < (2147483647 - i8).toNat; omega)

theorem t_X5_terms_6 {K : Kmap} {V : Vmap} {x : Nat} (h_x : K x = some (0, 4)) (q_0 : (vi V x 5 ≠ 0 ∨ (vi V x 5 = 0 ∧ vi V x 4 ≥ 3 ∧ vi V x 4 ≤ 8))) : MC mX5_terms_6 K V [.ref x] (VS K (fun V1 => (vi V1 x 4 = vi V x 4 ∧ (vi V x 5 ≠ 0 → vi V1 x 5 ≠ 0)) ∧ (CR K V V1 x (fun src e => terD src e (vi V x 4).toNat)))) := by
  rcases q_0 with h | h
  · exact t_X5_terms_6_F h_x (by omega)
  · exact t_X5_terms_6_G h_x (by omega) (by omega) (by omega)

set_option maxHeartbeats 1000000 in
theorem t_X5_factor_7_F {K : Kmap} {V : Vmap} {x : Nat} (h_x : K x = some (0, 4)) (q_0 : vi V x 5 ≠ 0) : MC mX5_factor_7 K V [.ref x] (VS K (fun V1 => (vi V1 x 4 = vi V x 4 ∧ (vi V x 5 ≠ 0 → vi V1 x 5 ≠ 0)) ∧ (CR K V V1 x (fun src e => facD src e (vi V x 4).toNat)))) := by
  refine MC.start 2 (by decide +kernel) rfl rfl rfl (ls0 := [some (.ref x), none, none]) rfl ?_
  refine GO.useWT (fun hW_0 => ?_)
  refine GO.aload_n dX5_factor_0 rfl rfl ?_
  refine GO.getI h_x fl_RX5_18 rfl rfl dX5_factor_1 (fun _ _ => ?_)
  have q2 : -2147483648 ≤ vi V x 5 ∧ vi V x 5 ≤ 2147483647 := vi_ir
  refine GO.if_eq (tgt := 8) dX5_factor_4 (by decide) vi_ir (fun h => by exfalso; omega) (fun c1 => ?_)
  have q3 : -2147483648 ≤ vi V x 4 ∧ vi V x 4 ≤ 2147483647 := vi_ir
  exact GO.retv rfl rfl dX5_factor_7 ⟨rfl, rfl, ⟨by omega, (by first | exact CRg.bad (by omega))⟩⟩

set_option maxHeartbeats 1000000 in
theorem t_X5_factor_7_G {K : Kmap} {V : Vmap} {x : Nat} (h_x : K x = some (0, 4)) (q_0 : vi V x 5 = 0) (q_1 : vi V x 4 ≥ 2) (q_2 : vi V x 4 ≤ 8) : MC mX5_factor_7 K V [.ref x] (VS K (fun V1 => (vi V1 x 4 = vi V x 4 ∧ (vi V x 5 ≠ 0 → vi V1 x 5 ≠ 0)) ∧ (CR K V V1 x (fun src e => facD src e (vi V x 4).toNat)))) := by
  refine MC.start 2 (by decide +kernel) rfl rfl rfl (ls0 := [some (.ref x), none, none]) rfl ?_
  refine GO.useWT (fun hW_0 => ?_)
  refine GO.aload_n dX5_factor_0 rfl rfl ?_
  refine GO.getI h_x fl_RX5_18 rfl rfl dX5_factor_1 (fun _ _ => ?_)
  have q2 : -2147483648 ≤ vi V x 5 ∧ vi V x 5 ≤ 2147483647 := vi_ir
  refine GO.if_eq (tgt := 8) dX5_factor_4 (by decide) vi_ir (fun c1 => ?_) (fun h => by exfalso; omega)
  refine GO.aload_n dX5_factor_8 rfl rfl ?_
  refine GO.callV (ci := 4) (N := mX5_next) dX5_factor_9 (RX5, TX5, 7) rfl gV_RX5_61 h_x (t_X5_next h_x) rfl [] rfl rfl (Nat.le_of_ble_eq_true rfl) rfl (k_ip fun X3 r4 h5 => ?_)
  refine GO.istore_n (ls1 := [some (.ref x), some (ti X3), none]) dX5_factor_12 rfl rfl rfl ?_
  refine GO.iload_n dX5_factor_13 rfl rfl ?_
  refine GO.if_ge (tgt := 21) dX5_factor_14 (by decide) r4 (fun c6 => ?_) (fun c6 => ?_)
  ·
    refine GO.letters dX5_factor_21 dX5_factor_23 dX5_factor_24 dX5_factor_25 rfl gV_RX5_119 rfl rfl (Nat.le_of_ble_eq_true rfl) rfl rfl (fun X7 r8 h9 hlet => ?_)
    refine GO.istore_n (ls1 := [some (.ref x), some (ti X3), some (ti X7)]) dX5_factor_28 rfl rfl rfl ?_
    have hlt : 0 ≤ sgC V x → sgC V x ≤ 255 → X7 = letN (sgC V x) := by first | (intro g0 g1; exfalso; omega) | (intro g0 g1; have hq := hlet (by omega) (by omega); rw [show sgC V x = X3 by omega]; exact hq)
    refine GO.iload_n dX5_factor_29 rfl rfl ?_
    refine GO.bipush dX5_factor_30 rfl ?_
    refine GO.icmp_ne (tgt := 64) dX5_factor_32 (by decide) r4 (ir_c rfl) (fun c10 => ?_) (fun c10 => ?_)
    ·
      refine GO.iload_n dX5_factor_64 rfl rfl ?_
      refine GO.if_lt (tgt := 91) dX5_factor_65 (by decide) r8 (fun c11 => ?_) (fun c11 => ?_)
      ·
        refine GO.aload_n dX5_factor_91 rfl rfl ?_
        refine GO.getR h_x fl_RX5_31 rfl rfl dX5_factor_92 (fun hv13 h12 => ?_)
        refine GO.iconst dX5_factor_95 ?_
        refine GO.aload_n dX5_factor_96 rfl rfl ?_
        refine GO.ldc (X := 999999) dX5_factor_97 gw_790 rfl ?_
        refine GO.callV (ci := 4) (N := mX5_digits) dX5_factor_99 (RX5, TX5, 7) rfl gV_RX5_69 h_x (t_X5_digits h_x (ir_c rfl)) rfl [ti 0, .ref (vq V x 2)] rfl rfl (Nat.le_of_ble_eq_true rfl) rfl (k_is fun X14 V18 r15 h16 hF17 => ?_)
        have raw_digits := h16.2
        have rw99 := h16.2
        refine GO.useWT (fun hWn => ?_)
        refine GO.callV (ci := 8) (N := mX9_addStep) dX5_factor_102 (RX9, TX9, 5) rfl gV_RX5_92 h12 (t_X9_addStep h12 (ir_c rfl) r15) rfl [] rfl rfl (Nat.le_of_ble_eq_true rfl) rfl (k_is fun X20 V24 r21 h22 hF23 => ?_)
        have raw_addStep := h22.2
        have rw102 := h22.2
        refine GO.pop dX5_factor_105 rfl ?_
        have e26 : vi V18 x 4 = vi V x 4 := vi_fr hF17 h_x h_x (by decide +kernel)
        have e25 : vi V24 x 4 = vi V18 x 4 := vi_fr hF23 h_x h_x (by decide +kernel)
        have q27 : -2147483648 ≤ vi V x 4 ∧ vi V x 4 ≤ 2147483647 := vi_ir
        have e28 : vi V24 x 5 = vi V18 x 5 := vi_fr hF23 h_x h_x (by decide +kernel)
        have q29 : -2147483648 ≤ vi V18 x 5 ∧ vi V18 x 5 ≤ 2147483647 := vi_ir
        exact GO.retv rfl rfl dX5_factor_106 ⟨rfl, rfl, ⟨by omega, (by first | exact CRg.bad (by omega) | exact FAC.num (by omega) (Or.inl (by omega)) rw99 rw102 (by assumption) (by decide +kernel) h_x hWn (by omega) (by omega) | exact FAC.num (by omega) (Or.inr ⟨by omega, hlt⟩) rw99 rw102 (by assumption) (by decide +kernel) h_x hWn (by omega) (by omega))⟩⟩
      ·
        refine GO.aload_n dX5_factor_68 rfl rfl ?_
        refine GO.dup dX5_factor_69 rfl ?_
        refine GO.getI h_x fl_RX5_9 rfl rfl dX5_factor_70 (fun _ _ => ?_)
        refine GO.iconst dX5_factor_73 ?_
        refine GO.iadd dX5_factor_74 ?_
        refine GO.norm2 (fun z30 r31 hn32 hw33 => ?_)
        refine GO.putI h_x fp_RX5_9 rfl (by decide +kernel) r31 (r31).1 (r31).2 dX5_factor_75 (fun V35 e34 => ?_)
        refine GO.useWT (fun hWa => ?_)
        refine GO.aload_n dX5_factor_78 rfl rfl ?_
        refine GO.getR h_x fl_RX5_31 rfl rfl dX5_factor_79 (fun hv37 h36 => ?_)
        refine GO.iconst dX5_factor_82 ?_
        refine GO.iload_n dX5_factor_83 rfl rfl ?_
        refine GO.callV (ci := 8) (N := mX9_addStep) dX5_factor_84 (RX9, TX9, 5) rfl gV_RX5_92 h36 (t_X9_addStep h36 (ir_c rfl) r8) rfl [] rfl rfl (Nat.le_of_ble_eq_true rfl) rfl (k_is fun X38 V42 r39 h40 hF41 => ?_)
        have raw_addStep := h40.2
        have rw84 := h40.2
        refine GO.pop dX5_factor_87 rfl ?_
        refine GO.goto (tgt := 106) dX5_factor_88 (by decide) ?_
        have e44 : vi V35 x 4 = vi V x 4 := vi_up e34 (Or.inr (by decide))
        have e43 : vi V42 x 4 = vi V35 x 4 := vi_fr hF41 h_x h_x (by decide +kernel)
        have q45 : -2147483648 ≤ vi V x 4 ∧ vi V x 4 ≤ 2147483647 := vi_ir
        have e47 : vi V35 x 5 = vi V x 5 := vi_up e34 (Or.inr (by decide))
        have e46 : vi V42 x 5 = vi V35 x 5 := vi_fr hF41 h_x h_x (by decide +kernel)
        exact GO.retv rfl rfl dX5_factor_106 ⟨rfl, rfl, ⟨by omega, (by first | exact CRg.bad (by omega) | exact FAC.ltr rfl (by omega) hlt (by omega) (CRg.adv h_x hW_0 rfl (by omega) (by assumption) (by assumption) (by assumption)) (CRg.add rw84 h_x hWa (by decide) (by decide) (by omega) (by omega)))⟩⟩
    ·
      refine GO.aload_n dX5_factor_35 rfl rfl ?_
      refine GO.bipush dX5_factor_36 rfl ?_
      have q48 : -2147483648 ≤ vi V x 4 ∧ vi V x 4 ≤ 2147483647 := vi_ir
      refine GO.callV (ci := 4) (N := mX5_deepen) dX5_factor_38 (RX5, TX5, 7) rfl gV_RX5_80 h_x (t_X5_deepen h_x (ir_c rfl) (by omega) (by omega) (by omega)) rfl [] rfl rfl (Nat.le_of_ble_eq_true rfl) rfl (k_vs fun V51 h50 hF49 => ?_)
      have raw_deepen := h50.2
      have rw38 := h50.2
      refine GO.aload_n dX5_factor_41 rfl rfl ?_
      have q54 : -2147483648 ≤ vi V51 x 4 ∧ vi V51 x 4 ≤ 2147483647 := vi_ir
      have q55 : -2147483648 ≤ vi V51 x 5 ∧ vi V51 x 5 ≤ 2147483647 := vi_ir
      refine GO.callV (ci := 4) (N := mX5_terms_6) dX5_factor_42 (RX5, TX5, 7) rfl gV_RX5_102 h_x (t_X5_terms_6 h_x (by omega)) rfl [] rfl rfl (Nat.le_of_ble_eq_true rfl) rfl (k_vs fun V58 h57 hF56 => ?_)
      have raw_terms := h57.2
      have rw42 := h57.2
      refine GO.useWT (fun hWb => ?_)
      refine GO.aload_n dX5_factor_45 rfl rfl ?_
      refine GO.dup dX5_factor_46 rfl ?_
      refine GO.getI h_x fl_RX5_15 rfl rfl dX5_factor_47 (fun _ _ => ?_)
      refine GO.iconst dX5_factor_50 ?_
      refine GO.isub dX5_factor_51 ?_
      have q62 : -2147483648 ≤ vi V58 x 4 ∧ vi V58 x 4 ≤ 2147483647 := vi_ir
      refine GO.putI h_x fp_RX5_15 rfl (by decide +kernel) ⟨by omega, by omega⟩ (by omega) (by omega) dX5_factor_52 (fun V63 e61 => ?_)
      refine GO.aload_n dX5_factor_55 rfl rfl ?_
      refine GO.bipush dX5_factor_56 rfl ?_
      have e64 : vi V63 x 5 = vi V58 x 5 := vi_up e61 (Or.inr (by decide))
      refine GO.callV (ci := 4) (N := mX5_take) dX5_factor_58 (RX5, TX5, 7) rfl gV_RX5_38 h_x (t_X5_take h_x (ir_c rfl) (by omega)) rfl [] rfl rfl (Nat.le_of_ble_eq_true rfl) rfl (k_vs fun V67 h66 hF65 => ?_)
      have raw_take := h66.2
      have rw58 := h66.2
      refine GO.goto (tgt := 106) dX5_factor_61 (by decide) ?_
      have e70 : vi V63 x 4 = (vi V58 x 4) - 1 := upd2_int e61 ⟨by omega, by omega⟩
      have e69 : vi V67 x 4 = vi V63 x 4 := vi_fr hF65 h_x h_x (by decide +kernel)
      have q71 : -2147483648 ≤ vi V67 x 5 ∧ vi V67 x 5 ≤ 2147483647 := vi_ir
      exact GO.retv rfl rfl dX5_factor_106 ⟨rfl, rfl, ⟨by omega, (by first | exact CRg.bad (by omega) | exact FAC.br (by omega) rw38 rw42 (by omega) h_x hWb (by assumption) rw58)⟩⟩
  ·
    refine GO.iconst dX5_factor_17 ?_
    refine GO.goto (tgt := 28) dX5_factor_18 (by decide) ?_
    refine GO.istore_n (ls1 := [some (.ref x), some (ti X3), some (ti (-1))]) dX5_factor_28 rfl rfl rfl ?_
    have hlt : 0 ≤ sgC V x → sgC V x ≤ 255 → (-1) = letN (sgC V x) := by first | (intro g0 g1; exfalso; omega) | (intro g0 g1; have hq := hlet (by omega) (by omega); rw [show sgC V x = X3 by omega]; exact hq)
    refine GO.iload_n dX5_factor_29 rfl rfl ?_
    refine GO.bipush dX5_factor_30 rfl ?_
    refine GO.icmp_ne (tgt := 64) dX5_factor_32 (by decide) r4 (ir_c rfl) (fun c72 => ?_) (fun h => by exfalso; omega)
    refine GO.iload_n dX5_factor_64 rfl rfl ?_
    refine GO.if_lt (tgt := 91) dX5_factor_65 (by decide) (ir_c rfl) (fun c73 => ?_) (fun h => by exfalso; omega)
    refine GO.aload_n dX5_factor_91 rfl rfl ?_
    refine GO.getR h_x fl_RX5_31 rfl rfl dX5_factor_92 (fun hv75 h74 => ?_)
    refine GO.iconst dX5_factor_95 ?_
    refine GO.aload_n dX5_factor_96 rfl rfl ?_
    refine GO.ldc (X := 999999) dX5_factor_97 gw_790 rfl ?_
    refine GO.callV (ci := 4) (N := mX5_digits) dX5_factor_99 (RX5, TX5, 7) rfl gV_RX5_69 h_x (t_X5_digits h_x (ir_c rfl)) rfl [ti 0, .ref (vq V x 2)] rfl rfl (Nat.le_of_ble_eq_true rfl) rfl (k_is fun X76 V80 r77 h78 hF79 => ?_)
    have raw_digits := h78.2
    have rw99 := h78.2
    refine GO.useWT (fun hWn => ?_)
    refine GO.callV (ci := 8) (N := mX9_addStep) dX5_factor_102 (RX9, TX9, 5) rfl gV_RX5_92 h74 (t_X9_addStep h74 (ir_c rfl) r77) rfl [] rfl rfl (Nat.le_of_ble_eq_true rfl) rfl (k_is fun X82 V86 r83 h84 hF85 => ?_)
    have raw_addStep := h84.2
    have rw102 := h84.2
    refine GO.pop dX5_factor_105 rfl ?_
    have e88 : vi V80 x 4 = vi V x 4 := vi_fr hF79 h_x h_x (by decide +kernel)
    have e87 : vi V86 x 4 = vi V80 x 4 := vi_fr hF85 h_x h_x (by decide +kernel)
    have q89 : -2147483648 ≤ vi V x 4 ∧ vi V x 4 ≤ 2147483647 := vi_ir
    have e90 : vi V86 x 5 = vi V80 x 5 := vi_fr hF85 h_x h_x (by decide +kernel)
    have q91 : -2147483648 ≤ vi V80 x 5 ∧ vi V80 x 5 ≤ 2147483647 := vi_ir
    exact GO.retv rfl rfl dX5_factor_106 ⟨rfl, rfl, ⟨by omega, (by first | exact CRg.bad (by omega) | exact FAC.num (by omega) (Or.inl (by omega)) rw99 rw102 (by assumption) (by decide +kernel) h_x hWn (by omega) (by omega) | exact FAC.num (by omega) (Or.inr ⟨by omega, hlt⟩) rw99 rw102 (by assumption) (by decide +kernel) h_x hWn (by omega) (by omega))⟩⟩

theorem t_X5_factor_7 {K : Kmap} {V : Vmap} {x : Nat} (h_x : K x = some (0, 4)) (q_0 : (vi V x 5 ≠ 0 ∨ (vi V x 5 = 0 ∧ vi V x 4 ≥ 2 ∧ vi V x 4 ≤ 8))) : MC mX5_factor_7 K V [.ref x] (VS K (fun V1 => (vi V1 x 4 = vi V x 4 ∧ (vi V x 5 ≠ 0 → vi V1 x 5 ≠ 0)) ∧ (CR K V V1 x (fun src e => facD src e (vi V x 4).toNat)))) := by
  rcases q_0 with h | h
  · exact t_X5_factor_7_F h_x (by omega)
  · exact t_X5_factor_7_G h_x (by omega) (by omega) (by omega)

set_option maxHeartbeats 1000000 in
theorem t_X5_factors_7_F {K : Kmap} {V : Vmap} {x : Nat} (h_x : K x = some (0, 4)) (q_0 : vi V x 5 ≠ 0) : MC mX5_factors_7 K V [.ref x] (VS K (fun V1 => (vi V1 x 4 = vi V x 4 ∧ (vi V x 5 ≠ 0 → vi V1 x 5 ≠ 0)) ∧ (CR K V V1 x (fun src e => facsG src e (facD src e (vi V x 4).toNat))))) := by
  refine MC.start 2 (by decide +kernel) rfl rfl rfl (ls0 := [some (.ref x), none, none]) rfl ?_
  refine GO.useWT (fun hW_0 => ?_)
  refine GO.aload_n dX5_factors_0 rfl rfl ?_
  have q1 : -2147483648 ≤ vi V x 4 ∧ vi V x 4 ≤ 2147483647 := vi_ir
  have q2 : -2147483648 ≤ vi V x 5 ∧ vi V x 5 ≤ 2147483647 := vi_ir
  refine GO.callV (ci := 4) (N := mX5_factor_7) dX5_factors_1 (RX5, TX5, 7) rfl gV_RX5_111 h_x (t_X5_factor_7 h_x (by omega)) rfl [] rfl rfl (Nat.le_of_ble_eq_true rfl) rfl (k_vs fun V5 h4 hF3 => ?_)
  have raw_factor := h4.2
  have rw1 := h4.2
  refine GO.iconst dX5_factors_4 ?_
  refine GO.istore_n (ls1 := [some (.ref x), some (ti 0), none]) dX5_factors_5 rfl rfl rfl ?_
  have q9 : -2147483648 ≤ vi V5 x 4 ∧ vi V5 x 4 ≤ 2147483647 := vi_ir
  have q10 : -2147483648 ≤ vi V5 x 5 ∧ vi V5 x 5 ≤ 2147483647 := vi_ir
  refine GO.loop1 (fun i8 W => 0 ≤ i8 ∧ i8 ≤ 0 ∧ (vi W x 4 = vi V5 x 4 ∧ (vi V5 x 5 ≠ 0 → vi W x 5 ≠ 0)) ∧ (FSI K V W x (vi V x 4).toNat i8) ∧ True) (fun i8 => [some (.ref x), some (ti i8), none]) (fun i8 W => (2147483647 - i8).toNat) 0 ⟨by omega, by omega, by omega, (by first | exact FSI.beg rw1), trivial⟩ rfl (fun i8 Wi8 hp16 ih15 => ?_)
  obtain ⟨l_i8, u_i8, n_i8, hfs, -⟩ := hp16
  have r_i8 : ir i8 := ⟨by omega, by omega⟩
  show GO mX5_factors_7 K V (VS K (fun V1 => (vi V1 x 4 = vi V x 4 ∧ (vi V x 5 ≠ 0 → vi V1 x 5 ≠ 0)) ∧ (CR K V V1 x (fun src e => facsG src e (facD src e (vi V x 4).toNat))))) K Wi8 0 0 6 [some (.ref x), some (ti i8), none] []
  refine GO.useWT (fun hWh => ?_)
  refine GO.iload_n dX5_factors_6 rfl rfl ?_
  refine GO.sipush dX5_factors_7 rfl ?_
  refine GO.icmp_ge (tgt := 91) dX5_factors_10 (by decide) r_i8 (ir_c rfl) (fun h => by exfalso; omega) (fun c17 => ?_)
  refine GO.aload_n dX5_factors_13 rfl rfl ?_
  refine GO.getI h_x fl_RX5_18 rfl rfl dX5_factors_14 (fun _ _ => ?_)
  have q19 : -2147483648 ≤ vi Wi8 x 5 ∧ vi Wi8 x 5 ≤ 2147483647 := vi_ir
  refine GO.if_ne (tgt := 91) dX5_factors_17 (by decide) vi_ir (fun c18 => ?_) (fun h => by exfalso; omega)
  have q20 : -2147483648 ≤ vi Wi8 x 4 ∧ vi Wi8 x 4 ≤ 2147483647 := vi_ir
  exact GO.retv rfl rfl dX5_factors_91 ⟨rfl, rfl, ⟨by omega, FSI.end hfs (by omega) (by omega)⟩⟩

set_option maxHeartbeats 1000000 in
theorem t_X5_factors_7_G {K : Kmap} {V : Vmap} {x : Nat} (h_x : K x = some (0, 4)) (q_0 : vi V x 5 = 0) (q_1 : vi V x 4 ≥ 2) (q_2 : vi V x 4 ≤ 8) : MC mX5_factors_7 K V [.ref x] (VS K (fun V1 => (vi V1 x 4 = vi V x 4 ∧ (vi V x 5 ≠ 0 → vi V1 x 5 ≠ 0)) ∧ (CR K V V1 x (fun src e => facsG src e (facD src e (vi V x 4).toNat))))) := by
  refine MC.start 2 (by decide +kernel) rfl rfl rfl (ls0 := [some (.ref x), none, none]) rfl ?_
  refine GO.useWT (fun hW_0 => ?_)
  refine GO.aload_n dX5_factors_0 rfl rfl ?_
  have q1 : -2147483648 ≤ vi V x 4 ∧ vi V x 4 ≤ 2147483647 := vi_ir
  have q2 : -2147483648 ≤ vi V x 5 ∧ vi V x 5 ≤ 2147483647 := vi_ir
  refine GO.callV (ci := 4) (N := mX5_factor_7) dX5_factors_1 (RX5, TX5, 7) rfl gV_RX5_111 h_x (t_X5_factor_7 h_x (by omega)) rfl [] rfl rfl (Nat.le_of_ble_eq_true rfl) rfl (k_vs fun V5 h4 hF3 => ?_)
  have raw_factor := h4.2
  have rw1 := h4.2
  refine GO.iconst dX5_factors_4 ?_
  refine GO.istore_n (ls1 := [some (.ref x), some (ti 0), none]) dX5_factors_5 rfl rfl rfl ?_
  have q9 : -2147483648 ≤ vi V5 x 4 ∧ vi V5 x 4 ≤ 2147483647 := vi_ir
  have q10 : -2147483648 ≤ vi V5 x 5 ∧ vi V5 x 5 ≤ 2147483647 := vi_ir
  refine GO.loop1 (fun i8 W => 0 ≤ i8 ∧ i8 ≤ 200 ∧ (vi W x 4 = vi V5 x 4 ∧ (vi V5 x 5 ≠ 0 → vi W x 5 ≠ 0)) ∧ (FSI K V W x (vi V x 4).toNat i8) ∧ True) (fun i8 => [some (.ref x), some (ti i8), none]) (fun i8 W => (2147483647 - i8).toNat) 0 ⟨by omega, by omega, by omega, (by first | exact FSI.beg rw1), trivial⟩ rfl (fun i8 Wi8 hp817 ih816 => ?_)
  obtain ⟨l_i8, u_i8, n_i8, hfs, -⟩ := hp817
  have r_i8 : ir i8 := ⟨by omega, by omega⟩
  show GO mX5_factors_7 K V (VS K (fun V1 => (vi V1 x 4 = vi V x 4 ∧ (vi V x 5 ≠ 0 → vi V1 x 5 ≠ 0)) ∧ (CR K V V1 x (fun src e => facsG src e (facD src e (vi V x 4).toNat))))) K Wi8 0 0 6 [some (.ref x), some (ti i8), none] []
  refine GO.useWT (fun hWh => ?_)
  refine GO.iload_n dX5_factors_6 rfl rfl ?_
  refine GO.sipush dX5_factors_7 rfl ?_
  refine GO.icmp_ge (tgt := 91) dX5_factors_10 (by decide) r_i8 (ir_c rfl) (fun c818 => ?_) (fun c818 => ?_)
  ·
    have q819 : -2147483648 ≤ vi Wi8 x 4 ∧ vi Wi8 x 4 ≤ 2147483647 := vi_ir
    have q820 : -2147483648 ≤ vi Wi8 x 5 ∧ vi Wi8 x 5 ≤ 2147483647 := vi_ir
    exact GO.retv rfl rfl dX5_factors_91 ⟨rfl, rfl, ⟨by omega, FSI.end hfs (by omega) (by omega)⟩⟩
  ·
    refine GO.aload_n dX5_factors_13 rfl rfl ?_
    refine GO.getI h_x fl_RX5_18 rfl rfl dX5_factors_14 (fun _ _ => ?_)
    refine GO.if_ne (tgt := 91) dX5_factors_17 (by decide) vi_ir (fun c821 => ?_) (fun c821 => ?_)
    ·
      have q822 : -2147483648 ≤ vi Wi8 x 4 ∧ vi Wi8 x 4 ≤ 2147483647 := vi_ir
      have q823 : -2147483648 ≤ vi Wi8 x 5 ∧ vi Wi8 x 5 ≤ 2147483647 := vi_ir
      exact GO.retv rfl rfl dX5_factors_91 ⟨rfl, rfl, ⟨by omega, FSI.end hfs (by omega) (by omega)⟩⟩
    ·
      refine GO.aload_n dX5_factors_20 rfl rfl ?_
      refine GO.callV (ci := 4) (N := mX5_next) dX5_factors_21 (RX5, TX5, 7) rfl gV_RX5_61 h_x (t_X5_next h_x) rfl [] rfl rfl (Nat.le_of_ble_eq_true rfl) rfl (k_ip fun X824 r825 h826 => ?_)
      refine GO.callS (N := mX5_isFactorSign) dX5_factors_24 gS_RX5_114 (t_X5_isFactorSign r825) rfl [] rfl rfl (Nat.le_of_ble_eq_true rfl) rfl (k_ip fun X827 r828 h829 => ?_)
      refine GO.if_eq (tgt := 91) dX5_factors_27 (by decide) r828 (fun c830 => ?_) (fun c830 => ?_)
      ·
        have q831 := h829.2.2 (by omega)
        have q832 : -2147483648 ≤ vi Wi8 x 4 ∧ vi Wi8 x 4 ≤ 2147483647 := vi_ir
        have q833 : -2147483648 ≤ vi Wi8 x 5 ∧ vi Wi8 x 5 ≤ 2147483647 := vi_ir
        exact GO.retv rfl rfl dX5_factors_91 ⟨rfl, rfl, ⟨by omega, FSI.end hfs (by omega) (by omega)⟩⟩
      ·
        have q834 := h829.2.1 (by omega)
        refine GO.aload_n dX5_factors_30 rfl rfl ?_
        refine GO.callV (ci := 4) (N := mX5_next) dX5_factors_31 (RX5, TX5, 7) rfl gV_RX5_61 h_x (t_X5_next h_x) rfl [] rfl rfl (Nat.le_of_ble_eq_true rfl) rfl (k_ip fun X835 r836 h837 => ?_)
        refine GO.bipush dX5_factors_34 rfl ?_
        refine GO.icmp_ne (tgt := 44) dX5_factors_36 (by decide) r836 (ir_c rfl) (fun c838 => ?_) (fun c838 => ?_)
        ·
          refine GO.aload_n dX5_factors_44 rfl rfl ?_
          refine GO.callV (ci := 4) (N := mX5_next) dX5_factors_45 (RX5, TX5, 7) rfl gV_RX5_61 h_x (t_X5_next h_x) rfl [] rfl rfl (Nat.le_of_ble_eq_true rfl) rfl (k_ip fun X839 r840 h841 => ?_)
          refine GO.bipush dX5_factors_48 rfl ?_
          refine GO.icmp_ne (tgt := 58) dX5_factors_50 (by decide) r840 (ir_c rfl) (fun c842 => ?_) (fun c842 => ?_)
          ·
            refine GO.bipush dX5_factors_58 rfl ?_
            refine GO.istore_n (ls1 := [some (.ref x), some (ti i8), some (ti 9)]) dX5_factors_60 rfl rfl rfl ?_
            refine GO.aload_n dX5_factors_61 rfl rfl ?_
            refine GO.dup dX5_factors_62 rfl ?_
            refine GO.getI h_x fl_RX5_9 rfl rfl dX5_factors_63 (fun _ _ => ?_)
            refine GO.iconst dX5_factors_66 ?_
            refine GO.iadd dX5_factors_67 ?_
            refine GO.norm2 (fun z843 r844 hn845 hw846 => ?_)
            refine GO.putI h_x fp_RX5_9 rfl (by decide +kernel) r844 (r844).1 (r844).2 dX5_factors_68 (fun V848 e847 => ?_)
            refine GO.aload_n dX5_factors_71 rfl rfl ?_
            have e849 : vi V848 x 5 = vi Wi8 x 5 := vi_up e847 (Or.inr (by decide))
            have e850 : vi V848 x 4 = vi Wi8 x 4 := vi_up e847 (Or.inr (by decide))
            have q851 : -2147483648 ≤ vi Wi8 x 4 ∧ vi Wi8 x 4 ≤ 2147483647 := vi_ir
            have q852 : -2147483648 ≤ vi Wi8 x 5 ∧ vi Wi8 x 5 ≤ 2147483647 := vi_ir
            refine GO.callV (ci := 4) (N := mX5_factor_7) dX5_factors_72 (RX5, TX5, 7) rfl gV_RX5_111 h_x (t_X5_factor_7 h_x (by omega)) rfl [] rfl rfl (Nat.le_of_ble_eq_true rfl) rfl (k_vs fun V855 h854 hF853 => ?_)
            have raw_factor := h854.2
            have rw72 := h854.2
            refine GO.useWT (fun hWs => ?_)
            refine GO.aload_n dX5_factors_75 rfl rfl ?_
            refine GO.getR h_x fl_RX5_31 rfl rfl dX5_factors_76 (fun hv859 h858 => ?_)
            refine GO.iload_n dX5_factors_79 rfl rfl ?_
            refine GO.iconst dX5_factors_80 ?_
            refine GO.callV (ci := 8) (N := mX9_addStep) dX5_factors_81 (RX9, TX9, 5) rfl gV_RX5_92 h858 (t_X9_addStep h858 (ir_c rfl) (ir_c rfl)) rfl [] rfl rfl (Nat.le_of_ble_eq_true rfl) rfl (k_is fun X860 V864 r861 h862 hF863 => ?_)
            have raw_addStep := h862.2
            have rw81 := h862.2
            refine GO.pop dX5_factors_84 rfl ?_
            refine GO.iinc (X := i8) (n := 1) (Y := i8 + 1) (ls1 := [some (.ref x), some (ti (i8 + 1)), some (ti 9)]) dX5_factors_85 rfl rfl rfl rfl ?_
            refine GO.goto (tgt := 6) dX5_factors_88 (by decide) ?_
            refine GO.drop [true, true, false] rfl ?_
            have e865 : vi V864 x 4 = vi V855 x 4 := vi_fr hF863 h_x h_x (by decide +kernel)
            have q866 : -2147483648 ≤ vi V855 x 4 ∧ vi V855 x 4 ≤ 2147483647 := vi_ir
            have e867 : vi V864 x 5 = vi V855 x 5 := vi_fr hF863 h_x h_x (by decide +kernel)
            have q868 : -2147483648 ≤ vi V855 x 5 ∧ vi V855 x 5 ≤ 2147483647 := vi_ir
            exact ih816 (i8 + 1) V864 ⟨by omega, by omega, by omega, (by first | exact FSI.beg rw1 | exact FSI.step hfs (by omega) (by omega) rfl (by omega) h_x hWh hWs (by assumption) (by assumption) (by assumption) (CR.fac rw72 (by omega)) rw81), trivial⟩ (by show (2147483647 - (i8 + 1)).toNat < (2147483647 - i8).toNat; omega)
          ·
            refine GO.bipush dX5_factors_53 rfl ?_
            refine GO.goto (tgt := 60) dX5_factors_55 (by decide) ?_
            refine GO.istore_n (ls1 := [some (.ref x), some (ti i8), some (ti 8)]) dX5_factors_60 rfl rfl rfl ?_
            refine GO.aload_n dX5_factors_61 rfl rfl ?_
            refine GO.dup dX5_factors_62 rfl ?_
            refine GO.getI h_x fl_RX5_9 rfl rfl dX5_factors_63 (fun _ _ => ?_)
            refine GO.iconst dX5_factors_66 ?_
            refine GO.iadd dX5_factors_67 ?_
            refine GO.norm2 (fun z869 r870 hn871 hw872 => ?_)
            refine GO.putI h_x fp_RX5_9 rfl (by decide +kernel) r870 (r870).1 (r870).2 dX5_factors_68 (fun V874 e873 => ?_)
            refine GO.aload_n dX5_factors_71 rfl rfl ?_
            have e875 : vi V874 x 5 = vi Wi8 x 5 := vi_up e873 (Or.inr (by decide))
            have e876 : vi V874 x 4 = vi Wi8 x 4 := vi_up e873 (Or.inr (by decide))
            have q877 : -2147483648 ≤ vi Wi8 x 4 ∧ vi Wi8 x 4 ≤ 2147483647 := vi_ir
            have q878 : -2147483648 ≤ vi Wi8 x 5 ∧ vi Wi8 x 5 ≤ 2147483647 := vi_ir
            refine GO.callV (ci := 4) (N := mX5_factor_7) dX5_factors_72 (RX5, TX5, 7) rfl gV_RX5_111 h_x (t_X5_factor_7 h_x (by omega)) rfl [] rfl rfl (Nat.le_of_ble_eq_true rfl) rfl (k_vs fun V881 h880 hF879 => ?_)
            have raw_factor := h880.2
            have rw72 := h880.2
            refine GO.useWT (fun hWs => ?_)
            refine GO.aload_n dX5_factors_75 rfl rfl ?_
            refine GO.getR h_x fl_RX5_31 rfl rfl dX5_factors_76 (fun hv885 h884 => ?_)
            refine GO.iload_n dX5_factors_79 rfl rfl ?_
            refine GO.iconst dX5_factors_80 ?_
            refine GO.callV (ci := 8) (N := mX9_addStep) dX5_factors_81 (RX9, TX9, 5) rfl gV_RX5_92 h884 (t_X9_addStep h884 (ir_c rfl) (ir_c rfl)) rfl [] rfl rfl (Nat.le_of_ble_eq_true rfl) rfl (k_is fun X886 V890 r887 h888 hF889 => ?_)
            have raw_addStep := h888.2
            have rw81 := h888.2
            refine GO.pop dX5_factors_84 rfl ?_
            refine GO.iinc (X := i8) (n := 1) (Y := i8 + 1) (ls1 := [some (.ref x), some (ti (i8 + 1)), some (ti 8)]) dX5_factors_85 rfl rfl rfl rfl ?_
            refine GO.goto (tgt := 6) dX5_factors_88 (by decide) ?_
            refine GO.drop [true, true, false] rfl ?_
            have e891 : vi V890 x 4 = vi V881 x 4 := vi_fr hF889 h_x h_x (by decide +kernel)
            have q892 : -2147483648 ≤ vi V881 x 4 ∧ vi V881 x 4 ≤ 2147483647 := vi_ir
            have e893 : vi V890 x 5 = vi V881 x 5 := vi_fr hF889 h_x h_x (by decide +kernel)
            have q894 : -2147483648 ≤ vi V881 x 5 ∧ vi V881 x 5 ≤ 2147483647 := vi_ir
            exact ih816 (i8 + 1) V890 ⟨by omega, by omega, by omega, (by first | exact FSI.beg rw1 | exact FSI.step hfs (by omega) (by omega) rfl (by omega) h_x hWh hWs (by assumption) (by assumption) (by assumption) (CR.fac rw72 (by omega)) rw81), trivial⟩ (by show (2147483647 - (i8 + 1)).toNat < (2147483647 - i8).toNat; omega)
        ·
          refine GO.bipush dX5_factors_39 rfl ?_
          refine GO.goto (tgt := 60) dX5_factors_41 (by decide) ?_
          refine GO.istore_n (ls1 := [some (.ref x), some (ti i8), some (ti 7)]) dX5_factors_60 rfl rfl rfl ?_
          refine GO.aload_n dX5_factors_61 rfl rfl ?_
          refine GO.dup dX5_factors_62 rfl ?_
          refine GO.getI h_x fl_RX5_9 rfl rfl dX5_factors_63 (fun _ _ => ?_)
          refine GO.iconst dX5_factors_66 ?_
          refine GO.iadd dX5_factors_67 ?_
          refine GO.norm2 (fun z895 r896 hn897 hw898 => ?_)
          refine GO.putI h_x fp_RX5_9 rfl (by decide +kernel) r896 (r896).1 (r896).2 dX5_factors_68 (fun V900 e899 => ?_)
          refine GO.aload_n dX5_factors_71 rfl rfl ?_
          have e901 : vi V900 x 5 = vi Wi8 x 5 := vi_up e899 (Or.inr (by decide))
          have e902 : vi V900 x 4 = vi Wi8 x 4 := vi_up e899 (Or.inr (by decide))
          have q903 : -2147483648 ≤ vi Wi8 x 4 ∧ vi Wi8 x 4 ≤ 2147483647 := vi_ir
          have q904 : -2147483648 ≤ vi Wi8 x 5 ∧ vi Wi8 x 5 ≤ 2147483647 := vi_ir
          refine GO.callV (ci := 4) (N := mX5_factor_7) dX5_factors_72 (RX5, TX5, 7) rfl gV_RX5_111 h_x (t_X5_factor_7 h_x (by omega)) rfl [] rfl rfl (Nat.le_of_ble_eq_true rfl) rfl (k_vs fun V907 h906 hF905 => ?_)
          have raw_factor := h906.2
          have rw72 := h906.2
          refine GO.useWT (fun hWs => ?_)
          refine GO.aload_n dX5_factors_75 rfl rfl ?_
          refine GO.getR h_x fl_RX5_31 rfl rfl dX5_factors_76 (fun hv911 h910 => ?_)
          refine GO.iload_n dX5_factors_79 rfl rfl ?_
          refine GO.iconst dX5_factors_80 ?_
          refine GO.callV (ci := 8) (N := mX9_addStep) dX5_factors_81 (RX9, TX9, 5) rfl gV_RX5_92 h910 (t_X9_addStep h910 (ir_c rfl) (ir_c rfl)) rfl [] rfl rfl (Nat.le_of_ble_eq_true rfl) rfl (k_is fun X912 V916 r913 h914 hF915 => ?_)
          have raw_addStep := h914.2
          have rw81 := h914.2
          refine GO.pop dX5_factors_84 rfl ?_
          refine GO.iinc (X := i8) (n := 1) (Y := i8 + 1) (ls1 := [some (.ref x), some (ti (i8 + 1)), some (ti 7)]) dX5_factors_85 rfl rfl rfl rfl ?_
          refine GO.goto (tgt := 6) dX5_factors_88 (by decide) ?_
          refine GO.drop [true, true, false] rfl ?_
          have e917 : vi V916 x 4 = vi V907 x 4 := vi_fr hF915 h_x h_x (by decide +kernel)
          have q918 : -2147483648 ≤ vi V907 x 4 ∧ vi V907 x 4 ≤ 2147483647 := vi_ir
          have e919 : vi V916 x 5 = vi V907 x 5 := vi_fr hF915 h_x h_x (by decide +kernel)
          have q920 : -2147483648 ≤ vi V907 x 5 ∧ vi V907 x 5 ≤ 2147483647 := vi_ir
          exact ih816 (i8 + 1) V916 ⟨by omega, by omega, by omega, (by first | exact FSI.beg rw1 | exact FSI.step hfs (by omega) (by omega) rfl (by omega) h_x hWh hWs (by assumption) (by assumption) (by assumption) (CR.fac rw72 (by omega)) rw81), trivial⟩ (by show (2147483647 - (i8 + 1)).toNat < (2147483647 - i8).toNat; omega)

theorem t_X5_factors_7 {K : Kmap} {V : Vmap} {x : Nat} (h_x : K x = some (0, 4)) (q_0 : (vi V x 5 ≠ 0 ∨ (vi V x 5 = 0 ∧ vi V x 4 ≥ 2 ∧ vi V x 4 ≤ 8))) : MC mX5_factors_7 K V [.ref x] (VS K (fun V1 => (vi V1 x 4 = vi V x 4 ∧ (vi V x 5 ≠ 0 → vi V1 x 5 ≠ 0)) ∧ (CR K V V1 x (fun src e => facsG src e (facD src e (vi V x 4).toNat))))) := by
  rcases q_0 with h | h
  · exact t_X5_factors_7_F h_x (by omega)
  · exact t_X5_factors_7_G h_x (by omega) (by omega) (by omega)

set_option maxHeartbeats 1000000 in
theorem t_X5_terms_7_F {K : Kmap} {V : Vmap} {x : Nat} (h_x : K x = some (0, 4)) (q_0 : vi V x 5 ≠ 0) : MC mX5_terms_7 K V [.ref x] (VS K (fun V1 => (vi V1 x 4 = vi V x 4 ∧ (vi V x 5 ≠ 0 → vi V1 x 5 ≠ 0)) ∧ (CR K V V1 x (fun src e => terD src e (vi V x 4).toNat)))) := by
  refine MC.start 2 (by decide +kernel) rfl rfl rfl (ls0 := [some (.ref x), none, none]) rfl ?_
  refine GO.useWT (fun hW_0 => ?_)
  refine GO.aload_n dX5_terms_0 rfl rfl ?_
  have q1 : -2147483648 ≤ vi V x 4 ∧ vi V x 4 ≤ 2147483647 := vi_ir
  have q2 : -2147483648 ≤ vi V x 5 ∧ vi V x 5 ≤ 2147483647 := vi_ir
  refine GO.callV (ci := 4) (N := mX5_factors_7) dX5_terms_1 (RX5, TX5, 7) rfl gV_RX5_108 h_x (t_X5_factors_7 h_x (by omega)) rfl [] rfl rfl (Nat.le_of_ble_eq_true rfl) rfl (k_vs fun V5 h4 hF3 => ?_)
  have raw_factors := h4.2
  have rw1 := h4.2
  refine GO.iconst dX5_terms_4 ?_
  refine GO.istore_n (ls1 := [some (.ref x), some (ti 0), none]) dX5_terms_5 rfl rfl rfl ?_
  have q9 : -2147483648 ≤ vi V5 x 4 ∧ vi V5 x 4 ≤ 2147483647 := vi_ir
  have q10 : -2147483648 ≤ vi V5 x 5 ∧ vi V5 x 5 ≤ 2147483647 := vi_ir
  refine GO.loop1 (fun i8 W => 0 ≤ i8 ∧ i8 ≤ 0 ∧ (vi W x 4 = vi V5 x 4 ∧ (vi V5 x 5 ≠ 0 → vi W x 5 ≠ 0)) ∧ (TSI K V W x (vi V x 4).toNat i8) ∧ True) (fun i8 => [some (.ref x), some (ti i8), none]) (fun i8 W => (2147483647 - i8).toNat) 0 ⟨by omega, by omega, by omega, (by first | exact TSI.beg rw1 (by omega) | exact TSI.bad rw1 (by omega)), trivial⟩ rfl (fun i8 Wi8 hp16 ih15 => ?_)
  obtain ⟨l_i8, u_i8, n_i8, hts, -⟩ := hp16
  have r_i8 : ir i8 := ⟨by omega, by omega⟩
  show GO mX5_terms_7 K V (VS K (fun V1 => (vi V1 x 4 = vi V x 4 ∧ (vi V x 5 ≠ 0 → vi V1 x 5 ≠ 0)) ∧ (CR K V V1 x (fun src e => terD src e (vi V x 4).toNat)))) K Wi8 0 0 6 [some (.ref x), some (ti i8), none] []
  refine GO.useWT (fun hWh => ?_)
  refine GO.iload_n dX5_terms_6 rfl rfl ?_
  refine GO.sipush dX5_terms_7 rfl ?_
  refine GO.icmp_ge (tgt := 84) dX5_terms_10 (by decide) r_i8 (ir_c rfl) (fun h => by exfalso; omega) (fun c17 => ?_)
  refine GO.aload_n dX5_terms_13 rfl rfl ?_
  refine GO.getI h_x fl_RX5_18 rfl rfl dX5_terms_14 (fun _ _ => ?_)
  have q19 : -2147483648 ≤ vi Wi8 x 5 ∧ vi Wi8 x 5 ≤ 2147483647 := vi_ir
  refine GO.if_ne (tgt := 84) dX5_terms_17 (by decide) vi_ir (fun c18 => ?_) (fun h => by exfalso; omega)
  have q20 : -2147483648 ≤ vi Wi8 x 4 ∧ vi Wi8 x 4 ≤ 2147483647 := vi_ir
  exact GO.retv rfl rfl dX5_terms_84 ⟨rfl, rfl, ⟨by omega, TSI.end hts (by omega) (by omega)⟩⟩

set_option maxHeartbeats 1000000 in
theorem t_X5_terms_7_G {K : Kmap} {V : Vmap} {x : Nat} (h_x : K x = some (0, 4)) (q_0 : vi V x 5 = 0) (q_1 : vi V x 4 ≥ 2) (q_2 : vi V x 4 ≤ 8) : MC mX5_terms_7 K V [.ref x] (VS K (fun V1 => (vi V1 x 4 = vi V x 4 ∧ (vi V x 5 ≠ 0 → vi V1 x 5 ≠ 0)) ∧ (CR K V V1 x (fun src e => terD src e (vi V x 4).toNat)))) := by
  refine MC.start 2 (by decide +kernel) rfl rfl rfl (ls0 := [some (.ref x), none, none]) rfl ?_
  refine GO.useWT (fun hW_0 => ?_)
  refine GO.aload_n dX5_terms_0 rfl rfl ?_
  have q1 : -2147483648 ≤ vi V x 4 ∧ vi V x 4 ≤ 2147483647 := vi_ir
  have q2 : -2147483648 ≤ vi V x 5 ∧ vi V x 5 ≤ 2147483647 := vi_ir
  refine GO.callV (ci := 4) (N := mX5_factors_7) dX5_terms_1 (RX5, TX5, 7) rfl gV_RX5_108 h_x (t_X5_factors_7 h_x (by omega)) rfl [] rfl rfl (Nat.le_of_ble_eq_true rfl) rfl (k_vs fun V5 h4 hF3 => ?_)
  have raw_factors := h4.2
  have rw1 := h4.2
  refine GO.iconst dX5_terms_4 ?_
  refine GO.istore_n (ls1 := [some (.ref x), some (ti 0), none]) dX5_terms_5 rfl rfl rfl ?_
  have q9 : -2147483648 ≤ vi V5 x 4 ∧ vi V5 x 4 ≤ 2147483647 := vi_ir
  have q10 : -2147483648 ≤ vi V5 x 5 ∧ vi V5 x 5 ≤ 2147483647 := vi_ir
  refine GO.loop1 (fun i8 W => 0 ≤ i8 ∧ i8 ≤ 200 ∧ (vi W x 4 = vi V5 x 4 ∧ (vi V5 x 5 ≠ 0 → vi W x 5 ≠ 0)) ∧ (TSI K V W x (vi V x 4).toNat i8) ∧ True) (fun i8 => [some (.ref x), some (ti i8), none]) (fun i8 W => (2147483647 - i8).toNat) 0 ⟨by omega, by omega, by omega, (by first | exact TSI.beg rw1 (by omega) | exact TSI.bad rw1 (by omega)), trivial⟩ rfl (fun i8 Wi8 hp610 ih609 => ?_)
  obtain ⟨l_i8, u_i8, n_i8, hts, -⟩ := hp610
  have r_i8 : ir i8 := ⟨by omega, by omega⟩
  show GO mX5_terms_7 K V (VS K (fun V1 => (vi V1 x 4 = vi V x 4 ∧ (vi V x 5 ≠ 0 → vi V1 x 5 ≠ 0)) ∧ (CR K V V1 x (fun src e => terD src e (vi V x 4).toNat)))) K Wi8 0 0 6 [some (.ref x), some (ti i8), none] []
  refine GO.useWT (fun hWh => ?_)
  refine GO.iload_n dX5_terms_6 rfl rfl ?_
  refine GO.sipush dX5_terms_7 rfl ?_
  refine GO.icmp_ge (tgt := 84) dX5_terms_10 (by decide) r_i8 (ir_c rfl) (fun c611 => ?_) (fun c611 => ?_)
  ·
    have q612 : -2147483648 ≤ vi Wi8 x 4 ∧ vi Wi8 x 4 ≤ 2147483647 := vi_ir
    have q613 : -2147483648 ≤ vi Wi8 x 5 ∧ vi Wi8 x 5 ≤ 2147483647 := vi_ir
    exact GO.retv rfl rfl dX5_terms_84 ⟨rfl, rfl, ⟨by omega, TSI.end hts (by omega) (by omega)⟩⟩
  ·
    refine GO.aload_n dX5_terms_13 rfl rfl ?_
    refine GO.getI h_x fl_RX5_18 rfl rfl dX5_terms_14 (fun _ _ => ?_)
    refine GO.if_ne (tgt := 84) dX5_terms_17 (by decide) vi_ir (fun c614 => ?_) (fun c614 => ?_)
    ·
      have q615 : -2147483648 ≤ vi Wi8 x 4 ∧ vi Wi8 x 4 ≤ 2147483647 := vi_ir
      have q616 : -2147483648 ≤ vi Wi8 x 5 ∧ vi Wi8 x 5 ≤ 2147483647 := vi_ir
      exact GO.retv rfl rfl dX5_terms_84 ⟨rfl, rfl, ⟨by omega, TSI.end hts (by omega) (by omega)⟩⟩
    ·
      refine GO.aload_n dX5_terms_20 rfl rfl ?_
      refine GO.callV (ci := 4) (N := mX5_next) dX5_terms_21 (RX5, TX5, 7) rfl gV_RX5_61 h_x (t_X5_next h_x) rfl [] rfl rfl (Nat.le_of_ble_eq_true rfl) rfl (k_ip fun X617 r618 h619 => ?_)
      refine GO.bipush dX5_terms_24 rfl ?_
      refine GO.icmp_eq (tgt := 38) dX5_terms_26 (by decide) r618 (ir_c rfl) (fun c620 => ?_) (fun c620 => ?_)
      ·
        refine GO.aload_n dX5_terms_38 rfl rfl ?_
        refine GO.callV (ci := 4) (N := mX5_next) dX5_terms_39 (RX5, TX5, 7) rfl gV_RX5_61 h_x (t_X5_next h_x) rfl [] rfl rfl (Nat.le_of_ble_eq_true rfl) rfl (k_ip fun X621 r622 h623 => ?_)
        refine GO.bipush dX5_terms_42 rfl ?_
        refine GO.icmp_ne (tgt := 51) dX5_terms_44 (by decide) r622 (ir_c rfl) (fun h => by exfalso; omega) (fun c624 => ?_)
        refine GO.iconst dX5_terms_47 ?_
        refine GO.goto (tgt := 53) dX5_terms_48 (by decide) ?_
        refine GO.istore_n (ls1 := [some (.ref x), some (ti i8), some (ti 5)]) dX5_terms_53 rfl rfl rfl ?_
        refine GO.aload_n dX5_terms_54 rfl rfl ?_
        refine GO.dup dX5_terms_55 rfl ?_
        refine GO.getI h_x fl_RX5_9 rfl rfl dX5_terms_56 (fun _ _ => ?_)
        refine GO.iconst dX5_terms_59 ?_
        refine GO.iadd dX5_terms_60 ?_
        refine GO.norm2 (fun z625 r626 hn627 hw628 => ?_)
        refine GO.putI h_x fp_RX5_9 rfl (by decide +kernel) r626 (r626).1 (r626).2 dX5_terms_61 (fun V630 e629 => ?_)
        refine GO.aload_n dX5_terms_64 rfl rfl ?_
        have e631 : vi V630 x 5 = vi Wi8 x 5 := vi_up e629 (Or.inr (by decide))
        have e632 : vi V630 x 4 = vi Wi8 x 4 := vi_up e629 (Or.inr (by decide))
        have q633 : -2147483648 ≤ vi Wi8 x 4 ∧ vi Wi8 x 4 ≤ 2147483647 := vi_ir
        have q634 : -2147483648 ≤ vi Wi8 x 5 ∧ vi Wi8 x 5 ≤ 2147483647 := vi_ir
        refine GO.callV (ci := 4) (N := mX5_factors_7) dX5_terms_65 (RX5, TX5, 7) rfl gV_RX5_108 h_x (t_X5_factors_7 h_x (by omega)) rfl [] rfl rfl (Nat.le_of_ble_eq_true rfl) rfl (k_vs fun V637 h636 hF635 => ?_)
        have raw_factors := h636.2
        have rw65 := h636.2
        refine GO.useWT (fun hWs => ?_)
        refine GO.aload_n dX5_terms_68 rfl rfl ?_
        refine GO.getR h_x fl_RX5_31 rfl rfl dX5_terms_69 (fun hv641 h640 => ?_)
        refine GO.iload_n dX5_terms_72 rfl rfl ?_
        refine GO.iconst dX5_terms_73 ?_
        refine GO.callV (ci := 8) (N := mX9_addStep) dX5_terms_74 (RX9, TX9, 5) rfl gV_RX5_92 h640 (t_X9_addStep h640 (ir_c rfl) (ir_c rfl)) rfl [] rfl rfl (Nat.le_of_ble_eq_true rfl) rfl (k_is fun X642 V646 r643 h644 hF645 => ?_)
        have raw_addStep := h644.2
        have rw74 := h644.2
        refine GO.pop dX5_terms_77 rfl ?_
        refine GO.iinc (X := i8) (n := 1) (Y := i8 + 1) (ls1 := [some (.ref x), some (ti (i8 + 1)), some (ti 5)]) dX5_terms_78 rfl rfl rfl rfl ?_
        refine GO.goto (tgt := 6) dX5_terms_81 (by decide) ?_
        refine GO.drop [true, true, false] rfl ?_
        have e647 : vi V646 x 4 = vi V637 x 4 := vi_fr hF645 h_x h_x (by decide +kernel)
        have q648 : -2147483648 ≤ vi V637 x 4 ∧ vi V637 x 4 ≤ 2147483647 := vi_ir
        have e649 : vi V646 x 5 = vi V637 x 5 := vi_fr hF645 h_x h_x (by decide +kernel)
        have q650 : -2147483648 ≤ vi V637 x 5 ∧ vi V637 x 5 ≤ 2147483647 := vi_ir
        exact ih609 (i8 + 1) V646 ⟨by omega, by omega, by omega, (by first | exact TSI.beg rw1 (by omega) | exact TSI.bad rw1 (by omega) | exact TSI.step hts (by omega) (by omega) rfl (by omega) h_x hWh hWs (by assumption) (by assumption) (by assumption) (CR.facs rw65 (by omega)) rw74), trivial⟩ (by show (2147483647 - (i8 + 1)).toNat < (2147483647 - i8).toNat; omega)
      ·
        refine GO.aload_n dX5_terms_29 rfl rfl ?_
        refine GO.callV (ci := 4) (N := mX5_next) dX5_terms_30 (RX5, TX5, 7) rfl gV_RX5_61 h_x (t_X5_next h_x) rfl [] rfl rfl (Nat.le_of_ble_eq_true rfl) rfl (k_ip fun X651 r652 h653 => ?_)
        refine GO.bipush dX5_terms_33 rfl ?_
        refine GO.icmp_ne (tgt := 84) dX5_terms_35 (by decide) r652 (ir_c rfl) (fun c654 => ?_) (fun c654 => ?_)
        ·
          have q655 : -2147483648 ≤ vi Wi8 x 4 ∧ vi Wi8 x 4 ≤ 2147483647 := vi_ir
          have q656 : -2147483648 ≤ vi Wi8 x 5 ∧ vi Wi8 x 5 ≤ 2147483647 := vi_ir
          exact GO.retv rfl rfl dX5_terms_84 ⟨rfl, rfl, ⟨by omega, TSI.end hts (by omega) (by omega)⟩⟩
        ·
          refine GO.aload_n dX5_terms_38 rfl rfl ?_
          refine GO.callV (ci := 4) (N := mX5_next) dX5_terms_39 (RX5, TX5, 7) rfl gV_RX5_61 h_x (t_X5_next h_x) rfl [] rfl rfl (Nat.le_of_ble_eq_true rfl) rfl (k_ip fun X657 r658 h659 => ?_)
          refine GO.bipush dX5_terms_42 rfl ?_
          refine GO.icmp_ne (tgt := 51) dX5_terms_44 (by decide) r658 (ir_c rfl) (fun c660 => ?_) (fun h => by exfalso; omega)
          refine GO.bipush dX5_terms_51 rfl ?_
          refine GO.istore_n (ls1 := [some (.ref x), some (ti i8), some (ti 6)]) dX5_terms_53 rfl rfl rfl ?_
          refine GO.aload_n dX5_terms_54 rfl rfl ?_
          refine GO.dup dX5_terms_55 rfl ?_
          refine GO.getI h_x fl_RX5_9 rfl rfl dX5_terms_56 (fun _ _ => ?_)
          refine GO.iconst dX5_terms_59 ?_
          refine GO.iadd dX5_terms_60 ?_
          refine GO.norm2 (fun z661 r662 hn663 hw664 => ?_)
          refine GO.putI h_x fp_RX5_9 rfl (by decide +kernel) r662 (r662).1 (r662).2 dX5_terms_61 (fun V666 e665 => ?_)
          refine GO.aload_n dX5_terms_64 rfl rfl ?_
          have e667 : vi V666 x 5 = vi Wi8 x 5 := vi_up e665 (Or.inr (by decide))
          have e668 : vi V666 x 4 = vi Wi8 x 4 := vi_up e665 (Or.inr (by decide))
          have q669 : -2147483648 ≤ vi Wi8 x 4 ∧ vi Wi8 x 4 ≤ 2147483647 := vi_ir
          have q670 : -2147483648 ≤ vi Wi8 x 5 ∧ vi Wi8 x 5 ≤ 2147483647 := vi_ir
          refine GO.callV (ci := 4) (N := mX5_factors_7) dX5_terms_65 (RX5, TX5, 7) rfl gV_RX5_108 h_x (t_X5_factors_7 h_x (by omega)) rfl [] rfl rfl (Nat.le_of_ble_eq_true rfl) rfl (k_vs fun V673 h672 hF671 => ?_)
          have raw_factors := h672.2
          have rw65 := h672.2
          refine GO.useWT (fun hWs => ?_)
          refine GO.aload_n dX5_terms_68 rfl rfl ?_
          refine GO.getR h_x fl_RX5_31 rfl rfl dX5_terms_69 (fun hv677 h676 => ?_)
          refine GO.iload_n dX5_terms_72 rfl rfl ?_
          refine GO.iconst dX5_terms_73 ?_
          refine GO.callV (ci := 8) (N := mX9_addStep) dX5_terms_74 (RX9, TX9, 5) rfl gV_RX5_92 h676 (t_X9_addStep h676 (ir_c rfl) (ir_c rfl)) rfl [] rfl rfl (Nat.le_of_ble_eq_true rfl) rfl (k_is fun X678 V682 r679 h680 hF681 => ?_)
          have raw_addStep := h680.2
          have rw74 := h680.2
          refine GO.pop dX5_terms_77 rfl ?_
          refine GO.iinc (X := i8) (n := 1) (Y := i8 + 1) (ls1 := [some (.ref x), some (ti (i8 + 1)), some (ti 6)]) dX5_terms_78 rfl rfl rfl rfl ?_
          refine GO.goto (tgt := 6) dX5_terms_81 (by decide) ?_
          refine GO.drop [true, true, false] rfl ?_
          have e683 : vi V682 x 4 = vi V673 x 4 := vi_fr hF681 h_x h_x (by decide +kernel)
          have q684 : -2147483648 ≤ vi V673 x 4 ∧ vi V673 x 4 ≤ 2147483647 := vi_ir
          have e685 : vi V682 x 5 = vi V673 x 5 := vi_fr hF681 h_x h_x (by decide +kernel)
          have q686 : -2147483648 ≤ vi V673 x 5 ∧ vi V673 x 5 ≤ 2147483647 := vi_ir
          exact ih609 (i8 + 1) V682 ⟨by omega, by omega, by omega, (by first | exact TSI.beg rw1 (by omega) | exact TSI.bad rw1 (by omega) | exact TSI.step hts (by omega) (by omega) rfl (by omega) h_x hWh hWs (by assumption) (by assumption) (by assumption) (CR.facs rw65 (by omega)) rw74), trivial⟩ (by show (2147483647 - (i8 + 1)).toNat < (2147483647 - i8).toNat; omega)

theorem t_X5_terms_7 {K : Kmap} {V : Vmap} {x : Nat} (h_x : K x = some (0, 4)) (q_0 : (vi V x 5 ≠ 0 ∨ (vi V x 5 = 0 ∧ vi V x 4 ≥ 2 ∧ vi V x 4 ≤ 8))) : MC mX5_terms_7 K V [.ref x] (VS K (fun V1 => (vi V1 x 4 = vi V x 4 ∧ (vi V x 5 ≠ 0 → vi V1 x 5 ≠ 0)) ∧ (CR K V V1 x (fun src e => terD src e (vi V x 4).toNat)))) := by
  rcases q_0 with h | h
  · exact t_X5_terms_7_F h_x (by omega)
  · exact t_X5_terms_7_G h_x (by omega) (by omega) (by omega)

set_option maxHeartbeats 1000000 in
theorem t_X5_factor_8_F {K : Kmap} {V : Vmap} {x : Nat} (h_x : K x = some (0, 4)) (q_0 : vi V x 5 ≠ 0) : MC mX5_factor_8 K V [.ref x] (VS K (fun V1 => (vi V1 x 4 = vi V x 4 ∧ (vi V x 5 ≠ 0 → vi V1 x 5 ≠ 0)) ∧ (CR K V V1 x (fun src e => facD src e (vi V x 4).toNat)))) := by
  refine MC.start 2 (by decide +kernel) rfl rfl rfl (ls0 := [some (.ref x), none, none]) rfl ?_
  refine GO.useWT (fun hW_0 => ?_)
  refine GO.aload_n dX5_factor_0 rfl rfl ?_
  refine GO.getI h_x fl_RX5_18 rfl rfl dX5_factor_1 (fun _ _ => ?_)
  have q2 : -2147483648 ≤ vi V x 5 ∧ vi V x 5 ≤ 2147483647 := vi_ir
  refine GO.if_eq (tgt := 8) dX5_factor_4 (by decide) vi_ir (fun h => by exfalso; omega) (fun c1 => ?_)
  have q3 : -2147483648 ≤ vi V x 4 ∧ vi V x 4 ≤ 2147483647 := vi_ir
  exact GO.retv rfl rfl dX5_factor_7 ⟨rfl, rfl, ⟨by omega, (by first | exact CRg.bad (by omega))⟩⟩

set_option maxHeartbeats 1000000 in
theorem t_X5_factor_8_G {K : Kmap} {V : Vmap} {x : Nat} (h_x : K x = some (0, 4)) (q_0 : vi V x 5 = 0) (q_1 : vi V x 4 ≥ 1) (q_2 : vi V x 4 ≤ 8) : MC mX5_factor_8 K V [.ref x] (VS K (fun V1 => (vi V1 x 4 = vi V x 4 ∧ (vi V x 5 ≠ 0 → vi V1 x 5 ≠ 0)) ∧ (CR K V V1 x (fun src e => facD src e (vi V x 4).toNat)))) := by
  refine MC.start 2 (by decide +kernel) rfl rfl rfl (ls0 := [some (.ref x), none, none]) rfl ?_
  refine GO.useWT (fun hW_0 => ?_)
  refine GO.aload_n dX5_factor_0 rfl rfl ?_
  refine GO.getI h_x fl_RX5_18 rfl rfl dX5_factor_1 (fun _ _ => ?_)
  have q2 : -2147483648 ≤ vi V x 5 ∧ vi V x 5 ≤ 2147483647 := vi_ir
  refine GO.if_eq (tgt := 8) dX5_factor_4 (by decide) vi_ir (fun c1 => ?_) (fun h => by exfalso; omega)
  refine GO.aload_n dX5_factor_8 rfl rfl ?_
  refine GO.callV (ci := 4) (N := mX5_next) dX5_factor_9 (RX5, TX5, 7) rfl gV_RX5_61 h_x (t_X5_next h_x) rfl [] rfl rfl (Nat.le_of_ble_eq_true rfl) rfl (k_ip fun X3 r4 h5 => ?_)
  refine GO.istore_n (ls1 := [some (.ref x), some (ti X3), none]) dX5_factor_12 rfl rfl rfl ?_
  refine GO.iload_n dX5_factor_13 rfl rfl ?_
  refine GO.if_ge (tgt := 21) dX5_factor_14 (by decide) r4 (fun c6 => ?_) (fun c6 => ?_)
  ·
    refine GO.letters dX5_factor_21 dX5_factor_23 dX5_factor_24 dX5_factor_25 rfl gV_RX5_119 rfl rfl (Nat.le_of_ble_eq_true rfl) rfl rfl (fun X7 r8 h9 hlet => ?_)
    refine GO.istore_n (ls1 := [some (.ref x), some (ti X3), some (ti X7)]) dX5_factor_28 rfl rfl rfl ?_
    have hlt : 0 ≤ sgC V x → sgC V x ≤ 255 → X7 = letN (sgC V x) := by first | (intro g0 g1; exfalso; omega) | (intro g0 g1; have hq := hlet (by omega) (by omega); rw [show sgC V x = X3 by omega]; exact hq)
    refine GO.iload_n dX5_factor_29 rfl rfl ?_
    refine GO.bipush dX5_factor_30 rfl ?_
    refine GO.icmp_ne (tgt := 64) dX5_factor_32 (by decide) r4 (ir_c rfl) (fun c10 => ?_) (fun c10 => ?_)
    ·
      refine GO.iload_n dX5_factor_64 rfl rfl ?_
      refine GO.if_lt (tgt := 91) dX5_factor_65 (by decide) r8 (fun c11 => ?_) (fun c11 => ?_)
      ·
        refine GO.aload_n dX5_factor_91 rfl rfl ?_
        refine GO.getR h_x fl_RX5_31 rfl rfl dX5_factor_92 (fun hv13 h12 => ?_)
        refine GO.iconst dX5_factor_95 ?_
        refine GO.aload_n dX5_factor_96 rfl rfl ?_
        refine GO.ldc (X := 999999) dX5_factor_97 gw_790 rfl ?_
        refine GO.callV (ci := 4) (N := mX5_digits) dX5_factor_99 (RX5, TX5, 7) rfl gV_RX5_69 h_x (t_X5_digits h_x (ir_c rfl)) rfl [ti 0, .ref (vq V x 2)] rfl rfl (Nat.le_of_ble_eq_true rfl) rfl (k_is fun X14 V18 r15 h16 hF17 => ?_)
        have raw_digits := h16.2
        have rw99 := h16.2
        refine GO.useWT (fun hWn => ?_)
        refine GO.callV (ci := 8) (N := mX9_addStep) dX5_factor_102 (RX9, TX9, 5) rfl gV_RX5_92 h12 (t_X9_addStep h12 (ir_c rfl) r15) rfl [] rfl rfl (Nat.le_of_ble_eq_true rfl) rfl (k_is fun X20 V24 r21 h22 hF23 => ?_)
        have raw_addStep := h22.2
        have rw102 := h22.2
        refine GO.pop dX5_factor_105 rfl ?_
        have e26 : vi V18 x 4 = vi V x 4 := vi_fr hF17 h_x h_x (by decide +kernel)
        have e25 : vi V24 x 4 = vi V18 x 4 := vi_fr hF23 h_x h_x (by decide +kernel)
        have q27 : -2147483648 ≤ vi V x 4 ∧ vi V x 4 ≤ 2147483647 := vi_ir
        have e28 : vi V24 x 5 = vi V18 x 5 := vi_fr hF23 h_x h_x (by decide +kernel)
        have q29 : -2147483648 ≤ vi V18 x 5 ∧ vi V18 x 5 ≤ 2147483647 := vi_ir
        exact GO.retv rfl rfl dX5_factor_106 ⟨rfl, rfl, ⟨by omega, (by first | exact CRg.bad (by omega) | exact FAC.num (by omega) (Or.inl (by omega)) rw99 rw102 (by assumption) (by decide +kernel) h_x hWn (by omega) (by omega) | exact FAC.num (by omega) (Or.inr ⟨by omega, hlt⟩) rw99 rw102 (by assumption) (by decide +kernel) h_x hWn (by omega) (by omega))⟩⟩
      ·
        refine GO.aload_n dX5_factor_68 rfl rfl ?_
        refine GO.dup dX5_factor_69 rfl ?_
        refine GO.getI h_x fl_RX5_9 rfl rfl dX5_factor_70 (fun _ _ => ?_)
        refine GO.iconst dX5_factor_73 ?_
        refine GO.iadd dX5_factor_74 ?_
        refine GO.norm2 (fun z30 r31 hn32 hw33 => ?_)
        refine GO.putI h_x fp_RX5_9 rfl (by decide +kernel) r31 (r31).1 (r31).2 dX5_factor_75 (fun V35 e34 => ?_)
        refine GO.useWT (fun hWa => ?_)
        refine GO.aload_n dX5_factor_78 rfl rfl ?_
        refine GO.getR h_x fl_RX5_31 rfl rfl dX5_factor_79 (fun hv37 h36 => ?_)
        refine GO.iconst dX5_factor_82 ?_
        refine GO.iload_n dX5_factor_83 rfl rfl ?_
        refine GO.callV (ci := 8) (N := mX9_addStep) dX5_factor_84 (RX9, TX9, 5) rfl gV_RX5_92 h36 (t_X9_addStep h36 (ir_c rfl) r8) rfl [] rfl rfl (Nat.le_of_ble_eq_true rfl) rfl (k_is fun X38 V42 r39 h40 hF41 => ?_)
        have raw_addStep := h40.2
        have rw84 := h40.2
        refine GO.pop dX5_factor_87 rfl ?_
        refine GO.goto (tgt := 106) dX5_factor_88 (by decide) ?_
        have e44 : vi V35 x 4 = vi V x 4 := vi_up e34 (Or.inr (by decide))
        have e43 : vi V42 x 4 = vi V35 x 4 := vi_fr hF41 h_x h_x (by decide +kernel)
        have q45 : -2147483648 ≤ vi V x 4 ∧ vi V x 4 ≤ 2147483647 := vi_ir
        have e47 : vi V35 x 5 = vi V x 5 := vi_up e34 (Or.inr (by decide))
        have e46 : vi V42 x 5 = vi V35 x 5 := vi_fr hF41 h_x h_x (by decide +kernel)
        exact GO.retv rfl rfl dX5_factor_106 ⟨rfl, rfl, ⟨by omega, (by first | exact CRg.bad (by omega) | exact FAC.ltr rfl (by omega) hlt (by omega) (CRg.adv h_x hW_0 rfl (by omega) (by assumption) (by assumption) (by assumption)) (CRg.add rw84 h_x hWa (by decide) (by decide) (by omega) (by omega)))⟩⟩
    ·
      refine GO.aload_n dX5_factor_35 rfl rfl ?_
      refine GO.bipush dX5_factor_36 rfl ?_
      have q48 : -2147483648 ≤ vi V x 4 ∧ vi V x 4 ≤ 2147483647 := vi_ir
      refine GO.callV (ci := 4) (N := mX5_deepen) dX5_factor_38 (RX5, TX5, 7) rfl gV_RX5_80 h_x (t_X5_deepen h_x (ir_c rfl) (by omega) (by omega) (by omega)) rfl [] rfl rfl (Nat.le_of_ble_eq_true rfl) rfl (k_vs fun V51 h50 hF49 => ?_)
      have raw_deepen := h50.2
      have rw38 := h50.2
      refine GO.aload_n dX5_factor_41 rfl rfl ?_
      have q54 : -2147483648 ≤ vi V51 x 4 ∧ vi V51 x 4 ≤ 2147483647 := vi_ir
      have q55 : -2147483648 ≤ vi V51 x 5 ∧ vi V51 x 5 ≤ 2147483647 := vi_ir
      refine GO.callV (ci := 4) (N := mX5_terms_7) dX5_factor_42 (RX5, TX5, 7) rfl gV_RX5_102 h_x (t_X5_terms_7 h_x (by omega)) rfl [] rfl rfl (Nat.le_of_ble_eq_true rfl) rfl (k_vs fun V58 h57 hF56 => ?_)
      have raw_terms := h57.2
      have rw42 := h57.2
      refine GO.useWT (fun hWb => ?_)
      refine GO.aload_n dX5_factor_45 rfl rfl ?_
      refine GO.dup dX5_factor_46 rfl ?_
      refine GO.getI h_x fl_RX5_15 rfl rfl dX5_factor_47 (fun _ _ => ?_)
      refine GO.iconst dX5_factor_50 ?_
      refine GO.isub dX5_factor_51 ?_
      have q62 : -2147483648 ≤ vi V58 x 4 ∧ vi V58 x 4 ≤ 2147483647 := vi_ir
      refine GO.putI h_x fp_RX5_15 rfl (by decide +kernel) ⟨by omega, by omega⟩ (by omega) (by omega) dX5_factor_52 (fun V63 e61 => ?_)
      refine GO.aload_n dX5_factor_55 rfl rfl ?_
      refine GO.bipush dX5_factor_56 rfl ?_
      have e64 : vi V63 x 5 = vi V58 x 5 := vi_up e61 (Or.inr (by decide))
      refine GO.callV (ci := 4) (N := mX5_take) dX5_factor_58 (RX5, TX5, 7) rfl gV_RX5_38 h_x (t_X5_take h_x (ir_c rfl) (by omega)) rfl [] rfl rfl (Nat.le_of_ble_eq_true rfl) rfl (k_vs fun V67 h66 hF65 => ?_)
      have raw_take := h66.2
      have rw58 := h66.2
      refine GO.goto (tgt := 106) dX5_factor_61 (by decide) ?_
      have e70 : vi V63 x 4 = (vi V58 x 4) - 1 := upd2_int e61 ⟨by omega, by omega⟩
      have e69 : vi V67 x 4 = vi V63 x 4 := vi_fr hF65 h_x h_x (by decide +kernel)
      have q71 : -2147483648 ≤ vi V67 x 5 ∧ vi V67 x 5 ≤ 2147483647 := vi_ir
      exact GO.retv rfl rfl dX5_factor_106 ⟨rfl, rfl, ⟨by omega, (by first | exact CRg.bad (by omega) | exact FAC.br (by omega) rw38 rw42 (by omega) h_x hWb (by assumption) rw58)⟩⟩
  ·
    refine GO.iconst dX5_factor_17 ?_
    refine GO.goto (tgt := 28) dX5_factor_18 (by decide) ?_
    refine GO.istore_n (ls1 := [some (.ref x), some (ti X3), some (ti (-1))]) dX5_factor_28 rfl rfl rfl ?_
    have hlt : 0 ≤ sgC V x → sgC V x ≤ 255 → (-1) = letN (sgC V x) := by first | (intro g0 g1; exfalso; omega) | (intro g0 g1; have hq := hlet (by omega) (by omega); rw [show sgC V x = X3 by omega]; exact hq)
    refine GO.iload_n dX5_factor_29 rfl rfl ?_
    refine GO.bipush dX5_factor_30 rfl ?_
    refine GO.icmp_ne (tgt := 64) dX5_factor_32 (by decide) r4 (ir_c rfl) (fun c72 => ?_) (fun h => by exfalso; omega)
    refine GO.iload_n dX5_factor_64 rfl rfl ?_
    refine GO.if_lt (tgt := 91) dX5_factor_65 (by decide) (ir_c rfl) (fun c73 => ?_) (fun h => by exfalso; omega)
    refine GO.aload_n dX5_factor_91 rfl rfl ?_
    refine GO.getR h_x fl_RX5_31 rfl rfl dX5_factor_92 (fun hv75 h74 => ?_)
    refine GO.iconst dX5_factor_95 ?_
    refine GO.aload_n dX5_factor_96 rfl rfl ?_
    refine GO.ldc (X := 999999) dX5_factor_97 gw_790 rfl ?_
    refine GO.callV (ci := 4) (N := mX5_digits) dX5_factor_99 (RX5, TX5, 7) rfl gV_RX5_69 h_x (t_X5_digits h_x (ir_c rfl)) rfl [ti 0, .ref (vq V x 2)] rfl rfl (Nat.le_of_ble_eq_true rfl) rfl (k_is fun X76 V80 r77 h78 hF79 => ?_)
    have raw_digits := h78.2
    have rw99 := h78.2
    refine GO.useWT (fun hWn => ?_)
    refine GO.callV (ci := 8) (N := mX9_addStep) dX5_factor_102 (RX9, TX9, 5) rfl gV_RX5_92 h74 (t_X9_addStep h74 (ir_c rfl) r77) rfl [] rfl rfl (Nat.le_of_ble_eq_true rfl) rfl (k_is fun X82 V86 r83 h84 hF85 => ?_)
    have raw_addStep := h84.2
    have rw102 := h84.2
    refine GO.pop dX5_factor_105 rfl ?_
    have e88 : vi V80 x 4 = vi V x 4 := vi_fr hF79 h_x h_x (by decide +kernel)
    have e87 : vi V86 x 4 = vi V80 x 4 := vi_fr hF85 h_x h_x (by decide +kernel)
    have q89 : -2147483648 ≤ vi V x 4 ∧ vi V x 4 ≤ 2147483647 := vi_ir
    have e90 : vi V86 x 5 = vi V80 x 5 := vi_fr hF85 h_x h_x (by decide +kernel)
    have q91 : -2147483648 ≤ vi V80 x 5 ∧ vi V80 x 5 ≤ 2147483647 := vi_ir
    exact GO.retv rfl rfl dX5_factor_106 ⟨rfl, rfl, ⟨by omega, (by first | exact CRg.bad (by omega) | exact FAC.num (by omega) (Or.inl (by omega)) rw99 rw102 (by assumption) (by decide +kernel) h_x hWn (by omega) (by omega) | exact FAC.num (by omega) (Or.inr ⟨by omega, hlt⟩) rw99 rw102 (by assumption) (by decide +kernel) h_x hWn (by omega) (by omega))⟩⟩

theorem t_X5_factor_8 {K : Kmap} {V : Vmap} {x : Nat} (h_x : K x = some (0, 4)) (q_0 : (vi V x 5 ≠ 0 ∨ (vi V x 5 = 0 ∧ vi V x 4 ≥ 1 ∧ vi V x 4 ≤ 8))) : MC mX5_factor_8 K V [.ref x] (VS K (fun V1 => (vi V1 x 4 = vi V x 4 ∧ (vi V x 5 ≠ 0 → vi V1 x 5 ≠ 0)) ∧ (CR K V V1 x (fun src e => facD src e (vi V x 4).toNat)))) := by
  rcases q_0 with h | h
  · exact t_X5_factor_8_F h_x (by omega)
  · exact t_X5_factor_8_G h_x (by omega) (by omega) (by omega)
