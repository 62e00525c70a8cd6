def mX5_factors_8 : MRec := (RX5, cX5_factors, 3, (none : Option Jvm.ClassFile.FieldType), yX5_factors, 28, 684, 0, 0, 84615164005151820665845159428194693098035799419427996068435045795123941278247852265624218936283556470163081713008521863233536)
def mX5_terms_8 : MRec := (RX5, cX5_terms, 3, (none : Option Jvm.ClassFile.FieldType), yX5_terms, 29, 706, 0, 0, 84615164005151820665845159428194693098035799419427996068435045795123941278247852265624218936283556470163081713008521863233536)
def mX5_comparison : MRec := (RX5, cX5_comparison, 2, (some .int), yX5_comparison, 1, 22, 0, 0, 13510798882111488)
def mX5_piece_0 : MRec := (RX5, cX5_piece, 3, (none : Option Jvm.ClassFile.FieldType), yX5_piece, 0, 0, 0, 0, 0)
def mX9_lead : MRec := (RX9, cX9_lead, 2, (none : Option Jvm.ClassFile.FieldType), yX9_lead, 1, 22, 0, 0, 84615164005151820665845159428194693098035799419427996068435045795123941278247852265624218936283556460491675139202989862944768)
def mX5_part_0 : MRec := (RX5, cX5_part, 3, (none : Option Jvm.ClassFile.FieldType), yX5_part, 2, 43, 0, 0, 84615164005151820665845159428194693098035799419427996068435045795123941278247852265624218936283556460491675139202989862944768)
def mX5_parts_0 : MRec := (RX5, cX5_parts, 3, (none : Option Jvm.ClassFile.FieldType), yX5_parts, 3, 65, 0, 0, 84615164005151820665845159428194693098035799419427996068435045795123941278247852265624218936283556460491675139202989862944768)
def mX5_negation_1 : MRec := (RX5, cX5_negation, 1, (none : Option Jvm.ClassFile.FieldType), yX5_negation, 2, 45, 0, 0, 84615164005151820665845159428194693098035799419427996068435045795123941278247852265624218936283556470163081713008521863233536)
def mX5_piece_1 : MRec := (RX5, cX5_piece, 3, (none : Option Jvm.ClassFile.FieldType), yX5_piece, 9, 266, 0, 0, 84615164005151820665845159428194693098035799419427996068435045795123941278247852265624218936283556470163081713008521863233536)
set_option maxHeartbeats 1000000 in
theorem t_X5_factors_8_F {K : Kmap} {V : Vmap} {x : Nat} (h_x : K x = some (0, 4)) (q_0 : vi V x 5 ≠ 0) : MC mX5_factors_8 K V [.ref x] (VS K (fun V1 => (vi V1 x 4 = vi V x 4 ∧ (vi V x 5 ≠ 0 → vi V1 x 5 ≠ 0)) ∧ (CR K V V1 x (fun src e => facsG src e (facD src e (vi V x 4).toNat))))) := by
  refine MC.start 2 (by decide +kernel) rfl rfl rfl (ls0 := [some (.ref x), none, none]) rfl ?_
  refine GO.useWT (fun hW_0 => ?_)
  refine GO.aload_n dX5_factors_0 rfl rfl ?_
  have q1 : -2147483648 ≤ vi V x 4 ∧ vi V x 4 ≤ 2147483647 := vi_ir
  have q2 : -2147483648 ≤ vi V x 5 ∧ vi V x 5 ≤ 2147483647 := vi_ir
  refine GO.callV (ci := 4) (N := mX5_factor_8) dX5_factors_1 (RX5, TX5, 7) rfl gV_RX5_111 h_x (t_X5_factor_8 h_x (by omega)) rfl [] rfl rfl (Nat.le_of_ble_eq_true rfl) rfl (k_vs fun V5 h4 hF3 => ?_)
  have raw_factor := h4.2
  have rw1 := h4.2
  refine GO.iconst dX5_factors_4 ?_
  refine GO.istore_n (ls1 := [some (.ref x), some (ti 0), none]) dX5_factors_5 rfl rfl rfl ?_
  have q9 : -2147483648 ≤ vi V5 x 4 ∧ vi V5 x 4 ≤ 2147483647 := vi_ir
  have q10 : -2147483648 ≤ vi V5 x 5 ∧ vi V5 x 5 ≤ 2147483647 := vi_ir
  refine GO.loop1 (fun i8 W => 0 ≤ i8 ∧ i8 ≤ 0 ∧ (vi W x 4 = vi V5 x 4 ∧ (vi V5 x 5 ≠ 0 → vi W x 5 ≠ 0)) ∧ (FSI K V W x (vi V x 4).toNat i8) ∧ True) (fun i8 => [some (.ref x), some (ti i8), none]) (fun i8 W => (2147483647 - i8).toNat) 0 ⟨by omega, by omega, by omega, (by first | exact FSI.beg rw1), trivial⟩ rfl (fun i8 Wi8 hp16 ih15 => ?_)
  obtain ⟨l_i8, u_i8, n_i8, hfs, -⟩ := hp16
  have r_i8 : ir i8 := ⟨by omega, by omega⟩
  show GO mX5_factors_8 K V (VS K (fun V1 => (vi V1 x 4 = vi V x 4 ∧ (vi V x 5 ≠ 0 → vi V1 x 5 ≠ 0)) ∧ (CR K V V1 x (fun src e => facsG src e (facD src e (vi V x 4).toNat))))) K Wi8 0 0 6 [some (.ref x), some (ti i8), none] []
  refine GO.useWT (fun hWh => ?_)
  refine GO.iload_n dX5_factors_6 rfl rfl ?_
  refine GO.sipush dX5_factors_7 rfl ?_
  refine GO.icmp_ge (tgt := 91) dX5_factors_10 (by decide) r_i8 (ir_c rfl) (fun h => by exfalso; omega) (fun c17 => ?_)
  refine GO.aload_n dX5_factors_13 rfl rfl ?_
  refine GO.getI h_x fl_RX5_18 rfl rfl dX5_factors_14 (fun _ _ => ?_)
  have q19 : -2147483648 ≤ vi Wi8 x 5 ∧ vi Wi8 x 5 ≤ 2147483647 := vi_ir
  refine GO.if_ne (tgt := 91) dX5_factors_17 (by decide) vi_ir (fun c18 => ?_) (fun h => by exfalso; omega)
  have q20 : -2147483648 ≤ vi Wi8 x 4 ∧ vi Wi8 x 4 ≤ 2147483647 := vi_ir
  exact GO.retv rfl rfl dX5_factors_91 ⟨rfl, rfl, ⟨by omega, FSI.end hfs (by omega) (by omega)⟩⟩

set_option maxHeartbeats 1000000 in
theorem t_X5_factors_8_G {K : Kmap} {V : Vmap} {x : Nat} (h_x : K x = some (0, 4)) (q_0 : vi V x 5 = 0) (q_1 : vi V x 4 ≥ 1) (q_2 : vi V x 4 ≤ 8) : MC mX5_factors_8 K V [.ref x] (VS K (fun V1 => (vi V1 x 4 = vi V x 4 ∧ (vi V x 5 ≠ 0 → vi V1 x 5 ≠ 0)) ∧ (CR K V V1 x (fun src e => facsG src e (facD src e (vi V x 4).toNat))))) := by
  refine MC.start 2 (by decide +kernel) rfl rfl rfl (ls0 := [some (.ref x), none, none]) rfl ?_
  refine GO.useWT (fun hW_0 => ?_)
  refine GO.aload_n dX5_factors_0 rfl rfl ?_
  have q1 : -2147483648 ≤ vi V x 4 ∧ vi V x 4 ≤ 2147483647 := vi_ir
  have q2 : -2147483648 ≤ vi V x 5 ∧ vi V x 5 ≤ 2147483647 := vi_ir
  refine GO.callV (ci := 4) (N := mX5_factor_8) dX5_factors_1 (RX5, TX5, 7) rfl gV_RX5_111 h_x (t_X5_factor_8 h_x (by omega)) rfl [] rfl rfl (Nat.le_of_ble_eq_true rfl) rfl (k_vs fun V5 h4 hF3 => ?_)
  have raw_factor := h4.2
  have rw1 := h4.2
  refine GO.iconst dX5_factors_4 ?_
  refine GO.istore_n (ls1 := [some (.ref x), some (ti 0), none]) dX5_factors_5 rfl rfl rfl ?_
  have q9 : -2147483648 ≤ vi V5 x 4 ∧ vi V5 x 4 ≤ 2147483647 := vi_ir
  have q10 : -2147483648 ≤ vi V5 x 5 ∧ vi V5 x 5 ≤ 2147483647 := vi_ir
  refine GO.loop1 (fun i8 W => 0 ≤ i8 ∧ i8 ≤ 200 ∧ (vi W x 4 = vi V5 x 4 ∧ (vi V5 x 5 ≠ 0 → vi W x 5 ≠ 0)) ∧ (FSI K V W x (vi V x 4).toNat i8) ∧ True) (fun i8 => [some (.ref x), some (ti i8), none]) (fun i8 W => (2147483647 - i8).toNat) 0 ⟨by omega, by omega, by omega, (by first | exact FSI.beg rw1), trivial⟩ rfl (fun i8 Wi8 hp790 ih789 => ?_)
  obtain ⟨l_i8, u_i8, n_i8, hfs, -⟩ := hp790
  have r_i8 : ir i8 := ⟨by omega, by omega⟩
  show GO mX5_factors_8 K V (VS K (fun V1 => (vi V1 x 4 = vi V x 4 ∧ (vi V x 5 ≠ 0 → vi V1 x 5 ≠ 0)) ∧ (CR K V V1 x (fun src e => facsG src e (facD src e (vi V x 4).toNat))))) K Wi8 0 0 6 [some (.ref x), some (ti i8), none] []
  refine GO.useWT (fun hWh => ?_)
  refine GO.iload_n dX5_factors_6 rfl rfl ?_
  refine GO.sipush dX5_factors_7 rfl ?_
  refine GO.icmp_ge (tgt := 91) dX5_factors_10 (by decide) r_i8 (ir_c rfl) (fun c791 => ?_) (fun c791 => ?_)
  ·
    have q792 : -2147483648 ≤ vi Wi8 x 4 ∧ vi Wi8 x 4 ≤ 2147483647 := vi_ir
    have q793 : -2147483648 ≤ vi Wi8 x 5 ∧ vi Wi8 x 5 ≤ 2147483647 := vi_ir
    exact GO.retv rfl rfl dX5_factors_91 ⟨rfl, rfl, ⟨by omega, FSI.end hfs (by omega) (by omega)⟩⟩
  ·
    refine GO.aload_n dX5_factors_13 rfl rfl ?_
    refine GO.getI h_x fl_RX5_18 rfl rfl dX5_factors_14 (fun _ _ => ?_)
    refine GO.if_ne (tgt := 91) dX5_factors_17 (by decide) vi_ir (fun c794 => ?_) (fun c794 => ?_)
    ·
      have q795 : -2147483648 ≤ vi Wi8 x 4 ∧ vi Wi8 x 4 ≤ 2147483647 := vi_ir
      have q796 : -2147483648 ≤ vi Wi8 x 5 ∧ vi Wi8 x 5 ≤ 2147483647 := vi_ir
      exact GO.retv rfl rfl dX5_factors_91 ⟨rfl, rfl, ⟨by omega, FSI.end hfs (by omega) (by omega)⟩⟩
    ·
      refine GO.aload_n dX5_factors_20 rfl rfl ?_
      refine GO.callV (ci := 4) (N := mX5_next) dX5_factors_21 (RX5, TX5, 7) rfl gV_RX5_61 h_x (t_X5_next h_x) rfl [] rfl rfl (Nat.le_of_ble_eq_true rfl) rfl (k_ip fun X797 r798 h799 => ?_)
      refine GO.callS (N := mX5_isFactorSign) dX5_factors_24 gS_RX5_114 (t_X5_isFactorSign r798) rfl [] rfl rfl (Nat.le_of_ble_eq_true rfl) rfl (k_ip fun X800 r801 h802 => ?_)
      refine GO.if_eq (tgt := 91) dX5_factors_27 (by decide) r801 (fun c803 => ?_) (fun c803 => ?_)
      ·
        have q804 := h802.2.2 (by omega)
        have q805 : -2147483648 ≤ vi Wi8 x 4 ∧ vi Wi8 x 4 ≤ 2147483647 := vi_ir
        have q806 : -2147483648 ≤ vi Wi8 x 5 ∧ vi Wi8 x 5 ≤ 2147483647 := vi_ir
        exact GO.retv rfl rfl dX5_factors_91 ⟨rfl, rfl, ⟨by omega, FSI.end hfs (by omega) (by omega)⟩⟩
      ·
        have q807 := h802.2.1 (by omega)
        refine GO.aload_n dX5_factors_30 rfl rfl ?_
        refine GO.callV (ci := 4) (N := mX5_next) dX5_factors_31 (RX5, TX5, 7) rfl gV_RX5_61 h_x (t_X5_next h_x) rfl [] rfl rfl (Nat.le_of_ble_eq_true rfl) rfl (k_ip fun X808 r809 h810 => ?_)
        refine GO.bipush dX5_factors_34 rfl ?_
        refine GO.icmp_ne (tgt := 44) dX5_factors_36 (by decide) r809 (ir_c rfl) (fun c811 => ?_) (fun c811 => ?_)
        ·
          refine GO.aload_n dX5_factors_44 rfl rfl ?_
          refine GO.callV (ci := 4) (N := mX5_next) dX5_factors_45 (RX5, TX5, 7) rfl gV_RX5_61 h_x (t_X5_next h_x) rfl [] rfl rfl (Nat.le_of_ble_eq_true rfl) rfl (k_ip fun X812 r813 h814 => ?_)
          refine GO.bipush dX5_factors_48 rfl ?_
          refine GO.icmp_ne (tgt := 58) dX5_factors_50 (by decide) r813 (ir_c rfl) (fun c815 => ?_) (fun c815 => ?_)
          ·
            refine GO.bipush dX5_factors_58 rfl ?_
            refine GO.istore_n (ls1 := [some (.ref x), some (ti i8), some (ti 9)]) dX5_factors_60 rfl rfl rfl ?_
            refine GO.aload_n dX5_factors_61 rfl rfl ?_
            refine GO.dup dX5_factors_62 rfl ?_
            refine GO.getI h_x fl_RX5_9 rfl rfl dX5_factors_63 (fun _ _ => ?_)
            refine GO.iconst dX5_factors_66 ?_
            refine GO.iadd dX5_factors_67 ?_
            refine GO.norm (fun z816 r817 hn818 => ?_)
            refine GO.putI h_x fp_RX5_9 rfl (by decide +kernel) r817 (r817).1 (r817).2 dX5_factors_68 (fun V820 e819 => ?_)
            refine GO.aload_n dX5_factors_71 rfl rfl ?_
            have e821 : vi V820 x 5 = vi Wi8 x 5 := vi_up e819 (Or.inr (by decide))
            have e822 : vi V820 x 4 = vi Wi8 x 4 := vi_up e819 (Or.inr (by decide))
            have q823 : -2147483648 ≤ vi Wi8 x 4 ∧ vi Wi8 x 4 ≤ 2147483647 := vi_ir
            have q824 : -2147483648 ≤ vi Wi8 x 5 ∧ vi Wi8 x 5 ≤ 2147483647 := vi_ir
            refine GO.callV (ci := 4) (N := mX5_factor_8) dX5_factors_72 (RX5, TX5, 7) rfl gV_RX5_111 h_x (t_X5_factor_8 h_x (by omega)) rfl [] rfl rfl (Nat.le_of_ble_eq_true rfl) rfl (k_vs fun V827 h826 hF825 => ?_)
            have raw_factor := h826.2
            have rw72 := h826.2
            refine GO.useWT (fun hWs => ?_)
            refine GO.aload_n dX5_factors_75 rfl rfl ?_
            refine GO.getR h_x fl_RX5_31 rfl rfl dX5_factors_76 (fun hv831 h830 => ?_)
            refine GO.iload_n dX5_factors_79 rfl rfl ?_
            refine GO.iconst dX5_factors_80 ?_
            refine GO.callV (ci := 8) (N := mX9_addStep) dX5_factors_81 (RX9, TX9, 5) rfl gV_RX5_92 h830 (t_X9_addStep h830 (ir_c rfl) (ir_c rfl)) rfl [] rfl rfl (Nat.le_of_ble_eq_true rfl) rfl (k_is fun X832 V836 r833 h834 hF835 => ?_)
            have raw_addStep := h834.2
            have rw81 := h834.2
            refine GO.pop dX5_factors_84 rfl ?_
            refine GO.iinc (X := i8) (n := 1) (Y := i8 + 1) (ls1 := [some (.ref x), some (ti (i8 + 1)), some (ti 9)]) dX5_factors_85 rfl rfl rfl rfl ?_
            refine GO.goto (tgt := 6) dX5_factors_88 (by decide) ?_
            refine GO.drop [true, true, false] rfl ?_
            have e837 : vi V836 x 4 = vi V827 x 4 := vi_fr hF835 h_x h_x (by decide +kernel)
            have q838 : -2147483648 ≤ vi V827 x 4 ∧ vi V827 x 4 ≤ 2147483647 := vi_ir
            have e839 : vi V836 x 5 = vi V827 x 5 := vi_fr hF835 h_x h_x (by decide +kernel)
            have q840 : -2147483648 ≤ vi V827 x 5 ∧ vi V827 x 5 ≤ 2147483647 := vi_ir
            exact ih789 (i8 + 1) V836 ⟨by omega, by omega, by omega, (by first | exact FSI.beg rw1 | exact FSI.step hfs (by omega) (by omega) rfl (by omega) h_x hWh hWs (by assumption) (by assumption) (by assumption) (CR.fac rw72 (by omega)) rw81), trivial⟩ (by show (2147483647 - (i8 + 1)).toNat < (2147483647 - i8).toNat; omega)
          ·
            refine GO.bipush dX5_factors_53 rfl ?_
            refine GO.goto (tgt := 60) dX5_factors_55 (by decide) ?_
            refine GO.istore_n (ls1 := [some (.ref x), some (ti i8), some (ti 8)]) dX5_factors_60 rfl rfl rfl ?_
            refine GO.aload_n dX5_factors_61 rfl rfl ?_
            refine GO.dup dX5_factors_62 rfl ?_
            refine GO.getI h_x fl_RX5_9 rfl rfl dX5_factors_63 (fun _ _ => ?_)
            refine GO.iconst dX5_factors_66 ?_
            refine GO.iadd dX5_factors_67 ?_
            refine GO.norm (fun z841 r842 hn843 => ?_)
            refine GO.putI h_x fp_RX5_9 rfl (by decide +kernel) r842 (r842).1 (r842).2 dX5_factors_68 (fun V845 e844 => ?_)
            refine GO.aload_n dX5_factors_71 rfl rfl ?_
            have e846 : vi V845 x 5 = vi Wi8 x 5 := vi_up e844 (Or.inr (by decide))
            have e847 : vi V845 x 4 = vi Wi8 x 4 := vi_up e844 (Or.inr (by decide))
            have q848 : -2147483648 ≤ vi Wi8 x 4 ∧ vi Wi8 x 4 ≤ 2147483647 := vi_ir
            have q849 : -2147483648 ≤ vi Wi8 x 5 ∧ vi Wi8 x 5 ≤ 2147483647 := vi_ir
            refine GO.callV (ci := 4) (N := mX5_factor_8) dX5_factors_72 (RX5, TX5, 7) rfl gV_RX5_111 h_x (t_X5_factor_8 h_x (by omega)) rfl [] rfl rfl (Nat.le_of_ble_eq_true rfl) rfl (k_vs fun V852 h851 hF850 => ?_)
            have raw_factor := h851.2
            have rw72 := h851.2
            refine GO.useWT (fun hWs => ?_)
            refine GO.aload_n dX5_factors_75 rfl rfl ?_
            refine GO.getR h_x fl_RX5_31 rfl rfl dX5_factors_76 (fun hv856 h855 => ?_)
            refine GO.iload_n dX5_factors_79 rfl rfl ?_
            refine GO.iconst dX5_factors_80 ?_
            refine GO.callV (ci := 8) (N := mX9_addStep) dX5_factors_81 (RX9, TX9, 5) rfl gV_RX5_92 h855 (t_X9_addStep h855 (ir_c rfl) (ir_c rfl)) rfl [] rfl rfl (Nat.le_of_ble_eq_true rfl) rfl (k_is fun X857 V861 r858 h859 hF860 => ?_)
            have raw_addStep := h859.2
            have rw81 := h859.2
            refine GO.pop dX5_factors_84 rfl ?_
            refine GO.iinc (X := i8) (n := 1) (Y := i8 + 1) (ls1 := [some (.ref x), some (ti (i8 + 1)), some (ti 8)]) dX5_factors_85 rfl rfl rfl rfl ?_
            refine GO.goto (tgt := 6) dX5_factors_88 (by decide) ?_
            refine GO.drop [true, true, false] rfl ?_
            have e862 : vi V861 x 4 = vi V852 x 4 := vi_fr hF860 h_x h_x (by decide +kernel)
            have q863 : -2147483648 ≤ vi V852 x 4 ∧ vi V852 x 4 ≤ 2147483647 := vi_ir
            have e864 : vi V861 x 5 = vi V852 x 5 := vi_fr hF860 h_x h_x (by decide +kernel)
            have q865 : -2147483648 ≤ vi V852 x 5 ∧ vi V852 x 5 ≤ 2147483647 := vi_ir
            exact ih789 (i8 + 1) V861 ⟨by omega, by omega, by omega, (by first | exact FSI.beg rw1 | exact FSI.step hfs (by omega) (by omega) rfl (by omega) h_x hWh hWs (by assumption) (by assumption) (by assumption) (CR.fac rw72 (by omega)) rw81), trivial⟩ (by show (2147483647 - (i8 + 1)).toNat < (2147483647 - i8).toNat; omega)
        ·
          refine GO.bipush dX5_factors_39 rfl ?_
          refine GO.goto (tgt := 60) dX5_factors_41 (by decide) ?_
          refine GO.istore_n (ls1 := [some (.ref x), some (ti i8), some (ti 7)]) dX5_factors_60 rfl rfl rfl ?_
          refine GO.aload_n dX5_factors_61 rfl rfl ?_
          refine GO.dup dX5_factors_62 rfl ?_
          refine GO.getI h_x fl_RX5_9 rfl rfl dX5_factors_63 (fun _ _ => ?_)
          refine GO.iconst dX5_factors_66 ?_
          refine GO.iadd dX5_factors_67 ?_
          refine GO.norm (fun z866 r867 hn868 => ?_)
          refine GO.putI h_x fp_RX5_9 rfl (by decide +kernel) r867 (r867).1 (r867).2 dX5_factors_68 (fun V870 e869 => ?_)
          refine GO.aload_n dX5_factors_71 rfl rfl ?_
          have e871 : vi V870 x 5 = vi Wi8 x 5 := vi_up e869 (Or.inr (by decide))
          have e872 : vi V870 x 4 = vi Wi8 x 4 := vi_up e869 (Or.inr (by decide))
          have q873 : -2147483648 ≤ vi Wi8 x 4 ∧ vi Wi8 x 4 ≤ 2147483647 := vi_ir
          have q874 : -2147483648 ≤ vi Wi8 x 5 ∧ vi Wi8 x 5 ≤ 2147483647 := vi_ir
          refine GO.callV (ci := 4) (N := mX5_factor_8) dX5_factors_72 (RX5, TX5, 7) rfl gV_RX5_111 h_x (t_X5_factor_8 h_x (by omega)) rfl [] rfl rfl (Nat.le_of_ble_eq_true rfl) rfl (k_vs fun V877 h876 hF875 => ?_)
          have raw_factor := h876.2
          have rw72 := h876.2
          refine GO.useWT (fun hWs => ?_)
          refine GO.aload_n dX5_factors_75 rfl rfl ?_
          refine GO.getR h_x fl_RX5_31 rfl rfl dX5_factors_76 (fun hv881 h880 => ?_)
          refine GO.iload_n dX5_factors_79 rfl rfl ?_
          refine GO.iconst dX5_factors_80 ?_
          refine GO.callV (ci := 8) (N := mX9_addStep) dX5_factors_81 (RX9, TX9, 5) rfl gV_RX5_92 h880 (t_X9_addStep h880 (ir_c rfl) (ir_c rfl)) rfl [] rfl rfl (Nat.le_of_ble_eq_true rfl) rfl (k_is fun X882 V886 r883 h884 hF885 => ?_)
          have raw_addStep := h884.2
          have rw81 := h884.2
          refine GO.pop dX5_factors_84 rfl ?_
          refine GO.iinc (X := i8) (n := 1) (Y := i8 + 1) (ls1 := [some (.ref x), some (ti (i8 + 1)), some (ti 7)]) dX5_factors_85 rfl rfl rfl rfl ?_
          refine GO.goto (tgt := 6) dX5_factors_88 (by decide) ?_
          refine GO.drop [true, true, false] rfl ?_
          have e887 : vi V886 x 4 = vi V877 x 4 := vi_fr hF885 h_x h_x (by decide +kernel)
          have q888 : -2147483648 ≤ vi V877 x 4 ∧ vi V877 x 4 ≤ 2147483647 := vi_ir
          have e889 : vi V886 x 5 = vi V877 x 5 := vi_fr hF885 h_x h_x (by decide +kernel)
          have q890 : -2147483648 ≤ vi V877 x 5 ∧ vi V877 x 5 ≤ 2147483647 := vi_ir
          exact ih789 (i8 + 1) V886 ⟨by omega, by omega, by omega, (by first | exact FSI.beg rw1 | exact FSI.step hfs (by omega) (by omega) rfl (by omega) h_x hWh hWs (by assumption) (by assumption) (by assumption) (CR.fac rw72 (by omega)) rw81), trivial⟩ (by show (2147483647 - (i8 + 1)).toNat < (2147483647 - i8).toNat; omega)

theorem t_X5_factors_8 {K : Kmap} {V : Vmap} {x : Nat} (h_x : K x = some (0, 4)) (q_0 : (vi V x 5 ≠ 0 ∨ (vi V x 5 = 0 ∧ vi V x 4 ≥ 1 ∧ vi V x 4 ≤ 8))) : MC mX5_factors_8 K V [.ref x] (VS K (fun V1 => (vi V1 x 4 = vi V x 4 ∧ (vi V x 5 ≠ 0 → vi V1 x 5 ≠ 0)) ∧ (CR K V V1 x (fun src e => facsG src e (facD src e (vi V x 4).toNat))))) := by
  rcases q_0 with h | h
  · exact t_X5_factors_8_F h_x (by omega)
  · exact t_X5_factors_8_G h_x (by omega) (by omega) (by omega)

set_option maxHeartbeats 1000000 in
theorem t_X5_terms_8_F {K : Kmap} {V : Vmap} {x : Nat} (h_x : K x = some (0, 4)) (q_0 : vi V x 5 ≠ 0) : MC mX5_terms_8 K V [.ref x] (VS K (fun V1 => (vi V1 x 4 = vi V x 4 ∧ (vi V x 5 ≠ 0 → vi V1 x 5 ≠ 0)) ∧ (CR K V V1 x (fun src e => terD src e (vi V x 4).toNat)))) := by
  refine MC.start 2 (by decide +kernel) rfl rfl rfl (ls0 := [some (.ref x), none, none]) rfl ?_
  refine GO.useWT (fun hW_0 => ?_)
  refine GO.aload_n dX5_terms_0 rfl rfl ?_
  have q1 : -2147483648 ≤ vi V x 4 ∧ vi V x 4 ≤ 2147483647 := vi_ir
  have q2 : -2147483648 ≤ vi V x 5 ∧ vi V x 5 ≤ 2147483647 := vi_ir
  refine GO.callV (ci := 4) (N := mX5_factors_8) dX5_terms_1 (RX5, TX5, 7) rfl gV_RX5_108 h_x (t_X5_factors_8 h_x (by omega)) rfl [] rfl rfl (Nat.le_of_ble_eq_true rfl) rfl (k_vs fun V5 h4 hF3 => ?_)
  have raw_factors := h4.2
  have rw1 := h4.2
  refine GO.iconst dX5_terms_4 ?_
  refine GO.istore_n (ls1 := [some (.ref x), some (ti 0), none]) dX5_terms_5 rfl rfl rfl ?_
  have q9 : -2147483648 ≤ vi V5 x 4 ∧ vi V5 x 4 ≤ 2147483647 := vi_ir
  have q10 : -2147483648 ≤ vi V5 x 5 ∧ vi V5 x 5 ≤ 2147483647 := vi_ir
  refine GO.loop1 (fun i8 W => 0 ≤ i8 ∧ i8 ≤ 0 ∧ (vi W x 4 = vi V5 x 4 ∧ (vi V5 x 5 ≠ 0 → vi W x 5 ≠ 0)) ∧ (TSI K V W x (vi V x 4).toNat i8) ∧ True) (fun i8 => [some (.ref x), some (ti i8), none]) (fun i8 W => (2147483647 - i8).toNat) 0 ⟨by omega, by omega, by omega, (by first | exact TSI.beg rw1 (by omega) | exact TSI.bad rw1 (by omega)), trivial⟩ rfl (fun i8 Wi8 hp16 ih15 => ?_)
  obtain ⟨l_i8, u_i8, n_i8, hts, -⟩ := hp16
  have r_i8 : ir i8 := ⟨by omega, by omega⟩
  show GO mX5_terms_8 K V (VS K (fun V1 => (vi V1 x 4 = vi V x 4 ∧ (vi V x 5 ≠ 0 → vi V1 x 5 ≠ 0)) ∧ (CR K V V1 x (fun src e => terD src e (vi V x 4).toNat)))) K Wi8 0 0 6 [some (.ref x), some (ti i8), none] []
  refine GO.useWT (fun hWh => ?_)
  refine GO.iload_n dX5_terms_6 rfl rfl ?_
  refine GO.sipush dX5_terms_7 rfl ?_
  refine GO.icmp_ge (tgt := 84) dX5_terms_10 (by decide) r_i8 (ir_c rfl) (fun h => by exfalso; omega) (fun c17 => ?_)
  refine GO.aload_n dX5_terms_13 rfl rfl ?_
  refine GO.getI h_x fl_RX5_18 rfl rfl dX5_terms_14 (fun _ _ => ?_)
  have q19 : -2147483648 ≤ vi Wi8 x 5 ∧ vi Wi8 x 5 ≤ 2147483647 := vi_ir
  refine GO.if_ne (tgt := 84) dX5_terms_17 (by decide) vi_ir (fun c18 => ?_) (fun h => by exfalso; omega)
  have q20 : -2147483648 ≤ vi Wi8 x 4 ∧ vi Wi8 x 4 ≤ 2147483647 := vi_ir
  exact GO.retv rfl rfl dX5_terms_84 ⟨rfl, rfl, ⟨by omega, TSI.end hts (by omega) (by omega)⟩⟩

set_option maxHeartbeats 1000000 in
theorem t_X5_terms_8_G {K : Kmap} {V : Vmap} {x : Nat} (h_x : K x = some (0, 4)) (q_0 : vi V x 5 = 0) (q_1 : vi V x 4 ≥ 1) (q_2 : vi V x 4 ≤ 8) : MC mX5_terms_8 K V [.ref x] (VS K (fun V1 => (vi V1 x 4 = vi V x 4 ∧ (vi V x 5 ≠ 0 → vi V1 x 5 ≠ 0)) ∧ (CR K V V1 x (fun src e => terD src e (vi V x 4).toNat)))) := by
  refine MC.start 2 (by decide +kernel) rfl rfl rfl (ls0 := [some (.ref x), none, none]) rfl ?_
  refine GO.useWT (fun hW_0 => ?_)
  refine GO.aload_n dX5_terms_0 rfl rfl ?_
  have q1 : -2147483648 ≤ vi V x 4 ∧ vi V x 4 ≤ 2147483647 := vi_ir
  have q2 : -2147483648 ≤ vi V x 5 ∧ vi V x 5 ≤ 2147483647 := vi_ir
  refine GO.callV (ci := 4) (N := mX5_factors_8) dX5_terms_1 (RX5, TX5, 7) rfl gV_RX5_108 h_x (t_X5_factors_8 h_x (by omega)) rfl [] rfl rfl (Nat.le_of_ble_eq_true rfl) rfl (k_vs fun V5 h4 hF3 => ?_)
  have raw_factors := h4.2
  have rw1 := h4.2
  refine GO.iconst dX5_terms_4 ?_
  refine GO.istore_n (ls1 := [some (.ref x), some (ti 0), none]) dX5_terms_5 rfl rfl rfl ?_
  have q9 : -2147483648 ≤ vi V5 x 4 ∧ vi V5 x 4 ≤ 2147483647 := vi_ir
  have q10 : -2147483648 ≤ vi V5 x 5 ∧ vi V5 x 5 ≤ 2147483647 := vi_ir
  refine GO.loop1 (fun i8 W => 0 ≤ i8 ∧ i8 ≤ 200 ∧ (vi W x 4 = vi V5 x 4 ∧ (vi V5 x 5 ≠ 0 → vi W x 5 ≠ 0)) ∧ (TSI K V W x (vi V x 4).toNat i8) ∧ True) (fun i8 => [some (.ref x), some (ti i8), none]) (fun i8 W => (2147483647 - i8).toNat) 0 ⟨by omega, by omega, by omega, (by first | exact TSI.beg rw1 (by omega) | exact TSI.bad rw1 (by omega)), trivial⟩ rfl (fun i8 Wi8 hp592 ih591 => ?_)
  obtain ⟨l_i8, u_i8, n_i8, hts, -⟩ := hp592
  have r_i8 : ir i8 := ⟨by omega, by omega⟩
  show GO mX5_terms_8 K V (VS K (fun V1 => (vi V1 x 4 = vi V x 4 ∧ (vi V x 5 ≠ 0 → vi V1 x 5 ≠ 0)) ∧ (CR K V V1 x (fun src e => terD src e (vi V x 4).toNat)))) K Wi8 0 0 6 [some (.ref x), some (ti i8), none] []
  refine GO.useWT (fun hWh => ?_)
  refine GO.iload_n dX5_terms_6 rfl rfl ?_
  refine GO.sipush dX5_terms_7 rfl ?_
  refine GO.icmp_ge (tgt := 84) dX5_terms_10 (by decide) r_i8 (ir_c rfl) (fun c593 => ?_) (fun c593 => ?_)
  ·
    have q594 : -2147483648 ≤ vi Wi8 x 4 ∧ vi Wi8 x 4 ≤ 2147483647 := vi_ir
    have q595 : -2147483648 ≤ vi Wi8 x 5 ∧ vi Wi8 x 5 ≤ 2147483647 := vi_ir
    exact GO.retv rfl rfl dX5_terms_84 ⟨rfl, rfl, ⟨by omega, TSI.end hts (by omega) (by omega)⟩⟩
  ·
    refine GO.aload_n dX5_terms_13 rfl rfl ?_
    refine GO.getI h_x fl_RX5_18 rfl rfl dX5_terms_14 (fun _ _ => ?_)
    refine GO.if_ne (tgt := 84) dX5_terms_17 (by decide) vi_ir (fun c596 => ?_) (fun c596 => ?_)
    ·
      have q597 : -2147483648 ≤ vi Wi8 x 4 ∧ vi Wi8 x 4 ≤ 2147483647 := vi_ir
      have q598 : -2147483648 ≤ vi Wi8 x 5 ∧ vi Wi8 x 5 ≤ 2147483647 := vi_ir
      exact GO.retv rfl rfl dX5_terms_84 ⟨rfl, rfl, ⟨by omega, TSI.end hts (by omega) (by omega)⟩⟩
    ·
      refine GO.aload_n dX5_terms_20 rfl rfl ?_
      refine GO.callV (ci := 4) (N := mX5_next) dX5_terms_21 (RX5, TX5, 7) rfl gV_RX5_61 h_x (t_X5_next h_x) rfl [] rfl rfl (Nat.le_of_ble_eq_true rfl) rfl (k_ip fun X599 r600 h601 => ?_)
      refine GO.bipush dX5_terms_24 rfl ?_
      refine GO.icmp_eq (tgt := 38) dX5_terms_26 (by decide) r600 (ir_c rfl) (fun c602 => ?_) (fun c602 => ?_)
      ·
        refine GO.aload_n dX5_terms_38 rfl rfl ?_
        refine GO.callV (ci := 4) (N := mX5_next) dX5_terms_39 (RX5, TX5, 7) rfl gV_RX5_61 h_x (t_X5_next h_x) rfl [] rfl rfl (Nat.le_of_ble_eq_true rfl) rfl (k_ip fun X603 r604 h605 => ?_)
        refine GO.bipush dX5_terms_42 rfl ?_
        refine GO.icmp_ne (tgt := 51) dX5_terms_44 (by decide) r604 (ir_c rfl) (fun h => by exfalso; omega) (fun c606 => ?_)
        refine GO.iconst dX5_terms_47 ?_
        refine GO.goto (tgt := 53) dX5_terms_48 (by decide) ?_
        refine GO.istore_n (ls1 := [some (.ref x), some (ti i8), some (ti 5)]) dX5_terms_53 rfl rfl rfl ?_
        refine GO.aload_n dX5_terms_54 rfl rfl ?_
        refine GO.dup dX5_terms_55 rfl ?_
        refine GO.getI h_x fl_RX5_9 rfl rfl dX5_terms_56 (fun _ _ => ?_)
        refine GO.iconst dX5_terms_59 ?_
        refine GO.iadd dX5_terms_60 ?_
        refine GO.norm (fun z607 r608 hn609 => ?_)
        refine GO.putI h_x fp_RX5_9 rfl (by decide +kernel) r608 (r608).1 (r608).2 dX5_terms_61 (fun V611 e610 => ?_)
        refine GO.aload_n dX5_terms_64 rfl rfl ?_
        have e612 : vi V611 x 5 = vi Wi8 x 5 := vi_up e610 (Or.inr (by decide))
        have e613 : vi V611 x 4 = vi Wi8 x 4 := vi_up e610 (Or.inr (by decide))
        have q614 : -2147483648 ≤ vi Wi8 x 4 ∧ vi Wi8 x 4 ≤ 2147483647 := vi_ir
        have q615 : -2147483648 ≤ vi Wi8 x 5 ∧ vi Wi8 x 5 ≤ 2147483647 := vi_ir
        refine GO.callV (ci := 4) (N := mX5_factors_8) dX5_terms_65 (RX5, TX5, 7) rfl gV_RX5_108 h_x (t_X5_factors_8 h_x (by omega)) rfl [] rfl rfl (Nat.le_of_ble_eq_true rfl) rfl (k_vs fun V618 h617 hF616 => ?_)
        have raw_factors := h617.2
        have rw65 := h617.2
        refine GO.useWT (fun hWs => ?_)
        refine GO.aload_n dX5_terms_68 rfl rfl ?_
        refine GO.getR h_x fl_RX5_31 rfl rfl dX5_terms_69 (fun hv622 h621 => ?_)
        refine GO.iload_n dX5_terms_72 rfl rfl ?_
        refine GO.iconst dX5_terms_73 ?_
        refine GO.callV (ci := 8) (N := mX9_addStep) dX5_terms_74 (RX9, TX9, 5) rfl gV_RX5_92 h621 (t_X9_addStep h621 (ir_c rfl) (ir_c rfl)) rfl [] rfl rfl (Nat.le_of_ble_eq_true rfl) rfl (k_is fun X623 V627 r624 h625 hF626 => ?_)
        have raw_addStep := h625.2
        have rw74 := h625.2
        refine GO.pop dX5_terms_77 rfl ?_
        refine GO.iinc (X := i8) (n := 1) (Y := i8 + 1) (ls1 := [some (.ref x), some (ti (i8 + 1)), some (ti 5)]) dX5_terms_78 rfl rfl rfl rfl ?_
        refine GO.goto (tgt := 6) dX5_terms_81 (by decide) ?_
        refine GO.drop [true, true, false] rfl ?_
        have e628 : vi V627 x 4 = vi V618 x 4 := vi_fr hF626 h_x h_x (by decide +kernel)
        have q629 : -2147483648 ≤ vi V618 x 4 ∧ vi V618 x 4 ≤ 2147483647 := vi_ir
        have e630 : vi V627 x 5 = vi V618 x 5 := vi_fr hF626 h_x h_x (by decide +kernel)
        have q631 : -2147483648 ≤ vi V618 x 5 ∧ vi V618 x 5 ≤ 2147483647 := vi_ir
        exact ih591 (i8 + 1) V627 ⟨by omega, by omega, by omega, (by first | exact TSI.beg rw1 (by omega) | exact TSI.bad rw1 (by omega) | exact TSI.step hts (by omega) (by omega) rfl (by omega) h_x hWh hWs (by assumption) (by assumption) (by assumption) (CR.facs rw65 (by omega)) rw74), trivial⟩ (by show (2147483647 - (i8 + 1)).toNat < (2147483647 - i8).toNat; omega)
      ·
        refine GO.aload_n dX5_terms_29 rfl rfl ?_
        refine GO.callV (ci := 4) (N := mX5_next) dX5_terms_30 (RX5, TX5, 7) rfl gV_RX5_61 h_x (t_X5_next h_x) rfl [] rfl rfl (Nat.le_of_ble_eq_true rfl) rfl (k_ip fun X632 r633 h634 => ?_)
        refine GO.bipush dX5_terms_33 rfl ?_
        refine GO.icmp_ne (tgt := 84) dX5_terms_35 (by decide) r633 (ir_c rfl) (fun c635 => ?_) (fun c635 => ?_)
        ·
          have q636 : -2147483648 ≤ vi Wi8 x 4 ∧ vi Wi8 x 4 ≤ 2147483647 := vi_ir
          have q637 : -2147483648 ≤ vi Wi8 x 5 ∧ vi Wi8 x 5 ≤ 2147483647 := vi_ir
          exact GO.retv rfl rfl dX5_terms_84 ⟨rfl, rfl, ⟨by omega, TSI.end hts (by omega) (by omega)⟩⟩
        ·
          refine GO.aload_n dX5_terms_38 rfl rfl ?_
          refine GO.callV (ci := 4) (N := mX5_next) dX5_terms_39 (RX5, TX5, 7) rfl gV_RX5_61 h_x (t_X5_next h_x) rfl [] rfl rfl (Nat.le_of_ble_eq_true rfl) rfl (k_ip fun X638 r639 h640 => ?_)
          refine GO.bipush dX5_terms_42 rfl ?_
          refine GO.icmp_ne (tgt := 51) dX5_terms_44 (by decide) r639 (ir_c rfl) (fun c641 => ?_) (fun h => by exfalso; omega)
          refine GO.bipush dX5_terms_51 rfl ?_
          refine GO.istore_n (ls1 := [some (.ref x), some (ti i8), some (ti 6)]) dX5_terms_53 rfl rfl rfl ?_
          refine GO.aload_n dX5_terms_54 rfl rfl ?_
          refine GO.dup dX5_terms_55 rfl ?_
          refine GO.getI h_x fl_RX5_9 rfl rfl dX5_terms_56 (fun _ _ => ?_)
          refine GO.iconst dX5_terms_59 ?_
          refine GO.iadd dX5_terms_60 ?_
          refine GO.norm (fun z642 r643 hn644 => ?_)
          refine GO.putI h_x fp_RX5_9 rfl (by decide +kernel) r643 (r643).1 (r643).2 dX5_terms_61 (fun V646 e645 => ?_)
          refine GO.aload_n dX5_terms_64 rfl rfl ?_
          have e647 : vi V646 x 5 = vi Wi8 x 5 := vi_up e645 (Or.inr (by decide))
          have e648 : vi V646 x 4 = vi Wi8 x 4 := vi_up e645 (Or.inr (by decide))
          have q649 : -2147483648 ≤ vi Wi8 x 4 ∧ vi Wi8 x 4 ≤ 2147483647 := vi_ir
          have q650 : -2147483648 ≤ vi Wi8 x 5 ∧ vi Wi8 x 5 ≤ 2147483647 := vi_ir
          refine GO.callV (ci := 4) (N := mX5_factors_8) dX5_terms_65 (RX5, TX5, 7) rfl gV_RX5_108 h_x (t_X5_factors_8 h_x (by omega)) rfl [] rfl rfl (Nat.le_of_ble_eq_true rfl) rfl (k_vs fun V653 h652 hF651 => ?_)
          have raw_factors := h652.2
          have rw65 := h652.2
          refine GO.useWT (fun hWs => ?_)
          refine GO.aload_n dX5_terms_68 rfl rfl ?_
          refine GO.getR h_x fl_RX5_31 rfl rfl dX5_terms_69 (fun hv657 h656 => ?_)
          refine GO.iload_n dX5_terms_72 rfl rfl ?_
          refine GO.iconst dX5_terms_73 ?_
          refine GO.callV (ci := 8) (N := mX9_addStep) dX5_terms_74 (RX9, TX9, 5) rfl gV_RX5_92 h656 (t_X9_addStep h656 (ir_c rfl) (ir_c rfl)) rfl [] rfl rfl (Nat.le_of_ble_eq_true rfl) rfl (k_is fun X658 V662 r659 h660 hF661 => ?_)
          have raw_addStep := h660.2
          have rw74 := h660.2
          refine GO.pop dX5_terms_77 rfl ?_
          refine GO.iinc (X := i8) (n := 1) (Y := i8 + 1) (ls1 := [some (.ref x), some (ti (i8 + 1)), some (ti 6)]) dX5_terms_78 rfl rfl rfl rfl ?_
          refine GO.goto (tgt := 6) dX5_terms_81 (by decide) ?_
          refine GO.drop [true, true, false] rfl ?_
          have e663 : vi V662 x 4 = vi V653 x 4 := vi_fr hF661 h_x h_x (by decide +kernel)
          have q664 : -2147483648 ≤ vi V653 x 4 ∧ vi V653 x 4 ≤ 2147483647 := vi_ir
          have e665 : vi V662 x 5 = vi V653 x 5 := vi_fr hF661 h_x h_x (by decide +kernel)
          have q666 : -2147483648 ≤ vi V653 x 5 ∧ vi V653 x 5 ≤ 2147483647 := vi_ir
          exact ih591 (i8 + 1) V662 ⟨by omega, by omega, by omega, (by first | exact TSI.beg rw1 (by omega) | exact TSI.bad rw1 (by omega) | exact TSI.step hts (by omega) (by omega) rfl (by omega) h_x hWh hWs (by assumption) (by assumption) (by assumption) (CR.facs rw65 (by omega)) rw74), trivial⟩ (by show (2147483647 - (i8 + 1)).toNat < (2147483647 - i8).toNat; omega)

theorem t_X5_terms_8 {K : Kmap} {V : Vmap} {x : Nat} (h_x : K x = some (0, 4)) (q_0 : (vi V x 5 ≠ 0 ∨ (vi V x 5 = 0 ∧ vi V x 4 ≥ 1 ∧ vi V x 4 ≤ 8))) : MC mX5_terms_8 K V [.ref x] (VS K (fun V1 => (vi V1 x 4 = vi V x 4 ∧ (vi V x 5 ≠ 0 → vi V1 x 5 ≠ 0)) ∧ (CR K V V1 x (fun src e => terD src e (vi V x 4).toNat)))) := by
  rcases q_0 with h | h
  · exact t_X5_terms_8_F h_x (by omega)
  · exact t_X5_terms_8_G h_x (by omega) (by omega) (by omega)

set_option maxHeartbeats 1000000 in
theorem t_X5_comparison {K : Kmap} {V : Vmap} {x : Nat} {p0 : Int} (h_x : K x = some (0, 4)) (r_p0 : ir p0) : MC mX5_comparison K V [.ref x, ti p0] (IS K (fun X V1 => (X ≥ 10 ∧ X ≤ 12 ∧ (vi V x 5 ≠ 0 → vi V1 x 5 ≠ 0)) ∧ (CMP V V1 x p0 X))) := by
  refine MC.start 0 (by decide +kernel) rfl rfl rfl (ls0 := [some (.ref x), some (ti p0)]) rfl ?_
  refine GO.useWT (fun hW_0 => ?_)
  refine GO.iload_n dX5_comparison_0 rfl rfl ?_
  refine GO.bipush dX5_comparison_1 rfl ?_
  refine GO.icmp_eq (tgt := 27) dX5_comparison_3 (by decide) r_p0 (ir_c rfl) (fun c1 => ?_) (fun c1 => ?_)
  ·
    refine GO.iload_n dX5_comparison_27 rfl rfl ?_
    refine GO.bipush dX5_comparison_28 rfl ?_
    have q3 : -2147483648 ≤ p0 ∧ p0 ≤ 2147483647 := r_p0
    refine GO.icmp_ne (tgt := 38) dX5_comparison_30 (by decide) r_p0 (ir_c rfl) (fun h => by exfalso; omega) (fun c2 => ?_)
    refine GO.bipush dX5_comparison_33 rfl ?_
    refine GO.goto (tgt := 51) dX5_comparison_35 (by decide) ?_
    have q4 : -2147483648 ≤ vi V x 5 ∧ vi V x 5 ≤ 2147483647 := vi_ir
    exact GO.reti rfl rfl dX5_comparison_51 ⟨rfl, _, rfl, (ir_c rfl), ⟨(by first | exact trivial | omega), (by first | exact Or.inl ⟨rfl, by omega⟩)⟩⟩
  ·
    refine GO.iload_n dX5_comparison_6 rfl rfl ?_
    refine GO.bipush dX5_comparison_7 rfl ?_
    refine GO.icmp_eq (tgt := 27) dX5_comparison_9 (by decide) r_p0 (ir_c rfl) (fun c5 => ?_) (fun c5 => ?_)
    ·
      refine GO.iload_n dX5_comparison_27 rfl rfl ?_
      refine GO.bipush dX5_comparison_28 rfl ?_
      have q7 : -2147483648 ≤ p0 ∧ p0 ≤ 2147483647 := r_p0
      refine GO.icmp_ne (tgt := 38) dX5_comparison_30 (by decide) r_p0 (ir_c rfl) (fun c6 => ?_) (fun h => by exfalso; omega)
      refine GO.iload_n dX5_comparison_38 rfl rfl ?_
      refine GO.bipush dX5_comparison_39 rfl ?_
      refine GO.icmp_ne (tgt := 49) dX5_comparison_41 (by decide) r_p0 (ir_c rfl) (fun h => by exfalso; omega) (fun c8 => ?_)
      refine GO.bipush dX5_comparison_44 rfl ?_
      refine GO.goto (tgt := 51) dX5_comparison_46 (by decide) ?_
      have q9 : -2147483648 ≤ vi V x 5 ∧ vi V x 5 ≤ 2147483647 := vi_ir
      exact GO.reti rfl rfl dX5_comparison_51 ⟨rfl, _, rfl, (ir_c rfl), ⟨(by first | exact trivial | omega), (by first | exact Or.inl ⟨rfl, by omega⟩)⟩⟩
    ·
      refine GO.iload_n dX5_comparison_12 rfl rfl ?_
      refine GO.bipush dX5_comparison_13 rfl ?_
      refine GO.icmp_eq (tgt := 27) dX5_comparison_15 (by decide) r_p0 (ir_c rfl) (fun c10 => ?_) (fun c10 => ?_)
      ·
        refine GO.iload_n dX5_comparison_27 rfl rfl ?_
        refine GO.bipush dX5_comparison_28 rfl ?_
        have q12 : -2147483648 ≤ p0 ∧ p0 ≤ 2147483647 := r_p0
        refine GO.icmp_ne (tgt := 38) dX5_comparison_30 (by decide) r_p0 (ir_c rfl) (fun c11 => ?_) (fun h => by exfalso; omega)
        refine GO.iload_n dX5_comparison_38 rfl rfl ?_
        refine GO.bipush dX5_comparison_39 rfl ?_
        refine GO.icmp_ne (tgt := 49) dX5_comparison_41 (by decide) r_p0 (ir_c rfl) (fun c13 => ?_) (fun h => by exfalso; omega)
        refine GO.bipush dX5_comparison_49 rfl ?_
        have q14 : -2147483648 ≤ vi V x 5 ∧ vi V x 5 ≤ 2147483647 := vi_ir
        exact GO.reti rfl rfl dX5_comparison_51 ⟨rfl, _, rfl, (ir_c rfl), ⟨(by first | exact trivial | omega), (by first | exact Or.inl ⟨rfl, by omega⟩)⟩⟩
      ·
        refine GO.aload_n dX5_comparison_18 rfl rfl ?_
        refine GO.iconst dX5_comparison_19 ?_
        refine GO.aload_n dX5_comparison_20 rfl rfl ?_
        refine GO.getI h_x fl_RX5_9 rfl rfl dX5_comparison_21 (fun _ _ => ?_)
        refine GO.callV (ci := 4) (N := mX5_refuse) dX5_comparison_24 (RX5, TX5, 7) rfl gV_RX5_57 h_x (t_X5_refuse h_x (ir_c rfl) vi_ir (by omega)) rfl [] rfl rfl (Nat.le_of_ble_eq_true rfl) rfl (k_vs fun V17 h16 hF15 => ?_)
        have raw_refuse := h16.2
        have rw24 := h16.2
        refine GO.iload_n dX5_comparison_27 rfl rfl ?_
        refine GO.bipush dX5_comparison_28 rfl ?_
        have q20 : -2147483648 ≤ p0 ∧ p0 ≤ 2147483647 := r_p0
        refine GO.icmp_ne (tgt := 38) dX5_comparison_30 (by decide) r_p0 (ir_c rfl) (fun c19 => ?_) (fun h => by exfalso; omega)
        refine GO.iload_n dX5_comparison_38 rfl rfl ?_
        refine GO.bipush dX5_comparison_39 rfl ?_
        refine GO.icmp_ne (tgt := 49) dX5_comparison_41 (by decide) r_p0 (ir_c rfl) (fun c21 => ?_) (fun h => by exfalso; omega)
        refine GO.bipush dX5_comparison_49 rfl ?_
        have q22 : -2147483648 ≤ vi V x 5 ∧ vi V x 5 ≤ 2147483647 := vi_ir
        have q23 : -2147483648 ≤ vi V17 x 5 ∧ vi V17 x 5 ≤ 2147483647 := vi_ir
        exact GO.reti rfl rfl dX5_comparison_51 ⟨rfl, _, rfl, (ir_c rfl), ⟨(by first | exact trivial | omega), (by first | exact Or.inl ⟨rfl, by omega⟩ | exact Or.inr ⟨by omega, by omega, by omega, by omega, _, vi_ir, rfl, rw24⟩)⟩⟩

set_option maxHeartbeats 1000000 in
theorem t_X5_piece_0_F {K : Kmap} {V : Vmap} {x : Nat} (h_x : K x = some (0, 4)) (q_0 : vi V x 5 ≠ 0) : MC mX5_piece_0 K V [.ref x] (VS K (fun V1 => (vi V1 x 4 = vi V x 4 ∧ (vi V x 5 ≠ 0 → vi V1 x 5 ≠ 0)) ∧ (CR K V V1 x (fun src e => pieD src e (vi V x 4).toNat)))) := by
  refine MC.start 2 (by decide +kernel) rfl rfl rfl (ls0 := [some (.ref x), none, none]) rfl ?_
  refine GO.useWT (fun hW_0 => ?_)
  refine GO.aload_n dX5_piece_0 rfl rfl ?_
  refine GO.getI h_x fl_RX5_18 rfl rfl dX5_piece_1 (fun _ _ => ?_)
  have q2 : -2147483648 ≤ vi V x 5 ∧ vi V x 5 ≤ 2147483647 := vi_ir
  refine GO.if_eq (tgt := 8) dX5_piece_4 (by decide) vi_ir (fun h => by exfalso; omega) (fun c1 => ?_)
  have q3 : -2147483648 ≤ vi V x 4 ∧ vi V x 4 ≤ 2147483647 := vi_ir
  exact GO.retv rfl rfl dX5_piece_7 ⟨rfl, rfl, ⟨by omega, (by first | exact CRg.bad (by omega))⟩⟩

theorem t_X5_piece_0 {K : Kmap} {V : Vmap} {x : Nat} (h_x : K x = some (0, 4)) (q_0 : vi V x 5 ≠ 0) : MC mX5_piece_0 K V [.ref x] (VS K (fun V1 => (vi V1 x 4 = vi V x 4 ∧ (vi V x 5 ≠ 0 → vi V1 x 5 ≠ 0)) ∧ (CR K V V1 x (fun src e => pieD src e (vi V x 4).toNat)))) := by
  exact t_X5_piece_0_F h_x (by omega)

set_option maxHeartbeats 1000000 in
theorem t_X9_lead {K : Kmap} {V : Vmap} {x : Nat} {p0 : Int} (h_x : K x = some (0, 8)) (r_p0 : ir p0) : MC mX9_lead K V [.ref x, ti p0] (VS K (fun V1 => (True) ∧ (LED K V V1 x p0))) := by
  refine MC.start 0 (by decide +kernel) rfl rfl rfl (ls0 := [some (.ref x), some (ti p0)]) rfl ?_
  refine GO.iload_n dX9_lead_0 rfl rfl ?_
  refine GO.iconst dX9_lead_1 ?_
  refine GO.icmp_eq (tgt := 31) dX9_lead_2 (by decide) r_p0 (ir_c rfl) (fun c1 => ?_) (fun c1 => ?_)
  ·
    exact GO.retv rfl rfl dX9_lead_31 ⟨rfl, rfl, ⟨trivial, (by first | exact LED.no (by omega))⟩⟩
  ·
    refine GO.aload_n dX9_lead_5 rfl rfl ?_
    refine GO.getB h_x fl_RX9_36 rfl rfl dX9_lead_6 (fun n4 hv3 h2 b5 => ?_)
    refine GO.iload_n dX9_lead_9 rfl rfl ?_
    refine GO.aload_n dX9_lead_10 rfl rfl ?_
    refine GO.getI h_x fl_RX9_9 rfl rfl dX9_lead_11 (fun _ _ => ?_)
    refine GO.iconst dX9_lead_14 ?_
    refine GO.ishl dX9_lead_15 ?_
    refine GO.aload_n dX9_lead_16 rfl rfl ?_
    refine GO.getRaw h_x fl_RX9_36 hv3 dX9_lead_17 ?_
    refine GO.iload_n dX9_lead_20 rfl rfl ?_
    refine GO.callS (N := mX4_get) dX9_lead_21 gS_RX9_53 (t_X4_get rfl h2 r_p0) rfl [ti (wshl (vi V x 4) 5), ti p0, .ref (vq V x 3)] rfl rfl (Nat.le_of_ble_eq_true rfl) rfl (k_ip fun X8 r9 h10 => ?_)
    have raw_get := h10.2
    have rw21 := h10.2
    refine GO.bipush dX9_lead_24 rfl ?_
    refine GO.iand dX9_lead_26 ?_
    refine GO.ior dX9_lead_27 ?_
    refine GO.callS (N := mX4_put_t144) dX9_lead_28 gS_RX9_47 (t_X4_put_t144 h2 r_p0 wor_ir) rfl [] rfl rfl (Nat.le_of_ble_eq_true rfl) rfl (k_vs fun V13 h12 hF11 => ?_)
    have raw_put := h12.2
    have rw28 := h12.2
    exact GO.retv rfl rfl dX9_lead_31 ⟨rfl, rfl, ⟨trivial, (by first | exact LED.no (by omega) | exact LED.yes (by omega) (by assumption) rw21 rw28)⟩⟩

set_option maxHeartbeats 1000000 in
theorem t_X5_part_0_F {K : Kmap} {V : Vmap} {x : Nat} (h_x : K x = some (0, 4)) (q_0 : vi V x 5 ≠ 0) : MC mX5_part_0 K V [.ref x] (VS K (fun V1 => (vi V1 x 4 = vi V x 4 ∧ (vi V x 5 ≠ 0 → vi V1 x 5 ≠ 0)) ∧ (CR K V V1 x (fun src e => parG src e (pieD src e (vi V x 4).toNat))))) := by
  refine MC.start 2 (by decide +kernel) rfl rfl rfl (ls0 := [some (.ref x), none, none]) rfl ?_
  refine GO.useWT (fun hW_0 => ?_)
  refine GO.iconst dX5_part_0 ?_
  refine GO.istore_n (ls1 := [some (.ref x), some (ti (-1)), none]) dX5_part_1 rfl rfl rfl ?_
  refine GO.aload_n dX5_part_2 rfl rfl ?_
  have q1 : -2147483648 ≤ vi V x 5 ∧ vi V x 5 ≤ 2147483647 := vi_ir
  refine GO.callV (ci := 4) (N := mX5_piece_0) dX5_part_3 (RX5, TX5, 7) rfl gV_RX5_96 h_x (t_X5_piece_0 h_x (by omega)) rfl [] rfl rfl (Nat.le_of_ble_eq_true rfl) rfl (k_vs fun V4 h3 hF2 => ?_)
  have raw_piece := h3.2
  have rw3 := h3.2
  have e5 : vi V4 x 4 = vi V x 4 := vi_fr hF2 h_x h_x (by decide +kernel)
  have e6 : vi V4 x 5 = vi V x 5 := vi_fr hF2 h_x h_x (by decide +kernel)
  refine GO.iconst dX5_part_6 ?_
  refine GO.istore_n (ls1 := [some (.ref x), some (ti (-1)), some (ti 0)]) dX5_part_7 rfl rfl rfl ?_
  have q9 : -2147483648 ≤ vi V x 4 ∧ vi V x 4 ≤ 2147483647 := vi_ir
  refine GO.loop2 (fun i7 i8 W => (-1) ≤ i7 ∧ i7 ≤ (-1) ∧ 0 ≤ i8 ∧ i8 ≤ 0 ∧ (vi W x 4 = vi V4 x 4 ∧ (vi V4 x 5 ≠ 0 → vi W x 5 ≠ 0)) ∧ (AJI K V W x (vi V x 4).toNat i7 i8) ∧ True) (fun i7 i8 => [some (.ref x), some (ti i7), some (ti i8)]) (fun i7 i8 W => (2147483647 - i7).toNat) (-1) 0 ⟨by omega, by omega, by omega, by omega, by omega, (by first | exact AJI.beg rw3), trivial⟩ rfl (fun i7 i8 Wi7 hp22 ih21 => ?_)
  obtain ⟨l_i7, u_i7, l_i8, u_i8, n_i7, haj, -⟩ := hp22
  have r_i7 : ir i7 := ⟨by omega, by omega⟩
  have r_i8 : ir i8 := ⟨by omega, by omega⟩
  show GO mX5_part_0 K V (VS K (fun V1 => (vi V1 x 4 = vi V x 4 ∧ (vi V x 5 ≠ 0 → vi V1 x 5 ≠ 0)) ∧ (CR K V V1 x (fun src e => parG src e (pieD src e (vi V x 4).toNat))))) K Wi7 0 0 8 [some (.ref x), some (ti i7), some (ti i8)] []
  refine GO.useWT (fun hWh => ?_)
  refine GO.iload_n dX5_part_8 rfl rfl ?_
  refine GO.sipush dX5_part_9 rfl ?_
  refine GO.icmp_ge (tgt := 69) dX5_part_12 (by decide) r_i8 (ir_c rfl) (fun h => by exfalso; omega) (fun c23 => ?_)
  refine GO.aload_n dX5_part_15 rfl rfl ?_
  refine GO.getI h_x fl_RX5_18 rfl rfl dX5_part_16 (fun _ _ => ?_)
  have q25 : -2147483648 ≤ vi Wi7 x 5 ∧ vi Wi7 x 5 ≤ 2147483647 := vi_ir
  refine GO.if_ne (tgt := 69) dX5_part_19 (by decide) vi_ir (fun c24 => ?_) (fun h => by exfalso; omega)
  refine GO.aload_n dX5_part_69 rfl rfl ?_
  refine GO.getR h_x fl_RX5_31 rfl rfl dX5_part_70 (fun hv27 h26 => ?_)
  refine GO.iload_n dX5_part_73 rfl rfl ?_
  refine GO.callV (ci := 8) (N := mX9_lead) dX5_part_74 (RX9, TX9, 5) rfl gV_RX5_89 h26 (t_X9_lead h26 r_i7) rfl [] rfl rfl (Nat.le_of_ble_eq_true rfl) rfl (k_vs fun V30 h29 hF28 => ?_)
  have raw_lead := h29.2
  have rw74 := h29.2
  have e31 : vi V30 x 4 = vi Wi7 x 4 := vi_fr hF28 h_x h_x (by decide +kernel)
  have q32 : -2147483648 ≤ vi Wi7 x 4 ∧ vi Wi7 x 4 ≤ 2147483647 := vi_ir
  have e33 : vi V30 x 5 = vi Wi7 x 5 := vi_fr hF28 h_x h_x (by decide +kernel)
  exact GO.retv rfl rfl dX5_part_77 ⟨rfl, rfl, ⟨by omega, AJI.end haj (by omega) (by omega) h_x hWh rw74⟩⟩

theorem t_X5_part_0 {K : Kmap} {V : Vmap} {x : Nat} (h_x : K x = some (0, 4)) (q_0 : vi V x 5 ≠ 0) : MC mX5_part_0 K V [.ref x] (VS K (fun V1 => (vi V1 x 4 = vi V x 4 ∧ (vi V x 5 ≠ 0 → vi V1 x 5 ≠ 0)) ∧ (CR K V V1 x (fun src e => parG src e (pieD src e (vi V x 4).toNat))))) := by
  exact t_X5_part_0_F h_x (by omega)

set_option maxHeartbeats 1000000 in
theorem t_X5_parts_0_F {K : Kmap} {V : Vmap} {x : Nat} (h_x : K x = some (0, 4)) (q_0 : vi V x 5 ≠ 0) : MC mX5_parts_0 K V [.ref x] (VS K (fun V1 => (vi V1 x 4 = vi V x 4 ∧ (vi V x 5 ≠ 0 → vi V1 x 5 ≠ 0)) ∧ (CR K V V1 x (fun src e => parD src e (vi V x 4).toNat)))) := by
  refine MC.start 2 (by decide +kernel) rfl rfl rfl (ls0 := [some (.ref x), none, none]) rfl ?_
  refine GO.useWT (fun hW_0 => ?_)
  refine GO.iconst dX5_parts_0 ?_
  refine GO.istore_n (ls1 := [some (.ref x), some (ti (-1)), none]) dX5_parts_1 rfl rfl rfl ?_
  refine GO.aload_n dX5_parts_2 rfl rfl ?_
  have q1 : -2147483648 ≤ vi V x 5 ∧ vi V x 5 ≤ 2147483647 := vi_ir
  refine GO.callV (ci := 4) (N := mX5_part_0) dX5_parts_3 (RX5, TX5, 7) rfl gV_RX5_86 h_x (t_X5_part_0 h_x (by omega)) rfl [] rfl rfl (Nat.le_of_ble_eq_true rfl) rfl (k_vs fun V4 h3 hF2 => ?_)
  have raw_part := h3.2
  have rw3 := h3.2
  have e5 : vi V4 x 4 = vi V x 4 := vi_fr hF2 h_x h_x (by decide +kernel)
  have e6 : vi V4 x 5 = vi V x 5 := vi_fr hF2 h_x h_x (by decide +kernel)
  refine GO.iconst dX5_parts_6 ?_
  refine GO.istore_n (ls1 := [some (.ref x), some (ti (-1)), some (ti 0)]) dX5_parts_7 rfl rfl rfl ?_
  have q9 : -2147483648 ≤ vi V x 4 ∧ vi V x 4 ≤ 2147483647 := vi_ir
  refine GO.loop2 (fun i7 i8 W => (-1) ≤ i7 ∧ i7 ≤ (-1) ∧ 0 ≤ i8 ∧ i8 ≤ 0 ∧ (vi W x 4 = vi V4 x 4 ∧ (vi V4 x 5 ≠ 0 → vi W x 5 ≠ 0)) ∧ (OJI K V W x (vi V x 4).toNat i7 i8) ∧ True) (fun i7 i8 => [some (.ref x), some (ti i7), some (ti i8)]) (fun i7 i8 W => (2147483647 - i7).toNat) (-1) 0 ⟨by omega, by omega, by omega, by omega, by omega, (by first | exact OJI.beg rw3), trivial⟩ rfl (fun i7 i8 Wi7 hp22 ih21 => ?_)
  obtain ⟨l_i7, u_i7, l_i8, u_i8, n_i7, hoj, -⟩ := hp22
  have r_i7 : ir i7 := ⟨by omega, by omega⟩
  have r_i8 : ir i8 := ⟨by omega, by omega⟩
  show GO mX5_parts_0 K V (VS K (fun V1 => (vi V1 x 4 = vi V x 4 ∧ (vi V x 5 ≠ 0 → vi V1 x 5 ≠ 0)) ∧ (CR K V V1 x (fun src e => parD src e (vi V x 4).toNat)))) K Wi7 0 0 8 [some (.ref x), some (ti i7), some (ti i8)] []
  refine GO.useWT (fun hWh => ?_)
  refine GO.iload_n dX5_parts_8 rfl rfl ?_
  refine GO.sipush dX5_parts_9 rfl ?_
  refine GO.icmp_ge (tgt := 69) dX5_parts_12 (by decide) r_i8 (ir_c rfl) (fun h => by exfalso; omega) (fun c23 => ?_)
  refine GO.aload_n dX5_parts_15 rfl rfl ?_
  refine GO.getI h_x fl_RX5_18 rfl rfl dX5_parts_16 (fun _ _ => ?_)
  have q25 : -2147483648 ≤ vi Wi7 x 5 ∧ vi Wi7 x 5 ≤ 2147483647 := vi_ir
  refine GO.if_ne (tgt := 69) dX5_parts_19 (by decide) vi_ir (fun c24 => ?_) (fun h => by exfalso; omega)
  refine GO.aload_n dX5_parts_69 rfl rfl ?_
  refine GO.getR h_x fl_RX5_31 rfl rfl dX5_parts_70 (fun hv27 h26 => ?_)
  refine GO.iload_n dX5_parts_73 rfl rfl ?_
  refine GO.callV (ci := 8) (N := mX9_lead) dX5_parts_74 (RX9, TX9, 5) rfl gV_RX5_89 h26 (t_X9_lead h26 r_i7) rfl [] rfl rfl (Nat.le_of_ble_eq_true rfl) rfl (k_vs fun V30 h29 hF28 => ?_)
  have raw_lead := h29.2
  have rw74 := h29.2
  have e31 : vi V30 x 4 = vi Wi7 x 4 := vi_fr hF28 h_x h_x (by decide +kernel)
  have q32 : -2147483648 ≤ vi Wi7 x 4 ∧ vi Wi7 x 4 ≤ 2147483647 := vi_ir
  have e33 : vi V30 x 5 = vi Wi7 x 5 := vi_fr hF28 h_x h_x (by decide +kernel)
  exact GO.retv rfl rfl dX5_parts_77 ⟨rfl, rfl, ⟨by omega, OJI.end hoj (by omega) (by omega) h_x hWh rw74⟩⟩

theorem t_X5_parts_0 {K : Kmap} {V : Vmap} {x : Nat} (h_x : K x = some (0, 4)) (q_0 : vi V x 5 ≠ 0) : MC mX5_parts_0 K V [.ref x] (VS K (fun V1 => (vi V1 x 4 = vi V x 4 ∧ (vi V x 5 ≠ 0 → vi V1 x 5 ≠ 0)) ∧ (CR K V V1 x (fun src e => parD src e (vi V x 4).toNat)))) := by
  exact t_X5_parts_0_F h_x (by omega)

set_option maxHeartbeats 1000000 in
theorem t_X5_negation_1_G {K : Kmap} {V : Vmap} {x : Nat} (h_x : K x = some (0, 4)) (q_0 : vi V x 5 = 0) (q_1 : vi V x 4 ≥ 8) (q_2 : vi V x 4 ≤ 8) : MC mX5_negation_1 K V [.ref x] (VS K (fun V1 => (vi V1 x 4 = vi V x 4 ∧ (vi V x 5 ≠ 0 → vi V1 x 5 ≠ 0)) ∧ (CR K V V1 x (fun src e => negD src e (vi V x 4).toNat)))) := by
  refine MC.start 0 (by decide +kernel) rfl rfl rfl (ls0 := [some (.ref x)]) rfl ?_
  refine GO.useWT (fun hW_0 => ?_)
  refine GO.aload_n dX5_negation_0 rfl rfl ?_
  refine GO.bipush dX5_negation_1 rfl ?_
  have q1 : -2147483648 ≤ vi V x 4 ∧ vi V x 4 ≤ 2147483647 := vi_ir
  refine GO.callV (ci := 4) (N := mX5_deepen) dX5_negation_3 (RX5, TX5, 7) rfl gV_RX5_80 h_x (t_X5_deepen h_x (ir_c rfl) (by omega) (by omega) (by omega)) rfl [] rfl rfl (Nat.le_of_ble_eq_true rfl) rfl (k_vs fun V4 h3 hF2 => ?_)
  have raw_deepen := h3.2
  have rw3 := h3.2
  refine GO.aload_n dX5_negation_6 rfl rfl ?_
  have q7 : -2147483648 ≤ vi V4 x 5 ∧ vi V4 x 5 ≤ 2147483647 := vi_ir
  refine GO.callV (ci := 4) (N := mX5_piece_0) dX5_negation_7 (RX5, TX5, 7) rfl gV_RX5_96 h_x (t_X5_piece_0 h_x (by omega)) rfl [] rfl rfl (Nat.le_of_ble_eq_true rfl) rfl (k_vs fun V10 h9 hF8 => ?_)
  have raw_piece := h9.2
  have rw7 := h9.2
  have e11 : vi V10 x 4 = vi V4 x 4 := vi_fr hF8 h_x h_x (by decide +kernel)
  have e12 : vi V10 x 5 = vi V4 x 5 := vi_fr hF8 h_x h_x (by decide +kernel)
  refine GO.useWT (fun hWb => ?_)
  refine GO.aload_n dX5_negation_10 rfl rfl ?_
  refine GO.dup dX5_negation_11 rfl ?_
  refine GO.getI h_x fl_RX5_15 rfl rfl dX5_negation_12 (fun _ _ => ?_)
  refine GO.iconst dX5_negation_15 ?_
  refine GO.isub dX5_negation_16 ?_
  have q14 : -2147483648 ≤ vi V4 x 4 ∧ vi V4 x 4 ≤ 2147483647 := vi_ir
  refine GO.putI h_x fp_RX5_15 rfl (by decide +kernel) ⟨by omega, by omega⟩ (by omega) (by omega) dX5_negation_17 (fun V15 e13 => ?_)
  refine GO.useWT (fun hWn => ?_)
  refine GO.aload_n dX5_negation_20 rfl rfl ?_
  refine GO.getR h_x fl_RX5_31 rfl rfl dX5_negation_21 (fun hv17 h16 => ?_)
  refine GO.iconst dX5_negation_24 ?_
  refine GO.iconst dX5_negation_25 ?_
  refine GO.callV (ci := 8) (N := mX9_addStep) dX5_negation_26 (RX9, TX9, 5) rfl gV_RX5_92 h16 (t_X9_addStep h16 (ir_c rfl) (ir_c rfl)) rfl [] rfl rfl (Nat.le_of_ble_eq_true rfl) rfl (k_is fun X18 V22 r19 h20 hF21 => ?_)
  have raw_addStep := h20.2
  have rw26 := h20.2
  refine GO.pop dX5_negation_29 rfl ?_
  have e24 : vi V15 x 4 = (vi V10 x 4) - 1 := upd2_int e13 ⟨by omega, by omega⟩
  have e23 : vi V22 x 4 = vi V15 x 4 := vi_fr hF21 h_x h_x (by decide +kernel)
  have q25 : -2147483648 ≤ vi V x 5 ∧ vi V x 5 ≤ 2147483647 := vi_ir
  have e27 : vi V15 x 5 = vi V10 x 5 := vi_up e13 (Or.inr (by decide))
  have e26 : vi V22 x 5 = vi V15 x 5 := vi_fr hF21 h_x h_x (by decide +kernel)
  exact GO.retv rfl rfl dX5_negation_30 ⟨rfl, rfl, ⟨by omega, NEG.of rw3 rw7 (by omega) h_x hWb hWn (by assumption) rw26⟩⟩

theorem t_X5_negation_1 {K : Kmap} {V : Vmap} {x : Nat} (h_x : K x = some (0, 4)) (q_0 : ((vi V x 5 = 0 ∧ vi V x 4 ≥ 8 ∧ vi V x 4 ≤ 8))) : MC mX5_negation_1 K V [.ref x] (VS K (fun V1 => (vi V1 x 4 = vi V x 4 ∧ (vi V x 5 ≠ 0 → vi V1 x 5 ≠ 0)) ∧ (CR K V V1 x (fun src e => negD src e (vi V x 4).toNat)))) := by
  exact t_X5_negation_1_G h_x (by omega) (by omega) (by omega)

set_option maxHeartbeats 1000000 in
theorem t_X5_piece_1_F {K : Kmap} {V : Vmap} {x : Nat} (h_x : K x = some (0, 4)) (q_0 : vi V x 5 ≠ 0) : MC mX5_piece_1 K V [.ref x] (VS K (fun V1 => (vi V1 x 4 = vi V x 4 ∧ (vi V x 5 ≠ 0 → vi V1 x 5 ≠ 0)) ∧ (CR K V V1 x (fun src e => pieD src e (vi V x 4).toNat)))) := by
  refine MC.start 2 (by decide +kernel) rfl rfl rfl (ls0 := [some (.ref x), none, none]) rfl ?_
  refine GO.useWT (fun hW_0 => ?_)
  refine GO.aload_n dX5_piece_0 rfl rfl ?_
  refine GO.getI h_x fl_RX5_18 rfl rfl dX5_piece_1 (fun _ _ => ?_)
  have q2 : -2147483648 ≤ vi V x 5 ∧ vi V x 5 ≤ 2147483647 := vi_ir
  refine GO.if_eq (tgt := 8) dX5_piece_4 (by decide) vi_ir (fun h => by exfalso; omega) (fun c1 => ?_)
  have q3 : -2147483648 ≤ vi V x 4 ∧ vi V x 4 ≤ 2147483647 := vi_ir
  exact GO.retv rfl rfl dX5_piece_7 ⟨rfl, rfl, ⟨by omega, (by first | exact CRg.bad (by omega))⟩⟩

set_option maxHeartbeats 1000000 in
theorem t_X5_piece_1_G {K : Kmap} {V : Vmap} {x : Nat} (h_x : K x = some (0, 4)) (q_0 : vi V x 5 = 0) (q_1 : vi V x 4 ≥ 8) (q_2 : vi V x 4 ≤ 8) : MC mX5_piece_1 K V [.ref x] (VS K (fun V1 => (vi V1 x 4 = vi V x 4 ∧ (vi V x 5 ≠ 0 → vi V1 x 5 ≠ 0)) ∧ (CR K V V1 x (fun src e => pieD src e (vi V x 4).toNat)))) := by
  refine MC.start 2 (by decide +kernel) rfl rfl rfl (ls0 := [some (.ref x), none, none]) rfl ?_
  refine GO.useWT (fun hW_0 => ?_)
  refine GO.aload_n dX5_piece_0 rfl rfl ?_
  refine GO.getI h_x fl_RX5_18 rfl rfl dX5_piece_1 (fun _ _ => ?_)
  have q2 : -2147483648 ≤ vi V x 5 ∧ vi V x 5 ≤ 2147483647 := vi_ir
  refine GO.if_eq (tgt := 8) dX5_piece_4 (by decide) vi_ir (fun c1 => ?_) (fun h => by exfalso; omega)
  refine GO.aload_n dX5_piece_8 rfl rfl ?_
  refine GO.callV (ci := 4) (N := mX5_next) dX5_piece_9 (RX5, TX5, 7) rfl gV_RX5_61 h_x (t_X5_next h_x) rfl [] rfl rfl (Nat.le_of_ble_eq_true rfl) rfl (k_ip fun X3 r4 h5 => ?_)
  refine GO.istore_n (ls1 := [some (.ref x), some (ti X3), none]) dX5_piece_12 rfl rfl rfl ?_
  refine GO.iload_n dX5_piece_13 rfl rfl ?_
  refine GO.bipush dX5_piece_14 rfl ?_
  refine GO.icmp_ne (tgt := 26) dX5_piece_16 (by decide) r4 (ir_c rfl) (fun c6 => ?_) (fun c6 => ?_)
  ·
    refine GO.iload_n dX5_piece_26 rfl rfl ?_
    refine GO.bipush dX5_piece_27 rfl ?_
    refine GO.icmp_ne (tgt := 61) dX5_piece_29 (by decide) r4 (ir_c rfl) (fun c7 => ?_) (fun c7 => ?_)
    ·
      refine GO.aload_n dX5_piece_61 rfl rfl ?_
      have q8 : -2147483648 ≤ vi V x 4 ∧ vi V x 4 ≤ 2147483647 := vi_ir
      refine GO.callV (ci := 4) (N := mX5_terms_1) dX5_piece_62 (RX5, TX5, 7) rfl gV_RX5_102 h_x (t_X5_terms_1 h_x (by omega)) rfl [] rfl rfl (Nat.le_of_ble_eq_true rfl) rfl (k_vs fun V11 h10 hF9 => ?_)
      have raw_terms := h10.2
      have rw62 := h10.2
      refine GO.useWT (fun hW1 => ?_)
      refine GO.aload_n dX5_piece_65 rfl rfl ?_
      refine GO.aload_n dX5_piece_66 rfl rfl ?_
      refine GO.callV (ci := 4) (N := mX5_next) dX5_piece_67 (RX5, TX5, 7) rfl gV_RX5_61 h_x (t_X5_next h_x) rfl [.ref x] rfl rfl (Nat.le_of_ble_eq_true rfl) rfl (k_ip fun X14 r15 h16 => ?_)
      refine GO.callV (ci := 4) (N := mX5_comparison) dX5_piece_70 (RX5, TX5, 7) rfl gV_RX5_105 h_x (t_X5_comparison h_x r15) rfl [] rfl rfl (Nat.le_of_ble_eq_true rfl) rfl (k_is fun X17 V21 r18 h19 hF20 => ?_)
      have raw_comparison := h19.2
      have rw70 := h19.2
      refine GO.useWT (fun hW2 => ?_)
      refine GO.istore_n (ls1 := [some (.ref x), some (ti X3), some (ti X17)]) dX5_piece_73 rfl rfl rfl ?_
      refine GO.aload_n dX5_piece_74 rfl rfl ?_
      refine GO.dup dX5_piece_75 rfl ?_
      refine GO.getI h_x fl_RX5_9 rfl rfl dX5_piece_76 (fun _ _ => ?_)
      refine GO.iconst dX5_piece_79 ?_
      refine GO.iadd dX5_piece_80 ?_
      refine GO.norm (fun z25 r26 hn27 => ?_)
      refine GO.putI h_x fp_RX5_9 rfl (by decide +kernel) r26 (r26).1 (r26).2 dX5_piece_81 (fun V29 e28 => ?_)
      refine GO.aload_n dX5_piece_84 rfl rfl ?_
      have e30 : vi V29 x 5 = vi V21 x 5 := vi_up e28 (Or.inr (by decide))
      have e32 : vi V21 x 4 = vi V11 x 4 := vi_fr hF20 h_x h_x (by decide +kernel)
      have e31 : vi V29 x 4 = vi V21 x 4 := vi_up e28 (Or.inr (by decide))
      have q33 : -2147483648 ≤ vi V11 x 4 ∧ vi V11 x 4 ≤ 2147483647 := vi_ir
      have q34 : -2147483648 ≤ vi V21 x 5 ∧ vi V21 x 5 ≤ 2147483647 := vi_ir
      refine GO.callV (ci := 4) (N := mX5_terms_1) dX5_piece_85 (RX5, TX5, 7) rfl gV_RX5_102 h_x (t_X5_terms_1 h_x (by omega)) rfl [] rfl rfl (Nat.le_of_ble_eq_true rfl) rfl (k_vs fun V37 h36 hF35 => ?_)
      have raw_terms := h36.2
      have rw85 := h36.2
      refine GO.useWT (fun hW4 => ?_)
      refine GO.aload_n dX5_piece_88 rfl rfl ?_
      refine GO.getR h_x fl_RX5_31 rfl rfl dX5_piece_89 (fun hv41 h40 => ?_)
      refine GO.iload_n dX5_piece_92 rfl rfl ?_
      refine GO.iconst dX5_piece_93 ?_
      refine GO.callV (ci := 8) (N := mX9_addStep) dX5_piece_94 (RX9, TX9, 5) rfl gV_RX5_92 h40 (t_X9_addStep h40 r18 (ir_c rfl)) rfl [] rfl rfl (Nat.le_of_ble_eq_true rfl) rfl (k_is fun X42 V46 r43 h44 hF45 => ?_)
      have raw_addStep := h44.2
      have rw94 := h44.2
      refine GO.pop dX5_piece_97 rfl ?_
      have e47 : vi V46 x 4 = vi V37 x 4 := vi_fr hF45 h_x h_x (by decide +kernel)
      have q48 : -2147483648 ≤ vi V37 x 4 ∧ vi V37 x 4 ≤ 2147483647 := vi_ir
      have e49 : vi V46 x 5 = vi V37 x 5 := vi_fr hF45 h_x h_x (by decide +kernel)
      have q50 : -2147483648 ≤ vi V37 x 5 ∧ vi V37 x 5 ≤ 2147483647 := vi_ir
      exact GO.retv rfl rfl dX5_piece_98 ⟨rfl, rfl, ⟨by omega, (by first | exact CRg.bad (by omega) | exact PIE.cmp (by omega) rfl (by omega) (by omega) (by omega) (CR.ter rw62 rfl) rw70 h_x hW1 hW2 hW4 (by assumption) (by assumption) (by assumption) (CR.ter rw85 (by omega)) rw94)⟩⟩
    ·
      refine GO.aload_n dX5_piece_32 rfl rfl ?_
      refine GO.bipush dX5_piece_33 rfl ?_
      have q51 : -2147483648 ≤ vi V x 4 ∧ vi V x 4 ≤ 2147483647 := vi_ir
      refine GO.callV (ci := 4) (N := mX5_deepen) dX5_piece_35 (RX5, TX5, 7) rfl gV_RX5_80 h_x (t_X5_deepen h_x (ir_c rfl) (by omega) (by omega) (by omega)) rfl [] rfl rfl (Nat.le_of_ble_eq_true rfl) rfl (k_vs fun V54 h53 hF52 => ?_)
      have raw_deepen := h53.2
      have rw35 := h53.2
      refine GO.aload_n dX5_piece_38 rfl rfl ?_
      have q57 : -2147483648 ≤ vi V54 x 5 ∧ vi V54 x 5 ≤ 2147483647 := vi_ir
      refine GO.callV (ci := 4) (N := mX5_parts_0) dX5_piece_39 (RX5, TX5, 7) rfl gV_RX5_83 h_x (t_X5_parts_0 h_x (by omega)) rfl [] rfl rfl (Nat.le_of_ble_eq_true rfl) rfl (k_vs fun V60 h59 hF58 => ?_)
      have raw_parts := h59.2
      have rw39 := h59.2
      have e61 : vi V60 x 4 = vi V54 x 4 := vi_fr hF58 h_x h_x (by decide +kernel)
      have e62 : vi V60 x 5 = vi V54 x 5 := vi_fr hF58 h_x h_x (by decide +kernel)
      refine GO.useWT (fun hWb => ?_)
      refine GO.aload_n dX5_piece_42 rfl rfl ?_
      refine GO.dup dX5_piece_43 rfl ?_
      refine GO.getI h_x fl_RX5_15 rfl rfl dX5_piece_44 (fun _ _ => ?_)
      refine GO.iconst dX5_piece_47 ?_
      refine GO.isub dX5_piece_48 ?_
      have q64 : -2147483648 ≤ vi V54 x 4 ∧ vi V54 x 4 ≤ 2147483647 := vi_ir
      refine GO.putI h_x fp_RX5_15 rfl (by decide +kernel) ⟨by omega, by omega⟩ (by omega) (by omega) dX5_piece_49 (fun V65 e63 => ?_)
      refine GO.aload_n dX5_piece_52 rfl rfl ?_
      refine GO.bipush dX5_piece_53 rfl ?_
      have e66 : vi V65 x 5 = vi V60 x 5 := vi_up e63 (Or.inr (by decide))
      refine GO.callV (ci := 4) (N := mX5_take) dX5_piece_55 (RX5, TX5, 7) rfl gV_RX5_38 h_x (t_X5_take h_x (ir_c rfl) (by omega)) rfl [] rfl rfl (Nat.le_of_ble_eq_true rfl) rfl (k_vs fun V69 h68 hF67 => ?_)
      have raw_take := h68.2
      have rw55 := h68.2
      refine GO.goto (tgt := 98) dX5_piece_58 (by decide) ?_
      have e72 : vi V65 x 4 = (vi V60 x 4) - 1 := upd2_int e63 ⟨by omega, by omega⟩
      have e71 : vi V69 x 4 = vi V65 x 4 := vi_fr hF67 h_x h_x (by decide +kernel)
      have q73 : -2147483648 ≤ vi V69 x 5 ∧ vi V69 x 5 ≤ 2147483647 := vi_ir
      exact GO.retv rfl rfl dX5_piece_98 ⟨rfl, rfl, ⟨by omega, (by first | exact CRg.bad (by omega) | exact PIE.par (by omega) (by omega) rw35 rw39 (by omega) h_x hWb (by assumption) rw55)⟩⟩
  ·
    refine GO.aload_n dX5_piece_19 rfl rfl ?_
    have q74 : -2147483648 ≤ vi V x 4 ∧ vi V x 4 ≤ 2147483647 := vi_ir
    refine GO.callV (ci := 4) (N := mX5_negation_1) dX5_piece_20 (RX5, TX5, 7) rfl gV_RX5_99 h_x (t_X5_negation_1 h_x (by omega)) rfl [] rfl rfl (Nat.le_of_ble_eq_true rfl) rfl (k_vs fun V77 h76 hF75 => ?_)
    have raw_negation := h76.2
    have rw20 := h76.2
    refine GO.goto (tgt := 98) dX5_piece_23 (by decide) ?_
    have q80 : -2147483648 ≤ vi V77 x 4 ∧ vi V77 x 4 ≤ 2147483647 := vi_ir
    have q81 : -2147483648 ≤ vi V77 x 5 ∧ vi V77 x 5 ≤ 2147483647 := vi_ir
    exact GO.retv rfl rfl dX5_piece_98 ⟨rfl, rfl, ⟨by omega, (by first | exact CRg.bad (by omega) | exact PIE.neg (by omega) (by omega) rw20)⟩⟩

theorem t_X5_piece_1 {K : Kmap} {V : Vmap} {x : Nat} (h_x : K x = some (0, 4)) (q_0 : (vi V x 5 ≠ 0 ∨ (vi V x 5 = 0 ∧ vi V x 4 ≥ 8 ∧ vi V x 4 ≤ 8))) : MC mX5_piece_1 K V [.ref x] (VS K (fun V1 => (vi V1 x 4 = vi V x 4 ∧ (vi V x 5 ≠ 0 → vi V1 x 5 ≠ 0)) ∧ (CR K V V1 x (fun src e => pieD src e (vi V x 4).toNat)))) := by
  rcases q_0 with h | h
  · exact t_X5_piece_1_F h_x (by omega)
  · exact t_X5_piece_1_G h_x (by omega) (by omega) (by omega)
