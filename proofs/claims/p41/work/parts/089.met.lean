def mX5_factors_3 : MRec := (RX5, cX5_factors, 3, (none : Option Jvm.ClassFile.FieldType), yX5_factors, 13, 354, 0, 0, 84615164005151820665845159428194693098035799419427996068435045795123941278247852265624218936283556470163081713008521863233536)
def mX5_terms_3 : MRec := (RX5, cX5_terms, 3, (none : Option Jvm.ClassFile.FieldType), yX5_terms, 14, 376, 0, 0, 84615164005151820665845159428194693098035799419427996068435045795123941278247852265624218936283556470163081713008521863233536)
def mX5_factor_4 : MRec := (RX5, cX5_factor, 3, (none : Option Jvm.ClassFile.FieldType), yX5_factor, 15, 398, 0, 0, 84615164005151820665845159428194693098035799419427996068435045795123941278247852265624218936283556470163081713008521863233536)
def mX5_factors_4 : MRec := (RX5, cX5_factors, 3, (none : Option Jvm.ClassFile.FieldType), yX5_factors, 16, 420, 0, 0, 84615164005151820665845159428194693098035799419427996068435045795123941278247852265624218936283556470163081713008521863233536)
def mX5_terms_4 : MRec := (RX5, cX5_terms, 3, (none : Option Jvm.ClassFile.FieldType), yX5_terms, 17, 442, 0, 0, 84615164005151820665845159428194693098035799419427996068435045795123941278247852265624218936283556470163081713008521863233536)
set_option maxHeartbeats 1000000 in
theorem t_X5_factors_3_F {K : Kmap} {V : Vmap} {x : Nat} (h_x : K x = some (0, 4)) (q_0 : vi V x 5 ≠ 0) : MC mX5_factors_3 K V [.ref x] (VS K (fun V1 => (vi V1 x 4 = vi V x 4 ∧ (vi V x 5 ≠ 0 → vi V1 x 5 ≠ 0)) ∧ (CR K V V1 x (fun src e => facsG src e (facD src e (vi V x 4).toNat))))) := by
  refine MC.start 2 (by decide +kernel) rfl rfl rfl (ls0 := [some (.ref x), none, none]) rfl ?_
  refine GO.useWT (fun hW_0 => ?_)
  refine GO.aload_n dX5_factors_0 rfl rfl ?_
  have q1 : -2147483648 ≤ vi V x 4 ∧ vi V x 4 ≤ 2147483647 := vi_ir
  have q2 : -2147483648 ≤ vi V x 5 ∧ vi V x 5 ≤ 2147483647 := vi_ir
  refine GO.callV (ci := 4) (N := mX5_factor_3) dX5_factors_1 (RX5, TX5, 7) rfl gV_RX5_111 h_x (t_X5_factor_3 h_x (by omega)) rfl [] rfl rfl (Nat.le_of_ble_eq_true rfl) rfl (k_vs fun V5 h4 hF3 => ?_)
  have raw_factor := h4.2
  have rw1 := h4.2
  refine GO.iconst dX5_factors_4 ?_
  refine GO.istore_n (ls1 := [some (.ref x), some (ti 0), none]) dX5_factors_5 rfl rfl rfl ?_
  have q9 : -2147483648 ≤ vi V5 x 4 ∧ vi V5 x 4 ≤ 2147483647 := vi_ir
  have q10 : -2147483648 ≤ vi V5 x 5 ∧ vi V5 x 5 ≤ 2147483647 := vi_ir
  refine GO.loop1 (fun i8 W => 0 ≤ i8 ∧ i8 ≤ 0 ∧ (vi W x 4 = vi V5 x 4 ∧ (vi V5 x 5 ≠ 0 → vi W x 5 ≠ 0)) ∧ (FSI K V W x (vi V x 4).toNat i8) ∧ True) (fun i8 => [some (.ref x), some (ti i8), none]) (fun i8 W => (2147483647 - i8).toNat) 0 ⟨by omega, by omega, by omega, (by first | exact FSI.beg rw1), trivial⟩ rfl (fun i8 Wi8 hp16 ih15 => ?_)
  obtain ⟨l_i8, u_i8, n_i8, hfs, -⟩ := hp16
  have r_i8 : ir i8 := ⟨by omega, by omega⟩
  show GO mX5_factors_3 K V (VS K (fun V1 => (vi V1 x 4 = vi V x 4 ∧ (vi V x 5 ≠ 0 → vi V1 x 5 ≠ 0)) ∧ (CR K V V1 x (fun src e => facsG src e (facD src e (vi V x 4).toNat))))) K Wi8 0 0 6 [some (.ref x), some (ti i8), none] []
  refine GO.useWT (fun hWh => ?_)
  refine GO.iload_n dX5_factors_6 rfl rfl ?_
  refine GO.sipush dX5_factors_7 rfl ?_
  refine GO.icmp_ge (tgt := 91) dX5_factors_10 (by decide) r_i8 (ir_c rfl) (fun h => by exfalso; omega) (fun c17 => ?_)
  refine GO.aload_n dX5_factors_13 rfl rfl ?_
  refine GO.getI h_x fl_RX5_18 rfl rfl dX5_factors_14 (fun _ _ => ?_)
  have q19 : -2147483648 ≤ vi Wi8 x 5 ∧ vi Wi8 x 5 ≤ 2147483647 := vi_ir
  refine GO.if_ne (tgt := 91) dX5_factors_17 (by decide) vi_ir (fun c18 => ?_) (fun h => by exfalso; omega)
  have q20 : -2147483648 ≤ vi Wi8 x 4 ∧ vi Wi8 x 4 ≤ 2147483647 := vi_ir
  exact GO.retv rfl rfl dX5_factors_91 ⟨rfl, rfl, ⟨by omega, FSI.end hfs (by omega) (by omega)⟩⟩

set_option maxHeartbeats 1000000 in
theorem t_X5_factors_3_G {K : Kmap} {V : Vmap} {x : Nat} (h_x : K x = some (0, 4)) (q_0 : vi V x 5 = 0) (q_1 : vi V x 4 ≥ 6) (q_2 : vi V x 4 ≤ 8) : MC mX5_factors_3 K V [.ref x] (VS K (fun V1 => (vi V1 x 4 = vi V x 4 ∧ (vi V x 5 ≠ 0 → vi V1 x 5 ≠ 0)) ∧ (CR K V V1 x (fun src e => facsG src e (facD src e (vi V x 4).toNat))))) := by
  refine MC.start 2 (by decide +kernel) rfl rfl rfl (ls0 := [some (.ref x), none, none]) rfl ?_
  refine GO.useWT (fun hW_0 => ?_)
  refine GO.aload_n dX5_factors_0 rfl rfl ?_
  have q1 : -2147483648 ≤ vi V x 4 ∧ vi V x 4 ≤ 2147483647 := vi_ir
  have q2 : -2147483648 ≤ vi V x 5 ∧ vi V x 5 ≤ 2147483647 := vi_ir
  refine GO.callV (ci := 4) (N := mX5_factor_3) dX5_factors_1 (RX5, TX5, 7) rfl gV_RX5_111 h_x (t_X5_factor_3 h_x (by omega)) rfl [] rfl rfl (Nat.le_of_ble_eq_true rfl) rfl (k_vs fun V5 h4 hF3 => ?_)
  have raw_factor := h4.2
  have rw1 := h4.2
  refine GO.iconst dX5_factors_4 ?_
  refine GO.istore_n (ls1 := [some (.ref x), some (ti 0), none]) dX5_factors_5 rfl rfl rfl ?_
  have q9 : -2147483648 ≤ vi V5 x 4 ∧ vi V5 x 4 ≤ 2147483647 := vi_ir
  have q10 : -2147483648 ≤ vi V5 x 5 ∧ vi V5 x 5 ≤ 2147483647 := vi_ir
  refine GO.loop1 (fun i8 W => 0 ≤ i8 ∧ i8 ≤ 200 ∧ (vi W x 4 = vi V5 x 4 ∧ (vi V5 x 5 ≠ 0 → vi W x 5 ≠ 0)) ∧ (FSI K V W x (vi V x 4).toNat i8) ∧ True) (fun i8 => [some (.ref x), some (ti i8), none]) (fun i8 W => (2147483647 - i8).toNat) 0 ⟨by omega, by omega, by omega, (by first | exact FSI.beg rw1), trivial⟩ rfl (fun i8 Wi8 hp790 ih789 => ?_)
  obtain ⟨l_i8, u_i8, n_i8, hfs, -⟩ := hp790
  have r_i8 : ir i8 := ⟨by omega, by omega⟩
  show GO mX5_factors_3 K V (VS K (fun V1 => (vi V1 x 4 = vi V x 4 ∧ (vi V x 5 ≠ 0 → vi V1 x 5 ≠ 0)) ∧ (CR K V V1 x (fun src e => facsG src e (facD src e (vi V x 4).toNat))))) K Wi8 0 0 6 [some (.ref x), some (ti i8), none] []
  refine GO.useWT (fun hWh => ?_)
  refine GO.iload_n dX5_factors_6 rfl rfl ?_
  refine GO.sipush dX5_factors_7 rfl ?_
  refine GO.icmp_ge (tgt := 91) dX5_factors_10 (by decide) r_i8 (ir_c rfl) (fun c791 => ?_) (fun c791 => ?_)
  ·
    have q792 : -2147483648 ≤ vi Wi8 x 4 ∧ vi Wi8 x 4 ≤ 2147483647 := vi_ir
    have q793 : -2147483648 ≤ vi Wi8 x 5 ∧ vi Wi8 x 5 ≤ 2147483647 := vi_ir
    exact GO.retv rfl rfl dX5_factors_91 ⟨rfl, rfl, ⟨by omega, FSI.end hfs (by omega) (by omega)⟩⟩
  ·
    refine GO.aload_n dX5_factors_13 rfl rfl ?_
    refine GO.getI h_x fl_RX5_18 rfl rfl dX5_factors_14 (fun _ _ => ?_)
    refine GO.if_ne (tgt := 91) dX5_factors_17 (by decide) vi_ir (fun c794 => ?_) (fun c794 => ?_)
    ·
      have q795 : -2147483648 ≤ vi Wi8 x 4 ∧ vi Wi8 x 4 ≤ 2147483647 := vi_ir
      have q796 : -2147483648 ≤ vi Wi8 x 5 ∧ vi Wi8 x 5 ≤ 2147483647 := vi_ir
      exact GO.retv rfl rfl dX5_factors_91 ⟨rfl, rfl, ⟨by omega, FSI.end hfs (by omega) (by omega)⟩⟩
    ·
      refine GO.aload_n dX5_factors_20 rfl rfl ?_
      refine GO.callV (ci := 4) (N := mX5_next) dX5_factors_21 (RX5, TX5, 7) rfl gV_RX5_61 h_x (t_X5_next h_x) rfl [] rfl rfl (Nat.le_of_ble_eq_true rfl) rfl (k_ip fun X797 r798 h799 => ?_)
      refine GO.callS (N := mX5_isFactorSign) dX5_factors_24 gS_RX5_114 (t_X5_isFactorSign r798) rfl [] rfl rfl (Nat.le_of_ble_eq_true rfl) rfl (k_ip fun X800 r801 h802 => ?_)
      refine GO.if_eq (tgt := 91) dX5_factors_27 (by decide) r801 (fun c803 => ?_) (fun c803 => ?_)
      ·
        have q804 := h802.2.2 (by omega)
        have q805 : -2147483648 ≤ vi Wi8 x 4 ∧ vi Wi8 x 4 ≤ 2147483647 := vi_ir
        have q806 : -2147483648 ≤ vi Wi8 x 5 ∧ vi Wi8 x 5 ≤ 2147483647 := vi_ir
        exact GO.retv rfl rfl dX5_factors_91 ⟨rfl, rfl, ⟨by omega, FSI.end hfs (by omega) (by omega)⟩⟩
      ·
        have q807 := h802.2.1 (by omega)
        refine GO.aload_n dX5_factors_30 rfl rfl ?_
        refine GO.callV (ci := 4) (N := mX5_next) dX5_factors_31 (RX5, TX5, 7) rfl gV_RX5_61 h_x (t_X5_next h_x) rfl [] rfl rfl (Nat.le_of_ble_eq_true rfl) rfl (k_ip fun X808 r809 h810 => ?_)
        refine GO.bipush dX5_factors_34 rfl ?_
        refine GO.icmp_ne (tgt := 44) dX5_factors_36 (by decide) r809 (ir_c rfl) (fun c811 => ?_) (fun c811 => ?_)
        ·
          refine GO.aload_n dX5_factors_44 rfl rfl ?_
          refine GO.callV (ci := 4) (N := mX5_next) dX5_factors_45 (RX5, TX5, 7) rfl gV_RX5_61 h_x (t_X5_next h_x) rfl [] rfl rfl (Nat.le_of_ble_eq_true rfl) rfl (k_ip fun X812 r813 h814 => ?_)
          refine GO.bipush dX5_factors_48 rfl ?_
          refine GO.icmp_ne (tgt := 58) dX5_factors_50 (by decide) r813 (ir_c rfl) (fun c815 => ?_) (fun c815 => ?_)
          ·
            refine GO.bipush dX5_factors_58 rfl ?_
            refine GO.istore_n (ls1 := [some (.ref x), some (ti i8), some (ti 9)]) dX5_factors_60 rfl rfl rfl ?_
            refine GO.aload_n dX5_factors_61 rfl rfl ?_
            refine GO.dup dX5_factors_62 rfl ?_
            refine GO.getI h_x fl_RX5_9 rfl rfl dX5_factors_63 (fun _ _ => ?_)
            refine GO.iconst dX5_factors_66 ?_
            refine GO.iadd dX5_factors_67 ?_
            refine GO.norm (fun z816 r817 hn818 => ?_)
            refine GO.putI h_x fp_RX5_9 rfl (by decide +kernel) r817 (r817).1 (r817).2 dX5_factors_68 (fun V820 e819 => ?_)
            refine GO.aload_n dX5_factors_71 rfl rfl ?_
            have e821 : vi V820 x 5 = vi Wi8 x 5 := vi_up e819 (Or.inr (by decide))
            have e822 : vi V820 x 4 = vi Wi8 x 4 := vi_up e819 (Or.inr (by decide))
            have q823 : -2147483648 ≤ vi Wi8 x 4 ∧ vi Wi8 x 4 ≤ 2147483647 := vi_ir
            have q824 : -2147483648 ≤ vi Wi8 x 5 ∧ vi Wi8 x 5 ≤ 2147483647 := vi_ir
            refine GO.callV (ci := 4) (N := mX5_factor_3) dX5_factors_72 (RX5, TX5, 7) rfl gV_RX5_111 h_x (t_X5_factor_3 h_x (by omega)) rfl [] rfl rfl (Nat.le_of_ble_eq_true rfl) rfl (k_vs fun V827 h826 hF825 => ?_)
            have raw_factor := h826.2
            have rw72 := h826.2
            refine GO.useWT (fun hWs => ?_)
            refine GO.aload_n dX5_factors_75 rfl rfl ?_
            refine GO.getR h_x fl_RX5_31 rfl rfl dX5_factors_76 (fun hv831 h830 => ?_)
            refine GO.iload_n dX5_factors_79 rfl rfl ?_
            refine GO.iconst dX5_factors_80 ?_
            refine GO.callV (ci := 8) (N := mX9_addStep) dX5_factors_81 (RX9, TX9, 5) rfl gV_RX5_92 h830 (t_X9_addStep h830 (ir_c rfl) (ir_c rfl)) rfl [] rfl rfl (Nat.le_of_ble_eq_true rfl) rfl (k_is fun X832 V836 r833 h834 hF835 => ?_)
            have raw_addStep := h834.2
            have rw81 := h834.2
            refine GO.pop dX5_factors_84 rfl ?_
            refine GO.iinc (X := i8) (n := 1) (Y := i8 + 1) (ls1 := [some (.ref x), some (ti (i8 + 1)), some (ti 9)]) dX5_factors_85 rfl rfl rfl rfl ?_
            refine GO.goto (tgt := 6) dX5_factors_88 (by decide) ?_
            refine GO.drop [true, true, false] rfl ?_
            have e837 : vi V836 x 4 = vi V827 x 4 := vi_fr hF835 h_x h_x (by decide +kernel)
            have q838 : -2147483648 ≤ vi V827 x 4 ∧ vi V827 x 4 ≤ 2147483647 := vi_ir
            have e839 : vi V836 x 5 = vi V827 x 5 := vi_fr hF835 h_x h_x (by decide +kernel)
            have q840 : -2147483648 ≤ vi V827 x 5 ∧ vi V827 x 5 ≤ 2147483647 := vi_ir
            exact ih789 (i8 + 1) V836 ⟨by omega, by omega, by omega, (by first | exact FSI.beg rw1 | exact FSI.step hfs (by omega) (by omega) rfl (by omega) h_x hWh hWs (by assumption) (by assumption) (by assumption) (CR.fac rw72 (by omega)) rw81), trivial⟩ (by show (2147483647 - (i8 + 1)).toNat < (2147483647 - i8).toNat; omega)
          ·
            refine GO.bipush dX5_factors_53 rfl ?_
            refine GO.goto (tgt := 60) dX5_factors_55 (by decide) ?_
            refine GO.istore_n (ls1 := [some (.ref x), some (ti i8), some (ti 8)]) dX5_factors_60 rfl rfl rfl ?_
            refine GO.aload_n dX5_factors_61 rfl rfl ?_
            refine GO.dup dX5_factors_62 rfl ?_
            refine GO.getI h_x fl_RX5_9 rfl rfl dX5_factors_63 (fun _ _ => ?_)
            refine GO.iconst dX5_factors_66 ?_
            refine GO.iadd dX5_factors_67 ?_
            refine GO.norm (fun z841 r842 hn843 => ?_)
            refine GO.putI h_x fp_RX5_9 rfl (by decide +kernel) r842 (r842).1 (r842).2 dX5_factors_68 (fun V845 e844 => ?_)
            refine GO.aload_n dX5_factors_71 rfl rfl ?_
            have e846 : vi V845 x 5 = vi Wi8 x 5 := vi_up e844 (Or.inr (by decide))
            have e847 : vi V845 x 4 = vi Wi8 x 4 := vi_up e844 (Or.inr (by decide))
            have q848 : -2147483648 ≤ vi Wi8 x 4 ∧ vi Wi8 x 4 ≤ 2147483647 := vi_ir
            have q849 : -2147483648 ≤ vi Wi8 x 5 ∧ vi Wi8 x 5 ≤ 2147483647 := vi_ir
            refine GO.callV (ci := 4) (N := mX5_factor_3) dX5_factors_72 (RX5, TX5, 7) rfl gV_RX5_111 h_x (t_X5_factor_3 h_x (by omega)) rfl [] rfl rfl (Nat.le_of_ble_eq_true rfl) rfl (k_vs fun V852 h851 hF850 => ?_)
            have raw_factor := h851.2
            have rw72 := h851.2
            refine GO.useWT (fun hWs => ?_)
            refine GO.aload_n dX5_factors_75 rfl rfl ?_
            refine GO.getR h_x fl_RX5_31 rfl rfl dX5_factors_76 (fun hv856 h855 => ?_)
            refine GO.iload_n dX5_factors_79 rfl rfl ?_
            refine GO.iconst dX5_factors_80 ?_
            refine GO.callV (ci := 8) (N := mX9_addStep) dX5_factors_81 (RX9, TX9, 5) rfl gV_RX5_92 h855 (t_X9_addStep h855 (ir_c rfl) (ir_c rfl)) rfl [] rfl rfl (Nat.le_of_ble_eq_true rfl) rfl (k_is fun X857 V861 r858 h859 hF860 => ?_)
            have raw_addStep := h859.2
            have rw81 := h859.2
            refine GO.pop dX5_factors_84 rfl ?_
            refine GO.iinc (X := i8) (n := 1) (Y := i8 + 1) (ls1 := [some (.ref x), some (ti (i8 + 1)), some (ti 8)]) dX5_factors_85 rfl rfl rfl rfl ?_
            refine GO.goto (tgt := 6) dX5_factors_88 (by decide) ?_
            refine GO.drop [true, true, false] rfl ?_
            have e862 : vi V861 x 4 = vi V852 x 4 := vi_fr hF860 h_x h_x (by decide +kernel)
            have q863 : -2147483648 ≤ vi V852 x 4 ∧ vi V852 x 4 ≤ 2147483647 := vi_ir
            have e864 : vi V861 x 5 = vi V852 x 5 := vi_fr hF860 h_x h_x (by decide +kernel)
            have q865 : -2147483648 ≤ vi V852 x 5 ∧ vi V852 x 5 ≤ 2147483647 := vi_ir
            exact ih789 (i8 + 1) V861 ⟨by omega, by omega, by omega, (by first | exact FSI.beg rw1 | exact FSI.step hfs (by omega) (by omega) rfl (by omega) h_x hWh hWs (by assumption) (by assumption) (by assumption) (CR.fac rw72 (by omega)) rw81), trivial⟩ (by show (2147483647 - (i8 + 1)).toNat < (2147483647 - i8).toNat; omega)
        ·
          refine GO.bipush dX5_factors_39 rfl ?_
          refine GO.goto (tgt := 60) dX5_factors_41 (by decide) ?_
          refine GO.istore_n (ls1 := [some (.ref x), some (ti i8), some (ti 7)]) dX5_factors_60 rfl rfl rfl ?_
          refine GO.aload_n dX5_factors_61 rfl rfl ?_
          refine GO.dup dX5_factors_62 rfl ?_
          refine GO.getI h_x fl_RX5_9 rfl rfl dX5_factors_63 (fun _ _ => ?_)
          refine GO.iconst dX5_factors_66 ?_
          refine GO.iadd dX5_factors_67 ?_
          refine GO.norm (fun z866 r867 hn868 => ?_)
          refine GO.putI h_x fp_RX5_9 rfl (by decide +kernel) r867 (r867).1 (r867).2 dX5_factors_68 (fun V870 e869 => ?_)
          refine GO.aload_n dX5_factors_71 rfl rfl ?_
          have e871 : vi V870 x 5 = vi Wi8 x 5 := vi_up e869 (Or.inr (by decide))
          have e872 : vi V870 x 4 = vi Wi8 x 4 := vi_up e869 (Or.inr (by decide))
          have q873 : -2147483648 ≤ vi Wi8 x 4 ∧ vi Wi8 x 4 ≤ 2147483647 := vi_ir
          have q874 : -2147483648 ≤ vi Wi8 x 5 ∧ vi Wi8 x 5 ≤ 2147483647 := vi_ir
          refine GO.callV (ci := 4) (N := mX5_factor_3) dX5_factors_72 (RX5, TX5, 7) rfl gV_RX5_111 h_x (t_X5_factor_3 h_x (by omega)) rfl [] rfl rfl (Nat.le_of_ble_eq_true rfl) rfl (k_vs fun V877 h876 hF875 => ?_)
          have raw_factor := h876.2
          have rw72 := h876.2
          refine GO.useWT (fun hWs => ?_)
          refine GO.aload_n dX5_factors_75 rfl rfl ?_
          refine GO.getR h_x fl_RX5_31 rfl rfl dX5_factors_76 (fun hv881 h880 => ?_)
          refine GO.iload_n dX5_factors_79 rfl rfl ?_
          refine GO.iconst dX5_factors_80 ?_
          refine GO.callV (ci := 8) (N := mX9_addStep) dX5_factors_81 (RX9, TX9, 5) rfl gV_RX5_92 h880 (t_X9_addStep h880 (ir_c rfl) (ir_c rfl)) rfl [] rfl rfl (Nat.le_of_ble_eq_true rfl) rfl (k_is fun X882 V886 r883 h884 hF885 => ?_)
          have raw_addStep := h884.2
          have rw81 := h884.2
          refine GO.pop dX5_factors_84 rfl ?_
          refine GO.iinc (X := i8) (n := 1) (Y := i8 + 1) (ls1 := [some (.ref x), some (ti (i8 + 1)), some (ti 7)]) dX5_factors_85 rfl rfl rfl rfl ?_
          refine GO.goto (tgt := 6) dX5_factors_88 (by decide) ?_
          refine GO.drop [true, true, false] rfl ?_
          have e887 : vi V886 x 4 = vi V877 x 4 := vi_fr hF885 h_x h_x (by decide +kernel)
          have q888 : -2147483648 ≤ vi V877 x 4 ∧ vi V877 x 4 ≤ 2147483647 := vi_ir
          have e889 : vi V886 x 5 = vi V877 x 5 := vi_fr hF885 h_x h_x (by decide +kernel)
          have q890 : -2147483648 ≤ vi V877 x 5 ∧ vi V877 x 5 ≤ 2147483647 := vi_ir
          exact ih789 (i8 + 1) V886 ⟨by omega, by omega, by omega, (by first | exact FSI.beg rw1 | exact FSI.step hfs (by omega) (by omega) rfl (by omega) h_x hWh hWs (by assumption) (by assumption) (by assumption) (CR.fac rw72 (by omega)) rw81), trivial⟩ (by show (2147483647 - (i8 + 1)).toNat < (2147483647 - i8).toNat; omega)

theorem t_X5_factors_3 {K : Kmap} {V : Vmap} {x : Nat} (h_x : K x = some (0, 4)) (q_0 : (vi V x 5 ≠ 0 ∨ (vi V x 5 = 0 ∧ vi V x 4 ≥ 6 ∧ vi V x 4 ≤ 8))) : MC mX5_factors_3 K V [.ref x] (VS K (fun V1 => (vi V1 x 4 = vi V x 4 ∧ (vi V x 5 ≠ 0 → vi V1 x 5 ≠ 0)) ∧ (CR K V V1 x (fun src e => facsG src e (facD src e (vi V x 4).toNat))))) := by
  rcases q_0 with h | h
  · exact t_X5_factors_3_F h_x (by omega)
  · exact t_X5_factors_3_G h_x (by omega) (by omega) (by omega)

set_option maxHeartbeats 1000000 in
theorem t_X5_terms_3_F {K : Kmap} {V : Vmap} {x : Nat} (h_x : K x = some (0, 4)) (q_0 : vi V x 5 ≠ 0) : MC mX5_terms_3 K V [.ref x] (VS K (fun V1 => (vi V1 x 4 = vi V x 4 ∧ (vi V x 5 ≠ 0 → vi V1 x 5 ≠ 0)) ∧ (CR K V V1 x (fun src e => terD src e (vi V x 4).toNat)))) := by
  refine MC.start 2 (by decide +kernel) rfl rfl rfl (ls0 := [some (.ref x), none, none]) rfl ?_
  refine GO.useWT (fun hW_0 => ?_)
  refine GO.aload_n dX5_terms_0 rfl rfl ?_
  have q1 : -2147483648 ≤ vi V x 4 ∧ vi V x 4 ≤ 2147483647 := vi_ir
  have q2 : -2147483648 ≤ vi V x 5 ∧ vi V x 5 ≤ 2147483647 := vi_ir
  refine GO.callV (ci := 4) (N := mX5_factors_3) dX5_terms_1 (RX5, TX5, 7) rfl gV_RX5_108 h_x (t_X5_factors_3 h_x (by omega)) rfl [] rfl rfl (Nat.le_of_ble_eq_true rfl) rfl (k_vs fun V5 h4 hF3 => ?_)
  have raw_factors := h4.2
  have rw1 := h4.2
  refine GO.iconst dX5_terms_4 ?_
  refine GO.istore_n (ls1 := [some (.ref x), some (ti 0), none]) dX5_terms_5 rfl rfl rfl ?_
  have q9 : -2147483648 ≤ vi V5 x 4 ∧ vi V5 x 4 ≤ 2147483647 := vi_ir
  have q10 : -2147483648 ≤ vi V5 x 5 ∧ vi V5 x 5 ≤ 2147483647 := vi_ir
  refine GO.loop1 (fun i8 W => 0 ≤ i8 ∧ i8 ≤ 0 ∧ (vi W x 4 = vi V5 x 4 ∧ (vi V5 x 5 ≠ 0 → vi W x 5 ≠ 0)) ∧ (TSI K V W x (vi V x 4).toNat i8) ∧ True) (fun i8 => [some (.ref x), some (ti i8), none]) (fun i8 W => (2147483647 - i8).toNat) 0 ⟨by omega, by omega, by omega, (by first | exact TSI.beg rw1 (by omega) | exact TSI.bad rw1 (by omega)), trivial⟩ rfl (fun i8 Wi8 hp16 ih15 => ?_)
  obtain ⟨l_i8, u_i8, n_i8, hts, -⟩ := hp16
  have r_i8 : ir i8 := ⟨by omega, by omega⟩
  show GO mX5_terms_3 K V (VS K (fun V1 => (vi V1 x 4 = vi V x 4 ∧ (vi V x 5 ≠ 0 → vi V1 x 5 ≠ 0)) ∧ (CR K V V1 x (fun src e => terD src e (vi V x 4).toNat)))) K Wi8 0 0 6 [some (.ref x), some (ti i8), none] []
  refine GO.useWT (fun hWh => ?_)
  refine GO.iload_n dX5_terms_6 rfl rfl ?_
  refine GO.sipush dX5_terms_7 rfl ?_
  refine GO.icmp_ge (tgt := 84) dX5_terms_10 (by decide) r_i8 (ir_c rfl) (fun h => by exfalso; omega) (fun c17 => ?_)
  refine GO.aload_n dX5_terms_13 rfl rfl ?_
  refine GO.getI h_x fl_RX5_18 rfl rfl dX5_terms_14 (fun _ _ => ?_)
  have q19 : -2147483648 ≤ vi Wi8 x 5 ∧ vi Wi8 x 5 ≤ 2147483647 := vi_ir
  refine GO.if_ne (tgt := 84) dX5_terms_17 (by decide) vi_ir (fun c18 => ?_) (fun h => by exfalso; omega)
  have q20 : -2147483648 ≤ vi Wi8 x 4 ∧ vi Wi8 x 4 ≤ 2147483647 := vi_ir
  exact GO.retv rfl rfl dX5_terms_84 ⟨rfl, rfl, ⟨by omega, TSI.end hts (by omega) (by omega)⟩⟩

set_option maxHeartbeats 1000000 in
theorem t_X5_terms_3_G {K : Kmap} {V : Vmap} {x : Nat} (h_x : K x = some (0, 4)) (q_0 : vi V x 5 = 0) (q_1 : vi V x 4 ≥ 6) (q_2 : vi V x 4 ≤ 8) : MC mX5_terms_3 K V [.ref x] (VS K (fun V1 => (vi V1 x 4 = vi V x 4 ∧ (vi V x 5 ≠ 0 → vi V1 x 5 ≠ 0)) ∧ (CR K V V1 x (fun src e => terD src e (vi V x 4).toNat)))) := by
  refine MC.start 2 (by decide +kernel) rfl rfl rfl (ls0 := [some (.ref x), none, none]) rfl ?_
  refine GO.useWT (fun hW_0 => ?_)
  refine GO.aload_n dX5_terms_0 rfl rfl ?_
  have q1 : -2147483648 ≤ vi V x 4 ∧ vi V x 4 ≤ 2147483647 := vi_ir
  have q2 : -2147483648 ≤ vi V x 5 ∧ vi V x 5 ≤ 2147483647 := vi_ir
  refine GO.callV (ci := 4) (N := mX5_factors_3) dX5_terms_1 (RX5, TX5, 7) rfl gV_RX5_108 h_x (t_X5_factors_3 h_x (by omega)) rfl [] rfl rfl (Nat.le_of_ble_eq_true rfl) rfl (k_vs fun V5 h4 hF3 => ?_)
  have raw_factors := h4.2
  have rw1 := h4.2
  refine GO.iconst dX5_terms_4 ?_
  refine GO.istore_n (ls1 := [some (.ref x), some (ti 0), none]) dX5_terms_5 rfl rfl rfl ?_
  have q9 : -2147483648 ≤ vi V5 x 4 ∧ vi V5 x 4 ≤ 2147483647 := vi_ir
  have q10 : -2147483648 ≤ vi V5 x 5 ∧ vi V5 x 5 ≤ 2147483647 := vi_ir
  refine GO.loop1 (fun i8 W => 0 ≤ i8 ∧ i8 ≤ 200 ∧ (vi W x 4 = vi V5 x 4 ∧ (vi V5 x 5 ≠ 0 → vi W x 5 ≠ 0)) ∧ (TSI K V W x (vi V x 4).toNat i8) ∧ True) (fun i8 => [some (.ref x), some (ti i8), none]) (fun i8 W => (2147483647 - i8).toNat) 0 ⟨by omega, by omega, by omega, (by first | exact TSI.beg rw1 (by omega) | exact TSI.bad rw1 (by omega)), trivial⟩ rfl (fun i8 Wi8 hp592 ih591 => ?_)
  obtain ⟨l_i8, u_i8, n_i8, hts, -⟩ := hp592
  have r_i8 : ir i8 := ⟨by omega, by omega⟩
  show GO mX5_terms_3 K V (VS K (fun V1 => (vi V1 x 4 = vi V x 4 ∧ (vi V x 5 ≠ 0 → vi V1 x 5 ≠ 0)) ∧ (CR K V V1 x (fun src e => terD src e (vi V x 4).toNat)))) K Wi8 0 0 6 [some (.ref x), some (ti i8), none] []
  refine GO.useWT (fun hWh => ?_)
  refine GO.iload_n dX5_terms_6 rfl rfl ?_
  refine GO.sipush dX5_terms_7 rfl ?_
  refine GO.icmp_ge (tgt := 84) dX5_terms_10 (by decide) r_i8 (ir_c rfl) (fun c593 => ?_) (fun c593 => ?_)
  ·
    have q594 : -2147483648 ≤ vi Wi8 x 4 ∧ vi Wi8 x 4 ≤ 2147483647 := vi_ir
    have q595 : -2147483648 ≤ vi Wi8 x 5 ∧ vi Wi8 x 5 ≤ 2147483647 := vi_ir
    exact GO.retv rfl rfl dX5_terms_84 ⟨rfl, rfl, ⟨by omega, TSI.end hts (by omega) (by omega)⟩⟩
  ·
    refine GO.aload_n dX5_terms_13 rfl rfl ?_
    refine GO.getI h_x fl_RX5_18 rfl rfl dX5_terms_14 (fun _ _ => ?_)
    refine GO.if_ne (tgt := 84) dX5_terms_17 (by decide) vi_ir (fun c596 => ?_) (fun c596 => ?_)
    ·
      have q597 : -2147483648 ≤ vi Wi8 x 4 ∧ vi Wi8 x 4 ≤ 2147483647 := vi_ir
      have q598 : -2147483648 ≤ vi Wi8 x 5 ∧ vi Wi8 x 5 ≤ 2147483647 := vi_ir
      exact GO.retv rfl rfl dX5_terms_84 ⟨rfl, rfl, ⟨by omega, TSI.end hts (by omega) (by omega)⟩⟩
    ·
      refine GO.aload_n dX5_terms_20 rfl rfl ?_
      refine GO.callV (ci := 4) (N := mX5_next) dX5_terms_21 (RX5, TX5, 7) rfl gV_RX5_61 h_x (t_X5_next h_x) rfl [] rfl rfl (Nat.le_of_ble_eq_true rfl) rfl (k_ip fun X599 r600 h601 => ?_)
      refine GO.bipush dX5_terms_24 rfl ?_
      refine GO.icmp_eq (tgt := 38) dX5_terms_26 (by decide) r600 (ir_c rfl) (fun c602 => ?_) (fun c602 => ?_)
      ·
        refine GO.aload_n dX5_terms_38 rfl rfl ?_
        refine GO.callV (ci := 4) (N := mX5_next) dX5_terms_39 (RX5, TX5, 7) rfl gV_RX5_61 h_x (t_X5_next h_x) rfl [] rfl rfl (Nat.le_of_ble_eq_true rfl) rfl (k_ip fun X603 r604 h605 => ?_)
        refine GO.bipush dX5_terms_42 rfl ?_
        refine GO.icmp_ne (tgt := 51) dX5_terms_44 (by decide) r604 (ir_c rfl) (fun h => by exfalso; omega) (fun c606 => ?_)
        refine GO.iconst dX5_terms_47 ?_
        refine GO.goto (tgt := 53) dX5_terms_48 (by decide) ?_
        refine GO.istore_n (ls1 := [some (.ref x), some (ti i8), some (ti 5)]) dX5_terms_53 rfl rfl rfl ?_
        refine GO.aload_n dX5_terms_54 rfl rfl ?_
        refine GO.dup dX5_terms_55 rfl ?_
        refine GO.getI h_x fl_RX5_9 rfl rfl dX5_terms_56 (fun _ _ => ?_)
        refine GO.iconst dX5_terms_59 ?_
        refine GO.iadd dX5_terms_60 ?_
        refine GO.norm (fun z607 r608 hn609 => ?_)
        refine GO.putI h_x fp_RX5_9 rfl (by decide +kernel) r608 (r608).1 (r608).2 dX5_terms_61 (fun V611 e610 => ?_)
        refine GO.aload_n dX5_terms_64 rfl rfl ?_
        have e612 : vi V611 x 5 = vi Wi8 x 5 := vi_up e610 (Or.inr (by decide))
        have e613 : vi V611 x 4 = vi Wi8 x 4 := vi_up e610 (Or.inr (by decide))
        have q614 : -2147483648 ≤ vi Wi8 x 4 ∧ vi Wi8 x 4 ≤ 2147483647 := vi_ir
        have q615 : -2147483648 ≤ vi Wi8 x 5 ∧ vi Wi8 x 5 ≤ 2147483647 := vi_ir
        refine GO.callV (ci := 4) (N := mX5_factors_3) dX5_terms_65 (RX5, TX5, 7) rfl gV_RX5_108 h_x (t_X5_factors_3 h_x (by omega)) rfl [] rfl rfl (Nat.le_of_ble_eq_true rfl) rfl (k_vs fun V618 h617 hF616 => ?_)
        have raw_factors := h617.2
        have rw65 := h617.2
        refine GO.useWT (fun hWs => ?_)
        refine GO.aload_n dX5_terms_68 rfl rfl ?_
        refine GO.getR h_x fl_RX5_31 rfl rfl dX5_terms_69 (fun hv622 h621 => ?_)
        refine GO.iload_n dX5_terms_72 rfl rfl ?_
        refine GO.iconst dX5_terms_73 ?_
        refine GO.callV (ci := 8) (N := mX9_addStep) dX5_terms_74 (RX9, TX9, 5) rfl gV_RX5_92 h621 (t_X9_addStep h621 (ir_c rfl) (ir_c rfl)) rfl [] rfl rfl (Nat.le_of_ble_eq_true rfl) rfl (k_is fun X623 V627 r624 h625 hF626 => ?_)
        have raw_addStep := h625.2
        have rw74 := h625.2
        refine GO.pop dX5_terms_77 rfl ?_
        refine GO.iinc (X := i8) (n := 1) (Y := i8 + 1) (ls1 := [some (.ref x), some (ti (i8 + 1)), some (ti 5)]) dX5_terms_78 rfl rfl rfl rfl ?_
        refine GO.goto (tgt := 6) dX5_terms_81 (by decide) ?_
        refine GO.drop [true, true, false] rfl ?_
        have e628 : vi V627 x 4 = vi V618 x 4 := vi_fr hF626 h_x h_x (by decide +kernel)
        have q629 : -2147483648 ≤ vi V618 x 4 ∧ vi V618 x 4 ≤ 2147483647 := vi_ir
        have e630 : vi V627 x 5 = vi V618 x 5 := vi_fr hF626 h_x h_x (by decide +kernel)
        have q631 : -2147483648 ≤ vi V618 x 5 ∧ vi V618 x 5 ≤ 2147483647 := vi_ir
        exact ih591 (i8 + 1) V627 ⟨by omega, by omega, by omega, (by first | exact TSI.beg rw1 (by omega) | exact TSI.bad rw1 (by omega) | exact TSI.step hts (by omega) (by omega) rfl (by omega) h_x hWh hWs (by assumption) (by assumption) (by assumption) (CR.facs rw65 (by omega)) rw74), trivial⟩ (by show (2147483647 - (i8 + 1)).toNat < (2147483647 - i8).toNat; omega)
      ·
        refine GO.aload_n dX5_terms_29 rfl rfl ?_
        refine GO.callV (ci := 4) (N := mX5_next) dX5_terms_30 (RX5, TX5, 7) rfl gV_RX5_61 h_x (t_X5_next h_x) rfl [] rfl rfl (Nat.le_of_ble_eq_true rfl) rfl (k_ip fun X632 r633 h634 => ?_)
        refine GO.bipush dX5_terms_33 rfl ?_
        refine GO.icmp_ne (tgt := 84) dX5_terms_35 (by decide) r633 (ir_c rfl) (fun c635 => ?_) (fun c635 => ?_)
        ·
          have q636 : -2147483648 ≤ vi Wi8 x 4 ∧ vi Wi8 x 4 ≤ 2147483647 := vi_ir
          have q637 : -2147483648 ≤ vi Wi8 x 5 ∧ vi Wi8 x 5 ≤ 2147483647 := vi_ir
          exact GO.retv rfl rfl dX5_terms_84 ⟨rfl, rfl, ⟨by omega, TSI.end hts (by omega) (by omega)⟩⟩
        ·
          refine GO.aload_n dX5_terms_38 rfl rfl ?_
          refine GO.callV (ci := 4) (N := mX5_next) dX5_terms_39 (RX5, TX5, 7) rfl gV_RX5_61 h_x (t_X5_next h_x) rfl [] rfl rfl (Nat.le_of_ble_eq_true rfl) rfl (k_ip fun X638 r639 h640 => ?_)
          refine GO.bipush dX5_terms_42 rfl ?_
          refine GO.icmp_ne (tgt := 51) dX5_terms_44 (by decide) r639 (ir_c rfl) (fun c641 => ?_) (fun h => by exfalso; omega)
          refine GO.bipush dX5_terms_51 rfl ?_
          refine GO.istore_n (ls1 := [some (.ref x), some (ti i8), some (ti 6)]) dX5_terms_53 rfl rfl rfl ?_
          refine GO.aload_n dX5_terms_54 rfl rfl ?_
          refine GO.dup dX5_terms_55 rfl ?_
          refine GO.getI h_x fl_RX5_9 rfl rfl dX5_terms_56 (fun _ _ => ?_)
          refine GO.iconst dX5_terms_59 ?_
          refine GO.iadd dX5_terms_60 ?_
          refine GO.norm (fun z642 r643 hn644 => ?_)
          refine GO.putI h_x fp_RX5_9 rfl (by decide +kernel) r643 (r643).1 (r643).2 dX5_terms_61 (fun V646 e645 => ?_)
          refine GO.aload_n dX5_terms_64 rfl rfl ?_
          have e647 : vi V646 x 5 = vi Wi8 x 5 := vi_up e645 (Or.inr (by decide))
          have e648 : vi V646 x 4 = vi Wi8 x 4 := vi_up e645 (Or.inr (by decide))
          have q649 : -2147483648 ≤ vi Wi8 x 4 ∧ vi Wi8 x 4 ≤ 2147483647 := vi_ir
          have q650 : -2147483648 ≤ vi Wi8 x 5 ∧ vi Wi8 x 5 ≤ 2147483647 := vi_ir
          refine GO.callV (ci := 4) (N := mX5_factors_3) dX5_terms_65 (RX5, TX5, 7) rfl gV_RX5_108 h_x (t_X5_factors_3 h_x (by omega)) rfl [] rfl rfl (Nat.le_of_ble_eq_true rfl) rfl (k_vs fun V653 h652 hF651 => ?_)
          have raw_factors := h652.2
          have rw65 := h652.2
          refine GO.useWT (fun hWs => ?_)
          refine GO.aload_n dX5_terms_68 rfl rfl ?_
          refine GO.getR h_x fl_RX5_31 rfl rfl dX5_terms_69 (fun hv657 h656 => ?_)
          refine GO.iload_n dX5_terms_72 rfl rfl ?_
          refine GO.iconst dX5_terms_73 ?_
          refine GO.callV (ci := 8) (N := mX9_addStep) dX5_terms_74 (RX9, TX9, 5) rfl gV_RX5_92 h656 (t_X9_addStep h656 (ir_c rfl) (ir_c rfl)) rfl [] rfl rfl (Nat.le_of_ble_eq_true rfl) rfl (k_is fun X658 V662 r659 h660 hF661 => ?_)
          have raw_addStep := h660.2
          have rw74 := h660.2
          refine GO.pop dX5_terms_77 rfl ?_
          refine GO.iinc (X := i8) (n := 1) (Y := i8 + 1) (ls1 := [some (.ref x), some (ti (i8 + 1)), some (ti 6)]) dX5_terms_78 rfl rfl rfl rfl ?_
          refine GO.goto (tgt := 6) dX5_terms_81 (by decide) ?_
          refine GO.drop [true, true, false] rfl ?_
          have e663 : vi V662 x 4 = vi V653 x 4 := vi_fr hF661 h_x h_x (by decide +kernel)
          have q664 : -2147483648 ≤ vi V653 x 4 ∧ vi V653 x 4 ≤ 2147483647 := vi_ir
          have e665 : vi V662 x 5 = vi V653 x 5 := vi_fr hF661 h_x h_x (by decide +kernel)
          have q666 : -2147483648 ≤ vi V653 x 5 ∧ vi V653 x 5 ≤ 2147483647 := vi_ir
          exact ih591 (i8 + 1) V662 ⟨by omega, by omega, by omega, (by first | exact TSI.beg rw1 (by omega) | exact TSI.bad rw1 (by omega) | exact TSI.step hts (by omega) (by omega) rfl (by omega) h_x hWh hWs (by assumption) (by assumption) (by assumption) (CR.facs rw65 (by omega)) rw74), trivial⟩ (by show (2147483647 - (i8 + 1)).toNat < (2147483647 - i8).toNat; omega)

theorem t_X5_terms_3 {K : Kmap} {V : Vmap} {x : Nat} (h_x : K x = some (0, 4)) (q_0 : (vi V x 5 ≠ 0 ∨ (vi V x 5 = 0 ∧ vi V x 4 ≥ 6 ∧ vi V x 4 ≤ 8))) : MC mX5_terms_3 K V [.ref x] (VS K (fun V1 => (vi V1 x 4 = vi V x 4 ∧ (vi V x 5 ≠ 0 → vi V1 x 5 ≠ 0)) ∧ (CR K V V1 x (fun src e => terD src e (vi V x 4).toNat)))) := by
  rcases q_0 with h | h
  · exact t_X5_terms_3_F h_x (by omega)
  · exact t_X5_terms_3_G h_x (by omega) (by omega) (by omega)

set_option maxHeartbeats 1000000 in
theorem t_X5_factor_4_F {K : Kmap} {V : Vmap} {x : Nat} (h_x : K x = some (0, 4)) (q_0 : vi V x 5 ≠ 0) : MC mX5_factor_4 K V [.ref x] (VS K (fun V1 => (vi V1 x 4 = vi V x 4 ∧ (vi V x 5 ≠ 0 → vi V1 x 5 ≠ 0)) ∧ (CR K V V1 x (fun src e => facD src e (vi V x 4).toNat)))) := by
  refine MC.start 2 (by decide +kernel) rfl rfl rfl (ls0 := [some (.ref x), none, none]) rfl ?_
  refine GO.useWT (fun hW_0 => ?_)
  refine GO.aload_n dX5_factor_0 rfl rfl ?_
  refine GO.getI h_x fl_RX5_18 rfl rfl dX5_factor_1 (fun _ _ => ?_)
  have q2 : -2147483648 ≤ vi V x 5 ∧ vi V x 5 ≤ 2147483647 := vi_ir
  refine GO.if_eq (tgt := 8) dX5_factor_4 (by decide) vi_ir (fun h => by exfalso; omega) (fun c1 => ?_)
  have q3 : -2147483648 ≤ vi V x 4 ∧ vi V x 4 ≤ 2147483647 := vi_ir
  exact GO.retv rfl rfl dX5_factor_7 ⟨rfl, rfl, ⟨by omega, (by first | exact CRg.bad (by omega))⟩⟩

set_option maxHeartbeats 1000000 in
theorem t_X5_factor_4_G {K : Kmap} {V : Vmap} {x : Nat} (h_x : K x = some (0, 4)) (q_0 : vi V x 5 = 0) (q_1 : vi V x 4 ≥ 5) (q_2 : vi V x 4 ≤ 8) : MC mX5_factor_4 K V [.ref x] (VS K (fun V1 => (vi V1 x 4 = vi V x 4 ∧ (vi V x 5 ≠ 0 → vi V1 x 5 ≠ 0)) ∧ (CR K V V1 x (fun src e => facD src e (vi V x 4).toNat)))) := by
  refine MC.start 2 (by decide +kernel) rfl rfl rfl (ls0 := [some (.ref x), none, none]) rfl ?_
  refine GO.useWT (fun hW_0 => ?_)
  refine GO.aload_n dX5_factor_0 rfl rfl ?_
  refine GO.getI h_x fl_RX5_18 rfl rfl dX5_factor_1 (fun _ _ => ?_)
  have q2 : -2147483648 ≤ vi V x 5 ∧ vi V x 5 ≤ 2147483647 := vi_ir
  refine GO.if_eq (tgt := 8) dX5_factor_4 (by decide) vi_ir (fun c1 => ?_) (fun h => by exfalso; omega)
  refine GO.aload_n dX5_factor_8 rfl rfl ?_
  refine GO.callV (ci := 4) (N := mX5_next) dX5_factor_9 (RX5, TX5, 7) rfl gV_RX5_61 h_x (t_X5_next h_x) rfl [] rfl rfl (Nat.le_of_ble_eq_true rfl) rfl (k_ip fun X3 r4 h5 => ?_)
  refine GO.istore_n (ls1 := [some (.ref x), some (ti X3), none]) dX5_factor_12 rfl rfl rfl ?_
  refine GO.iload_n dX5_factor_13 rfl rfl ?_
  refine GO.if_ge (tgt := 21) dX5_factor_14 (by decide) r4 (fun c6 => ?_) (fun c6 => ?_)
  ·
    refine GO.letters dX5_factor_21 dX5_factor_23 dX5_factor_24 dX5_factor_25 rfl gV_RX5_119 rfl rfl (Nat.le_of_ble_eq_true rfl) rfl rfl (fun X7 r8 h9 hlet => ?_)
    refine GO.istore_n (ls1 := [some (.ref x), some (ti X3), some (ti X7)]) dX5_factor_28 rfl rfl rfl ?_
    have hlt : 0 ≤ sgC V x → sgC V x ≤ 255 → X7 = letN (sgC V x) := by first | (intro g0 g1; exfalso; omega) | (intro g0 g1; have hq := hlet (by omega) (by omega); rw [show sgC V x = X3 by omega]; exact hq)
    refine GO.iload_n dX5_factor_29 rfl rfl ?_
    refine GO.bipush dX5_factor_30 rfl ?_
    refine GO.icmp_ne (tgt := 64) dX5_factor_32 (by decide) r4 (ir_c rfl) (fun c10 => ?_) (fun c10 => ?_)
    ·
      refine GO.iload_n dX5_factor_64 rfl rfl ?_
      refine GO.if_lt (tgt := 91) dX5_factor_65 (by decide) r8 (fun c11 => ?_) (fun c11 => ?_)
      ·
        refine GO.aload_n dX5_factor_91 rfl rfl ?_
        refine GO.getR h_x fl_RX5_31 rfl rfl dX5_factor_92 (fun hv13 h12 => ?_)
        refine GO.iconst dX5_factor_95 ?_
        refine GO.aload_n dX5_factor_96 rfl rfl ?_
        refine GO.ldc (X := 999999) dX5_factor_97 gw_790 rfl ?_
        refine GO.callV (ci := 4) (N := mX5_digits) dX5_factor_99 (RX5, TX5, 7) rfl gV_RX5_69 h_x (t_X5_digits h_x (ir_c rfl)) rfl [ti 0, .ref (vq V x 2)] rfl rfl (Nat.le_of_ble_eq_true rfl) rfl (k_is fun X14 V18 r15 h16 hF17 => ?_)
        have raw_digits := h16.2
        have rw99 := h16.2
        refine GO.useWT (fun hWn => ?_)
        refine GO.callV (ci := 8) (N := mX9_addStep) dX5_factor_102 (RX9, TX9, 5) rfl gV_RX5_92 h12 (t_X9_addStep h12 (ir_c rfl) r15) rfl [] rfl rfl (Nat.le_of_ble_eq_true rfl) rfl (k_is fun X20 V24 r21 h22 hF23 => ?_)
        have raw_addStep := h22.2
        have rw102 := h22.2
        refine GO.pop dX5_factor_105 rfl ?_
        have e26 : vi V18 x 4 = vi V x 4 := vi_fr hF17 h_x h_x (by decide +kernel)
        have e25 : vi V24 x 4 = vi V18 x 4 := vi_fr hF23 h_x h_x (by decide +kernel)
        have q27 : -2147483648 ≤ vi V x 4 ∧ vi V x 4 ≤ 2147483647 := vi_ir
        have e28 : vi V24 x 5 = vi V18 x 5 := vi_fr hF23 h_x h_x (by decide +kernel)
        have q29 : -2147483648 ≤ vi V18 x 5 ∧ vi V18 x 5 ≤ 2147483647 := vi_ir
        exact GO.retv rfl rfl dX5_factor_106 ⟨rfl, rfl, ⟨by omega, (by first | exact CRg.bad (by omega) | exact FAC.num (by omega) (Or.inl (by omega)) rw99 rw102 (by assumption) (by decide +kernel) h_x hWn (by omega) (by omega) | exact FAC.num (by omega) (Or.inr ⟨by omega, hlt⟩) rw99 rw102 (by assumption) (by decide +kernel) h_x hWn (by omega) (by omega))⟩⟩
      ·
        refine GO.aload_n dX5_factor_68 rfl rfl ?_
        refine GO.dup dX5_factor_69 rfl ?_
        refine GO.getI h_x fl_RX5_9 rfl rfl dX5_factor_70 (fun _ _ => ?_)
        refine GO.iconst dX5_factor_73 ?_
        refine GO.iadd dX5_factor_74 ?_
        refine GO.norm (fun z30 r31 hn32 => ?_)
        refine GO.putI h_x fp_RX5_9 rfl (by decide +kernel) r31 (r31).1 (r31).2 dX5_factor_75 (fun V34 e33 => ?_)
        refine GO.useWT (fun hWa => ?_)
        refine GO.aload_n dX5_factor_78 rfl rfl ?_
        refine GO.getR h_x fl_RX5_31 rfl rfl dX5_factor_79 (fun hv36 h35 => ?_)
        refine GO.iconst dX5_factor_82 ?_
        refine GO.iload_n dX5_factor_83 rfl rfl ?_
        refine GO.callV (ci := 8) (N := mX9_addStep) dX5_factor_84 (RX9, TX9, 5) rfl gV_RX5_92 h35 (t_X9_addStep h35 (ir_c rfl) r8) rfl [] rfl rfl (Nat.le_of_ble_eq_true rfl) rfl (k_is fun X37 V41 r38 h39 hF40 => ?_)
        have raw_addStep := h39.2
        have rw84 := h39.2
        refine GO.pop dX5_factor_87 rfl ?_
        refine GO.goto (tgt := 106) dX5_factor_88 (by decide) ?_
        have e43 : vi V34 x 4 = vi V x 4 := vi_up e33 (Or.inr (by decide))
        have e42 : vi V41 x 4 = vi V34 x 4 := vi_fr hF40 h_x h_x (by decide +kernel)
        have q44 : -2147483648 ≤ vi V x 4 ∧ vi V x 4 ≤ 2147483647 := vi_ir
        have e46 : vi V34 x 5 = vi V x 5 := vi_up e33 (Or.inr (by decide))
        have e45 : vi V41 x 5 = vi V34 x 5 := vi_fr hF40 h_x h_x (by decide +kernel)
        exact GO.retv rfl rfl dX5_factor_106 ⟨rfl, rfl, ⟨by omega, (by first | exact CRg.bad (by omega) | exact FAC.ltr rfl (by omega) hlt (by omega) (CRg.adv h_x hW_0 rfl (by omega) (by assumption) (by assumption) (by assumption)) (CRg.add rw84 h_x hWa (by decide) (by decide) (by omega) (by omega)))⟩⟩
    ·
      refine GO.aload_n dX5_factor_35 rfl rfl ?_
      refine GO.bipush dX5_factor_36 rfl ?_
      have q47 : -2147483648 ≤ vi V x 4 ∧ vi V x 4 ≤ 2147483647 := vi_ir
      refine GO.callV (ci := 4) (N := mX5_deepen) dX5_factor_38 (RX5, TX5, 7) rfl gV_RX5_80 h_x (t_X5_deepen h_x (ir_c rfl) (by omega) (by omega) (by omega)) rfl [] rfl rfl (Nat.le_of_ble_eq_true rfl) rfl (k_vs fun V50 h49 hF48 => ?_)
      have raw_deepen := h49.2
      have rw38 := h49.2
      refine GO.aload_n dX5_factor_41 rfl rfl ?_
      have q53 : -2147483648 ≤ vi V50 x 4 ∧ vi V50 x 4 ≤ 2147483647 := vi_ir
      have q54 : -2147483648 ≤ vi V50 x 5 ∧ vi V50 x 5 ≤ 2147483647 := vi_ir
      refine GO.callV (ci := 4) (N := mX5_terms_3) dX5_factor_42 (RX5, TX5, 7) rfl gV_RX5_102 h_x (t_X5_terms_3 h_x (by omega)) rfl [] rfl rfl (Nat.le_of_ble_eq_true rfl) rfl (k_vs fun V57 h56 hF55 => ?_)
      have raw_terms := h56.2
      have rw42 := h56.2
      refine GO.useWT (fun hWb => ?_)
      refine GO.aload_n dX5_factor_45 rfl rfl ?_
      refine GO.dup dX5_factor_46 rfl ?_
      refine GO.getI h_x fl_RX5_15 rfl rfl dX5_factor_47 (fun _ _ => ?_)
      refine GO.iconst dX5_factor_50 ?_
      refine GO.isub dX5_factor_51 ?_
      have q61 : -2147483648 ≤ vi V57 x 4 ∧ vi V57 x 4 ≤ 2147483647 := vi_ir
      refine GO.putI h_x fp_RX5_15 rfl (by decide +kernel) ⟨by omega, by omega⟩ (by omega) (by omega) dX5_factor_52 (fun V62 e60 => ?_)
      refine GO.aload_n dX5_factor_55 rfl rfl ?_
      refine GO.bipush dX5_factor_56 rfl ?_
      have e63 : vi V62 x 5 = vi V57 x 5 := vi_up e60 (Or.inr (by decide))
      refine GO.callV (ci := 4) (N := mX5_take) dX5_factor_58 (RX5, TX5, 7) rfl gV_RX5_38 h_x (t_X5_take h_x (ir_c rfl) (by omega)) rfl [] rfl rfl (Nat.le_of_ble_eq_true rfl) rfl (k_vs fun V66 h65 hF64 => ?_)
      have raw_take := h65.2
      have rw58 := h65.2
      refine GO.goto (tgt := 106) dX5_factor_61 (by decide) ?_
      have e69 : vi V62 x 4 = (vi V57 x 4) - 1 := upd2_int e60 ⟨by omega, by omega⟩
      have e68 : vi V66 x 4 = vi V62 x 4 := vi_fr hF64 h_x h_x (by decide +kernel)
      have q70 : -2147483648 ≤ vi V66 x 5 ∧ vi V66 x 5 ≤ 2147483647 := vi_ir
      exact GO.retv rfl rfl dX5_factor_106 ⟨rfl, rfl, ⟨by omega, (by first | exact CRg.bad (by omega) | exact FAC.br (by omega) rw38 rw42 (by omega) h_x hWb (by assumption) rw58)⟩⟩
  ·
    refine GO.iconst dX5_factor_17 ?_
    refine GO.goto (tgt := 28) dX5_factor_18 (by decide) ?_
    refine GO.istore_n (ls1 := [some (.ref x), some (ti X3), some (ti (-1))]) dX5_factor_28 rfl rfl rfl ?_
    have hlt : 0 ≤ sgC V x → sgC V x ≤ 255 → (-1) = letN (sgC V x) := by first | (intro g0 g1; exfalso; omega) | (intro g0 g1; have hq := hlet (by omega) (by omega); rw [show sgC V x = X3 by omega]; exact hq)
    refine GO.iload_n dX5_factor_29 rfl rfl ?_
    refine GO.bipush dX5_factor_30 rfl ?_
    refine GO.icmp_ne (tgt := 64) dX5_factor_32 (by decide) r4 (ir_c rfl) (fun c71 => ?_) (fun h => by exfalso; omega)
    refine GO.iload_n dX5_factor_64 rfl rfl ?_
    refine GO.if_lt (tgt := 91) dX5_factor_65 (by decide) (ir_c rfl) (fun c72 => ?_) (fun h => by exfalso; omega)
    refine GO.aload_n dX5_factor_91 rfl rfl ?_
    refine GO.getR h_x fl_RX5_31 rfl rfl dX5_factor_92 (fun hv74 h73 => ?_)
    refine GO.iconst dX5_factor_95 ?_
    refine GO.aload_n dX5_factor_96 rfl rfl ?_
    refine GO.ldc (X := 999999) dX5_factor_97 gw_790 rfl ?_
    refine GO.callV (ci := 4) (N := mX5_digits) dX5_factor_99 (RX5, TX5, 7) rfl gV_RX5_69 h_x (t_X5_digits h_x (ir_c rfl)) rfl [ti 0, .ref (vq V x 2)] rfl rfl (Nat.le_of_ble_eq_true rfl) rfl (k_is fun X75 V79 r76 h77 hF78 => ?_)
    have raw_digits := h77.2
    have rw99 := h77.2
    refine GO.useWT (fun hWn => ?_)
    refine GO.callV (ci := 8) (N := mX9_addStep) dX5_factor_102 (RX9, TX9, 5) rfl gV_RX5_92 h73 (t_X9_addStep h73 (ir_c rfl) r76) rfl [] rfl rfl (Nat.le_of_ble_eq_true rfl) rfl (k_is fun X81 V85 r82 h83 hF84 => ?_)
    have raw_addStep := h83.2
    have rw102 := h83.2
    refine GO.pop dX5_factor_105 rfl ?_
    have e87 : vi V79 x 4 = vi V x 4 := vi_fr hF78 h_x h_x (by decide +kernel)
    have e86 : vi V85 x 4 = vi V79 x 4 := vi_fr hF84 h_x h_x (by decide +kernel)
    have q88 : -2147483648 ≤ vi V x 4 ∧ vi V x 4 ≤ 2147483647 := vi_ir
    have e89 : vi V85 x 5 = vi V79 x 5 := vi_fr hF84 h_x h_x (by decide +kernel)
    have q90 : -2147483648 ≤ vi V79 x 5 ∧ vi V79 x 5 ≤ 2147483647 := vi_ir
    exact GO.retv rfl rfl dX5_factor_106 ⟨rfl, rfl, ⟨by omega, (by first | exact CRg.bad (by omega) | exact FAC.num (by omega) (Or.inl (by omega)) rw99 rw102 (by assumption) (by decide +kernel) h_x hWn (by omega) (by omega) | exact FAC.num (by omega) (Or.inr ⟨by omega, hlt⟩) rw99 rw102 (by assumption) (by decide +kernel) h_x hWn (by omega) (by omega))⟩⟩

theorem t_X5_factor_4 {K : Kmap} {V : Vmap} {x : Nat} (h_x : K x = some (0, 4)) (q_0 : (vi V x 5 ≠ 0 ∨ (vi V x 5 = 0 ∧ vi V x 4 ≥ 5 ∧ vi V x 4 ≤ 8))) : MC mX5_factor_4 K V [.ref x] (VS K (fun V1 => (vi V1 x 4 = vi V x 4 ∧ (vi V x 5 ≠ 0 → vi V1 x 5 ≠ 0)) ∧ (CR K V V1 x (fun src e => facD src e (vi V x 4).toNat)))) := by
  rcases q_0 with h | h
  · exact t_X5_factor_4_F h_x (by omega)
  · exact t_X5_factor_4_G h_x (by omega) (by omega) (by omega)

set_option maxHeartbeats 1000000 in
theorem t_X5_factors_4_F {K : Kmap} {V : Vmap} {x : Nat} (h_x : K x = some (0, 4)) (q_0 : vi V x 5 ≠ 0) : MC mX5_factors_4 K V [.ref x] (VS K (fun V1 => (vi V1 x 4 = vi V x 4 ∧ (vi V x 5 ≠ 0 → vi V1 x 5 ≠ 0)) ∧ (CR K V V1 x (fun src e => facsG src e (facD src e (vi V x 4).toNat))))) := by
  refine MC.start 2 (by decide +kernel) rfl rfl rfl (ls0 := [some (.ref x), none, none]) rfl ?_
  refine GO.useWT (fun hW_0 => ?_)
  refine GO.aload_n dX5_factors_0 rfl rfl ?_
  have q1 : -2147483648 ≤ vi V x 4 ∧ vi V x 4 ≤ 2147483647 := vi_ir
  have q2 : -2147483648 ≤ vi V x 5 ∧ vi V x 5 ≤ 2147483647 := vi_ir
  refine GO.callV (ci := 4) (N := mX5_factor_4) dX5_factors_1 (RX5, TX5, 7) rfl gV_RX5_111 h_x (t_X5_factor_4 h_x (by omega)) rfl [] rfl rfl (Nat.le_of_ble_eq_true rfl) rfl (k_vs fun V5 h4 hF3 => ?_)
  have raw_factor := h4.2
  have rw1 := h4.2
  refine GO.iconst dX5_factors_4 ?_
  refine GO.istore_n (ls1 := [some (.ref x), some (ti 0), none]) dX5_factors_5 rfl rfl rfl ?_
  have q9 : -2147483648 ≤ vi V5 x 4 ∧ vi V5 x 4 ≤ 2147483647 := vi_ir
  have q10 : -2147483648 ≤ vi V5 x 5 ∧ vi V5 x 5 ≤ 2147483647 := vi_ir
  refine GO.loop1 (fun i8 W => 0 ≤ i8 ∧ i8 ≤ 0 ∧ (vi W x 4 = vi V5 x 4 ∧ (vi V5 x 5 ≠ 0 → vi W x 5 ≠ 0)) ∧ (FSI K V W x (vi V x 4).toNat i8) ∧ True) (fun i8 => [some (.ref x), some (ti i8), none]) (fun i8 W => (2147483647 - i8).toNat) 0 ⟨by omega, by omega, by omega, (by first | exact FSI.beg rw1), trivial⟩ rfl (fun i8 Wi8 hp16 ih15 => ?_)
  obtain ⟨l_i8, u_i8, n_i8, hfs, -⟩ := hp16
  have r_i8 : ir i8 := ⟨by omega, by omega⟩
  show GO mX5_factors_4 K V (VS K (fun V1 => (vi V1 x 4 = vi V x 4 ∧ (vi V x 5 ≠ 0 → vi V1 x 5 ≠ 0)) ∧ (CR K V V1 x (fun src e => facsG src e (facD src e (vi V x 4).toNat))))) K Wi8 0 0 6 [some (.ref x), some (ti i8), none] []
  refine GO.useWT (fun hWh => ?_)
  refine GO.iload_n dX5_factors_6 rfl rfl ?_
  refine GO.sipush dX5_factors_7 rfl ?_
  refine GO.icmp_ge (tgt := 91) dX5_factors_10 (by decide) r_i8 (ir_c rfl) (fun h => by exfalso; omega) (fun c17 => ?_)
  refine GO.aload_n dX5_factors_13 rfl rfl ?_
  refine GO.getI h_x fl_RX5_18 rfl rfl dX5_factors_14 (fun _ _ => ?_)
  have q19 : -2147483648 ≤ vi Wi8 x 5 ∧ vi Wi8 x 5 ≤ 2147483647 := vi_ir
  refine GO.if_ne (tgt := 91) dX5_factors_17 (by decide) vi_ir (fun c18 => ?_) (fun h => by exfalso; omega)
  have q20 : -2147483648 ≤ vi Wi8 x 4 ∧ vi Wi8 x 4 ≤ 2147483647 := vi_ir
  exact GO.retv rfl rfl dX5_factors_91 ⟨rfl, rfl, ⟨by omega, FSI.end hfs (by omega) (by omega)⟩⟩

set_option maxHeartbeats 1000000 in
theorem t_X5_factors_4_G {K : Kmap} {V : Vmap} {x : Nat} (h_x : K x = some (0, 4)) (q_0 : vi V x 5 = 0) (q_1 : vi V x 4 ≥ 5) (q_2 : vi V x 4 ≤ 8) : MC mX5_factors_4 K V [.ref x] (VS K (fun V1 => (vi V1 x 4 = vi V x 4 ∧ (vi V x 5 ≠ 0 → vi V1 x 5 ≠ 0)) ∧ (CR K V V1 x (fun src e => facsG src e (facD src e (vi V x 4).toNat))))) := by
  refine MC.start 2 (by decide +kernel) rfl rfl rfl (ls0 := [some (.ref x), none, none]) rfl ?_
  refine GO.useWT (fun hW_0 => ?_)
  refine GO.aload_n dX5_factors_0 rfl rfl ?_
  have q1 : -2147483648 ≤ vi V x 4 ∧ vi V x 4 ≤ 2147483647 := vi_ir
  have q2 : -2147483648 ≤ vi V x 5 ∧ vi V x 5 ≤ 2147483647 := vi_ir
  refine GO.callV (ci := 4) (N := mX5_factor_4) dX5_factors_1 (RX5, TX5, 7) rfl gV_RX5_111 h_x (t_X5_factor_4 h_x (by omega)) rfl [] rfl rfl (Nat.le_of_ble_eq_true rfl) rfl (k_vs fun V5 h4 hF3 => ?_)
  have raw_factor := h4.2
  have rw1 := h4.2
  refine GO.iconst dX5_factors_4 ?_
  refine GO.istore_n (ls1 := [some (.ref x), some (ti 0), none]) dX5_factors_5 rfl rfl rfl ?_
  have q9 : -2147483648 ≤ vi V5 x 4 ∧ vi V5 x 4 ≤ 2147483647 := vi_ir
  have q10 : -2147483648 ≤ vi V5 x 5 ∧ vi V5 x 5 ≤ 2147483647 := vi_ir
  refine GO.loop1 (fun i8 W => 0 ≤ i8 ∧ i8 ≤ 200 ∧ (vi W x 4 = vi V5 x 4 ∧ (vi V5 x 5 ≠ 0 → vi W x 5 ≠ 0)) ∧ (FSI K V W x (vi V x 4).toNat i8) ∧ True) (fun i8 => [some (.ref x), some (ti i8), none]) (fun i8 W => (2147483647 - i8).toNat) 0 ⟨by omega, by omega, by omega, (by first | exact FSI.beg rw1), trivial⟩ rfl (fun i8 Wi8 hp790 ih789 => ?_)
  obtain ⟨l_i8, u_i8, n_i8, hfs, -⟩ := hp790
  have r_i8 : ir i8 := ⟨by omega, by omega⟩
  show GO mX5_factors_4 K V (VS K (fun V1 => (vi V1 x 4 = vi V x 4 ∧ (vi V x 5 ≠ 0 → vi V1 x 5 ≠ 0)) ∧ (CR K V V1 x (fun src e => facsG src e (facD src e (vi V x 4).toNat))))) K Wi8 0 0 6 [some (.ref x), some (ti i8), none] []
  refine GO.useWT (fun hWh => ?_)
  refine GO.iload_n dX5_factors_6 rfl rfl ?_
  refine GO.sipush dX5_factors_7 rfl ?_
  refine GO.icmp_ge (tgt := 91) dX5_factors_10 (by decide) r_i8 (ir_c rfl) (fun c791 => ?_) (fun c791 => ?_)
  ·
    have q792 : -2147483648 ≤ vi Wi8 x 4 ∧ vi Wi8 x 4 ≤ 2147483647 := vi_ir
    have q793 : -2147483648 ≤ vi Wi8 x 5 ∧ vi Wi8 x 5 ≤ 2147483647 := vi_ir
    exact GO.retv rfl rfl dX5_factors_91 ⟨rfl, rfl, ⟨by omega, FSI.end hfs (by omega) (by omega)⟩⟩
  ·
    refine GO.aload_n dX5_factors_13 rfl rfl ?_
    refine GO.getI h_x fl_RX5_18 rfl rfl dX5_factors_14 (fun _ _ => ?_)
    refine GO.if_ne (tgt := 91) dX5_factors_17 (by decide) vi_ir (fun c794 => ?_) (fun c794 => ?_)
    ·
      have q795 : -2147483648 ≤ vi Wi8 x 4 ∧ vi Wi8 x 4 ≤ 2147483647 := vi_ir
      have q796 : -2147483648 ≤ vi Wi8 x 5 ∧ vi Wi8 x 5 ≤ 2147483647 := vi_ir
      exact GO.retv rfl rfl dX5_factors_91 ⟨rfl, rfl, ⟨by omega, FSI.end hfs (by omega) (by omega)⟩⟩
    ·
      refine GO.aload_n dX5_factors_20 rfl rfl ?_
      refine GO.callV (ci := 4) (N := mX5_next) dX5_factors_21 (RX5, TX5, 7) rfl gV_RX5_61 h_x (t_X5_next h_x) rfl [] rfl rfl (Nat.le_of_ble_eq_true rfl) rfl (k_ip fun X797 r798 h799 => ?_)
      refine GO.callS (N := mX5_isFactorSign) dX5_factors_24 gS_RX5_114 (t_X5_isFactorSign r798) rfl [] rfl rfl (Nat.le_of_ble_eq_true rfl) rfl (k_ip fun X800 r801 h802 => ?_)
      refine GO.if_eq (tgt := 91) dX5_factors_27 (by decide) r801 (fun c803 => ?_) (fun c803 => ?_)
      ·
        have q804 := h802.2.2 (by omega)
        have q805 : -2147483648 ≤ vi Wi8 x 4 ∧ vi Wi8 x 4 ≤ 2147483647 := vi_ir
        have q806 : -2147483648 ≤ vi Wi8 x 5 ∧ vi Wi8 x 5 ≤ 2147483647 := vi_ir
        exact GO.retv rfl rfl dX5_factors_91 ⟨rfl, rfl, ⟨by omega, FSI.end hfs (by omega) (by omega)⟩⟩
      ·
        have q807 := h802.2.1 (by omega)
        refine GO.aload_n dX5_factors_30 rfl rfl ?_
        refine GO.callV (ci := 4) (N := mX5_next) dX5_factors_31 (RX5, TX5, 7) rfl gV_RX5_61 h_x (t_X5_next h_x) rfl [] rfl rfl (Nat.le_of_ble_eq_true rfl) rfl (k_ip fun X808 r809 h810 => ?_)
        refine GO.bipush dX5_factors_34 rfl ?_
        refine GO.icmp_ne (tgt := 44) dX5_factors_36 (by decide) r809 (ir_c rfl) (fun c811 => ?_) (fun c811 => ?_)
        ·
          refine GO.aload_n dX5_factors_44 rfl rfl ?_
          refine GO.callV (ci := 4) (N := mX5_next) dX5_factors_45 (RX5, TX5, 7) rfl gV_RX5_61 h_x (t_X5_next h_x) rfl [] rfl rfl (Nat.le_of_ble_eq_true rfl) rfl (k_ip fun X812 r813 h814 => ?_)
          refine GO.bipush dX5_factors_48 rfl ?_
          refine GO.icmp_ne (tgt := 58) dX5_factors_50 (by decide) r813 (ir_c rfl) (fun c815 => ?_) (fun c815 => ?_)
          ·
            refine GO.bipush dX5_factors_58 rfl ?_
            refine GO.istore_n (ls1 := [some (.ref x), some (ti i8), some (ti 9)]) dX5_factors_60 rfl rfl rfl ?_
            refine GO.aload_n dX5_factors_61 rfl rfl ?_
            refine GO.dup dX5_factors_62 rfl ?_
            refine GO.getI h_x fl_RX5_9 rfl rfl dX5_factors_63 (fun _ _ => ?_)
            refine GO.iconst dX5_factors_66 ?_
            refine GO.iadd dX5_factors_67 ?_
            refine GO.norm (fun z816 r817 hn818 => ?_)
            refine GO.putI h_x fp_RX5_9 rfl (by decide +kernel) r817 (r817).1 (r817).2 dX5_factors_68 (fun V820 e819 => ?_)
            refine GO.aload_n dX5_factors_71 rfl rfl ?_
            have e821 : vi V820 x 5 = vi Wi8 x 5 := vi_up e819 (Or.inr (by decide))
            have e822 : vi V820 x 4 = vi Wi8 x 4 := vi_up e819 (Or.inr (by decide))
            have q823 : -2147483648 ≤ vi Wi8 x 4 ∧ vi Wi8 x 4 ≤ 2147483647 := vi_ir
            have q824 : -2147483648 ≤ vi Wi8 x 5 ∧ vi Wi8 x 5 ≤ 2147483647 := vi_ir
            refine GO.callV (ci := 4) (N := mX5_factor_4) dX5_factors_72 (RX5, TX5, 7) rfl gV_RX5_111 h_x (t_X5_factor_4 h_x (by omega)) rfl [] rfl rfl (Nat.le_of_ble_eq_true rfl) rfl (k_vs fun V827 h826 hF825 => ?_)
            have raw_factor := h826.2
            have rw72 := h826.2
            refine GO.useWT (fun hWs => ?_)
            refine GO.aload_n dX5_factors_75 rfl rfl ?_
            refine GO.getR h_x fl_RX5_31 rfl rfl dX5_factors_76 (fun hv831 h830 => ?_)
            refine GO.iload_n dX5_factors_79 rfl rfl ?_
            refine GO.iconst dX5_factors_80 ?_
            refine GO.callV (ci := 8) (N := mX9_addStep) dX5_factors_81 (RX9, TX9, 5) rfl gV_RX5_92 h830 (t_X9_addStep h830 (ir_c rfl) (ir_c rfl)) rfl [] rfl rfl (Nat.le_of_ble_eq_true rfl) rfl (k_is fun X832 V836 r833 h834 hF835 => ?_)
            have raw_addStep := h834.2
            have rw81 := h834.2
            refine GO.pop dX5_factors_84 rfl ?_
            refine GO.iinc (X := i8) (n := 1) (Y := i8 + 1) (ls1 := [some (.ref x), some (ti (i8 + 1)), some (ti 9)]) dX5_factors_85 rfl rfl rfl rfl ?_
            refine GO.goto (tgt := 6) dX5_factors_88 (by decide) ?_
            refine GO.drop [true, true, false] rfl ?_
            have e837 : vi V836 x 4 = vi V827 x 4 := vi_fr hF835 h_x h_x (by decide +kernel)
            have q838 : -2147483648 ≤ vi V827 x 4 ∧ vi V827 x 4 ≤ 2147483647 := vi_ir
            have e839 : vi V836 x 5 = vi V827 x 5 := vi_fr hF835 h_x h_x (by decide +kernel)
            have q840 : -2147483648 ≤ vi V827 x 5 ∧ vi V827 x 5 ≤ 2147483647 := vi_ir
            exact ih789 (i8 + 1) V836 ⟨by omega, by omega, by omega, (by first | exact FSI.beg rw1 | exact FSI.step hfs (by omega) (by omega) rfl (by omega) h_x hWh hWs (by assumption) (by assumption) (by assumption) (CR.fac rw72 (by omega)) rw81), trivial⟩ (by show (2147483647 - (i8 + 1)).toNat < (2147483647 - i8).toNat; omega)
          ·
            refine GO.bipush dX5_factors_53 rfl ?_
            refine GO.goto (tgt := 60) dX5_factors_55 (by decide) ?_
            refine GO.istore_n (ls1 := [some (.ref x), some (ti i8), some (ti 8)]) dX5_factors_60 rfl rfl rfl ?_
            refine GO.aload_n dX5_factors_61 rfl rfl ?_
            refine GO.dup dX5_factors_62 rfl ?_
            refine GO.getI h_x fl_RX5_9 rfl rfl dX5_factors_63 (fun _ _ => ?_)
            refine GO.iconst dX5_factors_66 ?_
            refine GO.iadd dX5_factors_67 ?_
            refine GO.norm (fun z841 r842 hn843 => ?_)
            refine GO.putI h_x fp_RX5_9 rfl (by decide +kernel) r842 (r842).1 (r842).2 dX5_factors_68 (fun V845 e844 => ?_)
            refine GO.aload_n dX5_factors_71 rfl rfl ?_
            have e846 : vi V845 x 5 = vi Wi8 x 5 := vi_up e844 (Or.inr (by decide))
            have e847 : vi V845 x 4 = vi Wi8 x 4 := vi_up e844 (Or.inr (by decide))
            have q848 : -2147483648 ≤ vi Wi8 x 4 ∧ vi Wi8 x 4 ≤ 2147483647 := vi_ir
            have q849 : -2147483648 ≤ vi Wi8 x 5 ∧ vi Wi8 x 5 ≤ 2147483647 := vi_ir
            refine GO.callV (ci := 4) (N := mX5_factor_4) dX5_factors_72 (RX5, TX5, 7) rfl gV_RX5_111 h_x (t_X5_factor_4 h_x (by omega)) rfl [] rfl rfl (Nat.le_of_ble_eq_true rfl) rfl (k_vs fun V852 h851 hF850 => ?_)
            have raw_factor := h851.2
            have rw72 := h851.2
            refine GO.useWT (fun hWs => ?_)
            refine GO.aload_n dX5_factors_75 rfl rfl ?_
            refine GO.getR h_x fl_RX5_31 rfl rfl dX5_factors_76 (fun hv856 h855 => ?_)
            refine GO.iload_n dX5_factors_79 rfl rfl ?_
            refine GO.iconst dX5_factors_80 ?_
            refine GO.callV (ci := 8) (N := mX9_addStep) dX5_factors_81 (RX9, TX9, 5) rfl gV_RX5_92 h855 (t_X9_addStep h855 (ir_c rfl) (ir_c rfl)) rfl [] rfl rfl (Nat.le_of_ble_eq_true rfl) rfl (k_is fun X857 V861 r858 h859 hF860 => ?_)
            have raw_addStep := h859.2
            have rw81 := h859.2
            refine GO.pop dX5_factors_84 rfl ?_
            refine GO.iinc (X := i8) (n := 1) (Y := i8 + 1) (ls1 := [some (.ref x), some (ti (i8 + 1)), some (ti 8)]) dX5_factors_85 rfl rfl rfl rfl ?_
            refine GO.goto (tgt := 6) dX5_factors_88 (by decide) ?_
            refine GO.drop [true, true, false] rfl ?_
            have e862 : vi V861 x 4 = vi V852 x 4 := vi_fr hF860 h_x h_x (by decide +kernel)
            have q863 : -2147483648 ≤ vi V852 x 4 ∧ vi V852 x 4 ≤ 2147483647 := vi_ir
            have e864 : vi V861 x 5 = vi V852 x 5 := vi_fr hF860 h_x h_x (by decide +kernel)
            have q865 : -2147483648 ≤ vi V852 x 5 ∧ vi V852 x 5 ≤ 2147483647 := vi_ir
            exact ih789 (i8 + 1) V861 ⟨by omega, by omega, by omega, (by first | exact FSI.beg rw1 | exact FSI.step hfs (by omega) (by omega) rfl (by omega) h_x hWh hWs (by assumption) (by assumption) (by assumption) (CR.fac rw72 (by omega)) rw81), trivial⟩ (by show (2147483647 - (i8 + 1)).toNat < (2147483647 - i8).toNat; omega)
        ·
          refine GO.bipush dX5_factors_39 rfl ?_
          refine GO.goto (tgt := 60) dX5_factors_41 (by decide) ?_
          refine GO.istore_n (ls1 := [some (.ref x), some (ti i8), some (ti 7)]) dX5_factors_60 rfl rfl rfl ?_
          refine GO.aload_n dX5_factors_61 rfl rfl ?_
          refine GO.dup dX5_factors_62 rfl ?_
          refine GO.getI h_x fl_RX5_9 rfl rfl dX5_factors_63 (fun _ _ => ?_)
          refine GO.iconst dX5_factors_66 ?_
          refine GO.iadd dX5_factors_67 ?_
          refine GO.norm (fun z866 r867 hn868 => ?_)
          refine GO.putI h_x fp_RX5_9 rfl (by decide +kernel) r867 (r867).1 (r867).2 dX5_factors_68 (fun V870 e869 => ?_)
          refine GO.aload_n dX5_factors_71 rfl rfl ?_
          have e871 : vi V870 x 5 = vi Wi8 x 5 := vi_up e869 (Or.inr (by decide))
          have e872 : vi V870 x 4 = vi Wi8 x 4 := vi_up e869 (Or.inr (by decide))
          have q873 : -2147483648 ≤ vi Wi8 x 4 ∧ vi Wi8 x 4 ≤ 2147483647 := vi_ir
          have q874 : -2147483648 ≤ vi Wi8 x 5 ∧ vi Wi8 x 5 ≤ 2147483647 := vi_ir
          refine GO.callV (ci := 4) (N := mX5_factor_4) dX5_factors_72 (RX5, TX5, 7) rfl gV_RX5_111 h_x (t_X5_factor_4 h_x (by omega)) rfl [] rfl rfl (Nat.le_of_ble_eq_true rfl) rfl (k_vs fun V877 h876 hF875 => ?_)
          have raw_factor := h876.2
          have rw72 := h876.2
          refine GO.useWT (fun hWs => ?_)
          refine GO.aload_n dX5_factors_75 rfl rfl ?_
          refine GO.getR h_x fl_RX5_31 rfl rfl dX5_factors_76 (fun hv881 h880 => ?_)
          refine GO.iload_n dX5_factors_79 rfl rfl ?_
          refine GO.iconst dX5_factors_80 ?_
          refine GO.callV (ci := 8) (N := mX9_addStep) dX5_factors_81 (RX9, TX9, 5) rfl gV_RX5_92 h880 (t_X9_addStep h880 (ir_c rfl) (ir_c rfl)) rfl [] rfl rfl (Nat.le_of_ble_eq_true rfl) rfl (k_is fun X882 V886 r883 h884 hF885 => ?_)
          have raw_addStep := h884.2
          have rw81 := h884.2
          refine GO.pop dX5_factors_84 rfl ?_
          refine GO.iinc (X := i8) (n := 1) (Y := i8 + 1) (ls1 := [some (.ref x), some (ti (i8 + 1)), some (ti 7)]) dX5_factors_85 rfl rfl rfl rfl ?_
          refine GO.goto (tgt := 6) dX5_factors_88 (by decide) ?_
          refine GO.drop [true, true, false] rfl ?_
          have e887 : vi V886 x 4 = vi V877 x 4 := vi_fr hF885 h_x h_x (by decide +kernel)
          have q888 : -2147483648 ≤ vi V877 x 4 ∧ vi V877 x 4 ≤ 2147483647 := vi_ir
          have e889 : vi V886 x 5 = vi V877 x 5 := vi_fr hF885 h_x h_x (by decide +kernel)
          have q890 : -2147483648 ≤ vi V877 x 5 ∧ vi V877 x 5 ≤ 2147483647 := vi_ir
          exact ih789 (i8 + 1) V886 ⟨by omega, by omega, by omega, (by first | exact FSI.beg rw1 | exact FSI.step hfs (by omega) (by omega) rfl (by omega) h_x hWh hWs (by assumption) (by assumption) (by assumption) (CR.fac rw72 (by omega)) rw81), trivial⟩ (by show (2147483647 - (i8 + 1)).toNat < (2147483647 - i8).toNat; omega)

theorem t_X5_factors_4 {K : Kmap} {V : Vmap} {x : Nat} (h_x : K x = some (0, 4)) (q_0 : (vi V x 5 ≠ 0 ∨ (vi V x 5 = 0 ∧ vi V x 4 ≥ 5 ∧ vi V x 4 ≤ 8))) : MC mX5_factors_4 K V [.ref x] (VS K (fun V1 => (vi V1 x 4 = vi V x 4 ∧ (vi V x 5 ≠ 0 → vi V1 x 5 ≠ 0)) ∧ (CR K V V1 x (fun src e => facsG src e (facD src e (vi V x 4).toNat))))) := by
  rcases q_0 with h | h
  · exact t_X5_factors_4_F h_x (by omega)
  · exact t_X5_factors_4_G h_x (by omega) (by omega) (by omega)

set_option maxHeartbeats 1000000 in
theorem t_X5_terms_4_F {K : Kmap} {V : Vmap} {x : Nat} (h_x : K x = some (0, 4)) (q_0 : vi V x 5 ≠ 0) : MC mX5_terms_4 K V [.ref x] (VS K (fun V1 => (vi V1 x 4 = vi V x 4 ∧ (vi V x 5 ≠ 0 → vi V1 x 5 ≠ 0)) ∧ (CR K V V1 x (fun src e => terD src e (vi V x 4).toNat)))) := by
  refine MC.start 2 (by decide +kernel) rfl rfl rfl (ls0 := [some (.ref x), none, none]) rfl ?_
  refine GO.useWT (fun hW_0 => ?_)
  refine GO.aload_n dX5_terms_0 rfl rfl ?_
  have q1 : -2147483648 ≤ vi V x 4 ∧ vi V x 4 ≤ 2147483647 := vi_ir
  have q2 : -2147483648 ≤ vi V x 5 ∧ vi V x 5 ≤ 2147483647 := vi_ir
  refine GO.callV (ci := 4) (N := mX5_factors_4) dX5_terms_1 (RX5, TX5, 7) rfl gV_RX5_108 h_x (t_X5_factors_4 h_x (by omega)) rfl [] rfl rfl (Nat.le_of_ble_eq_true rfl) rfl (k_vs fun V5 h4 hF3 => ?_)
  have raw_factors := h4.2
  have rw1 := h4.2
  refine GO.iconst dX5_terms_4 ?_
  refine GO.istore_n (ls1 := [some (.ref x), some (ti 0), none]) dX5_terms_5 rfl rfl rfl ?_
  have q9 : -2147483648 ≤ vi V5 x 4 ∧ vi V5 x 4 ≤ 2147483647 := vi_ir
  have q10 : -2147483648 ≤ vi V5 x 5 ∧ vi V5 x 5 ≤ 2147483647 := vi_ir
  refine GO.loop1 (fun i8 W => 0 ≤ i8 ∧ i8 ≤ 0 ∧ (vi W x 4 = vi V5 x 4 ∧ (vi V5 x 5 ≠ 0 → vi W x 5 ≠ 0)) ∧ (TSI K V W x (vi V x 4).toNat i8) ∧ True) (fun i8 => [some (.ref x), some (ti i8), none]) (fun i8 W => (2147483647 - i8).toNat) 0 ⟨by omega, by omega, by omega, (by first | exact TSI.beg rw1 (by omega) | exact TSI.bad rw1 (by omega)), trivial⟩ rfl (fun i8 Wi8 hp16 ih15 => ?_)
  obtain ⟨l_i8, u_i8, n_i8, hts, -⟩ := hp16
  have r_i8 : ir i8 := ⟨by omega, by omega⟩
  show GO mX5_terms_4 K V (VS K (fun V1 => (vi V1 x 4 = vi V x 4 ∧ (vi V x 5 ≠ 0 → vi V1 x 5 ≠ 0)) ∧ (CR K V V1 x (fun src e => terD src e (vi V x 4).toNat)))) K Wi8 0 0 6 [some (.ref x), some (ti i8), none] []
  refine GO.useWT (fun hWh => ?_)
  refine GO.iload_n dX5_terms_6 rfl rfl ?_
  refine GO.sipush dX5_terms_7 rfl ?_
  refine GO.icmp_ge (tgt := 84) dX5_terms_10 (by decide) r_i8 (ir_c rfl) (fun h => by exfalso; omega) (fun c17 => ?_)
  refine GO.aload_n dX5_terms_13 rfl rfl ?_
  refine GO.getI h_x fl_RX5_18 rfl rfl dX5_terms_14 (fun _ _ => ?_)
  have q19 : -2147483648 ≤ vi Wi8 x 5 ∧ vi Wi8 x 5 ≤ 2147483647 := vi_ir
  refine GO.if_ne (tgt := 84) dX5_terms_17 (by decide) vi_ir (fun c18 => ?_) (fun h => by exfalso; omega)
  have q20 : -2147483648 ≤ vi Wi8 x 4 ∧ vi Wi8 x 4 ≤ 2147483647 := vi_ir
  exact GO.retv rfl rfl dX5_terms_84 ⟨rfl, rfl, ⟨by omega, TSI.end hts (by omega) (by omega)⟩⟩

set_option maxHeartbeats 1000000 in
theorem t_X5_terms_4_G {K : Kmap} {V : Vmap} {x : Nat} (h_x : K x = some (0, 4)) (q_0 : vi V x 5 = 0) (q_1 : vi V x 4 ≥ 5) (q_2 : vi V x 4 ≤ 8) : MC mX5_terms_4 K V [.ref x] (VS K (fun V1 => (vi V1 x 4 = vi V x 4 ∧ (vi V x 5 ≠ 0 → vi V1 x 5 ≠ 0)) ∧ (CR K V V1 x (fun src e => terD src e (vi V x 4).toNat)))) := by
  refine MC.start 2 (by decide +kernel) rfl rfl rfl (ls0 := [some (.ref x), none, none]) rfl ?_
  refine GO.useWT (fun hW_0 => ?_)
  refine GO.aload_n dX5_terms_0 rfl rfl ?_
  have q1 : -2147483648 ≤ vi V x 4 ∧ vi V x 4 ≤ 2147483647 := vi_ir
  have q2 : -2147483648 ≤ vi V x 5 ∧ vi V x 5 ≤ 2147483647 := vi_ir
  refine GO.callV (ci := 4) (N := mX5_factors_4) dX5_terms_1 (RX5, TX5, 7) rfl gV_RX5_108 h_x (t_X5_factors_4 h_x (by omega)) rfl [] rfl rfl (Nat.le_of_ble_eq_true rfl) rfl (k_vs fun V5 h4 hF3 => ?_)
  have raw_factors := h4.2
  have rw1 := h4.2
  refine GO.iconst dX5_terms_4 ?_
  refine GO.istore_n (ls1 := [some (.ref x), some (ti 0), none]) dX5_terms_5 rfl rfl rfl ?_
  have q9 : -2147483648 ≤ vi V5 x 4 ∧ vi V5 x 4 ≤ 2147483647 := vi_ir
  have q10 : -2147483648 ≤ vi V5 x 5 ∧ vi V5 x 5 ≤ 2147483647 := vi_ir
  refine GO.loop1 (fun i8 W => 0 ≤ i8 ∧ i8 ≤ 200 ∧ (vi W x 4 = vi V5 x 4 ∧ (vi V5 x 5 ≠ 0 → vi W x 5 ≠ 0)) ∧ (TSI K V W x (vi V x 4).toNat i8) ∧ True) (fun i8 => [some (.ref x), some (ti i8), none]) (fun i8 W => (2147483647 - i8).toNat) 0 ⟨by omega, by omega, by omega, (by first | exact TSI.beg rw1 (by omega) | exact TSI.bad rw1 (by omega)), trivial⟩ rfl (fun i8 Wi8 hp592 ih591 => ?_)
  obtain ⟨l_i8, u_i8, n_i8, hts, -⟩ := hp592
  have r_i8 : ir i8 := ⟨by omega, by omega⟩
  show GO mX5_terms_4 K V (VS K (fun V1 => (vi V1 x 4 = vi V x 4 ∧ (vi V x 5 ≠ 0 → vi V1 x 5 ≠ 0)) ∧ (CR K V V1 x (fun src e => terD src e (vi V x 4).toNat)))) K Wi8 0 0 6 [some (.ref x), some (ti i8), none] []
  refine GO.useWT (fun hWh => ?_)
  refine GO.iload_n dX5_terms_6 rfl rfl ?_
  refine GO.sipush dX5_terms_7 rfl ?_
  refine GO.icmp_ge (tgt := 84) dX5_terms_10 (by decide) r_i8 (ir_c rfl) (fun c593 => ?_) (fun c593 => ?_)
  ·
    have q594 : -2147483648 ≤ vi Wi8 x 4 ∧ vi Wi8 x 4 ≤ 2147483647 := vi_ir
    have q595 : -2147483648 ≤ vi Wi8 x 5 ∧ vi Wi8 x 5 ≤ 2147483647 := vi_ir
    exact GO.retv rfl rfl dX5_terms_84 ⟨rfl, rfl, ⟨by omega, TSI.end hts (by omega) (by omega)⟩⟩
  ·
    refine GO.aload_n dX5_terms_13 rfl rfl ?_
    refine GO.getI h_x fl_RX5_18 rfl rfl dX5_terms_14 (fun _ _ => ?_)
    refine GO.if_ne (tgt := 84) dX5_terms_17 (by decide) vi_ir (fun c596 => ?_) (fun c596 => ?_)
    ·
      have q597 : -2147483648 ≤ vi Wi8 x 4 ∧ vi Wi8 x 4 ≤ 2147483647 := vi_ir
      have q598 : -2147483648 ≤ vi Wi8 x 5 ∧ vi Wi8 x 5 ≤ 2147483647 := vi_ir
      exact GO.retv rfl rfl dX5_terms_84 ⟨rfl, rfl, ⟨by omega, TSI.end hts (by omega) (by omega)⟩⟩
    ·
      refine GO.aload_n dX5_terms_20 rfl rfl ?_
      refine GO.callV (ci := 4) (N := mX5_next) dX5_terms_21 (RX5, TX5, 7) rfl gV_RX5_61 h_x (t_X5_next h_x) rfl [] rfl rfl (Nat.le_of_ble_eq_true rfl) rfl (k_ip fun X599 r600 h601 => ?_)
      refine GO.bipush dX5_terms_24 rfl ?_
      refine GO.icmp_eq (tgt := 38) dX5_terms_26 (by decide) r600 (ir_c rfl) (fun c602 => ?_) (fun c602 => ?_)
      ·
        refine GO.aload_n dX5_terms_38 rfl rfl ?_
        refine GO.callV (ci := 4) (N := mX5_next) dX5_terms_39 (RX5, TX5, 7) rfl gV_RX5_61 h_x (t_X5_next h_x) rfl [] rfl rfl (Nat.le_of_ble_eq_true rfl) rfl (k_ip fun X603 r604 h605 => ?_)
        refine GO.bipush dX5_terms_42 rfl ?_
        refine GO.icmp_ne (tgt := 51) dX5_terms_44 (by decide) r604 (ir_c rfl) (fun h => by exfalso; omega) (fun c606 => ?_)
        refine GO.iconst dX5_terms_47 ?_
        refine GO.goto (tgt := 53) dX5_terms_48 (by decide) ?_
        refine GO.istore_n (ls1 := [some (.ref x), some (ti i8), some (ti 5)]) dX5_terms_53 rfl rfl rfl ?_
        refine GO.aload_n dX5_terms_54 rfl rfl ?_
        refine GO.dup dX5_terms_55 rfl ?_
        refine GO.getI h_x fl_RX5_9 rfl rfl dX5_terms_56 (fun _ _ => ?_)
        refine GO.iconst dX5_terms_59 ?_
        refine GO.iadd dX5_terms_60 ?_
        refine GO.norm (fun z607 r608 hn609 => ?_)
        refine GO.putI h_x fp_RX5_9 rfl (by decide +kernel) r608 (r608).1 (r608).2 dX5_terms_61 (fun V611 e610 => ?_)
        refine GO.aload_n dX5_terms_64 rfl rfl ?_
        have e612 : vi V611 x 5 = vi Wi8 x 5 := vi_up e610 (Or.inr (by decide))
        have e613 : vi V611 x 4 = vi Wi8 x 4 := vi_up e610 (Or.inr (by decide))
        have q614 : -2147483648 ≤ vi Wi8 x 4 ∧ vi Wi8 x 4 ≤ 2147483647 := vi_ir
        have q615 : -2147483648 ≤ vi Wi8 x 5 ∧ vi Wi8 x 5 ≤ 2147483647 := vi_ir
        refine GO.callV (ci := 4) (N := mX5_factors_4) dX5_terms_65 (RX5, TX5, 7) rfl gV_RX5_108 h_x (t_X5_factors_4 h_x (by omega)) rfl [] rfl rfl (Nat.le_of_ble_eq_true rfl) rfl (k_vs fun V618 h617 hF616 => ?_)
        have raw_factors := h617.2
        have rw65 := h617.2
        refine GO.useWT (fun hWs => ?_)
        refine GO.aload_n dX5_terms_68 rfl rfl ?_
        refine GO.getR h_x fl_RX5_31 rfl rfl dX5_terms_69 (fun hv622 h621 => ?_)
        refine GO.iload_n dX5_terms_72 rfl rfl ?_
        refine GO.iconst dX5_terms_73 ?_
        refine GO.callV (ci := 8) (N := mX9_addStep) dX5_terms_74 (RX9, TX9, 5) rfl gV_RX5_92 h621 (t_X9_addStep h621 (ir_c rfl) (ir_c rfl)) rfl [] rfl rfl (Nat.le_of_ble_eq_true rfl) rfl (k_is fun X623 V627 r624 h625 hF626 => ?_)
        have raw_addStep := h625.2
        have rw74 := h625.2
        refine GO.pop dX5_terms_77 rfl ?_
        refine GO.iinc (X := i8) (n := 1) (Y := i8 + 1) (ls1 := [some (.ref x), some (ti (i8 + 1)), some (ti 5)]) dX5_terms_78 rfl rfl rfl rfl ?_
        refine GO.goto (tgt := 6) dX5_terms_81 (by decide) ?_
        refine GO.drop [true, true, false] rfl ?_
        have e628 : vi V627 x 4 = vi V618 x 4 := vi_fr hF626 h_x h_x (by decide +kernel)
        have q629 : -2147483648 ≤ vi V618 x 4 ∧ vi V618 x 4 ≤ 2147483647 := vi_ir
        have e630 : vi V627 x 5 = vi V618 x 5 := vi_fr hF626 h_x h_x (by decide +kernel)
        have q631 : -2147483648 ≤ vi V618 x 5 ∧ vi V618 x 5 ≤ 2147483647 := vi_ir
        exact ih591 (i8 + 1) V627 ⟨by omega, by omega, by omega, (by first | exact TSI.beg rw1 (by omega) | exact TSI.bad rw1 (by omega) | exact TSI.step hts (by omega) (by omega) rfl (by omega) h_x hWh hWs (by assumption) (by assumption) (by assumption) (CR.facs rw65 (by omega)) rw74), trivial⟩ (by show (2147483647 - (i8 + 1)).toNat < (2147483647 - i8).toNat; omega)
      ·
        refine GO.aload_n dX5_terms_29 rfl rfl ?_
        refine GO.callV (ci := 4) (N := mX5_next) dX5_terms_30 (RX5, TX5, 7) rfl gV_RX5_61 h_x (t_X5_next h_x) rfl [] rfl rfl (Nat.le_of_ble_eq_true rfl) rfl (k_ip fun X632 r633 h634 => ?_)
        refine GO.bipush dX5_terms_33 rfl ?_
        refine GO.icmp_ne (tgt := 84) dX5_terms_35 (by decide) r633 (ir_c rfl) (fun c635 => ?_) (fun c635 => ?_)
        ·
          have q636 : -2147483648 ≤ vi Wi8 x 4 ∧ vi Wi8 x 4 ≤ 2147483647 := vi_ir
          have q637 : -2147483648 ≤ vi Wi8 x 5 ∧ vi Wi8 x 5 ≤ 2147483647 := vi_ir
          exact GO.retv rfl rfl dX5_terms_84 ⟨rfl, rfl, ⟨by omega, TSI.end hts (by omega) (by omega)⟩⟩
        ·
          refine GO.aload_n dX5_terms_38 rfl rfl ?_
          refine GO.callV (ci := 4) (N := mX5_next) dX5_terms_39 (RX5, TX5, 7) rfl gV_RX5_61 h_x (t_X5_next h_x) rfl [] rfl rfl (Nat.le_of_ble_eq_true rfl) rfl (k_ip fun X638 r639 h640 => ?_)
          refine GO.bipush dX5_terms_42 rfl ?_
          refine GO.icmp_ne (tgt := 51) dX5_terms_44 (by decide) r639 (ir_c rfl) (fun c641 => ?_) (fun h => by exfalso; omega)
          refine GO.bipush dX5_terms_51 rfl ?_
          refine GO.istore_n (ls1 := [some (.ref x), some (ti i8), some (ti 6)]) dX5_terms_53 rfl rfl rfl ?_
          refine GO.aload_n dX5_terms_54 rfl rfl ?_
          refine GO.dup dX5_terms_55 rfl ?_
          refine GO.getI h_x fl_RX5_9 rfl rfl dX5_terms_56 (fun _ _ => ?_)
          refine GO.iconst dX5_terms_59 ?_
          refine GO.iadd dX5_terms_60 ?_
          refine GO.norm (fun z642 r643 hn644 => ?_)
          refine GO.putI h_x fp_RX5_9 rfl (by decide +kernel) r643 (r643).1 (r643).2 dX5_terms_61 (fun V646 e645 => ?_)
          refine GO.aload_n dX5_terms_64 rfl rfl ?_
          have e647 : vi V646 x 5 = vi Wi8 x 5 := vi_up e645 (Or.inr (by decide))
          have e648 : vi V646 x 4 = vi Wi8 x 4 := vi_up e645 (Or.inr (by decide))
          have q649 : -2147483648 ≤ vi Wi8 x 4 ∧ vi Wi8 x 4 ≤ 2147483647 := vi_ir
          have q650 : -2147483648 ≤ vi Wi8 x 5 ∧ vi Wi8 x 5 ≤ 2147483647 := vi_ir
          refine GO.callV (ci := 4) (N := mX5_factors_4) dX5_terms_65 (RX5, TX5, 7) rfl gV_RX5_108 h_x (t_X5_factors_4 h_x (by omega)) rfl [] rfl rfl (Nat.le_of_ble_eq_true rfl) rfl (k_vs fun V653 h652 hF651 => ?_)
          have raw_factors := h652.2
          have rw65 := h652.2
          refine GO.useWT (fun hWs => ?_)
          refine GO.aload_n dX5_terms_68 rfl rfl ?_
          refine GO.getR h_x fl_RX5_31 rfl rfl dX5_terms_69 (fun hv657 h656 => ?_)
          refine GO.iload_n dX5_terms_72 rfl rfl ?_
          refine GO.iconst dX5_terms_73 ?_
          refine GO.callV (ci := 8) (N := mX9_addStep) dX5_terms_74 (RX9, TX9, 5) rfl gV_RX5_92 h656 (t_X9_addStep h656 (ir_c rfl) (ir_c rfl)) rfl [] rfl rfl (Nat.le_of_ble_eq_true rfl) rfl (k_is fun X658 V662 r659 h660 hF661 => ?_)
          have raw_addStep := h660.2
          have rw74 := h660.2
          refine GO.pop dX5_terms_77 rfl ?_
          refine GO.iinc (X := i8) (n := 1) (Y := i8 + 1) (ls1 := [some (.ref x), some (ti (i8 + 1)), some (ti 6)]) dX5_terms_78 rfl rfl rfl rfl ?_
          refine GO.goto (tgt := 6) dX5_terms_81 (by decide) ?_
          refine GO.drop [true, true, false] rfl ?_
          have e663 : vi V662 x 4 = vi V653 x 4 := vi_fr hF661 h_x h_x (by decide +kernel)
          have q664 : -2147483648 ≤ vi V653 x 4 ∧ vi V653 x 4 ≤ 2147483647 := vi_ir
          have e665 : vi V662 x 5 = vi V653 x 5 := vi_fr hF661 h_x h_x (by decide +kernel)
          have q666 : -2147483648 ≤ vi V653 x 5 ∧ vi V653 x 5 ≤ 2147483647 := vi_ir
          exact ih591 (i8 + 1) V662 ⟨by omega, by omega, by omega, (by first | exact TSI.beg rw1 (by omega) | exact TSI.bad rw1 (by omega) | exact TSI.step hts (by omega) (by omega) rfl (by omega) h_x hWh hWs (by assumption) (by assumption) (by assumption) (CR.facs rw65 (by omega)) rw74), trivial⟩ (by show (2147483647 - (i8 + 1)).toNat < (2147483647 - i8).toNat; omega)

theorem t_X5_terms_4 {K : Kmap} {V : Vmap} {x : Nat} (h_x : K x = some (0, 4)) (q_0 : (vi V x 5 ≠ 0 ∨ (vi V x 5 = 0 ∧ vi V x 4 ≥ 5 ∧ vi V x 4 ≤ 8))) : MC mX5_terms_4 K V [.ref x] (VS K (fun V1 => (vi V1 x 4 = vi V x 4 ∧ (vi V x 5 ≠ 0 → vi V1 x 5 ≠ 0)) ∧ (CR K V V1 x (fun src e => terD src e (vi V x 4).toNat)))) := by
  rcases q_0 with h | h
  · exact t_X5_terms_4_F h_x (by omega)
  · exact t_X5_terms_4_G h_x (by omega) (by omega) (by omega)
