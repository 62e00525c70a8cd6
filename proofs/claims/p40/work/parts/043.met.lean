def mX5_part_8 : MRec := (RX5, cX5_part, 3, (none : Option Jvm.ClassFile.FieldType), yX5_part, 31, 750, 0, 0, 3794275180128377091639574036764685364535950857523710002454617519345102964041711616)
def mX5_parts_8 : MRec := (RX5, cX5_parts, 3, (none : Option Jvm.ClassFile.FieldType), yX5_parts, 32, 772, 0, 0, 3794275180128377091639574036764685364535950857523710002454617519345102964041711616)
def mX5_condition : MRec := (RX5, cX5_condition, 1, (none : Option Jvm.ClassFile.FieldType), yX5_condition, 33, 794, 0, 0, 3794275180128377091639574036764685364535950857523710002454617519345102964041711616)
def mX5_clause : MRec := (RX5, cX5_clause, 2, (none : Option Jvm.ClassFile.FieldType), yX5_clause, 34, 814, 0, 0, 3794275180128377091639574036764685364535950857523710002454919750800006621335388160)
def mX5_writeText : MRec := (RX5, cX5_writeText, 2, (none : Option Jvm.ClassFile.FieldType), yX5_writeText, 35, 835, 0, 0, 3794275180128377091639574036764685364535950857523710002454919750800006621335388160)
def mX5_writeReading : MRec := (RX5, cX5_writeReading, 1, (none : Option Jvm.ClassFile.FieldType), yX5_writeReading, 34, 814, 0, 0, 3794275180128377091639574036764685364535950857523710002454919750800006621335388160)
def mX6_forget : MRec := (RX6, cX6_forget, 1, (none : Option Jvm.ClassFile.FieldType), yX6_forget, 0, 0, 0, 0, 4611686018427387904)
def mX8_get_k24 : MRec := (RX8, cX8_get, 5, (some .int), yX8_get, 0, 0, 0, 0, 0)
set_option maxHeartbeats 1000000 in
theorem t_X5_part_8_F {K : Kmap} {V : Vmap} {x : Nat} (h_x : K x = some (0, 4)) (q_0 : vi V x 5 ≠ 0) : MC mX5_part_8 K V [.ref x] (VS K (fun V1 => (vi V1 x 4 = vi V x 4 ∧ (vi V x 5 ≠ 0 → vi V1 x 5 ≠ 0)))) := by
  refine MC.start 2 (by decide +kernel) rfl rfl rfl (ls0 := [some (.ref x), none, none]) rfl ?_
  refine GO.iconst dX5_part_0 ?_
  refine GO.istore_n (ls1 := [some (.ref x), some (ti (-1)), none]) dX5_part_1 rfl rfl rfl ?_
  refine GO.aload_n dX5_part_2 rfl rfl ?_
  have q1 : -2147483648 ≤ vi V x 4 ∧ vi V x 4 ≤ 2147483647 := vi_ir
  have q2 : -2147483648 ≤ vi V x 5 ∧ vi V x 5 ≤ 2147483647 := vi_ir
  refine GO.callV (ci := 4) (N := mX5_piece_8) dX5_part_3 (RX5, TX5, 7) rfl gV_RX5_96 h_x (t_X5_piece_8 h_x (by omega)) rfl [] rfl rfl (Nat.le_of_ble_eq_true rfl) rfl (k_vs fun V5 h4 hF3 => ?_)
  refine GO.iconst dX5_part_6 ?_
  refine GO.istore_n (ls1 := [some (.ref x), some (ti (-1)), some (ti 0)]) dX5_part_7 rfl rfl rfl ?_
  have q10 : -2147483648 ≤ vi V5 x 4 ∧ vi V5 x 4 ≤ 2147483647 := vi_ir
  have q11 : -2147483648 ≤ vi V5 x 5 ∧ vi V5 x 5 ≤ 2147483647 := vi_ir
  refine GO.loop2 (fun i8 i9 W => (-1) ≤ i8 ∧ i8 ≤ (-1) ∧ 0 ≤ i9 ∧ i9 ≤ 0 ∧ (vi W x 4 = vi V5 x 4 ∧ (vi V5 x 5 ≠ 0 → vi W x 5 ≠ 0)) ∧ True) (fun i8 i9 => [some (.ref x), some (ti i8), some (ti i9)]) (fun i8 i9 W => (2147483647 - i8).toNat) (-1) 0 ⟨by omega, by omega, by omega, by omega, by omega, trivial⟩ rfl (fun i8 i9 Wi8 hp24 ih23 => ?_)
  obtain ⟨l_i8, u_i8, l_i9, u_i9, n_i8, -⟩ := hp24
  have r_i8 : ir i8 := ⟨by omega, by omega⟩
  have r_i9 : ir i9 := ⟨by omega, by omega⟩
  show GO mX5_part_8 K V (VS K (fun V1 => (vi V1 x 4 = vi V x 4 ∧ (vi V x 5 ≠ 0 → vi V1 x 5 ≠ 0)))) K Wi8 0 0 8 [some (.ref x), some (ti i8), some (ti i9)] []
  refine GO.iload_n dX5_part_8 rfl rfl ?_
  refine GO.sipush dX5_part_9 rfl ?_
  refine GO.icmp_ge (tgt := 69) dX5_part_12 (by decide) r_i9 (ir_c rfl) (fun h => by exfalso; omega) (fun c25 => ?_)
  refine GO.aload_n dX5_part_15 rfl rfl ?_
  refine GO.getI h_x fl_RX5_18 rfl rfl dX5_part_16 (fun _ _ => ?_)
  have q27 : -2147483648 ≤ vi Wi8 x 5 ∧ vi Wi8 x 5 ≤ 2147483647 := vi_ir
  refine GO.if_ne (tgt := 69) dX5_part_19 (by decide) vi_ir (fun c26 => ?_) (fun h => by exfalso; omega)
  refine GO.aload_n dX5_part_69 rfl rfl ?_
  refine GO.getR h_x fl_RX5_31 rfl rfl dX5_part_70 (fun hv29 h28 => ?_)
  refine GO.iload_n dX5_part_73 rfl rfl ?_
  refine GO.callV (ci := 8) (N := mX9_lead) dX5_part_74 (RX9, TX9, 5) rfl gV_RX5_89 h28 (t_X9_lead h28 r_i8) rfl [] rfl rfl (Nat.le_of_ble_eq_true rfl) rfl (k_vs fun V32 h31 hF30 => ?_)
  have e33 : vi V32 x 4 = vi Wi8 x 4 := vi_fr hF30 h_x h_x (by decide +kernel)
  have q34 : -2147483648 ≤ vi Wi8 x 4 ∧ vi Wi8 x 4 ≤ 2147483647 := vi_ir
  have e35 : vi V32 x 5 = vi Wi8 x 5 := vi_fr hF30 h_x h_x (by decide +kernel)
  exact GO.retv rfl rfl dX5_part_77 ⟨rfl, rfl, by omega⟩

set_option maxHeartbeats 1000000 in
theorem t_X5_part_8_G {K : Kmap} {V : Vmap} {x : Nat} (h_x : K x = some (0, 4)) (q_0 : vi V x 5 = 0) (q_1 : vi V x 4 ≥ 1) (q_2 : vi V x 4 ≤ 8) : MC mX5_part_8 K V [.ref x] (VS K (fun V1 => (vi V1 x 4 = vi V x 4 ∧ (vi V x 5 ≠ 0 → vi V1 x 5 ≠ 0)))) := by
  refine MC.start 2 (by decide +kernel) rfl rfl rfl (ls0 := [some (.ref x), none, none]) rfl ?_
  refine GO.iconst dX5_part_0 ?_
  refine GO.istore_n (ls1 := [some (.ref x), some (ti (-1)), none]) dX5_part_1 rfl rfl rfl ?_
  refine GO.aload_n dX5_part_2 rfl rfl ?_
  have q1 : -2147483648 ≤ vi V x 4 ∧ vi V x 4 ≤ 2147483647 := vi_ir
  have q2 : -2147483648 ≤ vi V x 5 ∧ vi V x 5 ≤ 2147483647 := vi_ir
  refine GO.callV (ci := 4) (N := mX5_piece_8) dX5_part_3 (RX5, TX5, 7) rfl gV_RX5_96 h_x (t_X5_piece_8 h_x (by omega)) rfl [] rfl rfl (Nat.le_of_ble_eq_true rfl) rfl (k_vs fun V5 h4 hF3 => ?_)
  refine GO.iconst dX5_part_6 ?_
  refine GO.istore_n (ls1 := [some (.ref x), some (ti (-1)), some (ti 0)]) dX5_part_7 rfl rfl rfl ?_
  have q10 : -2147483648 ≤ vi V5 x 4 ∧ vi V5 x 4 ≤ 2147483647 := vi_ir
  have q11 : -2147483648 ≤ vi V5 x 5 ∧ vi V5 x 5 ≤ 2147483647 := vi_ir
  refine GO.loop2 (fun i8 i9 W => (-2147483648) ≤ i8 ∧ i8 ≤ 2147483647 ∧ 0 ≤ i9 ∧ i9 ≤ 200 ∧ (vi W x 4 = vi V5 x 4 ∧ (vi V5 x 5 ≠ 0 → vi W x 5 ≠ 0)) ∧ True) (fun i8 i9 => [some (.ref x), some (ti i8), some (ti i9)]) (fun i8 i9 W => (2147483647 - i9).toNat) (-1) 0 ⟨by omega, by omega, by omega, by omega, by omega, trivial⟩ rfl (fun i8 i9 Wi8 hp1810 ih1809 => ?_)
  obtain ⟨l_i8, u_i8, l_i9, u_i9, n_i8, -⟩ := hp1810
  have r_i8 : ir i8 := ⟨by omega, by omega⟩
  have r_i9 : ir i9 := ⟨by omega, by omega⟩
  show GO mX5_part_8 K V (VS K (fun V1 => (vi V1 x 4 = vi V x 4 ∧ (vi V x 5 ≠ 0 → vi V1 x 5 ≠ 0)))) K Wi8 0 0 8 [some (.ref x), some (ti i8), some (ti i9)] []
  refine GO.iload_n dX5_part_8 rfl rfl ?_
  refine GO.sipush dX5_part_9 rfl ?_
  refine GO.icmp_ge (tgt := 69) dX5_part_12 (by decide) r_i9 (ir_c rfl) (fun c1811 => ?_) (fun c1811 => ?_)
  ·
    refine GO.aload_n dX5_part_69 rfl rfl ?_
    refine GO.getR h_x fl_RX5_31 rfl rfl dX5_part_70 (fun hv1813 h1812 => ?_)
    refine GO.iload_n dX5_part_73 rfl rfl ?_
    refine GO.callV (ci := 8) (N := mX9_lead) dX5_part_74 (RX9, TX9, 5) rfl gV_RX5_89 h1812 (t_X9_lead h1812 r_i8) rfl [] rfl rfl (Nat.le_of_ble_eq_true rfl) rfl (k_vs fun V1816 h1815 hF1814 => ?_)
    have e1817 : vi V1816 x 4 = vi Wi8 x 4 := vi_fr hF1814 h_x h_x (by decide +kernel)
    have q1818 : -2147483648 ≤ vi Wi8 x 4 ∧ vi Wi8 x 4 ≤ 2147483647 := vi_ir
    have e1819 : vi V1816 x 5 = vi Wi8 x 5 := vi_fr hF1814 h_x h_x (by decide +kernel)
    have q1820 : -2147483648 ≤ vi Wi8 x 5 ∧ vi Wi8 x 5 ≤ 2147483647 := vi_ir
    exact GO.retv rfl rfl dX5_part_77 ⟨rfl, rfl, by omega⟩
  ·
    refine GO.aload_n dX5_part_15 rfl rfl ?_
    refine GO.getI h_x fl_RX5_18 rfl rfl dX5_part_16 (fun _ _ => ?_)
    refine GO.if_ne (tgt := 69) dX5_part_19 (by decide) vi_ir (fun c1821 => ?_) (fun c1821 => ?_)
    ·
      refine GO.aload_n dX5_part_69 rfl rfl ?_
      refine GO.getR h_x fl_RX5_31 rfl rfl dX5_part_70 (fun hv1823 h1822 => ?_)
      refine GO.iload_n dX5_part_73 rfl rfl ?_
      refine GO.callV (ci := 8) (N := mX9_lead) dX5_part_74 (RX9, TX9, 5) rfl gV_RX5_89 h1822 (t_X9_lead h1822 r_i8) rfl [] rfl rfl (Nat.le_of_ble_eq_true rfl) rfl (k_vs fun V1826 h1825 hF1824 => ?_)
      have e1827 : vi V1826 x 4 = vi Wi8 x 4 := vi_fr hF1824 h_x h_x (by decide +kernel)
      have q1828 : -2147483648 ≤ vi Wi8 x 4 ∧ vi Wi8 x 4 ≤ 2147483647 := vi_ir
      have e1829 : vi V1826 x 5 = vi Wi8 x 5 := vi_fr hF1824 h_x h_x (by decide +kernel)
      have q1830 : -2147483648 ≤ vi Wi8 x 5 ∧ vi Wi8 x 5 ≤ 2147483647 := vi_ir
      exact GO.retv rfl rfl dX5_part_77 ⟨rfl, rfl, by omega⟩
    ·
      refine GO.aload_n dX5_part_22 rfl rfl ?_
      refine GO.callV (ci := 4) (N := mX5_next) dX5_part_23 (RX5, TX5, 7) rfl gV_RX5_61 h_x (t_X5_next h_x) rfl [] rfl rfl (Nat.le_of_ble_eq_true rfl) rfl (k_ip fun X1831 r1832 h1833 => ?_)
      refine GO.bipush dX5_part_26 rfl ?_
      refine GO.icmp_ne (tgt := 69) dX5_part_28 (by decide) r1832 (ir_c rfl) (fun c1834 => ?_) (fun c1834 => ?_)
      ·
        refine GO.aload_n dX5_part_69 rfl rfl ?_
        refine GO.getR h_x fl_RX5_31 rfl rfl dX5_part_70 (fun hv1836 h1835 => ?_)
        refine GO.iload_n dX5_part_73 rfl rfl ?_
        refine GO.callV (ci := 8) (N := mX9_lead) dX5_part_74 (RX9, TX9, 5) rfl gV_RX5_89 h1835 (t_X9_lead h1835 r_i8) rfl [] rfl rfl (Nat.le_of_ble_eq_true rfl) rfl (k_vs fun V1839 h1838 hF1837 => ?_)
        have e1840 : vi V1839 x 4 = vi Wi8 x 4 := vi_fr hF1837 h_x h_x (by decide +kernel)
        have q1841 : -2147483648 ≤ vi Wi8 x 4 ∧ vi Wi8 x 4 ≤ 2147483647 := vi_ir
        have e1842 : vi V1839 x 5 = vi Wi8 x 5 := vi_fr hF1837 h_x h_x (by decide +kernel)
        have q1843 : -2147483648 ≤ vi Wi8 x 5 ∧ vi Wi8 x 5 ≤ 2147483647 := vi_ir
        exact GO.retv rfl rfl dX5_part_77 ⟨rfl, rfl, by omega⟩
      ·
        refine GO.aload_n dX5_part_31 rfl rfl ?_
        refine GO.dup dX5_part_32 rfl ?_
        refine GO.getI h_x fl_RX5_9 rfl rfl dX5_part_33 (fun _ _ => ?_)
        refine GO.iconst dX5_part_36 ?_
        refine GO.iadd dX5_part_37 ?_
        refine GO.norm (fun z1844 r1845 _ => ?_)
        refine GO.putI h_x fp_RX5_9 rfl (by decide +kernel) r1845 (r1845).1 (r1845).2 dX5_part_38 (fun V1847 e1846 => ?_)
        refine GO.aload_n dX5_part_41 rfl rfl ?_
        refine GO.getR h_x fl_RX5_31 rfl rfl dX5_part_42 (fun hv1849 h1848 => ?_)
        refine GO.iload_n dX5_part_45 rfl rfl ?_
        refine GO.callV (ci := 8) (N := mX9_lead) dX5_part_46 (RX9, TX9, 5) rfl gV_RX5_89 h1848 (t_X9_lead h1848 r_i8) rfl [] rfl rfl (Nat.le_of_ble_eq_true rfl) rfl (k_vs fun V1852 h1851 hF1850 => ?_)
        refine GO.aload_n dX5_part_49 rfl rfl ?_
        refine GO.getRaw h_x fl_RX5_31 (Eq.trans (hF1850 _ _ _ h_x h_x (by decide +kernel)) hv1849) dX5_part_50 ?_
        refine GO.iconst dX5_part_53 ?_
        refine GO.iconst dX5_part_54 ?_
        refine GO.callV (ci := 8) (N := mX9_addStep) dX5_part_55 (RX9, TX9, 5) rfl gV_RX5_92 h1848 (t_X9_addStep h1848 (ir_c rfl) (ir_c rfl)) rfl [] rfl rfl (Nat.le_of_ble_eq_true rfl) rfl (k_is fun X1855 V1859 r1856 h1857 hF1858 => ?_)
        refine GO.istore_n (ls1 := [some (.ref x), some (ti X1855), some (ti i9)]) dX5_part_58 rfl rfl rfl ?_
        refine GO.aload_n dX5_part_59 rfl rfl ?_
        have e1862 : vi V1847 x 5 = vi Wi8 x 5 := vi_up e1846 (Or.inr (by decide))
        have e1861 : vi V1852 x 5 = vi V1847 x 5 := vi_fr hF1850 h_x h_x (by decide +kernel)
        have e1860 : vi V1859 x 5 = vi V1852 x 5 := vi_fr hF1858 h_x h_x (by decide +kernel)
        have e1865 : vi V1847 x 4 = vi Wi8 x 4 := vi_up e1846 (Or.inr (by decide))
        have e1864 : vi V1852 x 4 = vi V1847 x 4 := vi_fr hF1850 h_x h_x (by decide +kernel)
        have e1863 : vi V1859 x 4 = vi V1852 x 4 := vi_fr hF1858 h_x h_x (by decide +kernel)
        have q1866 : -2147483648 ≤ vi Wi8 x 4 ∧ vi Wi8 x 4 ≤ 2147483647 := vi_ir
        have q1867 : -2147483648 ≤ vi Wi8 x 5 ∧ vi Wi8 x 5 ≤ 2147483647 := vi_ir
        refine GO.callV (ci := 4) (N := mX5_piece_8) dX5_part_60 (RX5, TX5, 7) rfl gV_RX5_96 h_x (t_X5_piece_8 h_x (by omega)) rfl [] rfl rfl (Nat.le_of_ble_eq_true rfl) rfl (k_vs fun V1870 h1869 hF1868 => ?_)
        refine GO.iinc (X := i9) (n := 1) (Y := i9 + 1) (ls1 := [some (.ref x), some (ti X1855), some (ti (i9 + 1))]) dX5_part_63 rfl rfl rfl rfl ?_
        refine GO.goto (tgt := 8) dX5_part_66 (by decide) ?_
        have q1873 : -2147483648 ≤ X1855 ∧ X1855 ≤ 2147483647 := r1856
        have q1874 : -2147483648 ≤ vi V1870 x 4 ∧ vi V1870 x 4 ≤ 2147483647 := vi_ir
        have q1875 : -2147483648 ≤ vi V1870 x 5 ∧ vi V1870 x 5 ≤ 2147483647 := vi_ir
        exact ih1809 X1855 (i9 + 1) V1870 ⟨by omega, by omega, by omega, by omega, by omega, trivial⟩ (by show (2147483647 - (i9 + 1)).toNat < (2147483647 - i9).toNat; omega)

theorem t_X5_part_8 {K : Kmap} {V : Vmap} {x : Nat} (h_x : K x = some (0, 4)) (q_0 : (vi V x 5 ≠ 0 ∨ (vi V x 5 = 0 ∧ vi V x 4 ≥ 1 ∧ vi V x 4 ≤ 8))) : MC mX5_part_8 K V [.ref x] (VS K (fun V1 => (vi V1 x 4 = vi V x 4 ∧ (vi V x 5 ≠ 0 → vi V1 x 5 ≠ 0)))) := by
  rcases q_0 with h | h
  · exact t_X5_part_8_F h_x (by omega)
  · exact t_X5_part_8_G h_x (by omega) (by omega) (by omega)

set_option maxHeartbeats 1000000 in
theorem t_X5_parts_8_F {K : Kmap} {V : Vmap} {x : Nat} (h_x : K x = some (0, 4)) (q_0 : vi V x 5 ≠ 0) : MC mX5_parts_8 K V [.ref x] (VS K (fun V1 => (vi V1 x 4 = vi V x 4 ∧ (vi V x 5 ≠ 0 → vi V1 x 5 ≠ 0)))) := by
  refine MC.start 2 (by decide +kernel) rfl rfl rfl (ls0 := [some (.ref x), none, none]) rfl ?_
  refine GO.iconst dX5_parts_0 ?_
  refine GO.istore_n (ls1 := [some (.ref x), some (ti (-1)), none]) dX5_parts_1 rfl rfl rfl ?_
  refine GO.aload_n dX5_parts_2 rfl rfl ?_
  have q1 : -2147483648 ≤ vi V x 4 ∧ vi V x 4 ≤ 2147483647 := vi_ir
  have q2 : -2147483648 ≤ vi V x 5 ∧ vi V x 5 ≤ 2147483647 := vi_ir
  refine GO.callV (ci := 4) (N := mX5_part_8) dX5_parts_3 (RX5, TX5, 7) rfl gV_RX5_86 h_x (t_X5_part_8 h_x (by omega)) rfl [] rfl rfl (Nat.le_of_ble_eq_true rfl) rfl (k_vs fun V5 h4 hF3 => ?_)
  refine GO.iconst dX5_parts_6 ?_
  refine GO.istore_n (ls1 := [some (.ref x), some (ti (-1)), some (ti 0)]) dX5_parts_7 rfl rfl rfl ?_
  have q10 : -2147483648 ≤ vi V5 x 4 ∧ vi V5 x 4 ≤ 2147483647 := vi_ir
  have q11 : -2147483648 ≤ vi V5 x 5 ∧ vi V5 x 5 ≤ 2147483647 := vi_ir
  refine GO.loop2 (fun i8 i9 W => (-1) ≤ i8 ∧ i8 ≤ (-1) ∧ 0 ≤ i9 ∧ i9 ≤ 0 ∧ (vi W x 4 = vi V5 x 4 ∧ (vi V5 x 5 ≠ 0 → vi W x 5 ≠ 0)) ∧ True) (fun i8 i9 => [some (.ref x), some (ti i8), some (ti i9)]) (fun i8 i9 W => (2147483647 - i8).toNat) (-1) 0 ⟨by omega, by omega, by omega, by omega, by omega, trivial⟩ rfl (fun i8 i9 Wi8 hp24 ih23 => ?_)
  obtain ⟨l_i8, u_i8, l_i9, u_i9, n_i8, -⟩ := hp24
  have r_i8 : ir i8 := ⟨by omega, by omega⟩
  have r_i9 : ir i9 := ⟨by omega, by omega⟩
  show GO mX5_parts_8 K V (VS K (fun V1 => (vi V1 x 4 = vi V x 4 ∧ (vi V x 5 ≠ 0 → vi V1 x 5 ≠ 0)))) K Wi8 0 0 8 [some (.ref x), some (ti i8), some (ti i9)] []
  refine GO.iload_n dX5_parts_8 rfl rfl ?_
  refine GO.sipush dX5_parts_9 rfl ?_
  refine GO.icmp_ge (tgt := 69) dX5_parts_12 (by decide) r_i9 (ir_c rfl) (fun h => by exfalso; omega) (fun c25 => ?_)
  refine GO.aload_n dX5_parts_15 rfl rfl ?_
  refine GO.getI h_x fl_RX5_18 rfl rfl dX5_parts_16 (fun _ _ => ?_)
  have q27 : -2147483648 ≤ vi Wi8 x 5 ∧ vi Wi8 x 5 ≤ 2147483647 := vi_ir
  refine GO.if_ne (tgt := 69) dX5_parts_19 (by decide) vi_ir (fun c26 => ?_) (fun h => by exfalso; omega)
  refine GO.aload_n dX5_parts_69 rfl rfl ?_
  refine GO.getR h_x fl_RX5_31 rfl rfl dX5_parts_70 (fun hv29 h28 => ?_)
  refine GO.iload_n dX5_parts_73 rfl rfl ?_
  refine GO.callV (ci := 8) (N := mX9_lead) dX5_parts_74 (RX9, TX9, 5) rfl gV_RX5_89 h28 (t_X9_lead h28 r_i8) rfl [] rfl rfl (Nat.le_of_ble_eq_true rfl) rfl (k_vs fun V32 h31 hF30 => ?_)
  have e33 : vi V32 x 4 = vi Wi8 x 4 := vi_fr hF30 h_x h_x (by decide +kernel)
  have q34 : -2147483648 ≤ vi Wi8 x 4 ∧ vi Wi8 x 4 ≤ 2147483647 := vi_ir
  have e35 : vi V32 x 5 = vi Wi8 x 5 := vi_fr hF30 h_x h_x (by decide +kernel)
  exact GO.retv rfl rfl dX5_parts_77 ⟨rfl, rfl, by omega⟩

set_option maxHeartbeats 1000000 in
theorem t_X5_parts_8_G {K : Kmap} {V : Vmap} {x : Nat} (h_x : K x = some (0, 4)) (q_0 : vi V x 5 = 0) (q_1 : vi V x 4 ≥ 1) (q_2 : vi V x 4 ≤ 8) : MC mX5_parts_8 K V [.ref x] (VS K (fun V1 => (vi V1 x 4 = vi V x 4 ∧ (vi V x 5 ≠ 0 → vi V1 x 5 ≠ 0)))) := by
  refine MC.start 2 (by decide +kernel) rfl rfl rfl (ls0 := [some (.ref x), none, none]) rfl ?_
  refine GO.iconst dX5_parts_0 ?_
  refine GO.istore_n (ls1 := [some (.ref x), some (ti (-1)), none]) dX5_parts_1 rfl rfl rfl ?_
  refine GO.aload_n dX5_parts_2 rfl rfl ?_
  have q1 : -2147483648 ≤ vi V x 4 ∧ vi V x 4 ≤ 2147483647 := vi_ir
  have q2 : -2147483648 ≤ vi V x 5 ∧ vi V x 5 ≤ 2147483647 := vi_ir
  refine GO.callV (ci := 4) (N := mX5_part_8) dX5_parts_3 (RX5, TX5, 7) rfl gV_RX5_86 h_x (t_X5_part_8 h_x (by omega)) rfl [] rfl rfl (Nat.le_of_ble_eq_true rfl) rfl (k_vs fun V5 h4 hF3 => ?_)
  refine GO.iconst dX5_parts_6 ?_
  refine GO.istore_n (ls1 := [some (.ref x), some (ti (-1)), some (ti 0)]) dX5_parts_7 rfl rfl rfl ?_
  have q10 : -2147483648 ≤ vi V5 x 4 ∧ vi V5 x 4 ≤ 2147483647 := vi_ir
  have q11 : -2147483648 ≤ vi V5 x 5 ∧ vi V5 x 5 ≤ 2147483647 := vi_ir
  refine GO.loop2 (fun i8 i9 W => (-2147483648) ≤ i8 ∧ i8 ≤ 2147483647 ∧ 0 ≤ i9 ∧ i9 ≤ 200 ∧ (vi W x 4 = vi V5 x 4 ∧ (vi V5 x 5 ≠ 0 → vi W x 5 ≠ 0)) ∧ True) (fun i8 i9 => [some (.ref x), some (ti i8), some (ti i9)]) (fun i8 i9 W => (2147483647 - i9).toNat) (-1) 0 ⟨by omega, by omega, by omega, by omega, by omega, trivial⟩ rfl (fun i8 i9 Wi8 hp1810 ih1809 => ?_)
  obtain ⟨l_i8, u_i8, l_i9, u_i9, n_i8, -⟩ := hp1810
  have r_i8 : ir i8 := ⟨by omega, by omega⟩
  have r_i9 : ir i9 := ⟨by omega, by omega⟩
  show GO mX5_parts_8 K V (VS K (fun V1 => (vi V1 x 4 = vi V x 4 ∧ (vi V x 5 ≠ 0 → vi V1 x 5 ≠ 0)))) K Wi8 0 0 8 [some (.ref x), some (ti i8), some (ti i9)] []
  refine GO.iload_n dX5_parts_8 rfl rfl ?_
  refine GO.sipush dX5_parts_9 rfl ?_
  refine GO.icmp_ge (tgt := 69) dX5_parts_12 (by decide) r_i9 (ir_c rfl) (fun c1811 => ?_) (fun c1811 => ?_)
  ·
    refine GO.aload_n dX5_parts_69 rfl rfl ?_
    refine GO.getR h_x fl_RX5_31 rfl rfl dX5_parts_70 (fun hv1813 h1812 => ?_)
    refine GO.iload_n dX5_parts_73 rfl rfl ?_
    refine GO.callV (ci := 8) (N := mX9_lead) dX5_parts_74 (RX9, TX9, 5) rfl gV_RX5_89 h1812 (t_X9_lead h1812 r_i8) rfl [] rfl rfl (Nat.le_of_ble_eq_true rfl) rfl (k_vs fun V1816 h1815 hF1814 => ?_)
    have e1817 : vi V1816 x 4 = vi Wi8 x 4 := vi_fr hF1814 h_x h_x (by decide +kernel)
    have q1818 : -2147483648 ≤ vi Wi8 x 4 ∧ vi Wi8 x 4 ≤ 2147483647 := vi_ir
    have e1819 : vi V1816 x 5 = vi Wi8 x 5 := vi_fr hF1814 h_x h_x (by decide +kernel)
    have q1820 : -2147483648 ≤ vi Wi8 x 5 ∧ vi Wi8 x 5 ≤ 2147483647 := vi_ir
    exact GO.retv rfl rfl dX5_parts_77 ⟨rfl, rfl, by omega⟩
  ·
    refine GO.aload_n dX5_parts_15 rfl rfl ?_
    refine GO.getI h_x fl_RX5_18 rfl rfl dX5_parts_16 (fun _ _ => ?_)
    refine GO.if_ne (tgt := 69) dX5_parts_19 (by decide) vi_ir (fun c1821 => ?_) (fun c1821 => ?_)
    ·
      refine GO.aload_n dX5_parts_69 rfl rfl ?_
      refine GO.getR h_x fl_RX5_31 rfl rfl dX5_parts_70 (fun hv1823 h1822 => ?_)
      refine GO.iload_n dX5_parts_73 rfl rfl ?_
      refine GO.callV (ci := 8) (N := mX9_lead) dX5_parts_74 (RX9, TX9, 5) rfl gV_RX5_89 h1822 (t_X9_lead h1822 r_i8) rfl [] rfl rfl (Nat.le_of_ble_eq_true rfl) rfl (k_vs fun V1826 h1825 hF1824 => ?_)
      have e1827 : vi V1826 x 4 = vi Wi8 x 4 := vi_fr hF1824 h_x h_x (by decide +kernel)
      have q1828 : -2147483648 ≤ vi Wi8 x 4 ∧ vi Wi8 x 4 ≤ 2147483647 := vi_ir
      have e1829 : vi V1826 x 5 = vi Wi8 x 5 := vi_fr hF1824 h_x h_x (by decide +kernel)
      have q1830 : -2147483648 ≤ vi Wi8 x 5 ∧ vi Wi8 x 5 ≤ 2147483647 := vi_ir
      exact GO.retv rfl rfl dX5_parts_77 ⟨rfl, rfl, by omega⟩
    ·
      refine GO.aload_n dX5_parts_22 rfl rfl ?_
      refine GO.callV (ci := 4) (N := mX5_next) dX5_parts_23 (RX5, TX5, 7) rfl gV_RX5_61 h_x (t_X5_next h_x) rfl [] rfl rfl (Nat.le_of_ble_eq_true rfl) rfl (k_ip fun X1831 r1832 h1833 => ?_)
      refine GO.bipush dX5_parts_26 rfl ?_
      refine GO.icmp_ne (tgt := 69) dX5_parts_28 (by decide) r1832 (ir_c rfl) (fun c1834 => ?_) (fun c1834 => ?_)
      ·
        refine GO.aload_n dX5_parts_69 rfl rfl ?_
        refine GO.getR h_x fl_RX5_31 rfl rfl dX5_parts_70 (fun hv1836 h1835 => ?_)
        refine GO.iload_n dX5_parts_73 rfl rfl ?_
        refine GO.callV (ci := 8) (N := mX9_lead) dX5_parts_74 (RX9, TX9, 5) rfl gV_RX5_89 h1835 (t_X9_lead h1835 r_i8) rfl [] rfl rfl (Nat.le_of_ble_eq_true rfl) rfl (k_vs fun V1839 h1838 hF1837 => ?_)
        have e1840 : vi V1839 x 4 = vi Wi8 x 4 := vi_fr hF1837 h_x h_x (by decide +kernel)
        have q1841 : -2147483648 ≤ vi Wi8 x 4 ∧ vi Wi8 x 4 ≤ 2147483647 := vi_ir
        have e1842 : vi V1839 x 5 = vi Wi8 x 5 := vi_fr hF1837 h_x h_x (by decide +kernel)
        have q1843 : -2147483648 ≤ vi Wi8 x 5 ∧ vi Wi8 x 5 ≤ 2147483647 := vi_ir
        exact GO.retv rfl rfl dX5_parts_77 ⟨rfl, rfl, by omega⟩
      ·
        refine GO.aload_n dX5_parts_31 rfl rfl ?_
        refine GO.dup dX5_parts_32 rfl ?_
        refine GO.getI h_x fl_RX5_9 rfl rfl dX5_parts_33 (fun _ _ => ?_)
        refine GO.iconst dX5_parts_36 ?_
        refine GO.iadd dX5_parts_37 ?_
        refine GO.norm (fun z1844 r1845 _ => ?_)
        refine GO.putI h_x fp_RX5_9 rfl (by decide +kernel) r1845 (r1845).1 (r1845).2 dX5_parts_38 (fun V1847 e1846 => ?_)
        refine GO.aload_n dX5_parts_41 rfl rfl ?_
        refine GO.getR h_x fl_RX5_31 rfl rfl dX5_parts_42 (fun hv1849 h1848 => ?_)
        refine GO.iload_n dX5_parts_45 rfl rfl ?_
        refine GO.callV (ci := 8) (N := mX9_lead) dX5_parts_46 (RX9, TX9, 5) rfl gV_RX5_89 h1848 (t_X9_lead h1848 r_i8) rfl [] rfl rfl (Nat.le_of_ble_eq_true rfl) rfl (k_vs fun V1852 h1851 hF1850 => ?_)
        refine GO.aload_n dX5_parts_49 rfl rfl ?_
        refine GO.getRaw h_x fl_RX5_31 (Eq.trans (hF1850 _ _ _ h_x h_x (by decide +kernel)) hv1849) dX5_parts_50 ?_
        refine GO.iconst dX5_parts_53 ?_
        refine GO.iconst dX5_parts_54 ?_
        refine GO.callV (ci := 8) (N := mX9_addStep) dX5_parts_55 (RX9, TX9, 5) rfl gV_RX5_92 h1848 (t_X9_addStep h1848 (ir_c rfl) (ir_c rfl)) rfl [] rfl rfl (Nat.le_of_ble_eq_true rfl) rfl (k_is fun X1855 V1859 r1856 h1857 hF1858 => ?_)
        refine GO.istore_n (ls1 := [some (.ref x), some (ti X1855), some (ti i9)]) dX5_parts_58 rfl rfl rfl ?_
        refine GO.aload_n dX5_parts_59 rfl rfl ?_
        have e1862 : vi V1847 x 5 = vi Wi8 x 5 := vi_up e1846 (Or.inr (by decide))
        have e1861 : vi V1852 x 5 = vi V1847 x 5 := vi_fr hF1850 h_x h_x (by decide +kernel)
        have e1860 : vi V1859 x 5 = vi V1852 x 5 := vi_fr hF1858 h_x h_x (by decide +kernel)
        have e1865 : vi V1847 x 4 = vi Wi8 x 4 := vi_up e1846 (Or.inr (by decide))
        have e1864 : vi V1852 x 4 = vi V1847 x 4 := vi_fr hF1850 h_x h_x (by decide +kernel)
        have e1863 : vi V1859 x 4 = vi V1852 x 4 := vi_fr hF1858 h_x h_x (by decide +kernel)
        have q1866 : -2147483648 ≤ vi Wi8 x 4 ∧ vi Wi8 x 4 ≤ 2147483647 := vi_ir
        have q1867 : -2147483648 ≤ vi Wi8 x 5 ∧ vi Wi8 x 5 ≤ 2147483647 := vi_ir
        refine GO.callV (ci := 4) (N := mX5_part_8) dX5_parts_60 (RX5, TX5, 7) rfl gV_RX5_86 h_x (t_X5_part_8 h_x (by omega)) rfl [] rfl rfl (Nat.le_of_ble_eq_true rfl) rfl (k_vs fun V1870 h1869 hF1868 => ?_)
        refine GO.iinc (X := i9) (n := 1) (Y := i9 + 1) (ls1 := [some (.ref x), some (ti X1855), some (ti (i9 + 1))]) dX5_parts_63 rfl rfl rfl rfl ?_
        refine GO.goto (tgt := 8) dX5_parts_66 (by decide) ?_
        have q1873 : -2147483648 ≤ X1855 ∧ X1855 ≤ 2147483647 := r1856
        have q1874 : -2147483648 ≤ vi V1870 x 4 ∧ vi V1870 x 4 ≤ 2147483647 := vi_ir
        have q1875 : -2147483648 ≤ vi V1870 x 5 ∧ vi V1870 x 5 ≤ 2147483647 := vi_ir
        exact ih1809 X1855 (i9 + 1) V1870 ⟨by omega, by omega, by omega, by omega, by omega, trivial⟩ (by show (2147483647 - (i9 + 1)).toNat < (2147483647 - i9).toNat; omega)

theorem t_X5_parts_8 {K : Kmap} {V : Vmap} {x : Nat} (h_x : K x = some (0, 4)) (q_0 : (vi V x 5 ≠ 0 ∨ (vi V x 5 = 0 ∧ vi V x 4 ≥ 1 ∧ vi V x 4 ≤ 8))) : MC mX5_parts_8 K V [.ref x] (VS K (fun V1 => (vi V1 x 4 = vi V x 4 ∧ (vi V x 5 ≠ 0 → vi V1 x 5 ≠ 0)))) := by
  rcases q_0 with h | h
  · exact t_X5_parts_8_F h_x (by omega)
  · exact t_X5_parts_8_G h_x (by omega) (by omega) (by omega)

set_option maxHeartbeats 1000000 in
theorem t_X5_condition {K : Kmap} {V : Vmap} {x : Nat} (h_x : K x = some (0, 4)) (q_0 : vi V x 4 = 0) : MC mX5_condition K V [.ref x] (VS K (fun V1 => (vi V1 x 4 = 0))) := by
  refine MC.start 0 (by decide +kernel) rfl rfl rfl (ls0 := [some (.ref x)]) rfl ?_
  refine GO.aload_n dX5_condition_0 rfl rfl ?_
  refine GO.iconst dX5_condition_1 ?_
  refine GO.aload_n dX5_condition_2 rfl rfl ?_
  refine GO.getR h_x fl_RX5_31 rfl rfl dX5_condition_3 (fun hv2 h1 => ?_)
  refine GO.getI h1 fl_RX5_77 rfl rfl dX5_condition_6 (fun _ _ => ?_)
  refine GO.callV (ci := 4) (N := mX5_set) dX5_condition_9 (RX5, TX5, 7) rfl gV_RX5_73 h_x (t_X5_set h_x (ir_c rfl) vi_ir) rfl [] rfl rfl (Nat.le_of_ble_eq_true rfl) rfl (k_vs fun V5 h4 hF3 => ?_)
  refine GO.aload_n dX5_condition_12 rfl rfl ?_
  refine GO.bipush dX5_condition_13 rfl ?_
  have e6 : vi V5 x 4 = vi V x 4 := vi_fr hF3 h_x h_x (by decide +kernel)
  have q7 : -2147483648 ≤ vi V x 4 ∧ vi V x 4 ≤ 2147483647 := vi_ir
  refine GO.callV (ci := 4) (N := mX5_deepen) dX5_condition_15 (RX5, TX5, 7) rfl gV_RX5_80 h_x (t_X5_deepen h_x (ir_c rfl) (by omega) (by omega)) rfl [] rfl rfl (Nat.le_of_ble_eq_true rfl) rfl (k_vs fun V11 h10 hF9 => ?_)
  refine GO.aload_n dX5_condition_18 rfl rfl ?_
  have q14 : -2147483648 ≤ vi V11 x 4 ∧ vi V11 x 4 ≤ 2147483647 := vi_ir
  have q15 : -2147483648 ≤ vi V11 x 5 ∧ vi V11 x 5 ≤ 2147483647 := vi_ir
  refine GO.callV (ci := 4) (N := mX5_parts_8) dX5_condition_19 (RX5, TX5, 7) rfl gV_RX5_83 h_x (t_X5_parts_8 h_x (by omega)) rfl [] rfl rfl (Nat.le_of_ble_eq_true rfl) rfl (k_vs fun V18 h17 hF16 => ?_)
  refine GO.aload_n dX5_condition_22 rfl rfl ?_
  refine GO.dup dX5_condition_23 rfl ?_
  refine GO.getI h_x fl_RX5_15 rfl rfl dX5_condition_24 (fun _ _ => ?_)
  refine GO.iconst dX5_condition_27 ?_
  refine GO.isub dX5_condition_28 ?_
  have q22 : -2147483648 ≤ vi V18 x 4 ∧ vi V18 x 4 ≤ 2147483647 := vi_ir
  refine GO.putI h_x fp_RX5_15 rfl (by decide +kernel) ⟨by omega, by omega⟩ (by omega) (by omega) dX5_condition_29 (fun V23 e21 => ?_)
  refine GO.aload_n dX5_condition_32 rfl rfl ?_
  refine GO.bipush dX5_condition_33 rfl ?_
  have e24 : vi V23 x 5 = vi V18 x 5 := vi_up e21 (Or.inr (by decide))
  refine GO.callV (ci := 4) (N := mX5_take) dX5_condition_35 (RX5, TX5, 7) rfl gV_RX5_38 h_x (t_X5_take h_x (ir_c rfl)) rfl [] rfl rfl (Nat.le_of_ble_eq_true rfl) rfl (k_vs fun V27 h26 hF25 => ?_)
  refine GO.aload_n dX5_condition_38 rfl rfl ?_
  refine GO.iconst dX5_condition_39 ?_
  refine GO.aload_n dX5_condition_40 rfl rfl ?_
  refine GO.getRaw h_x fl_RX5_31 (Eq.trans (hF25 _ _ _ h_x h_x (by decide +kernel)) (Eq.trans (uq_ne e21 (Or.inr (by decide))) (Eq.trans (hF16 _ _ _ h_x h_x (by decide +kernel)) (Eq.trans (hF9 _ _ _ h_x h_x (by decide +kernel)) (Eq.trans (hF3 _ _ _ h_x h_x (by decide +kernel)) hv2))))) dX5_condition_41 ?_
  refine GO.getI h1 fl_RX5_77 rfl rfl dX5_condition_44 (fun _ _ => ?_)
  refine GO.callV (ci := 4) (N := mX5_set) dX5_condition_47 (RX5, TX5, 7) rfl gV_RX5_73 h_x (t_X5_set h_x (ir_c rfl) vi_ir) rfl [] rfl rfl (Nat.le_of_ble_eq_true rfl) rfl (k_vs fun V33 h32 hF31 => ?_)
  have e36 : vi V23 x 4 = (vi V18 x 4) - 1 := upd2_int e21 ⟨by omega, by omega⟩
  have e35 : vi V27 x 4 = vi V23 x 4 := vi_fr hF25 h_x h_x (by decide +kernel)
  have e34 : vi V33 x 4 = vi V27 x 4 := vi_fr hF31 h_x h_x (by decide +kernel)
  exact GO.retv rfl rfl dX5_condition_50 ⟨rfl, rfl, by omega⟩

set_option maxHeartbeats 1000000 in
theorem t_X5_clause {K : Kmap} {V : Vmap} {x : Nat} (h_x : K x = some (0, 4)) (q_0 : vi V x 4 = 0) : MC mX5_clause K V [.ref x] (VS K (fun V1 => (vi V1 x 4 = 0))) := by
  refine MC.start 1 (by decide +kernel) rfl rfl rfl (ls0 := [some (.ref x), none]) rfl ?_
  refine GO.aload_n dX5_clause_0 rfl rfl ?_
  refine GO.callV (ci := 4) (N := mX5_next) dX5_clause_1 (RX5, TX5, 7) rfl gV_RX5_61 h_x (t_X5_next h_x) rfl [] rfl rfl (Nat.le_of_ble_eq_true rfl) rfl (k_ip fun X1 r2 h3 => ?_)
  refine GO.istore_n (ls1 := [some (.ref x), some (ti X1)]) dX5_clause_4 rfl rfl rfl ?_
  refine GO.iload_n dX5_clause_5 rfl rfl ?_
  refine GO.callS (N := mX5_isClauseLetter) dX5_clause_6 gS_RX5_65 (t_X5_isClauseLetter r2) rfl [] rfl rfl (Nat.le_of_ble_eq_true rfl) rfl (k_ip fun X4 r5 h6 => ?_)
  refine GO.if_ne (tgt := 22) dX5_clause_9 (by decide) r5 (fun c7 => ?_) (fun c7 => ?_)
  ·
    refine GO.aload_n dX5_clause_22 rfl rfl ?_
    refine GO.getR h_x fl_RX5_31 rfl rfl dX5_clause_23 (fun hv9 h8 => ?_)
    refine GO.getR h8 fl_RX5_42 rfl rfl dX5_clause_26 (fun hv11 h10 => ?_)
    refine GO.iload_n dX5_clause_29 rfl rfl ?_
    refine GO.iconst dX5_clause_30 ?_
    refine GO.iconst dX5_clause_31 ?_
    refine GO.iconst dX5_clause_32 ?_
    refine GO.iconst dX5_clause_33 ?_
    refine GO.callV (ci := 7) (N := mX8_append) dX5_clause_34 (RX8, TX8, 4) rfl gV_RX5_48 h10 (t_X8_append h10 r2 (ir_c rfl) (ir_c rfl) (ir_c rfl) (ir_c rfl)) rfl [] rfl rfl (Nat.le_of_ble_eq_true rfl) rfl (k_is fun X12 V16 r13 h14 hF15 => ?_)
    refine GO.iconst dX5_clause_37 ?_
    refine GO.icmp_ne (tgt := 51) dX5_clause_38 (by decide) r13 (ir_c rfl) (fun c17 => ?_) (fun c17 => ?_)
    ·
      refine GO.aload_n dX5_clause_51 rfl rfl ?_
      refine GO.dup dX5_clause_52 rfl ?_
      refine GO.getI h_x fl_RX5_9 rfl rfl dX5_clause_53 (fun _ _ => ?_)
      refine GO.iconst dX5_clause_56 ?_
      refine GO.iadd dX5_clause_57 ?_
      refine GO.norm (fun z19 r20 _ => ?_)
      refine GO.putI h_x fp_RX5_9 rfl (by decide +kernel) r20 (r20).1 (r20).2 dX5_clause_58 (fun V22 e21 => ?_)
      refine GO.iload_n dX5_clause_61 rfl rfl ?_
      refine GO.bipush dX5_clause_62 rfl ?_
      have hj105 : ∀ (V106 : Vmap), ∀ (ji107 : vi V106 x 4 = 0), GO mX5_clause K V (VS K (fun V1 => (vi V1 x 4 = 0))) K V106 0 0 173 [some (.ref x), some (ti X1)] [] := by
        intro V106 ji107
        refine GO.iload_n dX5_clause_173 rfl rfl ?_
        refine GO.bipush dX5_clause_174 rfl ?_
        refine GO.icmp_eq (tgt := 209) dX5_clause_176 (by decide) r2 (ir_c rfl) (fun c108 => ?_) (fun c108 => ?_)
        ·
          refine GO.aload_n dX5_clause_209 rfl rfl ?_
          refine GO.iconst dX5_clause_210 ?_
          refine GO.aload_n dX5_clause_211 rfl rfl ?_
          refine GO.ldc (X := 999999) dX5_clause_212 gw_790 rfl ?_
          refine GO.callV (ci := 4) (N := mX5_digits) dX5_clause_214 (RX5, TX5, 7) rfl gV_RX5_69 h_x (t_X5_digits h_x (ir_c rfl)) rfl [ti 1, .ref x] rfl rfl (Nat.le_of_ble_eq_true rfl) rfl (k_is fun X109 V113 r110 h111 hF112 => ?_)
          refine GO.callV (ci := 4) (N := mX5_set) dX5_clause_217 (RX5, TX5, 7) rfl gV_RX5_73 h_x (t_X5_set h_x (ir_c rfl) r110) rfl [] rfl rfl (Nat.le_of_ble_eq_true rfl) rfl (k_vs fun V117 h116 hF115 => ?_)
          have e119 : vi V113 x 4 = vi V106 x 4 := vi_fr hF112 h_x h_x (by decide +kernel)
          have e118 : vi V117 x 4 = vi V113 x 4 := vi_fr hF115 h_x h_x (by decide +kernel)
          have q120 : -2147483648 ≤ vi V106 x 4 ∧ vi V106 x 4 ≤ 2147483647 := vi_ir
          exact GO.retv rfl rfl dX5_clause_220 ⟨rfl, rfl, by omega⟩
        ·
          refine GO.iload_n dX5_clause_179 rfl rfl ?_
          refine GO.bipush dX5_clause_180 rfl ?_
          refine GO.icmp_eq (tgt := 209) dX5_clause_182 (by decide) r2 (ir_c rfl) (fun c121 => ?_) (fun c121 => ?_)
          ·
            refine GO.aload_n dX5_clause_209 rfl rfl ?_
            refine GO.iconst dX5_clause_210 ?_
            refine GO.aload_n dX5_clause_211 rfl rfl ?_
            refine GO.ldc (X := 999999) dX5_clause_212 gw_790 rfl ?_
            refine GO.callV (ci := 4) (N := mX5_digits) dX5_clause_214 (RX5, TX5, 7) rfl gV_RX5_69 h_x (t_X5_digits h_x (ir_c rfl)) rfl [ti 1, .ref x] rfl rfl (Nat.le_of_ble_eq_true rfl) rfl (k_is fun X122 V126 r123 h124 hF125 => ?_)
            refine GO.callV (ci := 4) (N := mX5_set) dX5_clause_217 (RX5, TX5, 7) rfl gV_RX5_73 h_x (t_X5_set h_x (ir_c rfl) r123) rfl [] rfl rfl (Nat.le_of_ble_eq_true rfl) rfl (k_vs fun V130 h129 hF128 => ?_)
            have e132 : vi V126 x 4 = vi V106 x 4 := vi_fr hF125 h_x h_x (by decide +kernel)
            have e131 : vi V130 x 4 = vi V126 x 4 := vi_fr hF128 h_x h_x (by decide +kernel)
            have q133 : -2147483648 ≤ vi V106 x 4 ∧ vi V106 x 4 ≤ 2147483647 := vi_ir
            exact GO.retv rfl rfl dX5_clause_220 ⟨rfl, rfl, by omega⟩
          ·
            refine GO.iload_n dX5_clause_185 rfl rfl ?_
            refine GO.bipush dX5_clause_186 rfl ?_
            refine GO.icmp_eq (tgt := 209) dX5_clause_188 (by decide) r2 (ir_c rfl) (fun c134 => ?_) (fun c134 => ?_)
            ·
              refine GO.aload_n dX5_clause_209 rfl rfl ?_
              refine GO.iconst dX5_clause_210 ?_
              refine GO.aload_n dX5_clause_211 rfl rfl ?_
              refine GO.ldc (X := 999999) dX5_clause_212 gw_790 rfl ?_
              refine GO.callV (ci := 4) (N := mX5_digits) dX5_clause_214 (RX5, TX5, 7) rfl gV_RX5_69 h_x (t_X5_digits h_x (ir_c rfl)) rfl [ti 1, .ref x] rfl rfl (Nat.le_of_ble_eq_true rfl) rfl (k_is fun X135 V139 r136 h137 hF138 => ?_)
              refine GO.callV (ci := 4) (N := mX5_set) dX5_clause_217 (RX5, TX5, 7) rfl gV_RX5_73 h_x (t_X5_set h_x (ir_c rfl) r136) rfl [] rfl rfl (Nat.le_of_ble_eq_true rfl) rfl (k_vs fun V143 h142 hF141 => ?_)
              have e145 : vi V139 x 4 = vi V106 x 4 := vi_fr hF138 h_x h_x (by decide +kernel)
              have e144 : vi V143 x 4 = vi V139 x 4 := vi_fr hF141 h_x h_x (by decide +kernel)
              have q146 : -2147483648 ≤ vi V106 x 4 ∧ vi V106 x 4 ≤ 2147483647 := vi_ir
              exact GO.retv rfl rfl dX5_clause_220 ⟨rfl, rfl, by omega⟩
            ·
              refine GO.iload_n dX5_clause_191 rfl rfl ?_
              refine GO.bipush dX5_clause_192 rfl ?_
              refine GO.icmp_eq (tgt := 209) dX5_clause_194 (by decide) r2 (ir_c rfl) (fun c147 => ?_) (fun c147 => ?_)
              ·
                refine GO.aload_n dX5_clause_209 rfl rfl ?_
                refine GO.iconst dX5_clause_210 ?_
                refine GO.aload_n dX5_clause_211 rfl rfl ?_
                refine GO.ldc (X := 999999) dX5_clause_212 gw_790 rfl ?_
                refine GO.callV (ci := 4) (N := mX5_digits) dX5_clause_214 (RX5, TX5, 7) rfl gV_RX5_69 h_x (t_X5_digits h_x (ir_c rfl)) rfl [ti 1, .ref x] rfl rfl (Nat.le_of_ble_eq_true rfl) rfl (k_is fun X148 V152 r149 h150 hF151 => ?_)
                refine GO.callV (ci := 4) (N := mX5_set) dX5_clause_217 (RX5, TX5, 7) rfl gV_RX5_73 h_x (t_X5_set h_x (ir_c rfl) r149) rfl [] rfl rfl (Nat.le_of_ble_eq_true rfl) rfl (k_vs fun V156 h155 hF154 => ?_)
                have e158 : vi V152 x 4 = vi V106 x 4 := vi_fr hF151 h_x h_x (by decide +kernel)
                have e157 : vi V156 x 4 = vi V152 x 4 := vi_fr hF154 h_x h_x (by decide +kernel)
                have q159 : -2147483648 ≤ vi V106 x 4 ∧ vi V106 x 4 ≤ 2147483647 := vi_ir
                exact GO.retv rfl rfl dX5_clause_220 ⟨rfl, rfl, by omega⟩
              ·
                refine GO.iload_n dX5_clause_197 rfl rfl ?_
                refine GO.bipush dX5_clause_198 rfl ?_
                refine GO.icmp_eq (tgt := 209) dX5_clause_200 (by decide) r2 (ir_c rfl) (fun c160 => ?_) (fun c160 => ?_)
                ·
                  refine GO.aload_n dX5_clause_209 rfl rfl ?_
                  refine GO.iconst dX5_clause_210 ?_
                  refine GO.aload_n dX5_clause_211 rfl rfl ?_
                  refine GO.ldc (X := 999999) dX5_clause_212 gw_790 rfl ?_
                  refine GO.callV (ci := 4) (N := mX5_digits) dX5_clause_214 (RX5, TX5, 7) rfl gV_RX5_69 h_x (t_X5_digits h_x (ir_c rfl)) rfl [ti 1, .ref x] rfl rfl (Nat.le_of_ble_eq_true rfl) rfl (k_is fun X161 V165 r162 h163 hF164 => ?_)
                  refine GO.callV (ci := 4) (N := mX5_set) dX5_clause_217 (RX5, TX5, 7) rfl gV_RX5_73 h_x (t_X5_set h_x (ir_c rfl) r162) rfl [] rfl rfl (Nat.le_of_ble_eq_true rfl) rfl (k_vs fun V169 h168 hF167 => ?_)
                  have e171 : vi V165 x 4 = vi V106 x 4 := vi_fr hF164 h_x h_x (by decide +kernel)
                  have e170 : vi V169 x 4 = vi V165 x 4 := vi_fr hF167 h_x h_x (by decide +kernel)
                  have q172 : -2147483648 ≤ vi V106 x 4 ∧ vi V106 x 4 ≤ 2147483647 := vi_ir
                  exact GO.retv rfl rfl dX5_clause_220 ⟨rfl, rfl, by omega⟩
                ·
                  refine GO.iload_n dX5_clause_203 rfl rfl ?_
                  refine GO.bipush dX5_clause_204 rfl ?_
                  refine GO.icmp_ne (tgt := 220) dX5_clause_206 (by decide) r2 (ir_c rfl) (fun c173 => ?_) (fun c173 => ?_)
                  ·
                    have q174 : -2147483648 ≤ vi V106 x 4 ∧ vi V106 x 4 ≤ 2147483647 := vi_ir
                    exact GO.retv rfl rfl dX5_clause_220 ⟨rfl, rfl, by omega⟩
                  ·
                    refine GO.aload_n dX5_clause_209 rfl rfl ?_
                    refine GO.iconst dX5_clause_210 ?_
                    refine GO.aload_n dX5_clause_211 rfl rfl ?_
                    refine GO.ldc (X := 999999) dX5_clause_212 gw_790 rfl ?_
                    refine GO.callV (ci := 4) (N := mX5_digits) dX5_clause_214 (RX5, TX5, 7) rfl gV_RX5_69 h_x (t_X5_digits h_x (ir_c rfl)) rfl [ti 1, .ref x] rfl rfl (Nat.le_of_ble_eq_true rfl) rfl (k_is fun X175 V179 r176 h177 hF178 => ?_)
                    refine GO.callV (ci := 4) (N := mX5_set) dX5_clause_217 (RX5, TX5, 7) rfl gV_RX5_73 h_x (t_X5_set h_x (ir_c rfl) r176) rfl [] rfl rfl (Nat.le_of_ble_eq_true rfl) rfl (k_vs fun V183 h182 hF181 => ?_)
                    have e185 : vi V179 x 4 = vi V106 x 4 := vi_fr hF178 h_x h_x (by decide +kernel)
                    have e184 : vi V183 x 4 = vi V179 x 4 := vi_fr hF181 h_x h_x (by decide +kernel)
                    have q186 : -2147483648 ≤ vi V106 x 4 ∧ vi V106 x 4 ≤ 2147483647 := vi_ir
                    exact GO.retv rfl rfl dX5_clause_220 ⟨rfl, rfl, by omega⟩
      refine GO.icmp_ne (tgt := 102) dX5_clause_64 (by decide) r2 (ir_c rfl) (fun c187 => ?_) (fun c187 => ?_)
      ·
        refine GO.iload_n dX5_clause_102 rfl rfl ?_
        refine GO.bipush dX5_clause_103 rfl ?_
        refine GO.icmp_ne (tgt := 139) dX5_clause_105 (by decide) r2 (ir_c rfl) (fun c188 => ?_) (fun c188 => ?_)
        ·
          refine GO.iload_n dX5_clause_139 rfl rfl ?_
          refine GO.bipush dX5_clause_140 rfl ?_
          have hj194 : ∀ (l195 : 99 ≤ X1), ∀ (u196 : X1 ≤ 115), GO mX5_clause K V (VS K (fun V1 => (vi V1 x 4 = 0))) K V22 0 0 169 [some (.ref x), some (ti X1)] [] := by
            intro l195 u196
            refine GO.aload_n dX5_clause_169 rfl rfl ?_
            have e198 : vi V16 x 4 = vi V x 4 := vi_fr hF15 h_x h_x (by decide +kernel)
            have e197 : vi V22 x 4 = vi V16 x 4 := vi_up e21 (Or.inr (by decide))
            have q199 : -2147483648 ≤ vi V x 4 ∧ vi V x 4 ≤ 2147483647 := vi_ir
            refine GO.callV (ci := 4) (N := mX5_condition) dX5_clause_170 (RX5, TX5, 7) rfl gV_RX5_54 h_x (t_X5_condition h_x (by omega)) rfl [] rfl rfl (Nat.le_of_ble_eq_true rfl) rfl (k_vs fun V202 h201 hF200 => ?_)
            have q204 : -2147483648 ≤ vi V202 x 4 ∧ vi V202 x 4 ≤ 2147483647 := vi_ir
            exact hj105  V202 (by omega)
          refine GO.icmp_eq (tgt := 169) dX5_clause_142 (by decide) r2 (ir_c rfl) (fun c205 => ?_) (fun c205 => ?_)
          ·
            have q206 : -2147483648 ≤ X1 ∧ X1 ≤ 2147483647 := r2
            exact hj194  (by omega) (by omega)
          ·
            refine GO.iload_n dX5_clause_145 rfl rfl ?_
            refine GO.bipush dX5_clause_146 rfl ?_
            refine GO.icmp_eq (tgt := 169) dX5_clause_148 (by decide) r2 (ir_c rfl) (fun c207 => ?_) (fun c207 => ?_)
            ·
              have q208 : -2147483648 ≤ X1 ∧ X1 ≤ 2147483647 := r2
              exact hj194  (by omega) (by omega)
            ·
              refine GO.iload_n dX5_clause_151 rfl rfl ?_
              refine GO.bipush dX5_clause_152 rfl ?_
              refine GO.icmp_eq (tgt := 169) dX5_clause_154 (by decide) r2 (ir_c rfl) (fun c209 => ?_) (fun c209 => ?_)
              ·
                have q210 : -2147483648 ≤ X1 ∧ X1 ≤ 2147483647 := r2
                exact hj194  (by omega) (by omega)
              ·
                refine GO.iload_n dX5_clause_157 rfl rfl ?_
                refine GO.bipush dX5_clause_158 rfl ?_
                refine GO.icmp_eq (tgt := 169) dX5_clause_160 (by decide) r2 (ir_c rfl) (fun c211 => ?_) (fun c211 => ?_)
                ·
                  have q212 : -2147483648 ≤ X1 ∧ X1 ≤ 2147483647 := r2
                  exact hj194  (by omega) (by omega)
                ·
                  refine GO.iload_n dX5_clause_163 rfl rfl ?_
                  refine GO.bipush dX5_clause_164 rfl ?_
                  refine GO.icmp_ne (tgt := 173) dX5_clause_166 (by decide) r2 (ir_c rfl) (fun c213 => ?_) (fun c213 => ?_)
                  ·
                    have e215 : vi V16 x 4 = vi V x 4 := vi_fr hF15 h_x h_x (by decide +kernel)
                    have e214 : vi V22 x 4 = vi V16 x 4 := vi_up e21 (Or.inr (by decide))
                    have q216 : -2147483648 ≤ vi V x 4 ∧ vi V x 4 ≤ 2147483647 := vi_ir
                    exact hj105  V22 (by omega)
                  ·
                    have q217 : -2147483648 ≤ X1 ∧ X1 ≤ 2147483647 := r2
                    exact hj194  (by omega) (by omega)
        ·
          refine GO.aload_n dX5_clause_108 rfl rfl ?_
          refine GO.iconst dX5_clause_109 ?_
          refine GO.aload_n dX5_clause_110 rfl rfl ?_
          refine GO.bipush dX5_clause_111 rfl ?_
          refine GO.callV (ci := 4) (N := mX5_digits) dX5_clause_113 (RX5, TX5, 7) rfl gV_RX5_69 h_x (t_X5_digits h_x (ir_c rfl)) rfl [ti 2, .ref x] rfl rfl (Nat.le_of_ble_eq_true rfl) rfl (k_is fun X220 V224 r221 h222 hF223 => ?_)
          refine GO.callV (ci := 4) (N := mX5_set) dX5_clause_116 (RX5, TX5, 7) rfl gV_RX5_73 h_x (t_X5_set h_x (ir_c rfl) r221) rfl [] rfl rfl (Nat.le_of_ble_eq_true rfl) rfl (k_vs fun V228 h227 hF226 => ?_)
          refine GO.aload_n dX5_clause_119 rfl rfl ?_
          refine GO.bipush dX5_clause_120 rfl ?_
          have e229 : vi V228 x 5 = vi V224 x 5 := vi_fr hF226 h_x h_x (by decide +kernel)
          refine GO.callV (ci := 4) (N := mX5_take) dX5_clause_122 (RX5, TX5, 7) rfl gV_RX5_38 h_x (t_X5_take h_x (ir_c rfl)) rfl [] rfl rfl (Nat.le_of_ble_eq_true rfl) rfl (k_vs fun V232 h231 hF230 => ?_)
          refine GO.aload_n dX5_clause_125 rfl rfl ?_
          refine GO.iconst dX5_clause_126 ?_
          refine GO.aload_n dX5_clause_127 rfl rfl ?_
          refine GO.bipush dX5_clause_128 rfl ?_
          refine GO.callV (ci := 4) (N := mX5_digits) dX5_clause_130 (RX5, TX5, 7) rfl gV_RX5_69 h_x (t_X5_digits h_x (ir_c rfl)) rfl [ti 3, .ref x] rfl rfl (Nat.le_of_ble_eq_true rfl) rfl (k_is fun X234 V238 r235 h236 hF237 => ?_)
          refine GO.callV (ci := 4) (N := mX5_set) dX5_clause_133 (RX5, TX5, 7) rfl gV_RX5_73 h_x (t_X5_set h_x (ir_c rfl) r235) rfl [] rfl rfl (Nat.le_of_ble_eq_true rfl) rfl (k_vs fun V242 h241 hF240 => ?_)
          refine GO.goto (tgt := 173) dX5_clause_136 (by decide) ?_
          have e249 : vi V16 x 4 = vi V x 4 := vi_fr hF15 h_x h_x (by decide +kernel)
          have e248 : vi V22 x 4 = vi V16 x 4 := vi_up e21 (Or.inr (by decide))
          have e247 : vi V224 x 4 = vi V22 x 4 := vi_fr hF223 h_x h_x (by decide +kernel)
          have e246 : vi V228 x 4 = vi V224 x 4 := vi_fr hF226 h_x h_x (by decide +kernel)
          have e245 : vi V232 x 4 = vi V228 x 4 := vi_fr hF230 h_x h_x (by decide +kernel)
          have e244 : vi V238 x 4 = vi V232 x 4 := vi_fr hF237 h_x h_x (by decide +kernel)
          have e243 : vi V242 x 4 = vi V238 x 4 := vi_fr hF240 h_x h_x (by decide +kernel)
          have q250 : -2147483648 ≤ vi V x 4 ∧ vi V x 4 ≤ 2147483647 := vi_ir
          exact hj105  V242 (by omega)
      ·
        refine GO.aload_n dX5_clause_67 rfl rfl ?_
        refine GO.iconst dX5_clause_68 ?_
        refine GO.aload_n dX5_clause_69 rfl rfl ?_
        refine GO.iconst dX5_clause_70 ?_
        refine GO.callV (ci := 4) (N := mX5_digits) dX5_clause_71 (RX5, TX5, 7) rfl gV_RX5_69 h_x (t_X5_digits h_x (ir_c rfl)) rfl [ti 2, .ref x] rfl rfl (Nat.le_of_ble_eq_true rfl) rfl (k_is fun X253 V257 r254 h255 hF256 => ?_)
        refine GO.callV (ci := 4) (N := mX5_set) dX5_clause_74 (RX5, TX5, 7) rfl gV_RX5_73 h_x (t_X5_set h_x (ir_c rfl) r254) rfl [] rfl rfl (Nat.le_of_ble_eq_true rfl) rfl (k_vs fun V261 h260 hF259 => ?_)
        refine GO.aload_n dX5_clause_77 rfl rfl ?_
        refine GO.bipush dX5_clause_78 rfl ?_
        have e262 : vi V261 x 5 = vi V257 x 5 := vi_fr hF259 h_x h_x (by decide +kernel)
        refine GO.callV (ci := 4) (N := mX5_take) dX5_clause_80 (RX5, TX5, 7) rfl gV_RX5_38 h_x (t_X5_take h_x (ir_c rfl)) rfl [] rfl rfl (Nat.le_of_ble_eq_true rfl) rfl (k_vs fun V265 h264 hF263 => ?_)
        refine GO.aload_n dX5_clause_83 rfl rfl ?_
        refine GO.iconst dX5_clause_84 ?_
        refine GO.aload_n dX5_clause_85 rfl rfl ?_
        refine GO.iconst dX5_clause_86 ?_
        refine GO.callV (ci := 4) (N := mX5_digits) dX5_clause_87 (RX5, TX5, 7) rfl gV_RX5_69 h_x (t_X5_digits h_x (ir_c rfl)) rfl [ti 3, .ref x] rfl rfl (Nat.le_of_ble_eq_true rfl) rfl (k_is fun X267 V271 r268 h269 hF270 => ?_)
        refine GO.callV (ci := 4) (N := mX5_set) dX5_clause_90 (RX5, TX5, 7) rfl gV_RX5_73 h_x (t_X5_set h_x (ir_c rfl) r268) rfl [] rfl rfl (Nat.le_of_ble_eq_true rfl) rfl (k_vs fun V275 h274 hF273 => ?_)
        refine GO.aload_n dX5_clause_93 rfl rfl ?_
        refine GO.bipush dX5_clause_94 rfl ?_
        have e276 : vi V275 x 5 = vi V271 x 5 := vi_fr hF273 h_x h_x (by decide +kernel)
        refine GO.callV (ci := 4) (N := mX5_take) dX5_clause_96 (RX5, TX5, 7) rfl gV_RX5_38 h_x (t_X5_take h_x (ir_c rfl)) rfl [] rfl rfl (Nat.le_of_ble_eq_true rfl) rfl (k_vs fun V279 h278 hF277 => ?_)
        refine GO.goto (tgt := 173) dX5_clause_99 (by decide) ?_
        have e288 : vi V16 x 4 = vi V x 4 := vi_fr hF15 h_x h_x (by decide +kernel)
        have e287 : vi V22 x 4 = vi V16 x 4 := vi_up e21 (Or.inr (by decide))
        have e286 : vi V257 x 4 = vi V22 x 4 := vi_fr hF256 h_x h_x (by decide +kernel)
        have e285 : vi V261 x 4 = vi V257 x 4 := vi_fr hF259 h_x h_x (by decide +kernel)
        have e284 : vi V265 x 4 = vi V261 x 4 := vi_fr hF263 h_x h_x (by decide +kernel)
        have e283 : vi V271 x 4 = vi V265 x 4 := vi_fr hF270 h_x h_x (by decide +kernel)
        have e282 : vi V275 x 4 = vi V271 x 4 := vi_fr hF273 h_x h_x (by decide +kernel)
        have e281 : vi V279 x 4 = vi V275 x 4 := vi_fr hF277 h_x h_x (by decide +kernel)
        have q289 : -2147483648 ≤ vi V x 4 ∧ vi V x 4 ≤ 2147483647 := vi_ir
        exact hj105  V279 (by omega)
    ·
      refine GO.aload_n dX5_clause_41 rfl rfl ?_
      refine GO.iconst dX5_clause_42 ?_
      refine GO.aload_n dX5_clause_43 rfl rfl ?_
      refine GO.getI h_x fl_RX5_9 rfl rfl dX5_clause_44 (fun _ _ => ?_)
      refine GO.callV (ci := 4) (N := mX5_refuse) dX5_clause_47 (RX5, TX5, 7) rfl gV_RX5_57 h_x (t_X5_refuse h_x (ir_c rfl) vi_ir (by omega)) rfl [] rfl rfl (Nat.le_of_ble_eq_true rfl) rfl (k_vs fun V293 h292 hF291 => ?_)
      have e296 : vi V16 x 4 = vi V x 4 := vi_fr hF15 h_x h_x (by decide +kernel)
      have e295 : vi V293 x 4 = vi V16 x 4 := vi_fr hF291 h_x h_x (by decide +kernel)
      have q297 : -2147483648 ≤ vi V x 4 ∧ vi V x 4 ≤ 2147483647 := vi_ir
      exact GO.retv rfl rfl dX5_clause_50 ⟨rfl, rfl, by omega⟩
  ·
    refine GO.aload_n dX5_clause_12 rfl rfl ?_
    refine GO.iconst dX5_clause_13 ?_
    refine GO.aload_n dX5_clause_14 rfl rfl ?_
    refine GO.getI h_x fl_RX5_9 rfl rfl dX5_clause_15 (fun _ _ => ?_)
    refine GO.callV (ci := 4) (N := mX5_refuse) dX5_clause_18 (RX5, TX5, 7) rfl gV_RX5_57 h_x (t_X5_refuse h_x (ir_c rfl) vi_ir (by omega)) rfl [] rfl rfl (Nat.le_of_ble_eq_true rfl) rfl (k_vs fun V300 h299 hF298 => ?_)
    have e302 : vi V300 x 4 = vi V x 4 := vi_fr hF298 h_x h_x (by decide +kernel)
    have q303 : -2147483648 ≤ vi V x 4 ∧ vi V x 4 ≤ 2147483647 := vi_ir
    exact GO.retv rfl rfl dX5_clause_21 ⟨rfl, rfl, by omega⟩

set_option maxHeartbeats 1000000 in
theorem t_X5_writeText {K : Kmap} {V : Vmap} {x : Nat} (h_x : K x = some (0, 4)) (q_0 : vi V x 4 = 0) : MC mX5_writeText K V [.ref x] (VS K (fun V1 => (True))) := by
  refine MC.start 1 (by decide +kernel) rfl rfl rfl (ls0 := [some (.ref x), none]) rfl ?_
  refine GO.iconst dX5_writeText_0 ?_
  refine GO.istore_n (ls1 := [some (.ref x), some (ti 0)]) dX5_writeText_1 rfl rfl rfl ?_
  have q2 : -2147483648 ≤ vi V x 4 ∧ vi V x 4 ≤ 2147483647 := vi_ir
  refine GO.loop1 (fun i1 W => 0 ≤ i1 ∧ i1 ≤ 13 ∧ (vi W x 4 = 0) ∧ True) (fun i1 => [some (.ref x), some (ti i1)]) (fun i1 W => (2147483647 - i1).toNat) 0 ⟨by omega, by omega, by omega, trivial⟩ rfl (fun i1 Wi1 hp148 ih147 => ?_)
  obtain ⟨l_i1, u_i1, n_i1, -⟩ := hp148
  have r_i1 : ir i1 := ⟨by omega, by omega⟩
  show GO mX5_writeText K V (VS K (fun V1 => (True))) K Wi1 0 0 2 [some (.ref x), some (ti i1)] []
  refine GO.iload_n dX5_writeText_2 rfl rfl ?_
  refine GO.bipush dX5_writeText_3 rfl ?_
  refine GO.icmp_gt (tgt := 50) dX5_writeText_5 (by decide) r_i1 (ir_c rfl) (fun c149 => ?_) (fun c149 => ?_)
  ·
    exact GO.retv rfl rfl dX5_writeText_50 ⟨rfl, rfl, trivial⟩
  ·
    refine GO.aload_n dX5_writeText_8 rfl rfl ?_
    refine GO.getI h_x fl_RX5_18 rfl rfl dX5_writeText_9 (fun _ _ => ?_)
    refine GO.if_ne (tgt := 50) dX5_writeText_12 (by decide) vi_ir (fun c150 => ?_) (fun c150 => ?_)
    ·
      exact GO.retv rfl rfl dX5_writeText_50 ⟨rfl, rfl, trivial⟩
    ·
      refine GO.aload_n dX5_writeText_15 rfl rfl ?_
      have q151 : -2147483648 ≤ vi Wi1 x 4 ∧ vi Wi1 x 4 ≤ 2147483647 := vi_ir
      refine GO.callV (ci := 4) (N := mX5_clause) dX5_writeText_16 (RX5, TX5, 7) rfl gV_RX5_35 h_x (t_X5_clause h_x (by omega)) rfl [] rfl rfl (Nat.le_of_ble_eq_true rfl) rfl (k_vs fun V154 h153 hF152 => ?_)
      refine GO.aload_n dX5_writeText_19 rfl rfl ?_
      refine GO.getI h_x fl_RX5_18 rfl rfl dX5_writeText_20 (fun _ _ => ?_)
      refine GO.if_ne (tgt := 37) dX5_writeText_23 (by decide) vi_ir (fun c157 => ?_) (fun c157 => ?_)
      ·
        exact GO.retv rfl rfl dX5_writeText_37 ⟨rfl, rfl, trivial⟩
      ·
        refine GO.aload_n dX5_writeText_26 rfl rfl ?_
        refine GO.getI h_x fl_RX5_9 rfl rfl dX5_writeText_27 (fun _ _ => ?_)
        refine GO.aload_n dX5_writeText_30 rfl rfl ?_
        refine GO.getI h_x fl_RX5_28 rfl rfl dX5_writeText_31 (fun _ _ => ?_)
        refine GO.icmp_lt (tgt := 38) dX5_writeText_34 (by decide) vi_ir vi_ir (fun c160 => ?_) (fun c160 => ?_)
        ·
          refine GO.aload_n dX5_writeText_38 rfl rfl ?_
          refine GO.bipush dX5_writeText_39 rfl ?_
          refine GO.callV (ci := 4) (N := mX5_take) dX5_writeText_41 (RX5, TX5, 7) rfl gV_RX5_38 h_x (t_X5_take h_x (ir_c rfl)) rfl [] rfl rfl (Nat.le_of_ble_eq_true rfl) rfl (k_vs fun V163 h162 hF161 => ?_)
          refine GO.iinc (X := i1) (n := 1) (Y := i1 + 1) (ls1 := [some (.ref x), some (ti (i1 + 1))]) dX5_writeText_44 rfl rfl rfl rfl ?_
          refine GO.goto (tgt := 2) dX5_writeText_47 (by decide) ?_
          have e165 : vi V163 x 4 = vi V154 x 4 := vi_fr hF161 h_x h_x (by decide +kernel)
          have q166 : -2147483648 ≤ vi V154 x 4 ∧ vi V154 x 4 ≤ 2147483647 := vi_ir
          exact ih147 (i1 + 1) V163 ⟨by omega, by omega, by omega, trivial⟩ (by show (2147483647 - (i1 + 1)).toNat < (2147483647 - i1).toNat; omega)
        ·
          exact GO.retv rfl rfl dX5_writeText_37 ⟨rfl, rfl, trivial⟩

set_option maxHeartbeats 1000000 in
theorem t_X5_writeReading {K : Kmap} {V : Vmap} {x : Nat} (h_x : K x = some (0, 4)) (q_0 : vi V x 4 = 0) : MC mX5_writeReading K V [.ref x] (VS K (fun V1 => (True))) := by
  refine MC.start 0 (by decide +kernel) rfl rfl rfl (ls0 := [some (.ref x)]) rfl ?_
  refine GO.aload_n dX5_writeReading_0 rfl rfl ?_
  refine GO.getR h_x fl_RX5_31 rfl rfl dX5_writeReading_1 (fun hv2 h1 => ?_)
  refine GO.getR h1 fl_RX5_42 rfl rfl dX5_writeReading_4 (fun hv4 h3 => ?_)
  refine GO.bipush dX5_writeReading_7 rfl ?_
  refine GO.iconst dX5_writeReading_9 ?_
  refine GO.iconst dX5_writeReading_10 ?_
  refine GO.iconst dX5_writeReading_11 ?_
  refine GO.iconst dX5_writeReading_12 ?_
  refine GO.callV (ci := 7) (N := mX8_append) dX5_writeReading_13 (RX8, TX8, 4) rfl gV_RX5_48 h3 (t_X8_append h3 (ir_c rfl) (ir_c rfl) (ir_c rfl) (ir_c rfl) (ir_c rfl)) rfl [] rfl rfl (Nat.le_of_ble_eq_true rfl) rfl (k_is fun X5 V9 r6 h7 hF8 => ?_)
  refine GO.pop dX5_writeReading_16 rfl ?_
  refine GO.aload_n dX5_writeReading_17 rfl rfl ?_
  have e10 : vi V9 x 4 = vi V x 4 := vi_fr hF8 h_x h_x (by decide +kernel)
  have q11 : -2147483648 ≤ vi V x 4 ∧ vi V x 4 ≤ 2147483647 := vi_ir
  refine GO.callV (ci := 4) (N := mX5_condition) dX5_writeReading_18 (RX5, TX5, 7) rfl gV_RX5_54 h_x (t_X5_condition h_x (by omega)) rfl [] rfl rfl (Nat.le_of_ble_eq_true rfl) rfl (k_vs fun V14 h13 hF12 => ?_)
  refine GO.aload_n dX5_writeReading_21 rfl rfl ?_
  refine GO.getI h_x fl_RX5_9 rfl rfl dX5_writeReading_22 (fun _ _ => ?_)
  refine GO.aload_n dX5_writeReading_25 rfl rfl ?_
  refine GO.getI h_x fl_RX5_28 rfl rfl dX5_writeReading_26 (fun _ _ => ?_)
  refine GO.icmp_ge (tgt := 41) dX5_writeReading_29 (by decide) vi_ir vi_ir (fun c19 => ?_) (fun c19 => ?_)
  ·
    exact GO.retv rfl rfl dX5_writeReading_41 ⟨rfl, rfl, trivial⟩
  ·
    refine GO.aload_n dX5_writeReading_32 rfl rfl ?_
    refine GO.iconst dX5_writeReading_33 ?_
    refine GO.aload_n dX5_writeReading_34 rfl rfl ?_
    refine GO.getI h_x fl_RX5_9 rfl rfl dX5_writeReading_35 (fun _ _ => ?_)
    refine GO.callV (ci := 4) (N := mX5_refuse) dX5_writeReading_38 (RX5, TX5, 7) rfl gV_RX5_57 h_x (t_X5_refuse h_x (ir_c rfl) vi_ir (by omega)) rfl [] rfl rfl (Nat.le_of_ble_eq_true rfl) rfl (k_vs fun V22 h21 hF20 => ?_)
    exact GO.retv rfl rfl dX5_writeReading_41 ⟨rfl, rfl, trivial⟩

set_option maxHeartbeats 1000000 in
theorem t_X6_forget {K : Kmap} {V : Vmap} {x : Nat} (h_x : K x = some (0, 5)) : MC mX6_forget K V [.ref x] (VS K (fun V1 => (True))) := by
  refine MC.start 0 (by decide +kernel) rfl rfl rfl (ls0 := [some (.ref x)]) rfl ?_
  refine GO.aload_n dX6_forget_0 rfl rfl ?_
  refine GO.iconst dX6_forget_1 ?_
  refine GO.putI h_x fp_RX6_42 rfl (by decide +kernel) (ir_c rfl) (by decide) (by decide) dX6_forget_2 (fun V2 e1 => ?_)
  exact GO.retv rfl rfl dX6_forget_5 ⟨rfl, rfl, trivial⟩

set_option maxHeartbeats 1000000 in
theorem t_X8_get_k24 {K : Kmap} {V : Vmap} {x : Nat} {p0 : Int} {p1 : Int} (h_x : K x = some (0, 24)) (r_p0 : ir p0) (r_p1 : ir p1) : MC mX8_get_k24 K V [.ref x, ti p0, ti p1] (IP K V (fun X => True)) := by
  refine MC.start 2 (by decide +kernel) rfl rfl rfl (ls0 := [some (.ref x), some (ti p0), some (ti p1), none, none]) rfl ?_
  refine GO.iload_n dX8_get_0 rfl rfl ?_
  refine GO.aload_n dX8_get_1 rfl rfl ?_
  refine GO.getI h_x fl_RX8_15_k24 rfl rfl dX8_get_2 (fun l1 u2 => ?_)
  refine GO.imul dX8_get_5 ?_
  refine GO.norm (fun z3 r4 _ => ?_)
  refine GO.iload_n dX8_get_6 rfl rfl ?_
  refine GO.iadd dX8_get_7 ?_
  refine GO.norm (fun z5 r6 _ => ?_)
  refine GO.istore_n (ls1 := [some (.ref x), some (ti p0), some (ti p1), some (ti z5), none]) dX8_get_8 rfl rfl rfl ?_
  refine GO.iload_n dX8_get_9 rfl rfl ?_
  have hj16 : ∀ (z15 : Int), ∀ (l17 : 0 ≤ z15), ∀ (u18 : z15 ≤ 1), GO mX8_get_k24 K V (IP K V (fun X => True)) K V 0 0 38 [some (.ref x), some (ti p0), some (ti p1), some (ti z5), none] [ti z15] := by
    intro z15 l17 u18
    have r19 : ir z15 := ⟨by omega, by omega⟩
    refine GO.istore (ls1 := [some (.ref x), some (ti p0), some (ti p1), some (ti z5), some (ti z15)]) dX8_get_38 rfl rfl ?_
    refine GO.iload dX8_get_40 rfl ?_
    refine GO.if_eq (tgt := 67) dX8_get_42 (by decide) r19 (fun c20 => ?_) (fun c20 => ?_)
    ·
      refine GO.iconst dX8_get_67 ?_
      exact GO.reti rfl rfl dX8_get_68 ⟨rfl, rfl, _, rfl, (ir_c rfl), trivial⟩
    ·
      refine GO.iload_n dX8_get_45 rfl rfl ?_
      refine GO.if_lt (tgt := 67) dX8_get_46 (by decide) r6 (fun c21 => ?_) (fun c21 => ?_)
      ·
        refine GO.iconst dX8_get_67 ?_
        exact GO.reti rfl rfl dX8_get_68 ⟨rfl, rfl, _, rfl, (ir_c rfl), trivial⟩
      ·
        refine GO.iload_n dX8_get_49 rfl rfl ?_
        refine GO.aload_n dX8_get_50 rfl rfl ?_
        refine GO.getB h_x fl_RX8_27_k24 rfl rfl dX8_get_51 (fun n24 hv23 h22 b25 => ?_)
        refine GO.alen h22 dX8_get_54 (fun h26 => ?_)
        refine GO.icmp_ge (tgt := 67) dX8_get_55 (by decide) r6 ⟨by omega, by omega⟩ (fun c27 => ?_) (fun c27 => ?_)
        ·
          refine GO.iconst dX8_get_67 ?_
          exact GO.reti rfl rfl dX8_get_68 ⟨rfl, rfl, _, rfl, (ir_c rfl), trivial⟩
        ·
          refine GO.aload_n dX8_get_58 rfl rfl ?_
          refine GO.getRaw h_x fl_RX8_27_k24 hv23 dX8_get_59 ?_
          refine GO.iload_n dX8_get_62 rfl rfl ?_
          have q30 : -2147483648 ≤ z5 ∧ z5 ≤ 2147483647 := r6
          refine GO.iald (t := 0) rfl rfl h22 r6 (by omega) (by omega) dX8_get_63 (fun _ _ => ?_)
          refine GO.goto (tgt := 68) dX8_get_64 (by decide) ?_
          have q31 : -2147483648 ≤ vi V (vq V x 2) (z5).toNat ∧ vi V (vq V x 2) (z5).toNat ≤ 2147483647 := vi_ir
          exact GO.reti rfl rfl dX8_get_68 ⟨rfl, rfl, _, rfl, vi_ir, trivial⟩
  have hj40 : GO mX8_get_k24 K V (IP K V (fun X => True)) K V 0 0 37 [some (.ref x), some (ti p0), some (ti p1), some (ti z5), none] [] := by
    skip
    refine GO.iconst dX8_get_37 ?_
    exact hj16 0 (by omega) (by omega)
  refine GO.if_lt (tgt := 37) dX8_get_10 (by decide) r_p0 (fun c41 => ?_) (fun c41 => ?_)
  ·
    exact hj40 
  ·
    refine GO.iload_n dX8_get_13 rfl rfl ?_
    refine GO.aload_n dX8_get_14 rfl rfl ?_
    refine GO.getI h_x fl_RX8_9_k24 rfl rfl dX8_get_15 (fun l42 u43 => ?_)
    refine GO.icmp_ge (tgt := 37) dX8_get_18 (by decide) r_p0 vi_ir (fun c44 => ?_) (fun c44 => ?_)
    ·
      exact hj40 
    ·
      refine GO.iload_n dX8_get_21 rfl rfl ?_
      refine GO.if_lt (tgt := 37) dX8_get_22 (by decide) r_p1 (fun c45 => ?_) (fun c45 => ?_)
      ·
        exact hj40 
      ·
        refine GO.iload_n dX8_get_25 rfl rfl ?_
        refine GO.aload_n dX8_get_26 rfl rfl ?_
        refine GO.getI h_x fl_RX8_15_k24 rfl rfl dX8_get_27 (fun l46 u47 => ?_)
        refine GO.icmp_ge (tgt := 37) dX8_get_30 (by decide) r_p1 vi_ir (fun c48 => ?_) (fun c48 => ?_)
        ·
          exact hj40 
        ·
          refine GO.iconst dX8_get_33 ?_
          refine GO.goto (tgt := 38) dX8_get_34 (by decide) ?_
          exact hj16 1 (by omega) (by omega)
