def mX12_loses : MRec := (RX12, cX12_loses, 3, (none : Option Jvm.ClassFile.FieldType), yX12_loses, 1, 21, 0, 0, 4257086903667773656850072045190937748293802271580823593866174309460010458348797794520662016)
def mX12_flows : MRec := (RX12, cX12_flows, 8, (none : Option Jvm.ClassFile.FieldType), yX12_flows, 2, 47, 0, 0, 4261562812795461736629470485424259135854706376937999723323138485252048893821910594900459520)
def mX12_day : MRec := (RX12, cX12_day, 2, (some .int), yX12_day, 10, 241, 0, 0, 9621983414447328363233382384140077613501227500180687977789929935050844395256104618180874285838199532188696838144)
def mX12_sound : MRec := (RX12, cX12_sound, 4, (some .boolean), yX12_sound, 1, 22, 0, 0, 2104294154165354572188974614723245976528611563821854604153732710492859286502689165343474302552752757916613738496)
set_option maxHeartbeats 1000000 in
theorem t_X12_loses {K : Kmap} {V : Vmap} {x : Nat} {p0 : Int} (h_x : K x = some (0, 11)) (r_p0 : ir p0) (q_0 : p0 ≥ 0) (q_1 : p0 ≤ 59) : MC mX12_loses K V [.ref x, ti p0] (VS K (fun V1 => (True) ∧ ((MLO V V1 x p0)) ∧ (MLS V V1 x p0))) := by
  refine MC.start 1 (by decide +kernel) rfl rfl rfl (ls0 := [some (.ref x), some (ti p0), none]) rfl ?_
  refine GO.useWT (fun hW1 => ?_)
  have ak2 := hW1.arr h_x 28 30 (by decide) rfl (by decide)
  have ak3 := hW1.arr h_x 19 21 (by decide) rfl (by decide)
  have ak4 := hW1.arr h_x 20 22 (by decide) rfl (by decide)
  have ak5 := hW1.arr h_x 21 23 (by decide) rfl (by decide)
  have ak6 := hW1.arr h_x 22 24 (by decide) rfl (by decide)
  have ak7 := hW1.arr h_x 23 25 (by decide) rfl (by decide)
  refine GO.useWT (fun hW_0 => ?_)
  refine GO.aload_n dX12_loses_0 rfl rfl ?_
  refine GO.getA (n := 60) h_x fl_RX12_80 rfl rfl rfl rfl dX12_loses_1 (fun hv9 h8 => ?_)
  refine GO.iload_n dX12_loses_4 rfl rfl ?_
  refine GO.iconst dX12_loses_5 ?_
  have q10 : -2147483648 ≤ p0 ∧ p0 ≤ 2147483647 := r_p0
  refine GO.zast (t := 30) rfl rfl (by decide +kernel) h8 r_p0 (by omega) (by omega) (by omega) (by omega) (by omega) dX12_loses_6 (fun V12 e11 => ?_)
  have ak13 := tk_put e11 ak2 h_x (vq_of hv9) ⟨by omega, by omega⟩ (rfl : ar 28 V x = ar 28 V x)
  have ak14 := tk_oth e11 ak3 h_x h8 (by decide) (by decide) (rfl : ar 19 V x = ar 19 V x)
  have ak15 := tk_oth e11 ak4 h_x h8 (by decide) (by decide) (rfl : ar 20 V x = ar 20 V x)
  have ak16 := tk_oth e11 ak5 h_x h8 (by decide) (by decide) (rfl : ar 21 V x = ar 21 V x)
  have ak17 := tk_oth e11 ak6 h_x h8 (by decide) (by decide) (rfl : ar 22 V x = ar 22 V x)
  have ak18 := tk_oth e11 ak7 h_x h8 (by decide) (by decide) (rfl : ar 23 V x = ar 23 V x)
  refine GO.aload_n dX12_loses_7 rfl rfl ?_
  refine GO.aload_n dX12_loses_8 rfl rfl ?_
  refine GO.getL h_x fl_RX12_657 rfl rfl dX12_loses_9 ?_
  refine GO.anyL (fun z19 => ?_)
  refine GO.aload_n dX12_loses_12 rfl rfl ?_
  refine GO.getA (n := 60) h_x fl_RX12_56 rfl rfl rfl rfl dX12_loses_13 (fun hv21 h20 => ?_)
  refine GO.iload_n dX12_loses_16 rfl rfl ?_
  refine GO.iald (t := 22) rfl rfl h20 r_p0 (by omega) (by omega) dX12_loses_17 (fun _ _ => ?_)
  refine GO.i2l dX12_loses_18 ?_
  refine GO.anyL (fun z23 => ?_)
  refine GO.ladd dX12_loses_19 ?_
  refine GO.anyL (fun z24 => ?_)
  refine GO.aload_n dX12_loses_20 rfl rfl ?_
  refine GO.getA (n := 60) h_x fl_RX12_59 rfl rfl rfl rfl dX12_loses_21 (fun hv26 h25 => ?_)
  refine GO.iload_n dX12_loses_24 rfl rfl ?_
  refine GO.iald (t := 23) rfl rfl h25 r_p0 (by omega) (by omega) dX12_loses_25 (fun _ _ => ?_)
  refine GO.i2l dX12_loses_26 ?_
  refine GO.anyL (fun z28 => ?_)
  refine GO.ladd dX12_loses_27 ?_
  refine GO.anyL (fun z29 => ?_)
  refine GO.putL h_x fp_RX12_657 rfl (by decide +kernel) dX12_loses_28 (fun V31 e30 => ?_)
  have ak32 := tk_fld e30 ak13.1 h_x (by decide) ak13.2
  have ak33 := tk_fld e30 ak14.1 h_x (by decide) ak14.2
  have ak34 := tk_fld e30 ak15.1 h_x (by decide) ak15.2
  have ak35 := tk_fld e30 ak16.1 h_x (by decide) ak16.2
  have ak36 := tk_fld e30 ak17.1 h_x (by decide) ak17.2
  have ak37 := tk_fld e30 ak18.1 h_x (by decide) ak18.2
  refine GO.aload_n dX12_loses_31 rfl rfl ?_
  refine GO.getRaw h_x fl_RX12_56 (Eq.trans (uq_ne e30 (Or.inr (by decide))) hv21) dX12_loses_32 ?_
  refine GO.iload_n dX12_loses_35 rfl rfl ?_
  refine GO.iconst dX12_loses_36 ?_
  refine GO.iast (t := 22) rfl rfl (by decide +kernel) h20 r_p0 (by omega) (by omega) (ir_c rfl) (by decide) (by decide) dX12_loses_37 (fun V41 e40 => ?_)
  have ak42 := tk_oth e40 ak32.1 h_x h20 (by decide) (by decide) ak32.2
  have ak43 := tk_oth e40 ak33.1 h_x h20 (by decide) (by decide) ak33.2
  have ak44 := tk_put e40 ak34.1 h_x (vq_of (Eq.trans (uq_ne e30 (Or.inr (by decide))) hv21)) (ir_c rfl) ak34.2
  have ak45 := tk_oth e40 ak35.1 h_x h20 (by decide) (by decide) ak35.2
  have ak46 := tk_oth e40 ak36.1 h_x h20 (by decide) (by decide) ak36.2
  have ak47 := tk_oth e40 ak37.1 h_x h20 (by decide) (by decide) ak37.2
  refine GO.aload_n dX12_loses_38 rfl rfl ?_
  refine GO.getRaw h_x fl_RX12_59 (Eq.trans (uq_ne e40 (Or.inl (K_ne h_x h20 (by decide)))) (Eq.trans (uq_ne e30 (Or.inr (by decide))) hv26)) dX12_loses_39 ?_
  refine GO.iload_n dX12_loses_42 rfl rfl ?_
  refine GO.iconst dX12_loses_43 ?_
  refine GO.iast (t := 23) rfl rfl (by decide +kernel) h25 r_p0 (by omega) (by omega) (ir_c rfl) (by decide) (by decide) dX12_loses_44 (fun V51 e50 => ?_)
  have ak52 := tk_oth e50 ak42.1 h_x h25 (by decide) (by decide) ak42.2
  have ak53 := tk_oth e50 ak43.1 h_x h25 (by decide) (by decide) ak43.2
  have ak54 := tk_oth e50 ak44.1 h_x h25 (by decide) (by decide) ak44.2
  have ak55 := tk_put e50 ak45.1 h_x (vq_of (Eq.trans (uq_ne e40 (Or.inl (K_ne h_x h20 (by decide)))) (Eq.trans (uq_ne e30 (Or.inr (by decide))) hv26))) (ir_c rfl) ak45.2
  have ak56 := tk_oth e50 ak46.1 h_x h25 (by decide) (by decide) ak46.2
  have ak57 := tk_oth e50 ak47.1 h_x h25 (by decide) (by decide) ak47.2
  refine GO.iconst dX12_loses_45 ?_
  refine GO.istore_n (ls1 := [some (.ref x), some (ti p0), some (ti 0)]) dX12_loses_46 rfl rfl rfl ?_
  refine GO.loop1 (fun i58 W => 0 ≤ i58 ∧ i58 ≤ 4 ∧ (MWZ V W x p0 i58) ∧ ar 28 W x = updf (ar 28 V x) (p0).toNat 1 ∧ ar 19 W x = ar 19 V x ∧ ar 20 W x = updf (ar 20 V x) (p0).toNat 0 ∧ ar 21 W x = updf (ar 21 V x) (p0).toNat 0 ∧ ar 22 W x = ar 22 V x ∧ True) (fun i58 => [some (.ref x), some (ti p0), some (ti i58)]) (fun i58 W => (2147483647 - i58).toNat) 0 ⟨by omega, by omega, (by first | exact MWZ.beg ak57.2), ak52.2, ak53.2, ak54.2, ak55.2, ak56.2, trivial⟩ rfl (fun i58 Wi58 hp650 ih649 => ?_)
  obtain ⟨l_i58, u_i58, hwz, kp651, kp652, kp653, kp654, kp655, -⟩ := hp650
  have r_i58 : ir i58 := ⟨by omega, by omega⟩
  show GO mX12_loses K V (VS K (fun V1 => (True) ∧ ((MLO V V1 x p0)) ∧ (MLS V V1 x p0))) K Wi58 0 0 47 [some (.ref x), some (ti p0), some (ti i58)] []
  refine GO.useWT (fun hW656 => ?_)
  have ak657 := hW656.arr h_x 28 30 (by decide) rfl (by decide)
  have ak658 := hW656.arr h_x 19 21 (by decide) rfl (by decide)
  have ak659 := hW656.arr h_x 20 22 (by decide) rfl (by decide)
  have ak660 := hW656.arr h_x 21 23 (by decide) rfl (by decide)
  have ak661 := hW656.arr h_x 22 24 (by decide) rfl (by decide)
  have ak662 := hW656.arr h_x 23 25 (by decide) rfl (by decide)
  refine GO.iload_n dX12_loses_47 rfl rfl ?_
  refine GO.iconst dX12_loses_48 ?_
  refine GO.icmp_ge (tgt := 89) dX12_loses_49 (by decide) r_i58 (ir_c rfl) (fun c663 => ?_) (fun c663 => ?_)
  ·
    have e19h := kp652
    refine GO.aload_n dX12_loses_89 rfl rfl ?_
    refine GO.iload_n dX12_loses_90 rfl rfl ?_
    refine GO.callV (ci := 11) (N := mX12_goesHome) dX12_loses_91 (RX12, TX12, 151) rfl gV_RX12_676 h_x (t_X12_goesHome h_x r_p0 (by omega) (by omega)) rfl [] rfl rfl (Nat.le_of_ble_eq_true rfl) rfl (k_vs fun V666 h665 hF664 => ?_)
    have ak667 := tk_fr hF664 ak657 h_x (by decide +kernel) (by decide +kernel) kp651
    have ak668 := tk_fr hF664 ak659 h_x (by decide +kernel) (by decide +kernel) kp653
    have ak669 := tk_fr hF664 ak660 h_x (by decide +kernel) (by decide +kernel) kp654
    have ak670 := tk_fr hF664 ak661 h_x (by decide +kernel) (by decide +kernel) kp655
    have ak671 := tk_fr hF664 ak662 h_x (by decide +kernel) (by decide +kernel) (rfl : ar 23 Wi58 x = ar 23 Wi58 x)
    refine GO.useWT (fun hW672 => ?_)
    have ak673 := hW672.arr h_x 19 21 (by decide) rfl (by decide)
    have raw_goesHome := h665.2
    have rw91 := h665.2
    refine GO.iconst dX12_loses_94 ?_
    refine GO.istore_n (ls1 := [some (.ref x), some (ti p0), some (ti 0)]) dX12_loses_95 rfl rfl rfl ?_
    refine GO.loop1 (fun i674 W => 0 ≤ i674 ∧ i674 ≤ 60 ∧ (MLL V W x p0 i674) ∧ ar 19 W x = ar 19 V666 x ∧ ar 20 W x = updf (ar 20 V x) (p0).toNat 0 ∧ ar 21 W x = updf (ar 21 V x) (p0).toNat 0 ∧ ar 22 W x = ar 22 V x ∧ ar 23 W x = ar 23 Wi58 x ∧ True) (fun i674 => [some (.ref x), some (ti p0), some (ti i674)]) (fun i674 W => (2147483647 - i674).toNat) 0 ⟨by omega, by omega, (by first | exact MLL.beg ak667.2 (fun _ => rfl)), (rfl : ar 19 V666 x = ar 19 V666 x), ak668.2, ak669.2, ak670.2, ak671.2, trivial⟩ rfl (fun i674 Wi674 hp865 ih864 => ?_)
    obtain ⟨l_i674, u_i674, hll, kp866, kp867, kp868, kp869, kp870, -⟩ := hp865
    have r_i674 : ir i674 := ⟨by omega, by omega⟩
    show GO mX12_loses K V (VS K (fun V1 => (True) ∧ ((MLO V V1 x p0)) ∧ (MLS V V1 x p0))) K Wi674 0 0 96 [some (.ref x), some (ti p0), some (ti i674)] []
    refine GO.useWT (fun hW871 => ?_)
    have ak872 := hW871.arr h_x 28 30 (by decide) rfl (by decide)
    have ak873 := hW871.arr h_x 19 21 (by decide) rfl (by decide)
    have ak874 := hW871.arr h_x 20 22 (by decide) rfl (by decide)
    have ak875 := hW871.arr h_x 21 23 (by decide) rfl (by decide)
    have ak876 := hW871.arr h_x 22 24 (by decide) rfl (by decide)
    have ak877 := hW871.arr h_x 23 25 (by decide) rfl (by decide)
    refine GO.useFR (fun hFs => ?_)
    have hmp : MPS V Wi674 x := MPS.fr hFs ext.rf hW_0 h_x (by decide +kernel)
    refine GO.iload_n dX12_loses_96 rfl rfl ?_
    refine GO.aload_n dX12_loses_97 rfl rfl ?_
    refine GO.getI h_x fl_RX12_375 rfl rfl dX12_loses_98 (fun l878 u879 => ?_)
    refine GO.icmp_ge (tgt := 137) dX12_loses_101 (by decide) r_i674 vi_ir (fun c880 => ?_) (fun c880 => ?_)
    ·
      exact GO.retv rfl rfl dX12_loses_137 ⟨rfl, rfl, ⟨trivial, MLL.end hll hmp (by omega), (by first | exact MLS.mk (MLL.end hll hmp (by omega)) ((kp866).trans (rw91.trans (congrArg (fun f => updf f _ 0) e19h))) kp867 kp868 kp869 (hwz.to kp870) (by omega) (by omega) (by omega) (by omega))⟩⟩
    ·
      refine GO.aload_n dX12_loses_104 rfl rfl ?_
      refine GO.getA (n := 60) h_x fl_RX12_35 rfl rfl rfl rfl dX12_loses_105 (fun hv882 h881 => ?_)
      refine GO.iload_n dX12_loses_108 rfl rfl ?_
      refine GO.iald (t := 15) rfl rfl h881 r_i674 (by omega) (by omega) dX12_loses_109 (fun l883 u884 => ?_)
      refine GO.iconst dX12_loses_110 ?_
      refine GO.icmp_ne (tgt := 131) dX12_loses_111 (by decide) vi_ir (ir_c rfl) (fun c885 => ?_) (fun c885 => ?_)
      ·
        refine GO.iinc (X := i674) (n := 1) (Y := i674 + 1) (ls1 := [some (.ref x), some (ti p0), some (ti (i674 + 1))]) dX12_loses_131 rfl rfl rfl rfl ?_
        refine GO.goto (tgt := 96) dX12_loses_134 (by decide) ?_
        exact ih864 (i674 + 1) Wi674 ⟨by omega, by omega, (by first | exact MLL.beg (rfl : ar 28 Wi674 x = ar 28 Wi674 x) (fun _ => rfl) | exact MLL.skip hll (by omega) hmp (Or.inl (by assumption)) (rfl : ar 28 Wi674 x = ar 28 Wi674 x) (by omega) | exact MLL.skip hll (by omega) hmp (Or.inr (by assumption)) (rfl : ar 28 Wi674 x = ar 28 Wi674 x) (by omega) | exact MLL.hit hll (by omega) hmp (by omega) (by assumption) (by assumption) (rfl : ar 28 Wi674 x = ar 28 Wi674 x) rfl (by omega)), kp866, kp867, kp868, kp869, kp870, trivial⟩ (by show (2147483647 - (i674 + 1)).toNat < (2147483647 - i674).toNat; omega)
      ·
        refine GO.aload_n dX12_loses_114 rfl rfl ?_
        refine GO.getA (n := 60) h_x fl_RX12_47 rfl rfl rfl rfl dX12_loses_115 (fun hv887 h886 => ?_)
        refine GO.iload_n dX12_loses_118 rfl rfl ?_
        refine GO.iald (t := 19) rfl rfl h886 r_i674 (by omega) (by omega) dX12_loses_119 (fun _ _ => ?_)
        refine GO.iload_n dX12_loses_120 rfl rfl ?_
        refine GO.icmp_ne (tgt := 131) dX12_loses_121 (by decide) vi_ir r_p0 (fun c888 => ?_) (fun c888 => ?_)
        ·
          refine GO.iinc (X := i674) (n := 1) (Y := i674 + 1) (ls1 := [some (.ref x), some (ti p0), some (ti (i674 + 1))]) dX12_loses_131 rfl rfl rfl rfl ?_
          refine GO.goto (tgt := 96) dX12_loses_134 (by decide) ?_
          exact ih864 (i674 + 1) Wi674 ⟨by omega, by omega, (by first | exact MLL.beg (rfl : ar 28 Wi674 x = ar 28 Wi674 x) (fun _ => rfl) | exact MLL.skip hll (by omega) hmp (Or.inl (by assumption)) (rfl : ar 28 Wi674 x = ar 28 Wi674 x) (by omega) | exact MLL.skip hll (by omega) hmp (Or.inr (by assumption)) (rfl : ar 28 Wi674 x = ar 28 Wi674 x) (by omega) | exact MLL.hit hll (by omega) hmp (by omega) (by assumption) (by assumption) (rfl : ar 28 Wi674 x = ar 28 Wi674 x) rfl (by omega)), kp866, kp867, kp868, kp869, kp870, trivial⟩ (by show (2147483647 - (i674 + 1)).toNat < (2147483647 - i674).toNat; omega)
        ·
          refine GO.aload_n dX12_loses_124 rfl rfl ?_
          refine GO.getA (n := 60) h_x fl_RX12_80 rfl rfl rfl rfl dX12_loses_125 (fun hv890 h889 => ?_)
          refine GO.iload_n dX12_loses_128 rfl rfl ?_
          refine GO.iconst dX12_loses_129 ?_
          refine GO.zast (t := 30) rfl rfl (by decide +kernel) h889 r_i674 (by omega) (by omega) (by omega) (by omega) (by omega) dX12_loses_130 (fun V892 e891 => ?_)
          have ak893 := tk_put e891 ak872 h_x (vq_of hv890) ⟨by omega, by omega⟩ (rfl : ar 28 Wi674 x = ar 28 Wi674 x)
          have ak894 := tk_oth e891 ak873 h_x h889 (by decide) (by decide) kp866
          have ak895 := tk_oth e891 ak874 h_x h889 (by decide) (by decide) kp867
          have ak896 := tk_oth e891 ak875 h_x h889 (by decide) (by decide) kp868
          have ak897 := tk_oth e891 ak876 h_x h889 (by decide) (by decide) kp869
          have ak898 := tk_oth e891 ak877 h_x h889 (by decide) (by decide) kp870
          refine GO.iinc (X := i674) (n := 1) (Y := i674 + 1) (ls1 := [some (.ref x), some (ti p0), some (ti (i674 + 1))]) dX12_loses_131 rfl rfl rfl rfl ?_
          refine GO.goto (tgt := 96) dX12_loses_134 (by decide) ?_
          exact ih864 (i674 + 1) V892 ⟨by omega, by omega, (by first | exact MLL.beg ak893.2 (fun _ => rfl) | exact MLL.skip hll (by omega) hmp (Or.inl (by assumption)) ak893.2 (by omega) | exact MLL.skip hll (by omega) hmp (Or.inr (by assumption)) ak893.2 (by omega) | exact MLL.hit hll (by omega) hmp (by omega) (by assumption) (by assumption) ak893.2 rfl (by omega)), ak894.2, ak895.2, ak896.2, ak897.2, ak898.2, trivial⟩ (by show (2147483647 - (i674 + 1)).toNat < (2147483647 - i674).toNat; omega)
  ·
    refine GO.aload_n dX12_loses_52 rfl rfl ?_
    refine GO.aload_n dX12_loses_53 rfl rfl ?_
    refine GO.getL h_x fl_RX12_682 rfl rfl dX12_loses_54 ?_
    refine GO.anyL (fun z899 => ?_)
    refine GO.aload_n dX12_loses_57 rfl rfl ?_
    refine GO.getA (n := 240) h_x fl_RX12_65 rfl rfl rfl rfl dX12_loses_58 (fun hv901 h900 => ?_)
    refine GO.iconst dX12_loses_61 ?_
    refine GO.iload_n dX12_loses_62 rfl rfl ?_
    refine GO.imul dX12_loses_63 ?_
    refine GO.iload_n dX12_loses_64 rfl rfl ?_
    refine GO.iadd dX12_loses_65 ?_
    refine GO.iald (t := 25) rfl rfl h900 ⟨by omega, by omega⟩ (by omega) (by omega) dX12_loses_66 (fun _ _ => ?_)
    refine GO.i2l dX12_loses_67 ?_
    refine GO.anyL (fun z902 => ?_)
    refine GO.ladd dX12_loses_68 ?_
    refine GO.anyL (fun z903 => ?_)
    refine GO.putL h_x fp_RX12_682 rfl (by decide +kernel) dX12_loses_69 (fun V905 e904 => ?_)
    have ak906 := tk_fld e904 ak657 h_x (by decide) kp651
    have ak907 := tk_fld e904 ak658 h_x (by decide) kp652
    have ak908 := tk_fld e904 ak659 h_x (by decide) kp653
    have ak909 := tk_fld e904 ak660 h_x (by decide) kp654
    have ak910 := tk_fld e904 ak661 h_x (by decide) kp655
    have ak911 := tk_fld e904 ak662 h_x (by decide) (rfl : ar 23 Wi58 x = ar 23 Wi58 x)
    refine GO.aload_n dX12_loses_72 rfl rfl ?_
    refine GO.getRaw h_x fl_RX12_65 (Eq.trans (uq_ne e904 (Or.inr (by decide))) hv901) dX12_loses_73 ?_
    refine GO.iconst dX12_loses_76 ?_
    refine GO.iload_n dX12_loses_77 rfl rfl ?_
    refine GO.imul dX12_loses_78 ?_
    refine GO.iload_n dX12_loses_79 rfl rfl ?_
    refine GO.iadd dX12_loses_80 ?_
    refine GO.iconst dX12_loses_81 ?_
    refine GO.iast (t := 25) rfl rfl (by decide +kernel) h900 ⟨by omega, by omega⟩ (by omega) (by omega) (ir_c rfl) (by decide) (by decide) dX12_loses_82 (fun V915 e914 => ?_)
    have ak916 := tk_oth e914 ak906.1 h_x h900 (by decide) (by decide) ak906.2
    have ak917 := tk_oth e914 ak907.1 h_x h900 (by decide) (by decide) ak907.2
    have ak918 := tk_oth e914 ak908.1 h_x h900 (by decide) (by decide) ak908.2
    have ak919 := tk_oth e914 ak909.1 h_x h900 (by decide) (by decide) ak909.2
    have ak920 := tk_oth e914 ak910.1 h_x h900 (by decide) (by decide) ak910.2
    have ak921 := tk_put e914 ak911.1 h_x (vq_of (Eq.trans (uq_ne e904 (Or.inr (by decide))) hv901)) (ir_c rfl) ak911.2
    refine GO.iinc (X := i58) (n := 1) (Y := i58 + 1) (ls1 := [some (.ref x), some (ti p0), some (ti (i58 + 1))]) dX12_loses_83 rfl rfl rfl rfl ?_
    refine GO.goto (tgt := 47) dX12_loses_86 (by decide) ?_
    exact ih649 (i58 + 1) V915 ⟨by omega, by omega, (by first | exact MWZ.beg ak921.2 | exact MWZ.step hwz (by omega) (by omega) ak921.2 (by omega) (by omega)), ak916.2, ak917.2, ak918.2, ak919.2, ak920.2, trivial⟩ (by show (2147483647 - (i58 + 1)).toNat < (2147483647 - i58).toNat; omega)

set_option maxHeartbeats 1000000 in
theorem t_X12_flows {K : Kmap} {V : Vmap} {x : Nat} {p0 : Int} (h_x : K x = some (0, 11)) (r_p0 : ir p0) (q_0 : p0 ≥ 0) (q_1 : p0 ≤ 59) : MC mX12_flows K V [.ref x, ti p0] (VS K (fun V1 => (True) ∧ ((FLO V V1 x p0)) ∧ (FLS V V1 x p0))) := by
  refine MC.start 6 (by decide +kernel) rfl rfl rfl (ls0 := [some (.ref x), some (ti p0), none, none, none, none, none, none]) rfl ?_
  refine GO.useWT (fun hW1 => ?_)
  have ak2 := hW1.arr h_x 15 17 (by decide) rfl (by decide)
  have ak3 := hW1.arr h_x 18 20 (by decide) rfl (by decide)
  have ak4 := hW1.arr h_x 28 30 (by decide) rfl (by decide)
  have ak5 := hW1.arr h_x 19 21 (by decide) rfl (by decide)
  have ak6 := hW1.arr h_x 20 22 (by decide) rfl (by decide)
  have ak7 := hW1.arr h_x 21 23 (by decide) rfl (by decide)
  have ak8 := hW1.arr h_x 22 24 (by decide) rfl (by decide)
  have ak9 := hW1.arr h_x 23 25 (by decide) rfl (by decide)
  refine GO.useWT (fun hW_0 => ?_)
  refine GO.aload_n dX12_flows_0 rfl rfl ?_
  refine GO.getA (n := 60) h_x fl_RX12_41 rfl rfl rfl rfl dX12_flows_1 (fun hv11 h10 => ?_)
  refine GO.iload_n dX12_flows_4 rfl rfl ?_
  have q12 : -2147483648 ≤ p0 ∧ p0 ≤ 2147483647 := r_p0
  refine GO.iald (t := 17) rfl rfl h10 r_p0 (by omega) (by omega) dX12_flows_5 (fun l13 u14 => ?_)
  refine GO.name (fun z15 hz16 => ?_)
  have r17 : ir z15 := hz16 ▸ vi_ir
  refine GO.istore_n (ls1 := [some (.ref x), some (ti p0), some (ti z15), none, none, none, none, none]) dX12_flows_6 rfl rfl rfl ?_
  have hc0 : 0 ≤ z15 ∧ z15 ≤ 143 := ⟨by omega, by omega⟩
  refine GO.aload_n dX12_flows_7 rfl rfl ?_
  refine GO.getA (n := 144) h_x fl_RX12_20 rfl rfl rfl rfl dX12_flows_8 (fun hv19 h18 => ?_)
  refine GO.iload_n dX12_flows_11 rfl rfl ?_
  refine GO.iald (t := 10) rfl rfl h18 r17 (by omega) (by omega) dX12_flows_12 (fun l20 u21 => ?_)
  refine GO.if_ne (tgt := 46) dX12_flows_13 (by decide) vi_ir (fun c22 => ?_) (fun c22 => ?_)
  ·
    exact GO.retv rfl rfl dX12_flows_46 ⟨rfl, rfl, ⟨trivial, (by first | exact FLO.no hc0 (by omega) (by omega)), (by first | exact FLS.no)⟩⟩
  ·
    refine GO.aload_n dX12_flows_16 rfl rfl ?_
    refine GO.getA (n := 144) h_x fl_RX12_23 rfl rfl rfl rfl dX12_flows_17 (fun hv24 h23 => ?_)
    refine GO.iload_n dX12_flows_20 rfl rfl ?_
    refine GO.iald (t := 11) rfl rfl h23 r17 (by omega) (by omega) dX12_flows_21 (fun l25 u26 => ?_)
    refine GO.iconst dX12_flows_22 ?_
    refine GO.icmp_eq (tgt := 46) dX12_flows_23 (by decide) vi_ir (ir_c rfl) (fun c27 => ?_) (fun c27 => ?_)
    ·
      exact GO.retv rfl rfl dX12_flows_46 ⟨rfl, rfl, ⟨trivial, (by first | exact FLO.no hc0 (by omega) (by omega)), (by first | exact FLS.no)⟩⟩
    ·
      refine GO.aload_n dX12_flows_26 rfl rfl ?_
      refine GO.getI h_x fl_RX12_396 rfl rfl dX12_flows_27 (fun l28 u29 => ?_)
      refine GO.aload_n dX12_flows_30 rfl rfl ?_
      refine GO.getA (n := 60) h_x fl_RX12_50 rfl rfl rfl rfl dX12_flows_31 (fun hv31 h30 => ?_)
      refine GO.iload_n dX12_flows_34 rfl rfl ?_
      refine GO.iald (t := 20) rfl rfl h30 r_p0 (by omega) (by omega) dX12_flows_35 (fun l32 u33 => ?_)
      refine GO.isub dX12_flows_36 ?_
      refine GO.aload_n dX12_flows_37 rfl rfl ?_
      refine GO.getA (n := 144) h_x fl_RX12_26 rfl rfl rfl rfl dX12_flows_38 (fun hv35 h34 => ?_)
      refine GO.iload_n dX12_flows_41 rfl rfl ?_
      refine GO.iald (t := 12) rfl rfl h34 r17 (by omega) (by omega) dX12_flows_42 (fun l36 u37 => ?_)
      refine GO.icmp_ge (tgt := 47) dX12_flows_43 (by decide) ⟨by omega, by omega⟩ vi_ir (fun c38 => ?_) (fun c38 => ?_)
      ·
        refine GO.aload_n dX12_flows_47 rfl rfl ?_
        refine GO.getRaw h_x fl_RX12_23 hv24 dX12_flows_48 ?_
        refine GO.iload_n dX12_flows_51 rfl rfl ?_
        refine GO.iald (t := 11) rfl rfl h23 r17 (by omega) (by omega) dX12_flows_52 (fun l41 u42 => ?_)
        refine GO.callS (N := mX12_columnStep) dX12_flows_53 gS_RX12_639 (t_X12_columnStep vi_ir) rfl [] rfl rfl (Nat.le_of_ble_eq_true rfl) rfl (k_ip fun X43 r44 h45 => ?_)
        have raw_columnStep := h45.2
        have rw53 := h45.2
        refine GO.istore_n (ls1 := [some (.ref x), some (ti p0), some (ti z15), some (ti X43), none, none, none, none]) dX12_flows_56 rfl rfl rfl ?_
        refine GO.aload_n dX12_flows_57 rfl rfl ?_
        refine GO.getRaw h_x fl_RX12_23 hv24 dX12_flows_58 ?_
        refine GO.iload_n dX12_flows_61 rfl rfl ?_
        refine GO.iald (t := 11) rfl rfl h23 r17 (by omega) (by omega) dX12_flows_62 (fun l48 u49 => ?_)
        refine GO.callS (N := mX12_rowStep) dX12_flows_63 gS_RX12_642 (t_X12_rowStep vi_ir) rfl [] rfl rfl (Nat.le_of_ble_eq_true rfl) rfl (k_ip fun X50 r51 h52 => ?_)
        have raw_rowStep := h52.2
        have rw63 := h52.2
        refine GO.istore (ls1 := [some (.ref x), some (ti p0), some (ti z15), some (ti X43), some (ti X50), none, none, none]) dX12_flows_66 rfl rfl ?_
        refine GO.aload_n dX12_flows_68 rfl rfl ?_
        refine GO.iload_n dX12_flows_69 rfl rfl ?_
        refine GO.iload_n dX12_flows_70 rfl rfl ?_
        refine GO.iload dX12_flows_71 rfl ?_
        refine GO.callV (ci := 11) (N := mX12_moved) dX12_flows_73 (RX12, TX12, 151) rfl gV_RX12_645 h_x (t_X12_moved h_x r17 r44 r51 (by omega) (by omega) (by omega) (by omega) (by omega) (by omega)) rfl [] rfl rfl (Nat.le_of_ble_eq_true rfl) rfl (k_ip fun X53 r54 h55 => ?_)
        have raw_moved := h55.2
        have rw73 := h55.2
        refine GO.istore (ls1 := [some (.ref x), some (ti p0), some (ti z15), some (ti X43), some (ti X50), some (ti X53), none, none]) dX12_flows_76 rfl rfl ?_
        have hmv := MOV.is rw73 (rw53 (by omega) (by omega)) (rw63 (by omega) (by omega))
        refine GO.iload dX12_flows_78 rfl ?_
        refine GO.iconst dX12_flows_80 ?_
        refine GO.icmp_ne (tgt := 90) dX12_flows_81 (by decide) r54 (ir_c rfl) (fun c56 => ?_) (fun c56 => ?_)
        ·
          refine GO.aload_n dX12_flows_90 rfl rfl ?_
          refine GO.getRaw h_x fl_RX12_41 hv11 dX12_flows_91 ?_
          refine GO.iload_n dX12_flows_94 rfl rfl ?_
          refine GO.iload dX12_flows_95 rfl ?_
          refine GO.iast (t := 17) rfl rfl (by decide +kernel) h10 r_p0 (by omega) (by omega) r54 (by omega) (by omega) dX12_flows_97 (fun V60 e59 => ?_)
          have ak61 := tk_put e59 ak2 h_x (vq_of hv11) r54 (rfl : ar 15 V x = ar 15 V x)
          have ak62 := tk_oth e59 ak3 h_x h10 (by decide) (by decide) (rfl : ar 18 V x = ar 18 V x)
          have ak63 := tk_oth e59 ak4 h_x h10 (by decide) (by decide) (rfl : ar 28 V x = ar 28 V x)
          have ak64 := tk_oth e59 ak5 h_x h10 (by decide) (by decide) (rfl : ar 19 V x = ar 19 V x)
          have ak65 := tk_oth e59 ak6 h_x h10 (by decide) (by decide) (rfl : ar 20 V x = ar 20 V x)
          have ak66 := tk_oth e59 ak7 h_x h10 (by decide) (by decide) (rfl : ar 21 V x = ar 21 V x)
          have ak67 := tk_oth e59 ak8 h_x h10 (by decide) (by decide) (rfl : ar 22 V x = ar 22 V x)
          have ak68 := tk_oth e59 ak9 h_x h10 (by decide) (by decide) (rfl : ar 23 V x = ar 23 V x)
          refine GO.aload_n dX12_flows_98 rfl rfl ?_
          refine GO.getRaw h_x fl_RX12_50 (Eq.trans (uq_ne e59 (Or.inl (K_ne h_x h10 (by decide)))) hv31) dX12_flows_99 ?_
          refine GO.iload_n dX12_flows_102 rfl rfl ?_
          refine GO.aload_n dX12_flows_103 rfl rfl ?_
          refine GO.getI h_x fl_RX12_396 rfl rfl dX12_flows_104 (fun l71 u72 => ?_)
          have e73 : vi V60 x 2 = vi V x 2 := vi_up e59 (Or.inl (K_ne h_x h10 (by decide)))
          refine GO.iast (t := 20) rfl rfl (by decide +kernel) h30 r_p0 (by omega) (by omega) vi_ir (by omega) (by omega) dX12_flows_107 (fun V75 e74 => ?_)
          have ak76 := tk_oth e74 ak61.1 h_x h30 (by decide) (by decide) ak61.2
          have ak77 := tk_put e74 ak62.1 h_x (vq_of (Eq.trans (uq_ne e59 (Or.inl (K_ne h_x h10 (by decide)))) hv31)) vi_ir ak62.2
          have ak78 := tk_oth e74 ak63.1 h_x h30 (by decide) (by decide) ak63.2
          have ak79 := tk_oth e74 ak64.1 h_x h30 (by decide) (by decide) ak64.2
          have ak80 := tk_oth e74 ak65.1 h_x h30 (by decide) (by decide) ak65.2
          have ak81 := tk_oth e74 ak66.1 h_x h30 (by decide) (by decide) ak66.2
          have ak82 := tk_oth e74 ak67.1 h_x h30 (by decide) (by decide) ak67.2
          have ak83 := tk_oth e74 ak68.1 h_x h30 (by decide) (by decide) ak68.2
          refine GO.iconst dX12_flows_108 ?_
          refine GO.istore (ls1 := [some (.ref x), some (ti p0), some (ti z15), some (ti X43), some (ti X50), some (ti X53), some (ti 0), none]) dX12_flows_109 rfl rfl ?_
          refine GO.loop1 (fun i84 W => 0 ≤ i84 ∧ i84 ≤ 60 ∧ (FLI' V W x p0 (vi V (vq V x 7) (z15).toNat) X53 i84) ∧ ar 19 W x = ar 19 V x ∧ ar 20 W x = ar 20 V x ∧ ar 21 W x = ar 21 V x ∧ ar 22 W x = ar 22 V x ∧ ar 23 W x = ar 23 V x ∧ True) (fun i84 => [some (.ref x), some (ti p0), some (ti z15), some (ti X43), some (ti X50), some (ti X53), some (ti i84), none]) (fun i84 W => (2147483647 - i84).toNat) 0 ⟨by omega, by omega, (by first | exact FLI'.beg ak76.2 ak77.2 ak78.2 (fun _ => rfl) (fun _ => rfl) (by omega)), ak79.2, ak80.2, ak81.2, ak82.2, ak83.2, trivial⟩ rfl (fun i84 Wi84 hp1166 ih1165 => ?_)
          obtain ⟨l_i84, u_i84, hfl, kp1167, kp1168, kp1169, kp1170, kp1171, -⟩ := hp1166
          have r_i84 : ir i84 := ⟨by omega, by omega⟩
          show GO mX12_flows K V (VS K (fun V1 => (True) ∧ ((FLO V V1 x p0)) ∧ (FLS V V1 x p0))) K Wi84 0 0 111 [some (.ref x), some (ti p0), some (ti z15), some (ti X43), some (ti X50), some (ti X53), some (ti i84), none] []
          refine GO.useWT (fun hW1172 => ?_)
          have ak1173 := hW1172.arr h_x 15 17 (by decide) rfl (by decide)
          have ak1174 := hW1172.arr h_x 18 20 (by decide) rfl (by decide)
          have ak1175 := hW1172.arr h_x 28 30 (by decide) rfl (by decide)
          have ak1176 := hW1172.arr h_x 19 21 (by decide) rfl (by decide)
          have ak1177 := hW1172.arr h_x 20 22 (by decide) rfl (by decide)
          have ak1178 := hW1172.arr h_x 21 23 (by decide) rfl (by decide)
          have ak1179 := hW1172.arr h_x 22 24 (by decide) rfl (by decide)
          have ak1180 := hW1172.arr h_x 23 25 (by decide) rfl (by decide)
          refine GO.useFR (fun hFs => ?_)
          have hmp : MPS V Wi84 x := MPS.fr hFs ext.rf hW_0 h_x (by decide +kernel)
          have hml : MLD V Wi84 x := MLD.fr hFs ext.rf hW_0 h_x (by decide +kernel)
          have hn10 := hmp.1
          refine GO.iload dX12_flows_111 rfl ?_
          refine GO.aload_n dX12_flows_113 rfl rfl ?_
          refine GO.getI h_x fl_RX12_375 rfl rfl dX12_flows_114 (fun l1181 u1182 => ?_)
          refine GO.icmp_ge (tgt := 229) dX12_flows_117 (by decide) r_i84 vi_ir (fun c1183 => ?_) (fun c1183 => ?_)
          ·
            refine GO.aload_n dX12_flows_229 rfl rfl ?_
            refine GO.iload dX12_flows_230 rfl ?_
            refine GO.callV (ci := 11) (N := mX12_isLand) dX12_flows_232 (RX12, TX12, 151) rfl gV_RX12_425 h_x (t_X12_isLand h_x r54 (by omega) (by omega)) rfl [] rfl rfl (Nat.le_of_ble_eq_true rfl) rfl (k_ip fun X1184 r1185 h1186 => ?_)
            have raw_isLand := h1186.2.2.2
            have rw232 := h1186.2.2.2
            have hy2 := rw232
            rw [hml.2.2 6 (by decide) (by decide)] at hy2
            refine GO.if_ne (tgt := 243) dX12_flows_235 (by decide) r1185 (fun c1187 => ?_) (fun c1187 => ?_)
            ·
              refine GO.useFR (fun hFs => ?_)
              have hmq : MPS V Wi84 x := MPS.fr hFs ext.rf hW_0 h_x (by decide +kernel)
              exact GO.retv rfl rfl dX12_flows_243 ⟨rfl, rfl, ⟨trivial, (by first | exact FLO.no hc0 (by omega) (by omega) | exact FLO.go hc0 (by omega) ⟨by omega, by omega, by omega⟩ hmv (by omega) hmq hfl (by omega) (rfl : ar 15 Wi84 x = ar 15 Wi84 x) (rfl : ar 18 Wi84 x = ar 18 Wi84 x) hy2 (Or.inl ⟨by omega, (rfl : ar 28 Wi84 x = ar 28 Wi84 x)⟩)), (by first | exact FLS.no | exact FLS.go hfl ⟨kp1167, kp1168, kp1169, kp1170, kp1171⟩ (rfl : ar 28 Wi84 x = ar 28 Wi84 x))⟩⟩
            ·
              have hsm : SMR V Wi84 x := ⟨kp1167, kp1168, kp1169, kp1170, kp1171⟩
              refine GO.aload_n dX12_flows_238 rfl rfl ?_
              refine GO.iload_n dX12_flows_239 rfl rfl ?_
              refine GO.callV (ci := 11) (N := mX12_loses) dX12_flows_240 (RX12, TX12, 151) rfl gV_RX12_685 h_x (t_X12_loses h_x r_p0 (by omega) (by omega)) rfl [] rfl rfl (Nat.le_of_ble_eq_true rfl) rfl (k_vs fun V1190 h1189 hF1188 => ?_)
              have ak1191 := tk_fr hF1188 ak1173 h_x (by decide +kernel) (by decide +kernel) (rfl : ar 15 Wi84 x = ar 15 Wi84 x)
              have ak1192 := tk_fr hF1188 ak1174 h_x (by decide +kernel) (by decide +kernel) (rfl : ar 18 Wi84 x = ar 18 Wi84 x)
              have ak1193 := tk_fr hF1188 ak1179 h_x (by decide +kernel) (by decide +kernel) kp1170
              refine GO.useWT (fun hW1194 => ?_)
              have ak1195 := hW1194.arr h_x 28 30 (by decide) rfl (by decide)
              have ak1196 := hW1194.arr h_x 19 21 (by decide) rfl (by decide)
              have ak1197 := hW1194.arr h_x 20 22 (by decide) rfl (by decide)
              have ak1198 := hW1194.arr h_x 21 23 (by decide) rfl (by decide)
              have ak1199 := hW1194.arr h_x 23 25 (by decide) rfl (by decide)
              have raw_loses := h1189.2.1
              have rq0_240 := h1189.2.2
              have rw240 := h1189.2.1
              refine GO.useFR (fun hFs => ?_)
              have hmq : MPS V V1190 x := MPS.fr hFs ext.rf hW_0 h_x (by decide +kernel)
              exact GO.retv rfl rfl dX12_flows_243 ⟨rfl, rfl, ⟨trivial, (by first | exact FLO.no hc0 (by omega) (by omega) | exact FLO.go hc0 (by omega) ⟨by omega, by omega, by omega⟩ hmv (by omega) hmq hfl (by omega) ak1191.2 ak1192.2 hy2 (Or.inl ⟨by omega, (rfl : ar 28 V1190 x = ar 28 V1190 x)⟩) | exact FLO.go hc0 (by omega) ⟨by omega, by omega, by omega⟩ hmv (by omega) hmq hfl (by omega) ak1191.2 ak1192.2 hy2 (Or.inr ⟨by omega, hmp, rw240⟩)), (by first | exact FLS.no | exact FLS.go hfl ⟨(rfl : ar 19 V1190 x = ar 19 V1190 x), (rfl : ar 20 V1190 x = ar 20 V1190 x), (rfl : ar 21 V1190 x = ar 21 V1190 x), ak1193.2, (rfl : ar 23 V1190 x = ar 23 V1190 x)⟩ (rfl : ar 28 V1190 x = ar 28 V1190 x) | exact FLS.ls hfl hsm hmp rq0_240 rw240)⟩⟩
          ·
            refine GO.aload_n dX12_flows_120 rfl rfl ?_
            refine GO.getA (n := 60) h_x fl_RX12_35 rfl rfl rfl rfl dX12_flows_121 (fun hv1201 h1200 => ?_)
            refine GO.iload dX12_flows_124 rfl ?_
            refine GO.iald (t := 15) rfl rfl h1200 r_i84 (by omega) (by omega) dX12_flows_126 (fun l1202 u1203 => ?_)
            refine GO.iconst dX12_flows_127 ?_
            refine GO.icmp_ne (tgt := 223) dX12_flows_128 (by decide) vi_ir (ir_c rfl) (fun c1204 => ?_) (fun c1204 => ?_)
            ·
              refine GO.iinc (X := i84) (n := 1) (Y := i84 + 1) (ls1 := [some (.ref x), some (ti p0), some (ti z15), some (ti X43), some (ti X50), some (ti X53), some (ti (i84 + 1)), none]) dX12_flows_223 rfl rfl rfl rfl ?_
              refine GO.goto (tgt := 111) dX12_flows_226 (by decide) ?_
              exact ih1165 (i84 + 1) Wi84 ⟨by omega, by omega, (by first | exact FLI'.beg (rfl : ar 15 Wi84 x = ar 15 Wi84 x) (rfl : ar 18 Wi84 x = ar 18 Wi84 x) (rfl : ar 28 Wi84 x = ar 28 Wi84 x) (fun _ => rfl) (fun _ => rfl) (by omega) | exact FLI'.skip hfl (by omega) hmp (Or.inl (by assumption)) (rfl : ar 15 Wi84 x = ar 15 Wi84 x) (rfl : ar 18 Wi84 x = ar 18 Wi84 x) (rfl : ar 28 Wi84 x = ar 28 Wi84 x) (by omega) | exact FLI'.skip hfl (by omega) hmp (Or.inr (Or.inl (by assumption))) (rfl : ar 15 Wi84 x = ar 15 Wi84 x) (rfl : ar 18 Wi84 x = ar 18 Wi84 x) (rfl : ar 28 Wi84 x = ar 28 Wi84 x) (by omega) | exact FLI'.skip hfl (by omega) hmp (Or.inr (Or.inr (by assumption))) (rfl : ar 15 Wi84 x = ar 15 Wi84 x) (rfl : ar 18 Wi84 x = ar 18 Wi84 x) (rfl : ar 28 Wi84 x = ar 28 Wi84 x) (by omega)), kp1167, kp1168, kp1169, kp1170, kp1171, trivial⟩ (by show (2147483647 - (i84 + 1)).toNat < (2147483647 - i84).toNat; omega)
            ·
              refine GO.aload_n dX12_flows_131 rfl rfl ?_
              refine GO.getA (n := 60) h_x fl_RX12_47 rfl rfl rfl rfl dX12_flows_132 (fun hv1206 h1205 => ?_)
              refine GO.iload dX12_flows_135 rfl ?_
              refine GO.iald (t := 19) rfl rfl h1205 r_i84 (by omega) (by omega) dX12_flows_137 (fun _ _ => ?_)
              refine GO.iload_n dX12_flows_138 rfl rfl ?_
              refine GO.icmp_ne (tgt := 223) dX12_flows_139 (by decide) vi_ir r_p0 (fun c1207 => ?_) (fun c1207 => ?_)
              ·
                refine GO.iinc (X := i84) (n := 1) (Y := i84 + 1) (ls1 := [some (.ref x), some (ti p0), some (ti z15), some (ti X43), some (ti X50), some (ti X53), some (ti (i84 + 1)), none]) dX12_flows_223 rfl rfl rfl rfl ?_
                refine GO.goto (tgt := 111) dX12_flows_226 (by decide) ?_
                exact ih1165 (i84 + 1) Wi84 ⟨by omega, by omega, (by first | exact FLI'.beg (rfl : ar 15 Wi84 x = ar 15 Wi84 x) (rfl : ar 18 Wi84 x = ar 18 Wi84 x) (rfl : ar 28 Wi84 x = ar 28 Wi84 x) (fun _ => rfl) (fun _ => rfl) (by omega) | exact FLI'.skip hfl (by omega) hmp (Or.inl (by assumption)) (rfl : ar 15 Wi84 x = ar 15 Wi84 x) (rfl : ar 18 Wi84 x = ar 18 Wi84 x) (rfl : ar 28 Wi84 x = ar 28 Wi84 x) (by omega) | exact FLI'.skip hfl (by omega) hmp (Or.inr (Or.inl (by assumption))) (rfl : ar 15 Wi84 x = ar 15 Wi84 x) (rfl : ar 18 Wi84 x = ar 18 Wi84 x) (rfl : ar 28 Wi84 x = ar 28 Wi84 x) (by omega) | exact FLI'.skip hfl (by omega) hmp (Or.inr (Or.inr (by assumption))) (rfl : ar 15 Wi84 x = ar 15 Wi84 x) (rfl : ar 18 Wi84 x = ar 18 Wi84 x) (rfl : ar 28 Wi84 x = ar 28 Wi84 x) (by omega)), kp1167, kp1168, kp1169, kp1170, kp1171, trivial⟩ (by show (2147483647 - (i84 + 1)).toNat < (2147483647 - i84).toNat; omega)
              ·
                refine GO.aload_n dX12_flows_142 rfl rfl ?_
                refine GO.getA (n := 60) h_x fl_RX12_80 rfl rfl rfl rfl dX12_flows_143 (fun hv1209 h1208 => ?_)
                refine GO.iload dX12_flows_146 rfl ?_
                refine GO.zald (t := 30) rfl rfl h1208 r_i84 (by omega) (by omega) dX12_flows_148 (fun l1210 u1211 => ?_)
                refine GO.if_eq (tgt := 155) dX12_flows_149 (by decide) vi_ir (fun c1212 => ?_) (fun c1212 => ?_)
                ·
                  refine GO.aload_n dX12_flows_155 rfl rfl ?_
                  refine GO.aload_n dX12_flows_156 rfl rfl ?_
                  refine GO.getA (n := 60) h_x fl_RX12_41 rfl rfl rfl rfl dX12_flows_157 (fun hv1214 h1213 => ?_)
                  refine GO.iload dX12_flows_160 rfl ?_
                  refine GO.iald (t := 17) rfl rfl h1213 r_i84 (by omega) (by omega) dX12_flows_162 (fun l1215 u1216 => ?_)
                  refine GO.iload_n dX12_flows_163 rfl rfl ?_
                  refine GO.iload dX12_flows_164 rfl ?_
                  refine GO.callV (ci := 11) (N := mX12_moved) dX12_flows_166 (RX12, TX12, 151) rfl gV_RX12_645 h_x (t_X12_moved h_x vi_ir r44 r51 (by omega) (by omega) (by omega) (by omega) (by omega) (by omega)) rfl [] rfl rfl (Nat.le_of_ble_eq_true rfl) rfl (k_ip fun X1217 r1218 h1219 => ?_)
                  have raw_moved := h1219.2
                  have rw166 := h1219.2
                  refine GO.istore (ls1 := [some (.ref x), some (ti p0), some (ti z15), some (ti X43), some (ti X50), some (ti X53), some (ti i84), some (ti X1217)]) dX12_flows_169 rfl rfl ?_
                  have hmw := MOV.is rw166 (rw53 (by omega) (by omega)) (rw63 (by omega) (by omega))
                  refine GO.aload_n dX12_flows_171 rfl rfl ?_
                  refine GO.getRaw h_x fl_RX12_80 hv1209 dX12_flows_172 ?_
                  refine GO.iload dX12_flows_175 rfl ?_
                  refine GO.iload dX12_flows_177 rfl ?_
                  refine GO.iconst dX12_flows_179 ?_
                  refine GO.icmp_eq (tgt := 192) dX12_flows_180 (by decide) r1218 (ir_c rfl) (fun c1222 => ?_) (fun c1222 => ?_)
                  ·
                    refine GO.iconst dX12_flows_192 ?_
                    refine GO.goto (tgt := 197) dX12_flows_193 (by decide) ?_
                    refine GO.zast (t := 30) rfl rfl (by decide +kernel) h1208 r_i84 (by omega) (by omega) (by omega) (by omega) (by omega) dX12_flows_197 (fun V1224 e1223 => ?_)
                    have ak1225 := tk_oth e1223 ak1173 h_x h1208 (by decide) (by decide) (rfl : ar 15 Wi84 x = ar 15 Wi84 x)
                    have ak1226 := tk_oth e1223 ak1174 h_x h1208 (by decide) (by decide) (rfl : ar 18 Wi84 x = ar 18 Wi84 x)
                    have ak1227 := tk_put e1223 ak1175 h_x (vq_of hv1209) ⟨by omega, by omega⟩ (rfl : ar 28 Wi84 x = ar 28 Wi84 x)
                    have ak1228 := tk_oth e1223 ak1176 h_x h1208 (by decide) (by decide) kp1167
                    have ak1229 := tk_oth e1223 ak1177 h_x h1208 (by decide) (by decide) kp1168
                    have ak1230 := tk_oth e1223 ak1178 h_x h1208 (by decide) (by decide) kp1169
                    have ak1231 := tk_oth e1223 ak1179 h_x h1208 (by decide) (by decide) kp1170
                    have ak1232 := tk_oth e1223 ak1180 h_x h1208 (by decide) (by decide) kp1171
                    have hce := fun j => (vi_up e1223 (Or.inl (K_ne (show K (vq Wi84 x 15) = some (17 + 1, 60) by assumption) (show K (vq Wi84 x 28) = some (30 + 1, 60) by assumption) (by decide))) : vi V1224 (vq Wi84 x 15) j = vi Wi84 (vq Wi84 x 15) j)
                    have hce2 := hce (i84).toNat
                    refine GO.aload_n dX12_flows_198 rfl rfl ?_
                    refine GO.getRaw h_x fl_RX12_41 (Eq.trans (uq_ne e1223 (Or.inl (K_ne h_x h1208 (by decide)))) hv1214) dX12_flows_199 ?_
                    refine GO.iload dX12_flows_202 rfl ?_
                    refine GO.iload dX12_flows_204 rfl ?_
                    refine GO.iconst dX12_flows_206 ?_
                    refine GO.icmp_ne (tgt := 220) dX12_flows_207 (by decide) r1218 (ir_c rfl) (fun h => by exfalso; omega) (fun c1235 => ?_)
                    refine GO.aload_n dX12_flows_210 rfl rfl ?_
                    refine GO.getRaw h_x fl_RX12_41 (Eq.trans (uq_ne e1223 (Or.inl (K_ne h_x h1208 (by decide)))) hv1214) dX12_flows_211 ?_
                    refine GO.iload dX12_flows_214 rfl ?_
                    refine GO.iald (t := 17) rfl rfl h1213 r_i84 (by omega) (by omega) dX12_flows_216 (fun l1238 u1239 => ?_)
                    have e1240 : vi V1224 (vq Wi84 x 15) (i84).toNat = vi Wi84 (vq Wi84 x 15) (i84).toNat := vi_up e1223 (Or.inl (K_ne h1213 h1208 (by decide)))
                    refine GO.goto (tgt := 222) dX12_flows_217 (by decide) ?_
                    refine GO.iast (t := 17) rfl rfl (by decide +kernel) h1213 r_i84 (by omega) (by omega) vi_ir (by omega) (by omega) dX12_flows_222 (fun V1242 e1241 => ?_)
                    have ak1243 := tk_put e1241 ak1225.1 h_x (vq_of (Eq.trans (uq_ne e1223 (Or.inl (K_ne h_x h1208 (by decide)))) hv1214)) vi_ir ak1225.2
                    have ak1244 := tk_oth e1241 ak1226.1 h_x h1213 (by decide) (by decide) ak1226.2
                    have ak1245 := tk_oth e1241 ak1227.1 h_x h1213 (by decide) (by decide) ak1227.2
                    have ak1246 := tk_oth e1241 ak1228.1 h_x h1213 (by decide) (by decide) ak1228.2
                    have ak1247 := tk_oth e1241 ak1229.1 h_x h1213 (by decide) (by decide) ak1229.2
                    have ak1248 := tk_oth e1241 ak1230.1 h_x h1213 (by decide) (by decide) ak1230.2
                    have ak1249 := tk_oth e1241 ak1231.1 h_x h1213 (by decide) (by decide) ak1231.2
                    have ak1250 := tk_oth e1241 ak1232.1 h_x h1213 (by decide) (by decide) ak1232.2
                    refine GO.iinc (X := i84) (n := 1) (Y := i84 + 1) (ls1 := [some (.ref x), some (ti p0), some (ti z15), some (ti X43), some (ti X50), some (ti X53), some (ti (i84 + 1)), some (ti X1217)]) dX12_flows_223 rfl rfl rfl rfl ?_
                    refine GO.goto (tgt := 111) dX12_flows_226 (by decide) ?_
                    refine GO.drop [true, true, true, true, true, true, true, false] rfl ?_
                    exact ih1165 (i84 + 1) V1242 ⟨by omega, by omega, (by first | exact FLI'.beg ak1243.2 ak1244.2 ak1245.2 (fun _ => rfl) (fun _ => rfl) (by omega) | exact FLI'.skip hfl (by omega) hmp (Or.inl (by assumption)) ak1243.2 ak1244.2 ak1245.2 (by omega) | exact FLI'.skip hfl (by omega) hmp (Or.inr (Or.inl (by assumption))) ak1243.2 ak1244.2 ak1245.2 (by omega) | exact FLI'.skip hfl (by omega) hmp (Or.inr (Or.inr (by assumption))) ak1243.2 ak1244.2 ak1245.2 (by omega) | exact FLI'.hit hfl (by omega) hmp hml (by omega) (by assumption) (by assumption) (by assumption) hmw (by omega) (by omega) ak1243.2 ak1244.2 ak1245.2 rfl rfl (by omega)), ak1246.2, ak1247.2, ak1248.2, ak1249.2, ak1250.2, trivial⟩ (by show (2147483647 - (i84 + 1)).toNat < (2147483647 - i84).toNat; omega)
                  ·
                    refine GO.aload_n dX12_flows_183 rfl rfl ?_
                    refine GO.iload dX12_flows_184 rfl ?_
                    refine GO.callV (ci := 11) (N := mX12_isLand) dX12_flows_186 (RX12, TX12, 151) rfl gV_RX12_425 h_x (t_X12_isLand h_x r1218 (by omega) (by omega)) rfl [ti i84, .ref (vq Wi84 x 28)] rfl rfl (Nat.le_of_ble_eq_true rfl) rfl (k_ip fun X1251 r1252 h1253 => ?_)
                    have raw_isLand := h1253.2.2.2
                    have rw186 := h1253.2.2.2
                    refine GO.if_ne (tgt := 196) dX12_flows_189 (by decide) r1252 (fun c1254 => ?_) (fun c1254 => ?_)
                    ·
                      refine GO.iconst dX12_flows_196 ?_
                      refine GO.zast (t := 30) rfl rfl (by decide +kernel) h1208 r_i84 (by omega) (by omega) (by omega) (by omega) (by omega) dX12_flows_197 (fun V1256 e1255 => ?_)
                      have ak1257 := tk_oth e1255 ak1173 h_x h1208 (by decide) (by decide) (rfl : ar 15 Wi84 x = ar 15 Wi84 x)
                      have ak1258 := tk_oth e1255 ak1174 h_x h1208 (by decide) (by decide) (rfl : ar 18 Wi84 x = ar 18 Wi84 x)
                      have ak1259 := tk_put e1255 ak1175 h_x (vq_of hv1209) ⟨by omega, by omega⟩ (rfl : ar 28 Wi84 x = ar 28 Wi84 x)
                      have ak1260 := tk_oth e1255 ak1176 h_x h1208 (by decide) (by decide) kp1167
                      have ak1261 := tk_oth e1255 ak1177 h_x h1208 (by decide) (by decide) kp1168
                      have ak1262 := tk_oth e1255 ak1178 h_x h1208 (by decide) (by decide) kp1169
                      have ak1263 := tk_oth e1255 ak1179 h_x h1208 (by decide) (by decide) kp1170
                      have ak1264 := tk_oth e1255 ak1180 h_x h1208 (by decide) (by decide) kp1171
                      have hce := fun j => (vi_up e1255 (Or.inl (K_ne (show K (vq Wi84 x 15) = some (17 + 1, 60) by assumption) (show K (vq Wi84 x 28) = some (30 + 1, 60) by assumption) (by decide))) : vi V1256 (vq Wi84 x 15) j = vi Wi84 (vq Wi84 x 15) j)
                      have hce2 := hce (i84).toNat
                      refine GO.aload_n dX12_flows_198 rfl rfl ?_
                      refine GO.getRaw h_x fl_RX12_41 (Eq.trans (uq_ne e1255 (Or.inl (K_ne h_x h1208 (by decide)))) hv1214) dX12_flows_199 ?_
                      refine GO.iload dX12_flows_202 rfl ?_
                      refine GO.iload dX12_flows_204 rfl ?_
                      refine GO.iconst dX12_flows_206 ?_
                      refine GO.icmp_ne (tgt := 220) dX12_flows_207 (by decide) r1218 (ir_c rfl) (fun c1267 => ?_) (fun h => by exfalso; omega)
                      refine GO.iload dX12_flows_220 rfl ?_
                      refine GO.iast (t := 17) rfl rfl (by decide +kernel) h1213 r_i84 (by omega) (by omega) r1218 (by omega) (by omega) dX12_flows_222 (fun V1269 e1268 => ?_)
                      have ak1270 := tk_put e1268 ak1257.1 h_x (vq_of (Eq.trans (uq_ne e1255 (Or.inl (K_ne h_x h1208 (by decide)))) hv1214)) r1218 ak1257.2
                      have ak1271 := tk_oth e1268 ak1258.1 h_x h1213 (by decide) (by decide) ak1258.2
                      have ak1272 := tk_oth e1268 ak1259.1 h_x h1213 (by decide) (by decide) ak1259.2
                      have ak1273 := tk_oth e1268 ak1260.1 h_x h1213 (by decide) (by decide) ak1260.2
                      have ak1274 := tk_oth e1268 ak1261.1 h_x h1213 (by decide) (by decide) ak1261.2
                      have ak1275 := tk_oth e1268 ak1262.1 h_x h1213 (by decide) (by decide) ak1262.2
                      have ak1276 := tk_oth e1268 ak1263.1 h_x h1213 (by decide) (by decide) ak1263.2
                      have ak1277 := tk_oth e1268 ak1264.1 h_x h1213 (by decide) (by decide) ak1264.2
                      refine GO.iinc (X := i84) (n := 1) (Y := i84 + 1) (ls1 := [some (.ref x), some (ti p0), some (ti z15), some (ti X43), some (ti X50), some (ti X53), some (ti (i84 + 1)), some (ti X1217)]) dX12_flows_223 rfl rfl rfl rfl ?_
                      refine GO.goto (tgt := 111) dX12_flows_226 (by decide) ?_
                      refine GO.drop [true, true, true, true, true, true, true, false] rfl ?_
                      exact ih1165 (i84 + 1) V1269 ⟨by omega, by omega, (by first | exact FLI'.beg ak1270.2 ak1271.2 ak1272.2 (fun _ => rfl) (fun _ => rfl) (by omega) | exact FLI'.skip hfl (by omega) hmp (Or.inl (by assumption)) ak1270.2 ak1271.2 ak1272.2 (by omega) | exact FLI'.skip hfl (by omega) hmp (Or.inr (Or.inl (by assumption))) ak1270.2 ak1271.2 ak1272.2 (by omega) | exact FLI'.skip hfl (by omega) hmp (Or.inr (Or.inr (by assumption))) ak1270.2 ak1271.2 ak1272.2 (by omega) | exact FLI'.hit hfl (by omega) hmp hml (by omega) (by assumption) (by assumption) (by assumption) hmw (by omega) (by omega) ak1270.2 ak1271.2 ak1272.2 rfl rfl (by omega)), ak1273.2, ak1274.2, ak1275.2, ak1276.2, ak1277.2, trivial⟩ (by show (2147483647 - (i84 + 1)).toNat < (2147483647 - i84).toNat; omega)
                    ·
                      refine GO.iconst dX12_flows_192 ?_
                      refine GO.goto (tgt := 197) dX12_flows_193 (by decide) ?_
                      refine GO.zast (t := 30) rfl rfl (by decide +kernel) h1208 r_i84 (by omega) (by omega) (by omega) (by omega) (by omega) dX12_flows_197 (fun V1279 e1278 => ?_)
                      have ak1280 := tk_oth e1278 ak1173 h_x h1208 (by decide) (by decide) (rfl : ar 15 Wi84 x = ar 15 Wi84 x)
                      have ak1281 := tk_oth e1278 ak1174 h_x h1208 (by decide) (by decide) (rfl : ar 18 Wi84 x = ar 18 Wi84 x)
                      have ak1282 := tk_put e1278 ak1175 h_x (vq_of hv1209) ⟨by omega, by omega⟩ (rfl : ar 28 Wi84 x = ar 28 Wi84 x)
                      have ak1283 := tk_oth e1278 ak1176 h_x h1208 (by decide) (by decide) kp1167
                      have ak1284 := tk_oth e1278 ak1177 h_x h1208 (by decide) (by decide) kp1168
                      have ak1285 := tk_oth e1278 ak1178 h_x h1208 (by decide) (by decide) kp1169
                      have ak1286 := tk_oth e1278 ak1179 h_x h1208 (by decide) (by decide) kp1170
                      have ak1287 := tk_oth e1278 ak1180 h_x h1208 (by decide) (by decide) kp1171
                      have hce := fun j => (vi_up e1278 (Or.inl (K_ne (show K (vq Wi84 x 15) = some (17 + 1, 60) by assumption) (show K (vq Wi84 x 28) = some (30 + 1, 60) by assumption) (by decide))) : vi V1279 (vq Wi84 x 15) j = vi Wi84 (vq Wi84 x 15) j)
                      have hce2 := hce (i84).toNat
                      refine GO.aload_n dX12_flows_198 rfl rfl ?_
                      refine GO.getRaw h_x fl_RX12_41 (Eq.trans (uq_ne e1278 (Or.inl (K_ne h_x h1208 (by decide)))) hv1214) dX12_flows_199 ?_
                      refine GO.iload dX12_flows_202 rfl ?_
                      refine GO.iload dX12_flows_204 rfl ?_
                      refine GO.iconst dX12_flows_206 ?_
                      refine GO.icmp_ne (tgt := 220) dX12_flows_207 (by decide) r1218 (ir_c rfl) (fun c1290 => ?_) (fun h => by exfalso; omega)
                      refine GO.iload dX12_flows_220 rfl ?_
                      refine GO.iast (t := 17) rfl rfl (by decide +kernel) h1213 r_i84 (by omega) (by omega) r1218 (by omega) (by omega) dX12_flows_222 (fun V1292 e1291 => ?_)
                      have ak1293 := tk_put e1291 ak1280.1 h_x (vq_of (Eq.trans (uq_ne e1278 (Or.inl (K_ne h_x h1208 (by decide)))) hv1214)) r1218 ak1280.2
                      have ak1294 := tk_oth e1291 ak1281.1 h_x h1213 (by decide) (by decide) ak1281.2
                      have ak1295 := tk_oth e1291 ak1282.1 h_x h1213 (by decide) (by decide) ak1282.2
                      have ak1296 := tk_oth e1291 ak1283.1 h_x h1213 (by decide) (by decide) ak1283.2
                      have ak1297 := tk_oth e1291 ak1284.1 h_x h1213 (by decide) (by decide) ak1284.2
                      have ak1298 := tk_oth e1291 ak1285.1 h_x h1213 (by decide) (by decide) ak1285.2
                      have ak1299 := tk_oth e1291 ak1286.1 h_x h1213 (by decide) (by decide) ak1286.2
                      have ak1300 := tk_oth e1291 ak1287.1 h_x h1213 (by decide) (by decide) ak1287.2
                      refine GO.iinc (X := i84) (n := 1) (Y := i84 + 1) (ls1 := [some (.ref x), some (ti p0), some (ti z15), some (ti X43), some (ti X50), some (ti X53), some (ti (i84 + 1)), some (ti X1217)]) dX12_flows_223 rfl rfl rfl rfl ?_
                      refine GO.goto (tgt := 111) dX12_flows_226 (by decide) ?_
                      refine GO.drop [true, true, true, true, true, true, true, false] rfl ?_
                      exact ih1165 (i84 + 1) V1292 ⟨by omega, by omega, (by first | exact FLI'.beg ak1293.2 ak1294.2 ak1295.2 (fun _ => rfl) (fun _ => rfl) (by omega) | exact FLI'.skip hfl (by omega) hmp (Or.inl (by assumption)) ak1293.2 ak1294.2 ak1295.2 (by omega) | exact FLI'.skip hfl (by omega) hmp (Or.inr (Or.inl (by assumption))) ak1293.2 ak1294.2 ak1295.2 (by omega) | exact FLI'.skip hfl (by omega) hmp (Or.inr (Or.inr (by assumption))) ak1293.2 ak1294.2 ak1295.2 (by omega) | exact FLI'.hit hfl (by omega) hmp hml (by omega) (by assumption) (by assumption) (by assumption) hmw (by omega) (by omega) ak1293.2 ak1294.2 ak1295.2 rfl rfl (by omega)), ak1296.2, ak1297.2, ak1298.2, ak1299.2, ak1300.2, trivial⟩ (by show (2147483647 - (i84 + 1)).toNat < (2147483647 - i84).toNat; omega)
                ·
                  refine GO.goto (tgt := 223) dX12_flows_152 (by decide) ?_
                  refine GO.iinc (X := i84) (n := 1) (Y := i84 + 1) (ls1 := [some (.ref x), some (ti p0), some (ti z15), some (ti X43), some (ti X50), some (ti X53), some (ti (i84 + 1)), none]) dX12_flows_223 rfl rfl rfl rfl ?_
                  refine GO.goto (tgt := 111) dX12_flows_226 (by decide) ?_
                  exact ih1165 (i84 + 1) Wi84 ⟨by omega, by omega, (by first | exact FLI'.beg (rfl : ar 15 Wi84 x = ar 15 Wi84 x) (rfl : ar 18 Wi84 x = ar 18 Wi84 x) (rfl : ar 28 Wi84 x = ar 28 Wi84 x) (fun _ => rfl) (fun _ => rfl) (by omega) | exact FLI'.skip hfl (by omega) hmp (Or.inl (by assumption)) (rfl : ar 15 Wi84 x = ar 15 Wi84 x) (rfl : ar 18 Wi84 x = ar 18 Wi84 x) (rfl : ar 28 Wi84 x = ar 28 Wi84 x) (by omega) | exact FLI'.skip hfl (by omega) hmp (Or.inr (Or.inl (by assumption))) (rfl : ar 15 Wi84 x = ar 15 Wi84 x) (rfl : ar 18 Wi84 x = ar 18 Wi84 x) (rfl : ar 28 Wi84 x = ar 28 Wi84 x) (by omega) | exact FLI'.skip hfl (by omega) hmp (Or.inr (Or.inr (by assumption))) (rfl : ar 15 Wi84 x = ar 15 Wi84 x) (rfl : ar 18 Wi84 x = ar 18 Wi84 x) (rfl : ar 28 Wi84 x = ar 28 Wi84 x) (by omega)), kp1167, kp1168, kp1169, kp1170, kp1171, trivial⟩ (by show (2147483647 - (i84 + 1)).toNat < (2147483647 - i84).toNat; omega)
        ·
          refine GO.aload_n dX12_flows_84 rfl rfl ?_
          refine GO.iload_n dX12_flows_85 rfl rfl ?_
          refine GO.callV (ci := 11) (N := mX12_loses) dX12_flows_86 (RX12, TX12, 151) rfl gV_RX12_685 h_x (t_X12_loses h_x r_p0 (by omega) (by omega)) rfl [] rfl rfl (Nat.le_of_ble_eq_true rfl) rfl (k_vs fun V1303 h1302 hF1301 => ?_)
          have ak1304 := tk_fr hF1301 ak2 h_x (by decide +kernel) (by decide +kernel) (rfl : ar 15 V x = ar 15 V x)
          have ak1305 := tk_fr hF1301 ak3 h_x (by decide +kernel) (by decide +kernel) (rfl : ar 18 V x = ar 18 V x)
          have ak1306 := tk_fr hF1301 ak8 h_x (by decide +kernel) (by decide +kernel) (rfl : ar 22 V x = ar 22 V x)
          refine GO.useWT (fun hW1307 => ?_)
          have ak1308 := hW1307.arr h_x 28 30 (by decide) rfl (by decide)
          have ak1309 := hW1307.arr h_x 19 21 (by decide) rfl (by decide)
          have ak1310 := hW1307.arr h_x 20 22 (by decide) rfl (by decide)
          have ak1311 := hW1307.arr h_x 21 23 (by decide) rfl (by decide)
          have ak1312 := hW1307.arr h_x 23 25 (by decide) rfl (by decide)
          have raw_loses := h1302.2.1
          have rq0_86 := h1302.2.2
          have rw86 := h1302.2.1
          refine GO.useFR (fun hFs => ?_)
          have hmq : MPS V V1303 x := MPS.fr hFs ext.rf hW_0 h_x (by decide +kernel)
          exact GO.retv rfl rfl dX12_flows_89 ⟨rfl, rfl, ⟨trivial, (by first | exact FLO.no hc0 (by omega) (by omega) | exact FLO.out hc0 (by omega) ⟨by omega, by omega, by omega⟩ hmv (by omega) hmq rw86 ak1304.2 ak1305.2), (by first | exact FLS.no | exact FLS.out rq0_86 rw86)⟩⟩
      ·
        exact GO.retv rfl rfl dX12_flows_46 ⟨rfl, rfl, ⟨trivial, (by first | exact FLO.no hc0 (by omega) (by omega)), (by first | exact FLS.no)⟩⟩

set_option maxHeartbeats 1000000 in
theorem t_X12_day {K : Kmap} {V : Vmap} {x : Nat} (h_x : K x = some (0, 11)) (w_0 : GX V x) : MC mX12_day K V [.ref x] (IS K (fun X V1 => (((X = (-1) ∧ vi V1 x 2 = vi V x 2 ∧ vi V x 2 = 3599) ∨ (X = (vi V x 2 + 1) ∧ vi V1 x 2 = (vi V x 2 + 1) ∧ vi V x 2 < 3599))) ∧ ((MDY V V1 x X)) ∧ (MDN V V1 x X))) := by
  refine MC.start 1 (by decide +kernel) rfl rfl rfl (ls0 := [some (.ref x), none]) rfl ?_
  refine GO.useWT (fun hW_0 => ?_)
  refine GO.useWT (fun hW_0 => ?_)
  refine GO.aload_n dX12_day_0 rfl rfl ?_
  refine GO.getI h_x fl_RX12_396 rfl rfl dX12_day_1 (fun l1 u2 => ?_)
  refine GO.sipush dX12_day_4 rfl ?_
  refine GO.icmp_ne (tgt := 12) dX12_day_7 (by decide) vi_ir (ir_c rfl) (fun c3 => ?_) (fun c3 => ?_)
  ·
    refine GO.aload_n dX12_day_12 rfl rfl ?_
    refine GO.aload_n dX12_day_13 rfl rfl ?_
    refine GO.getI h_x fl_RX12_396 rfl rfl dX12_day_14 (fun l4 u5 => ?_)
    refine GO.iconst dX12_day_17 ?_
    refine GO.iadd dX12_day_18 ?_
    refine GO.putI h_x fp_RX12_396 rfl (by decide +kernel) ⟨by omega, by omega⟩ (by omega) (by omega) dX12_day_19 (fun V7 e6 => ?_)
    have sm0 : MSM V V7 x := MSM.put h_x e6 hW_0 h_x (by decide +kernel) (by decide +kernel) (by decide +kernel) (by decide +kernel)
    refine GO.useWT (fun hWz => ?_)
    refine GO.aload_n dX12_day_22 rfl rfl ?_
    refine GO.useFR (fun hF8 => ?_)
    have hg9 := GX.fr hF8 w_0 hW_0 h_x (by decide +kernel)
    refine GO.callV (ci := 11) (N := mX12_worksGo) dX12_day_23 (RX12, TX12, 151) rfl gV_RX12_688 h_x (t_X12_worksGo h_x (hg9)) rfl [] rfl rfl (Nat.le_of_ble_eq_true rfl) rfl (k_vs fun V12 h11 hF10 => ?_)
    have sm1 := sm0.tr (MSM.fr hF10 ext.rf hWz h_x (by decide +kernel) (by decide +kernel) (by decide +kernel))
    refine GO.useWT (fun hWy2 => ?_)
    have hz10 := (hWy2.int h_x (j := 10) (Nat.le_of_ble_eq_true rfl) rfl).2
    refine GO.useFR (fun hFs => ?_)
    have hd3 : vi V12 x 3 = vi V x 3 := vi_fr hFs h_x h_x (by decide +kernel)
    have hd4 : vi V12 x 4 = vi V x 4 := vi_fr hFs h_x h_x (by decide +kernel)
    have hs1 : SMR V V12 x := (SMR.fr (FR.put (ws := 2 ^ keyK (0, 11) 2) (kd := (0, 11)) FR.rf h_x (by decide +kernel) e6) ext.rf hW_0 h_x (by decide +kernel)).tr (SMR.fr hF10 ext.rf hWz h_x (by decide +kernel))
    have ho1 : MDO V V12 x := (MDO.fr (FR.put (ws := 2 ^ keyK (0, 11) 2) (kd := (0, 11)) FR.rf h_x (by decide +kernel) e6) ext.rf hW_0 h_x (by decide +kernel) (by decide +kernel)).tr (MDO.fr hF10 ext.rf hWz h_x (by decide +kernel) (by decide +kernel))
    refine GO.iconst dX12_day_26 ?_
    refine GO.istore_n (ls1 := [some (.ref x), some (ti 0)]) dX12_day_27 rfl rfl rfl ?_
    have e15 : vi V7 x 2 = (vi V x 2) + 1 := upd2_int e6 ⟨by omega, by omega⟩
    have e14 : vi V12 x 2 = vi V7 x 2 := vi_fr hF10 h_x h_x (by decide +kernel)
    have q18 : -2147483648 ≤ vi V12 x 10 ∧ vi V12 x 10 ≤ 2147483647 := vi_ir
    refine GO.loop1 (fun i13 W => 0 ≤ i13 ∧ i13 ≤ 60 ∧ (vi W x 2 = vi V12 x 2 ∧ i13 ≤ vi W x 10) ∧ (MDI V W x i13) ∧ (MD2 V W x i13) ∧ True) (fun i13 => [some (.ref x), some (ti i13)]) (fun i13 W => (2147483647 - i13).toNat) 0 ⟨by omega, by omega, by omega, (by first | exact MDI.beg sm1), (by first | exact MD2.beg (by omega) hd3 hd4 hs1 sm1 ho1), trivial⟩ rfl (fun i13 Wi13 hp7562 ih7561 => ?_)
    obtain ⟨l_i13, u_i13, n_i13, hmd, hm2, -⟩ := hp7562
    have r_i13 : ir i13 := ⟨by omega, by omega⟩
    show GO mX12_day K V (IS K (fun X V1 => (((X = (-1) ∧ vi V1 x 2 = vi V x 2 ∧ vi V x 2 = 3599) ∨ (X = (vi V x 2 + 1) ∧ vi V1 x 2 = (vi V x 2 + 1) ∧ vi V x 2 < 3599))) ∧ ((MDY V V1 x X)) ∧ (MDN V V1 x X))) K Wi13 0 0 28 [some (.ref x), some (ti i13)] []
    refine GO.useWT (fun hWl2 => ?_)
    have hb91 := (hWl2.int h_x (j := 91) (Nat.le_of_ble_eq_true rfl) rfl).2
    refine GO.iload_n dX12_day_28 rfl rfl ?_
    refine GO.aload_n dX12_day_29 rfl rfl ?_
    refine GO.getI h_x fl_RX12_375 rfl rfl dX12_day_30 (fun l7563 u7564 => ?_)
    refine GO.icmp_ge (tgt := 63) dX12_day_33 (by decide) r_i13 vi_ir (fun c7565 => ?_) (fun c7565 => ?_)
    ·
      refine GO.iconst dX12_day_63 ?_
      refine GO.istore_n (ls1 := [some (.ref x), some (ti 0)]) dX12_day_64 rfl rfl rfl ?_
      have q7567 : -2147483648 ≤ vi Wi13 x 2 ∧ vi Wi13 x 2 ≤ 2147483647 := vi_ir
      refine GO.loop1 (fun i7566 W => 0 ≤ i7566 ∧ i7566 ≤ 10 ∧ (vi W x 2 = vi Wi13 x 2) ∧ (MDI V W x (vi V x 10)) ∧ (MD3 V W x i7566) ∧ True) (fun i7566 => [some (.ref x), some (ti i7566)]) (fun i7566 W => (2147483647 - i7566).toNat) 0 ⟨by omega, by omega, by omega, (by first | exact MDI.at hmd (by omega) (by omega)), (by first | exact MD3.beg hm2 hmd (by omega) (by omega) (by omega)), trivial⟩ rfl (fun i7566 Wi7566 hp8283 ih8282 => ?_)
      obtain ⟨l_i7566, u_i7566, n_i7566, hme, hm3, -⟩ := hp8283
      have r_i7566 : ir i7566 := ⟨by omega, by omega⟩
      show GO mX12_day K V (IS K (fun X V1 => (((X = (-1) ∧ vi V1 x 2 = vi V x 2 ∧ vi V x 2 = 3599) ∨ (X = (vi V x 2 + 1) ∧ vi V1 x 2 = (vi V x 2 + 1) ∧ vi V x 2 < 3599))) ∧ ((MDY V V1 x X)) ∧ (MDN V V1 x X))) K Wi7566 0 0 65 [some (.ref x), some (ti i7566)] []
      refine GO.useWT (fun hWl3 => ?_)
      have hb92 := (hWl3.int h_x (j := 92) (Nat.le_of_ble_eq_true rfl) rfl).2
      refine GO.iload_n dX12_day_65 rfl rfl ?_
      refine GO.aload_n dX12_day_66 rfl rfl ?_
      refine GO.getI h_x fl_RX12_612 rfl rfl dX12_day_67 (fun l8284 u8285 => ?_)
      refine GO.icmp_ge (tgt := 84) dX12_day_70 (by decide) r_i7566 vi_ir (fun c8286 => ?_) (fun c8286 => ?_)
      ·
        refine GO.iconst dX12_day_84 ?_
        refine GO.istore_n (ls1 := [some (.ref x), some (ti 0)]) dX12_day_85 rfl rfl rfl ?_
        have q8288 : -2147483648 ≤ vi Wi7566 x 2 ∧ vi Wi7566 x 2 ≤ 2147483647 := vi_ir
        refine GO.loop1 (fun i8287 W => 0 ≤ i8287 ∧ i8287 ≤ 40 ∧ (vi W x 2 = vi Wi7566 x 2) ∧ (MDI V W x (vi V x 10)) ∧ (MD4 V W x i8287) ∧ True) (fun i8287 => [some (.ref x), some (ti i8287)]) (fun i8287 W => (2147483647 - i8287).toNat) 0 ⟨by omega, by omega, by omega, (by first | exact MDI.at hmd (by omega) (by omega) | exact hme | exact MDI.fr hme (by assumption) hWl3 h_x (by decide +kernel) (by decide +kernel) (by decide +kernel)), (by first | exact MD4.beg hm3 (by omega) (by omega)), trivial⟩ rfl (fun i8287 Wi8287 hp8371 ih8370 => ?_)
        obtain ⟨l_i8287, u_i8287, n_i8287, hme, hm4, -⟩ := hp8371
        have r_i8287 : ir i8287 := ⟨by omega, by omega⟩
        show GO mX12_day K V (IS K (fun X V1 => (((X = (-1) ∧ vi V1 x 2 = vi V x 2 ∧ vi V x 2 = 3599) ∨ (X = (vi V x 2 + 1) ∧ vi V1 x 2 = (vi V x 2 + 1) ∧ vi V x 2 < 3599))) ∧ ((MDY V V1 x X)) ∧ (MDN V V1 x X))) K Wi8287 0 0 86 [some (.ref x), some (ti i8287)] []
        refine GO.useWT (fun hWl4 => ?_)
        refine GO.iload_n dX12_day_86 rfl rfl ?_
        refine GO.aload_n dX12_day_87 rfl rfl ?_
        refine GO.getI h_x fl_RX12_648 rfl rfl dX12_day_88 (fun l8372 u8373 => ?_)
        refine GO.icmp_ge (tgt := 105) dX12_day_91 (by decide) r_i8287 vi_ir (fun c8374 => ?_) (fun c8374 => ?_)
        ·
          refine GO.aload_n dX12_day_105 rfl rfl ?_
          refine GO.getI h_x fl_RX12_396 rfl rfl dX12_day_106 (fun l8375 u8376 => ?_)
          have q8377 : -2147483648 ≤ vi Wi8287 x 2 ∧ vi Wi8287 x 2 ≤ 2147483647 := vi_ir
          exact GO.reti rfl rfl dX12_day_109 ⟨rfl, _, rfl, vi_ir, ⟨(by first | exact trivial | omega), (by first | exact Or.inl ⟨rfl, rfl⟩ | exact Or.inr ⟨by omega, hme⟩), (by first | exact Or.inl ⟨rfl, rfl⟩ | exact Or.inr ⟨(by omega), MD4.fin hm4 (by omega)⟩)⟩⟩
        ·
          refine GO.aload_n dX12_day_94 rfl rfl ?_
          refine GO.iload_n dX12_day_95 rfl rfl ?_
          refine GO.callV (ci := 11) (N := mX12_sledgeGoes) dX12_day_96 (RX12, TX12, 151) rfl gV_RX12_700 h_x (t_X12_sledgeGoes h_x r_i8287 (by omega) (by omega)) rfl [] rfl rfl (Nat.le_of_ble_eq_true rfl) rfl (k_vs fun V8380 h8379 hF8378 => ?_)
          have raw_sledgeGoes := h8379.2
          have rw96 := h8379.2
          refine GO.iinc (X := i8287) (n := 1) (Y := i8287 + 1) (ls1 := [some (.ref x), some (ti (i8287 + 1))]) dX12_day_99 rfl rfl rfl rfl ?_
          refine GO.goto (tgt := 86) dX12_day_102 (by decide) ?_
          have e8381 : vi V8380 x 2 = vi Wi8287 x 2 := vi_fr hF8378 h_x h_x (by decide +kernel)
          have q8382 : -2147483648 ≤ vi Wi8287 x 2 ∧ vi Wi8287 x 2 ≤ 2147483647 := vi_ir
          exact ih8370 (i8287 + 1) V8380 ⟨by omega, by omega, by omega, (by first | exact MDI.at hmd (by omega) (by omega) | exact hme | exact MDI.fr hme (by assumption) hWl3 h_x (by decide +kernel) (by decide +kernel) (by decide +kernel) | exact MDI.fr hme hF8378 hWl4 h_x (by decide +kernel) (by decide +kernel) (by decide +kernel)), (by first | exact MD4.beg hm3 (by omega) (by omega) | exact MD4.step hm4 rw96 hF8378 hWl4 h_x (by decide +kernel) (by decide +kernel) (by decide +kernel) (by decide +kernel) (by omega) (by omega) (by omega)), trivial⟩ (by show (2147483647 - (i8287 + 1)).toNat < (2147483647 - i8287).toNat; omega)
      ·
        refine GO.aload_n dX12_day_73 rfl rfl ?_
        refine GO.iload_n dX12_day_74 rfl rfl ?_
        refine GO.callV (ci := 11) (N := mX12_shipGoes) dX12_day_75 (RX12, TX12, 151) rfl gV_RX12_697 h_x (t_X12_shipGoes h_x r_i7566 (by omega) (by omega)) rfl [] rfl rfl (Nat.le_of_ble_eq_true rfl) rfl (k_vs fun V8385 h8384 hF8383 => ?_)
        have raw_shipGoes := h8384.2
        have rw75 := h8384.2
        refine GO.iinc (X := i7566) (n := 1) (Y := i7566 + 1) (ls1 := [some (.ref x), some (ti (i7566 + 1))]) dX12_day_78 rfl rfl rfl rfl ?_
        refine GO.goto (tgt := 65) dX12_day_81 (by decide) ?_
        have e8386 : vi V8385 x 2 = vi Wi7566 x 2 := vi_fr hF8383 h_x h_x (by decide +kernel)
        have q8387 : -2147483648 ≤ vi Wi7566 x 2 ∧ vi Wi7566 x 2 ≤ 2147483647 := vi_ir
        exact ih8282 (i7566 + 1) V8385 ⟨by omega, by omega, by omega, (by first | exact MDI.at hmd (by omega) (by omega) | exact hme | exact MDI.fr hme hF8383 hWl3 h_x (by decide +kernel) (by decide +kernel) (by decide +kernel)), (by first | exact MD3.beg hm2 hmd (by omega) (by omega) (by omega) | exact MD3.step hm3 rw75 hF8383 hWl3 h_x (by decide +kernel) (by decide +kernel) (by decide +kernel) (by decide +kernel) (by omega) (by omega) (by omega)), trivial⟩ (by show (2147483647 - (i7566 + 1)).toNat < (2147483647 - i7566).toNat; omega)
    ·
      refine GO.aload_n dX12_day_36 rfl rfl ?_
      refine GO.iload_n dX12_day_37 rfl rfl ?_
      refine GO.callV (ci := 11) (N := mX12_stands) dX12_day_38 (RX12, TX12, 151) rfl gV_RX12_433 h_x (t_X12_stands h_x r_i13) rfl [] rfl rfl (Nat.le_of_ble_eq_true rfl) rfl (k_ip fun X8388 r8389 h8390 => ?_)
      have raw_stands := h8390.2.2.2
      have rw38 := h8390.2.2.2
      refine GO.if_ne (tgt := 47) dX12_day_41 (by decide) r8389 (fun c8391 => ?_) (fun c8391 => ?_)
      ·
        have q8392 := h8390.2.1 (by omega)
        refine GO.aload_n dX12_day_47 rfl rfl ?_
        refine GO.iload_n dX12_day_48 rfl rfl ?_
        have q8393 : -2147483648 ≤ vi Wi13 x 10 ∧ vi Wi13 x 10 ≤ 2147483647 := vi_ir
        refine GO.callV (ci := 11) (N := mX12_burns) dX12_day_49 (RX12, TX12, 151) rfl gV_RX12_691 h_x (t_X12_burns h_x r_i13 (by omega) (by omega)) rfl [] rfl rfl (Nat.le_of_ble_eq_true rfl) rfl (k_vs fun V8396 h8395 hF8394 => ?_)
        have rq0_49 := h8395.2
        have e8397 : vi V8396 x 2 = vi Wi13 x 2 := vi_fr hF8394 h_x h_x (by decide +kernel)
        refine GO.useWT (fun hWb => ?_)
        have smb := MSM.fr hF8394 ext.rf hWl2 h_x (by decide +kernel) (by decide +kernel) (by decide +kernel)
        refine GO.aload_n dX12_day_52 rfl rfl ?_
        refine GO.iload_n dX12_day_53 rfl rfl ?_
        refine GO.callV (ci := 11) (N := mX12_flows) dX12_day_54 (RX12, TX12, 151) rfl gV_RX12_694 h_x (t_X12_flows h_x r_i13 (by omega) (by omega)) rfl [] rfl rfl (Nat.le_of_ble_eq_true rfl) rfl (k_vs fun V8400 h8399 hF8398 => ?_)
        have raw_flows := h8399.2.1
        have rq0_54 := h8399.2.2
        have rw54 := h8399.2.1
        refine GO.iinc (X := i13) (n := 1) (Y := i13 + 1) (ls1 := [some (.ref x), some (ti (i13 + 1))]) dX12_day_57 rfl rfl rfl rfl ?_
        refine GO.goto (tgt := 28) dX12_day_60 (by decide) ?_
        have e8401 : vi V8400 x 2 = vi V8396 x 2 := vi_fr hF8398 h_x h_x (by decide +kernel)
        have q8402 : -2147483648 ≤ vi Wi13 x 2 ∧ vi Wi13 x 2 ≤ 2147483647 := vi_ir
        have e8404 : vi V8396 x 10 = vi Wi13 x 10 := vi_fr hF8394 h_x h_x (by decide +kernel)
        have e8403 : vi V8400 x 10 = vi V8396 x 10 := vi_fr hF8398 h_x h_x (by decide +kernel)
        exact ih7561 (i13 + 1) V8400 ⟨by omega, by omega, by omega, (by first | exact MDI.beg sm1 | exact MDI.skip hmd rw38 (by omega) (by omega) (by omega) (by omega) | exact MDI.step hmd rw38 (by omega) (by omega) smb (by omega) rw54 hF8398 hWb h_x (by decide +kernel) (by decide +kernel) (by omega)), (by first | exact MD2.beg (by omega) hd3 hd4 hs1 sm1 ho1 | exact MD2.skip hm2 hmd rw38 (by omega) (by omega) (by omega) (by omega) | exact MD2.step hm2 hmd smb rw38 (by omega) rq0_49 rq0_54 hF8394 hF8398 hWl2 hWb h_x (by decide +kernel) (by decide +kernel) (by decide +kernel) (by decide +kernel) (by decide +kernel) (by decide +kernel) (by omega)), trivial⟩ (by show (2147483647 - (i13 + 1)).toNat < (2147483647 - i13).toNat; omega)
      ·
        refine GO.goto (tgt := 57) dX12_day_44 (by decide) ?_
        refine GO.iinc (X := i13) (n := 1) (Y := i13 + 1) (ls1 := [some (.ref x), some (ti (i13 + 1))]) dX12_day_57 rfl rfl rfl rfl ?_
        refine GO.goto (tgt := 28) dX12_day_60 (by decide) ?_
        have q8405 : -2147483648 ≤ vi Wi13 x 10 ∧ vi Wi13 x 10 ≤ 2147483647 := vi_ir
        have q8406 : -2147483648 ≤ vi Wi13 x 2 ∧ vi Wi13 x 2 ≤ 2147483647 := vi_ir
        exact ih7561 (i13 + 1) Wi13 ⟨by omega, by omega, by omega, (by first | exact MDI.beg sm1 | exact MDI.skip hmd rw38 (by omega) (by omega) (by omega) (by omega)), (by first | exact MD2.beg (by omega) hd3 hd4 hs1 sm1 ho1 | exact MD2.skip hm2 hmd rw38 (by omega) (by omega) (by omega) (by omega)), trivial⟩ (by show (2147483647 - (i13 + 1)).toNat < (2147483647 - i13).toNat; omega)
  ·
    refine GO.iconst dX12_day_10 ?_
    exact GO.reti rfl rfl dX12_day_11 ⟨rfl, _, rfl, (ir_c rfl), ⟨(by first | exact trivial | omega), (by first | exact Or.inl ⟨rfl, rfl⟩), (by first | exact Or.inl ⟨rfl, rfl⟩)⟩⟩

set_option maxHeartbeats 1000000 in
theorem t_X12_sound {K : Kmap} {V : Vmap} {x : Nat} {p0 : Int} {p1 : Int} {p2 : Int} (h_x : K x = some (0, 11)) (r_p0 : ir p0) (r_p1 : ir p1) (r_p2 : ir p2) : MC mX12_sound K V [.ref x, ti p0, ti p1, ti p2] (IS K (fun X V1 => (X = 0 ∨ X = 1) ∧ (X ≠ 0 → True) ∧ (X = 0 → True))) := by
  refine MC.start 0 (by decide +kernel) rfl rfl rfl (ls0 := [some (.ref x), some (ti p0), some (ti p1), some (ti p2)]) rfl ?_
  refine GO.aload_n dX12_sound_0 rfl rfl ?_
  refine GO.iload_n dX12_sound_1 rfl rfl ?_
  refine GO.iconst dX12_sound_2 ?_
  refine GO.callV (ci := 11) (N := mX12_isPlace) dX12_sound_3 (RX12, TX12, 151) rfl gV_RX12_399 h_x (t_X12_isPlace h_x r_p0 (ir_c rfl)) rfl [] rfl rfl (Nat.le_of_ble_eq_true rfl) rfl (k_ip fun X1 r2 h3 => ?_)
  have raw_isPlace := h3.2.2.2.1
  have rq0_3 := h3.2.2.2.2
  have rw3 := h3.2.2.2.1
  refine GO.if_eq (tgt := 42) dX12_sound_6 (by decide) r2 (fun c4 => ?_) (fun c4 => ?_)
  ·
    refine GO.iconst dX12_sound_42 ?_
    exact GO.retz rfl rfl dX12_sound_43 (Or.inl rfl) ⟨rfl, _, rfl, (ir_c rfl), ⟨Or.inl rfl, fun _ => trivial, fun _ => trivial⟩⟩
  ·
    have q5 := h3.2.1 (by omega)
    refine GO.iload_n dX12_sound_9 rfl rfl ?_
    refine GO.iconst dX12_sound_10 ?_
    refine GO.sipush dX12_sound_11 rfl ?_
    refine GO.callS (N := mX12_in) dX12_sound_14 gS_RX12_371 (t_X12_in r_p1 (ir_c rfl) (ir_c rfl)) rfl [] rfl rfl (Nat.le_of_ble_eq_true rfl) rfl (k_ip fun X6 r7 h8 => ?_)
    have raw_in := h8.2.2.2
    have rw14 := h8.2.2.2
    refine GO.if_eq (tgt := 42) dX12_sound_17 (by decide) r7 (fun c9 => ?_) (fun c9 => ?_)
    ·
      have q10 := h8.2.2.1 (by omega)
      refine GO.iconst dX12_sound_42 ?_
      exact GO.retz rfl rfl dX12_sound_43 (Or.inl rfl) ⟨rfl, _, rfl, (ir_c rfl), ⟨Or.inl rfl, fun _ => trivial, fun _ => trivial⟩⟩
    ·
      have q11 := h8.2.1 (by omega)
      refine GO.iload_n dX12_sound_20 rfl rfl ?_
      refine GO.iconst dX12_sound_21 ?_
      refine GO.sipush dX12_sound_22 rfl ?_
      refine GO.callS (N := mX12_in) dX12_sound_25 gS_RX12_371 (t_X12_in r_p2 (ir_c rfl) (ir_c rfl)) rfl [] rfl rfl (Nat.le_of_ble_eq_true rfl) rfl (k_ip fun X12 r13 h14 => ?_)
      have raw_in := h14.2.2.2
      have rw25 := h14.2.2.2
      refine GO.if_eq (tgt := 42) dX12_sound_28 (by decide) r13 (fun c15 => ?_) (fun c15 => ?_)
      ·
        have q16 := h14.2.2.1 (by omega)
        refine GO.iconst dX12_sound_42 ?_
        exact GO.retz rfl rfl dX12_sound_43 (Or.inl rfl) ⟨rfl, _, rfl, (ir_c rfl), ⟨Or.inl rfl, fun _ => trivial, fun _ => trivial⟩⟩
      ·
        have q17 := h14.2.1 (by omega)
        refine GO.aload_n dX12_sound_31 rfl rfl ?_
        refine GO.getA (n := 60) h_x fl_RX12_283 rfl rfl rfl rfl dX12_sound_32 (fun hv19 h18 => ?_)
        refine GO.iload_n dX12_sound_35 rfl rfl ?_
        have q20 : -2147483648 ≤ p0 ∧ p0 ≤ 2147483647 := r_p0
        refine GO.iald (t := 96) rfl rfl h18 r_p0 (by omega) (by omega) dX12_sound_36 (fun l21 u22 => ?_)
        refine GO.bipush dX12_sound_37 rfl ?_
        refine GO.icmp_ne (tgt := 44) dX12_sound_39 (by decide) vi_ir (ir_c rfl) (fun c23 => ?_) (fun c23 => ?_)
        ·
          refine GO.aload_n dX12_sound_44 rfl rfl ?_
          refine GO.getA (n := 480) h_x fl_RX12_286 rfl rfl rfl rfl dX12_sound_45 (fun hv25 h24 => ?_)
          refine GO.bipush dX12_sound_48 rfl ?_
          refine GO.iload_n dX12_sound_50 rfl rfl ?_
          refine GO.imul dX12_sound_51 ?_
          refine GO.aload_n dX12_sound_52 rfl rfl ?_
          refine GO.getRaw h_x fl_RX12_283 hv19 dX12_sound_53 ?_
          refine GO.iload_n dX12_sound_56 rfl rfl ?_
          refine GO.iald (t := 96) rfl rfl h18 r_p0 (by omega) (by omega) dX12_sound_57 (fun l28 u29 => ?_)
          refine GO.iadd dX12_sound_58 ?_
          refine GO.iload_n dX12_sound_59 rfl rfl ?_
          refine GO.iast (t := 97) rfl rfl (by decide +kernel) h24 ⟨by omega, by omega⟩ (by omega) (by omega) r_p1 (r_p1).1 (r_p1).2 dX12_sound_60 (fun V31 e30 => ?_)
          refine GO.aload_n dX12_sound_61 rfl rfl ?_
          refine GO.getA (n := 480) h_x fl_RX12_289 rfl rfl rfl rfl dX12_sound_62 (fun hv33 h32 => ?_)
          refine GO.bipush dX12_sound_65 rfl ?_
          refine GO.iload_n dX12_sound_67 rfl rfl ?_
          refine GO.imul dX12_sound_68 ?_
          refine GO.aload_n dX12_sound_69 rfl rfl ?_
          refine GO.getRaw h_x fl_RX12_283 (Eq.trans (uq_ne e30 (Or.inl (K_ne h_x h24 (by decide)))) hv19) dX12_sound_70 ?_
          refine GO.iload_n dX12_sound_73 rfl rfl ?_
          refine GO.iald (t := 96) rfl rfl h18 r_p0 (by omega) (by omega) dX12_sound_74 (fun l36 u37 => ?_)
          have e38 : vi V31 (vq V x 121) (p0).toNat = vi V (vq V x 121) (p0).toNat := vi_up e30 (Or.inl (K_ne h18 h24 (by decide)))
          refine GO.iadd dX12_sound_75 ?_
          refine GO.iload_n dX12_sound_76 rfl rfl ?_
          refine GO.iast (t := 98) rfl rfl (by decide +kernel) h32 ⟨by omega, by omega⟩ (by omega) (by omega) r_p2 (r_p2).1 (r_p2).2 dX12_sound_77 (fun V40 e39 => ?_)
          refine GO.aload_n dX12_sound_78 rfl rfl ?_
          refine GO.getRaw h_x fl_RX12_283 (Eq.trans (uq_ne e39 (Or.inl (K_ne h_x h32 (by decide)))) (Eq.trans (uq_ne e30 (Or.inl (K_ne h_x h24 (by decide)))) hv19)) dX12_sound_79 ?_
          refine GO.iload_n dX12_sound_82 rfl rfl ?_
          refine GO.aload_n dX12_sound_83 rfl rfl ?_
          refine GO.getRaw h_x fl_RX12_283 (Eq.trans (uq_ne e39 (Or.inl (K_ne h_x h32 (by decide)))) (Eq.trans (uq_ne e30 (Or.inl (K_ne h_x h24 (by decide)))) hv19)) dX12_sound_84 ?_
          refine GO.iload_n dX12_sound_87 rfl rfl ?_
          refine GO.iald (t := 96) rfl rfl h18 r_p0 (by omega) (by omega) dX12_sound_88 (fun l45 u46 => ?_)
          have e47 : vi V40 (vq V x 121) (p0).toNat = vi V31 (vq V x 121) (p0).toNat := vi_up e39 (Or.inl (K_ne h18 h32 (by decide)))
          refine GO.iconst dX12_sound_89 ?_
          refine GO.iadd dX12_sound_90 ?_
          refine GO.iast (t := 96) rfl rfl (by decide +kernel) h18 r_p0 (by omega) (by omega) ⟨by omega, by omega⟩ (by omega) (by omega) dX12_sound_91 (fun V49 e48 => ?_)
          refine GO.iconst dX12_sound_92 ?_
          exact GO.retz rfl rfl dX12_sound_93 (Or.inr rfl) ⟨rfl, _, rfl, (ir_c rfl), ⟨Or.inr rfl, fun _ => trivial, fun _ => trivial⟩⟩
        ·
          refine GO.iconst dX12_sound_42 ?_
          exact GO.retz rfl rfl dX12_sound_43 (Or.inl rfl) ⟨rfl, _, rfl, (ir_c rfl), ⟨Or.inl rfl, fun _ => trivial, fun _ => trivial⟩⟩
