def mX12_waits : MRec := (RX12, cX12_waits, 2, (none : Option Jvm.ClassFile.FieldType), yX12_waits, 4, 91, 0, 0, 4443653568480763696975057570666346388543432132797946626172949805948305695275064660865596086260480671219712)
def mX12_shipGoes : MRec := (RX12, cX12_shipGoes, 2, (none : Option Jvm.ClassFile.FieldType), yX12_shipGoes, 5, 112, 0, 0, 4443653568480763696975057570666346388543432595596103372762149162033388289529894187260058295704817238016000)
def mX12_goesOver : MRec := (RX12, cX12_goesOver, 7, (none : Option Jvm.ClassFile.FieldType), yX12_goesOver, 2, 47, 0, 0, 150306725297525326584926758194517569752043683130132471725266622178061377607334940381676735896625196994043838464)
def mX12_sledge : MRec := (RX12, cX12_sledge, 5, (some .int), yX12_sledge, 3, 73, 0, 0, 154857026551649628463978541194362023415133040303886904360641697038744821782306019398933883165117509493564899328)
def mX12_sledgeGoes : MRec := (RX12, cX12_sledgeGoes, 3, (none : Option Jvm.ClassFile.FieldType), yX12_sledgeGoes, 0, 0, 0, 0, 2348542582773833227905394940354450199924654780874729146298649412766395545550161892364635350189694456413814784)
def mX12_people : MRec := (RX12, cX12_people, 3, (some .boolean), yX12_people, 3, 64, 0, 0, 7957171782556586274486115970349133441607298412757563479047423630290551952200534008528896)
def mX12_hide : MRec := (RX12, cX12_hide, 3, (some .boolean), yX12_hide, 3, 64, 0, 0, 47743030695339517646916695822094800649643790476545380874284541781743311713203204051173376)
set_option maxHeartbeats 1000000 in
theorem t_X12_waits {K : Kmap} {V : Vmap} {x : Nat} {p0 : Int} (h_x : K x = some (0, 11)) (r_p0 : ir p0) (q_0 : p0 ≥ 0) (q_1 : p0 ≤ 9) : MC mX12_waits K V [.ref x, ti p0] (VS K (fun V1 => (True))) := by
  refine MC.start 0 (by decide +kernel) rfl rfl rfl (ls0 := [some (.ref x), some (ti p0)]) rfl ?_
  refine GO.aload_n dX12_waits_0 rfl rfl ?_
  refine GO.getA (n := 48) h_x fl_RX12_241 rfl rfl rfl rfl dX12_waits_1 (fun hv2 h1 => ?_)
  refine GO.bipush dX12_waits_4 rfl ?_
  refine GO.aload_n dX12_waits_6 rfl rfl ?_
  refine GO.getA (n := 10) h_x fl_RX12_232 rfl rfl rfl rfl dX12_waits_7 (fun hv4 h3 => ?_)
  refine GO.iload_n dX12_waits_10 rfl rfl ?_
  have q5 : -2147483648 ≤ p0 ∧ p0 ≤ 2147483647 := r_p0
  refine GO.iald (t := 80) rfl rfl h3 r_p0 (by omega) (by omega) dX12_waits_11 (fun l6 u7 => ?_)
  refine GO.imul dX12_waits_12 ?_
  refine GO.aload_n dX12_waits_13 rfl rfl ?_
  refine GO.getI h_x fl_RX12_396 rfl rfl dX12_waits_14 (fun l8 u9 => ?_)
  refine GO.sipush dX12_waits_17 rfl ?_
  refine GO.iremP dX12_waits_20 vi_ir (ir_c rfl) (by omega) (by omega) ?_
  refine GO.bipush dX12_waits_21 rfl ?_
  refine GO.idivP dX12_waits_23 ⟨by omega, by omega⟩ (ir_c rfl) (by omega) (by omega) ?_
  refine GO.iadd dX12_waits_24 ?_
  refine GO.iald (t := 83) rfl rfl h1 ⟨by omega, by omega⟩ (by omega) (by omega) dX12_waits_25 (fun _ _ => ?_)
  refine GO.aload_n dX12_waits_26 rfl rfl ?_
  refine GO.getA (n := 10) h_x fl_RX12_214 rfl rfl rfl rfl dX12_waits_27 (fun hv11 h10 => ?_)
  refine GO.iload_n dX12_waits_30 rfl rfl ?_
  refine GO.iald (t := 74) rfl rfl h10 r_p0 (by omega) (by omega) dX12_waits_31 (fun _ _ => ?_)
  refine GO.icmp_gt (tgt := 41) dX12_waits_32 (by decide) vi_ir vi_ir (fun c12 => ?_) (fun c12 => ?_)
  ·
    refine GO.aload_n dX12_waits_41 rfl rfl ?_
    refine GO.getA (n := 10) h_x fl_RX12_229 rfl rfl rfl rfl dX12_waits_42 (fun hv14 h13 => ?_)
    refine GO.iload_n dX12_waits_45 rfl rfl ?_
    refine GO.aload_n dX12_waits_46 rfl rfl ?_
    refine GO.getRaw h_x fl_RX12_229 hv14 dX12_waits_47 ?_
    refine GO.iload_n dX12_waits_50 rfl rfl ?_
    refine GO.iald (t := 79) rfl rfl h13 r_p0 (by omega) (by omega) dX12_waits_51 (fun _ _ => ?_)
    refine GO.iconst dX12_waits_52 ?_
    refine GO.iadd dX12_waits_53 ?_
    refine GO.norm (fun z17 r18 _ => ?_)
    refine GO.iast (t := 79) rfl rfl (by decide +kernel) h13 r_p0 (by omega) (by omega) r18 (r18).1 (r18).2 dX12_waits_54 (fun V20 e19 => ?_)
    refine GO.aload_n dX12_waits_55 rfl rfl ?_
    refine GO.getRaw h_x fl_RX12_229 (Eq.trans (uq_ne e19 (Or.inl (K_ne h_x h13 (by decide)))) hv14) dX12_waits_56 ?_
    refine GO.iload_n dX12_waits_59 rfl rfl ?_
    refine GO.iald (t := 79) rfl rfl h13 r_p0 (by omega) (by omega) dX12_waits_60 (fun _ _ => ?_)
    refine GO.bipush dX12_waits_61 rfl ?_
    refine GO.icmp_ne (tgt := 71) dX12_waits_63 (by decide) vi_ir (ir_c rfl) (fun c24 => ?_) (fun c24 => ?_)
    ·
      exact GO.retv rfl rfl dX12_waits_71 ⟨rfl, rfl, trivial⟩
    ·
      refine GO.aload_n dX12_waits_66 rfl rfl ?_
      refine GO.iload_n dX12_waits_67 rfl rfl ?_
      refine GO.callV (ci := 11) (N := mX12_turnsBack) dX12_waits_68 (RX12, TX12, 151) rfl gV_RX12_624 h_x (t_X12_turnsBack h_x r_p0 (by omega) (by omega)) rfl [] rfl rfl (Nat.le_of_ble_eq_true rfl) rfl (k_vs fun V27 h26 hF25 => ?_)
      exact GO.retv rfl rfl dX12_waits_71 ⟨rfl, rfl, trivial⟩
  ·
    refine GO.aload_n dX12_waits_35 rfl rfl ?_
    refine GO.iload_n dX12_waits_36 rfl rfl ?_
    refine GO.callV (ci := 11) (N := mX12_arrives) dX12_waits_37 (RX12, TX12, 151) rfl gV_RX12_627 h_x (t_X12_arrives h_x r_p0 (by omega) (by omega)) rfl [] rfl rfl (Nat.le_of_ble_eq_true rfl) rfl (k_vs fun V30 h29 hF28 => ?_)
    exact GO.retv rfl rfl dX12_waits_40 ⟨rfl, rfl, trivial⟩

set_option maxHeartbeats 1000000 in
theorem t_X12_shipGoes {K : Kmap} {V : Vmap} {x : Nat} {p0 : Int} (h_x : K x = some (0, 11)) (r_p0 : ir p0) (q_0 : p0 ≥ 0) (q_1 : p0 ≤ 9) : MC mX12_shipGoes K V [.ref x, ti p0] (VS K (fun V1 => (True))) := by
  refine MC.start 0 (by decide +kernel) rfl rfl rfl (ls0 := [some (.ref x), some (ti p0)]) rfl ?_
  refine GO.aload_n dX12_shipGoes_0 rfl rfl ?_
  refine GO.getA (n := 10) h_x fl_RX12_217 rfl rfl rfl rfl dX12_shipGoes_1 (fun hv2 h1 => ?_)
  refine GO.iload_n dX12_shipGoes_4 rfl rfl ?_
  have q3 : -2147483648 ≤ p0 ∧ p0 ≤ 2147483647 := r_p0
  refine GO.iald (t := 75) rfl rfl h1 r_p0 (by omega) (by omega) dX12_shipGoes_5 (fun _ _ => ?_)
  refine GO.iconst dX12_shipGoes_6 ?_
  have hj18 : ∀ (V19 : Vmap), GO mX12_shipGoes K V (VS K (fun V1 => (True))) K V19 0 0 37 [some (.ref x), some (ti p0)] [] := by
    intro V19
    refine GO.aload_n dX12_shipGoes_37 rfl rfl ?_
    refine GO.getA (n := 10) h_x fl_RX12_217 rfl rfl rfl rfl dX12_shipGoes_38 (fun hv21 h20 => ?_)
    refine GO.iload_n dX12_shipGoes_41 rfl rfl ?_
    refine GO.iald (t := 75) rfl rfl h20 r_p0 (by omega) (by omega) dX12_shipGoes_42 (fun _ _ => ?_)
    refine GO.iconst dX12_shipGoes_43 ?_
    refine GO.icmp_ne (tgt := 53) dX12_shipGoes_44 (by decide) vi_ir (ir_c rfl) (fun c22 => ?_) (fun c22 => ?_)
    ·
      refine GO.aload_n dX12_shipGoes_53 rfl rfl ?_
      refine GO.getRaw h_x fl_RX12_217 hv21 dX12_shipGoes_54 ?_
      refine GO.iload_n dX12_shipGoes_57 rfl rfl ?_
      refine GO.iald (t := 75) rfl rfl h20 r_p0 (by omega) (by omega) dX12_shipGoes_58 (fun _ _ => ?_)
      refine GO.iconst dX12_shipGoes_59 ?_
      refine GO.icmp_ne (tgt := 76) dX12_shipGoes_60 (by decide) vi_ir (ir_c rfl) (fun c25 => ?_) (fun c25 => ?_)
      ·
        exact GO.retv rfl rfl dX12_shipGoes_76 ⟨rfl, rfl, trivial⟩
      ·
        refine GO.aload_n dX12_shipGoes_63 rfl rfl ?_
        refine GO.getI h_x fl_RX12_396 rfl rfl dX12_shipGoes_64 (fun l26 u27 => ?_)
        refine GO.aload_n dX12_shipGoes_67 rfl rfl ?_
        refine GO.getA (n := 10) h_x fl_RX12_226 rfl rfl rfl rfl dX12_shipGoes_68 (fun hv29 h28 => ?_)
        refine GO.iload_n dX12_shipGoes_71 rfl rfl ?_
        refine GO.iald (t := 78) rfl rfl h28 r_p0 (by omega) (by omega) dX12_shipGoes_72 (fun _ _ => ?_)
        refine GO.icmp_ge (tgt := 77) dX12_shipGoes_73 (by decide) vi_ir vi_ir (fun c30 => ?_) (fun c30 => ?_)
        ·
          refine GO.aload_n dX12_shipGoes_77 rfl rfl ?_
          refine GO.aload_n dX12_shipGoes_78 rfl rfl ?_
          refine GO.getL h_x fl_RX12_632 rfl rfl dX12_shipGoes_79 ?_
          refine GO.anyL (fun z31 => ?_)
          refine GO.aload_n dX12_shipGoes_82 rfl rfl ?_
          refine GO.getA (n := 10) h_x fl_RX12_220 rfl rfl rfl rfl dX12_shipGoes_83 (fun hv33 h32 => ?_)
          refine GO.iload_n dX12_shipGoes_86 rfl rfl ?_
          refine GO.iald (t := 76) rfl rfl h32 r_p0 (by omega) (by omega) dX12_shipGoes_87 (fun _ _ => ?_)
          refine GO.i2l dX12_shipGoes_88 ?_
          refine GO.anyL (fun z34 => ?_)
          refine GO.ladd dX12_shipGoes_89 ?_
          refine GO.anyL (fun z35 => ?_)
          refine GO.putL h_x fp_RX12_632 rfl (by decide +kernel) dX12_shipGoes_90 (fun V37 e36 => ?_)
          refine GO.aload_n dX12_shipGoes_93 rfl rfl ?_
          refine GO.aload_n dX12_shipGoes_94 rfl rfl ?_
          refine GO.getL h_x fl_RX12_635 rfl rfl dX12_shipGoes_95 ?_
          refine GO.anyL (fun z38 => ?_)
          refine GO.aload_n dX12_shipGoes_98 rfl rfl ?_
          refine GO.getA (n := 10) h_x fl_RX12_223 rfl rfl rfl rfl dX12_shipGoes_99 (fun hv40 h39 => ?_)
          refine GO.iload_n dX12_shipGoes_102 rfl rfl ?_
          refine GO.iald (t := 77) rfl rfl h39 r_p0 (by omega) (by omega) dX12_shipGoes_103 (fun _ _ => ?_)
          refine GO.i2l dX12_shipGoes_104 ?_
          refine GO.anyL (fun z42 => ?_)
          refine GO.ladd dX12_shipGoes_105 ?_
          refine GO.anyL (fun z43 => ?_)
          refine GO.putL h_x fp_RX12_635 rfl (by decide +kernel) dX12_shipGoes_106 (fun V45 e44 => ?_)
          refine GO.aload_n dX12_shipGoes_109 rfl rfl ?_
          refine GO.getRaw h_x fl_RX12_220 (Eq.trans (uq_ne e44 (Or.inr (by decide))) (Eq.trans (uq_ne e36 (Or.inr (by decide))) hv33)) dX12_shipGoes_110 ?_
          refine GO.iload_n dX12_shipGoes_113 rfl rfl ?_
          refine GO.iconst dX12_shipGoes_114 ?_
          refine GO.iast (t := 76) rfl rfl (by decide +kernel) h32 r_p0 (by omega) (by omega) (ir_c rfl) (by decide) (by decide) dX12_shipGoes_115 (fun V49 e48 => ?_)
          refine GO.aload_n dX12_shipGoes_116 rfl rfl ?_
          refine GO.getRaw h_x fl_RX12_223 (Eq.trans (uq_ne e48 (Or.inl (K_ne h_x h32 (by decide)))) (Eq.trans (uq_ne e44 (Or.inr (by decide))) hv40)) dX12_shipGoes_117 ?_
          refine GO.iload_n dX12_shipGoes_120 rfl rfl ?_
          refine GO.iconst dX12_shipGoes_121 ?_
          refine GO.iast (t := 77) rfl rfl (by decide +kernel) h39 r_p0 (by omega) (by omega) (ir_c rfl) (by decide) (by decide) dX12_shipGoes_122 (fun V53 e52 => ?_)
          refine GO.aload_n dX12_shipGoes_123 rfl rfl ?_
          refine GO.getRaw h_x fl_RX12_217 (Eq.trans (uq_ne e52 (Or.inl (K_ne h_x h39 (by decide)))) (Eq.trans (uq_ne e48 (Or.inl (K_ne h_x h32 (by decide)))) (Eq.trans (uq_ne e44 (Or.inr (by decide))) (Eq.trans (uq_ne e36 (Or.inr (by decide))) hv21)))) dX12_shipGoes_124 ?_
          refine GO.iload_n dX12_shipGoes_127 rfl rfl ?_
          refine GO.iconst dX12_shipGoes_128 ?_
          refine GO.iast (t := 75) rfl rfl (by decide +kernel) h20 r_p0 (by omega) (by omega) (ir_c rfl) (by decide) (by decide) dX12_shipGoes_129 (fun V57 e56 => ?_)
          refine GO.aload_n dX12_shipGoes_130 rfl rfl ?_
          refine GO.getRaw h_x fl_RX12_226 (Eq.trans (uq_ne e56 (Or.inl (K_ne h_x h20 (by decide)))) (Eq.trans (uq_ne e52 (Or.inl (K_ne h_x h39 (by decide)))) (Eq.trans (uq_ne e48 (Or.inl (K_ne h_x h32 (by decide)))) (Eq.trans (uq_ne e44 (Or.inr (by decide))) (Eq.trans (uq_ne e36 (Or.inr (by decide))) hv29))))) dX12_shipGoes_131 ?_
          refine GO.iload_n dX12_shipGoes_134 rfl rfl ?_
          refine GO.iconst dX12_shipGoes_135 ?_
          refine GO.iast (t := 78) rfl rfl (by decide +kernel) h28 r_p0 (by omega) (by omega) (ir_c rfl) (by decide) (by decide) dX12_shipGoes_136 (fun V61 e60 => ?_)
          exact GO.retv rfl rfl dX12_shipGoes_137 ⟨rfl, rfl, trivial⟩
        ·
          exact GO.retv rfl rfl dX12_shipGoes_76 ⟨rfl, rfl, trivial⟩
    ·
      refine GO.aload_n dX12_shipGoes_47 rfl rfl ?_
      refine GO.iload_n dX12_shipGoes_48 rfl rfl ?_
      refine GO.callV (ci := 11) (N := mX12_waits) dX12_shipGoes_49 (RX12, TX12, 151) rfl gV_RX12_630 h_x (t_X12_waits h_x r_p0 (by omega) (by omega)) rfl [] rfl rfl (Nat.le_of_ble_eq_true rfl) rfl (k_vs fun V64 h63 hF62 => ?_)
      exact GO.retv rfl rfl dX12_shipGoes_52 ⟨rfl, rfl, trivial⟩
  refine GO.icmp_ne (tgt := 37) dX12_shipGoes_7 (by decide) vi_ir (ir_c rfl) (fun c65 => ?_) (fun c65 => ?_)
  ·
    exact hj18  V
  ·
    refine GO.aload_n dX12_shipGoes_10 rfl rfl ?_
    refine GO.getI h_x fl_RX12_396 rfl rfl dX12_shipGoes_11 (fun l66 u67 => ?_)
    refine GO.aload_n dX12_shipGoes_14 rfl rfl ?_
    refine GO.getA (n := 10) h_x fl_RX12_226 rfl rfl rfl rfl dX12_shipGoes_15 (fun hv69 h68 => ?_)
    refine GO.iload_n dX12_shipGoes_18 rfl rfl ?_
    refine GO.iald (t := 78) rfl rfl h68 r_p0 (by omega) (by omega) dX12_shipGoes_19 (fun _ _ => ?_)
    refine GO.icmp_lt (tgt := 37) dX12_shipGoes_20 (by decide) vi_ir vi_ir (fun c70 => ?_) (fun c70 => ?_)
    ·
      exact hj18  V
    ·
      refine GO.aload_n dX12_shipGoes_23 rfl rfl ?_
      refine GO.getRaw h_x fl_RX12_217 hv2 dX12_shipGoes_24 ?_
      refine GO.iload_n dX12_shipGoes_27 rfl rfl ?_
      refine GO.iconst dX12_shipGoes_28 ?_
      refine GO.iast (t := 75) rfl rfl (by decide +kernel) h1 r_p0 (by omega) (by omega) (ir_c rfl) (by decide) (by decide) dX12_shipGoes_29 (fun V74 e73 => ?_)
      refine GO.aload_n dX12_shipGoes_30 rfl rfl ?_
      refine GO.getRaw h_x fl_RX12_226 (Eq.trans (uq_ne e73 (Or.inl (K_ne h_x h1 (by decide)))) hv69) dX12_shipGoes_31 ?_
      refine GO.iload_n dX12_shipGoes_34 rfl rfl ?_
      refine GO.iconst dX12_shipGoes_35 ?_
      refine GO.iast (t := 78) rfl rfl (by decide +kernel) h68 r_p0 (by omega) (by omega) (ir_c rfl) (by decide) (by decide) dX12_shipGoes_36 (fun V78 e77 => ?_)
      exact hj18  V78

set_option maxHeartbeats 1000000 in
theorem t_X12_goesOver {K : Kmap} {V : Vmap} {x : Nat} {p0 : Int} (h_x : K x = some (0, 11)) (r_p0 : ir p0) (q_0 : p0 ≥ 0) (q_1 : p0 ≤ 143) : MC mX12_goesOver K V [.ref x, ti p0] (VS K (fun V1 => (True))) := by
  refine MC.start 5 (by decide +kernel) rfl rfl rfl (ls0 := [some (.ref x), some (ti p0), none, none, none, none, none]) rfl ?_
  refine GO.iconst dX12_goesOver_0 ?_
  refine GO.istore_n (ls1 := [some (.ref x), some (ti p0), some (ti 0), none, none, none, none]) dX12_goesOver_1 rfl rfl rfl ?_
  refine GO.loop1 (fun i1 W => 0 ≤ i1 ∧ i1 ≤ 144 ∧ True) (fun i1 => [some (.ref x), some (ti p0), some (ti i1), none, none, none, none]) (fun i1 W => (2147483647 - i1).toNat) 0 ⟨by omega, by omega, trivial⟩ rfl (fun i1 Wi1 hp17455 ih17454 => ?_)
  obtain ⟨l_i1, u_i1, -⟩ := hp17455
  have r_i1 : ir i1 := ⟨by omega, by omega⟩
  show GO mX12_goesOver K V (VS K (fun V1 => (True))) K Wi1 0 0 2 [some (.ref x), some (ti p0), some (ti i1), none, none, none, none] []
  refine GO.iload_n dX12_goesOver_2 rfl rfl ?_
  refine GO.aload_n dX12_goesOver_3 rfl rfl ?_
  refine GO.getI h_x fl_RX12_365 rfl rfl dX12_goesOver_4 (fun l17456 u17457 => ?_)
  refine GO.aload_n dX12_goesOver_7 rfl rfl ?_
  refine GO.getI h_x fl_RX12_368 rfl rfl dX12_goesOver_8 (fun l17458 u17459 => ?_)
  refine GO.imul dX12_goesOver_11 ?_
  have m17460 := mul_rng (a := vi Wi1 x 0) (b := vi Wi1 x 1) (A := 12) (B := 12) (by omega) (by omega) (by omega) (by omega)
  have m17461 := mul_low (a := vi Wi1 x 0) (b := vi Wi1 x 1) (m := 4) (n := 4) (by omega) (by omega) (by omega) (by omega)
  refine GO.icmp_ge (tgt := 39) dX12_goesOver_12 (by decide) r_i1 ⟨by omega, by omega⟩ (fun c17462 => ?_) (fun c17462 => ?_)
  ·
    refine GO.iconst dX12_goesOver_39 ?_
    refine GO.istore_n (ls1 := [some (.ref x), some (ti p0), some (ti 1), none, none, none, none]) dX12_goesOver_40 rfl rfl rfl ?_
    refine GO.loop1 (fun i17463 W => 0 ≤ i17463 ∧ i17463 ≤ 1 ∧ True) (fun i17463 => [some (.ref x), some (ti p0), some (ti i17463), none, none, none, none]) (fun i17463 W => (((2 * dsum W x) + i17463)).toNat) 1 ⟨by omega, by omega, trivial⟩ rfl (fun i17463 Wi17463 hp23235 ih23234 => ?_)
    obtain ⟨l_i17463, u_i17463, -⟩ := hp23235
    have r_i17463 : ir i17463 := ⟨by omega, by omega⟩
    show GO mX12_goesOver K V (VS K (fun V1 => (True))) K Wi17463 0 0 41 [some (.ref x), some (ti p0), some (ti i17463), none, none, none, none] []
    refine GO.useWT (fun hW => ?_)
    have hds := dsum_nn hW h_x
    refine GO.iload_n dX12_goesOver_41 rfl rfl ?_
    refine GO.if_eq (tgt := 188) dX12_goesOver_42 (by decide) r_i17463 (fun c23236 => ?_) (fun c23236 => ?_)
    ·
      exact GO.retv rfl rfl dX12_goesOver_188 ⟨rfl, rfl, trivial⟩
    ·
      refine GO.iconst dX12_goesOver_45 ?_
      refine GO.istore_n (ls1 := [some (.ref x), some (ti p0), some (ti 0), none, none, none, none]) dX12_goesOver_46 rfl rfl rfl ?_
      refine GO.iconst dX12_goesOver_47 ?_
      refine GO.istore_n (ls1 := [some (.ref x), some (ti p0), some (ti 0), some (ti 0), none, none, none]) dX12_goesOver_48 rfl rfl rfl ?_
      refine GO.loop2 (fun i23237 i23238 W => 0 ≤ i23237 ∧ i23237 ≤ 1 ∧ 0 ≤ i23238 ∧ i23238 ≤ 144 ∧ (dsum W x ≤ dsum Wi17463 x ∧ (i23237 ≠ 0 → dsum W x < dsum Wi17463 x)) ∧ True) (fun i23237 i23238 => [some (.ref x), some (ti p0), some (ti i23237), some (ti i23238), none, none, none]) (fun i23237 i23238 W => (2147483647 - i23238).toNat) 0 0 ⟨by omega, by omega, by omega, by omega, by omega, trivial⟩ rfl (fun i23237 i23238 Wi23237 hp25832 ih25831 => ?_)
      obtain ⟨l_i23237, u_i23237, l_i23238, u_i23238, n_i23237, -⟩ := hp25832
      have r_i23237 : ir i23237 := ⟨by omega, by omega⟩
      have r_i23238 : ir i23238 := ⟨by omega, by omega⟩
      show GO mX12_goesOver K V (VS K (fun V1 => (True))) K Wi23237 0 0 49 [some (.ref x), some (ti p0), some (ti i23237), some (ti i23238), none, none, none] []
      refine GO.iload_n dX12_goesOver_49 rfl rfl ?_
      refine GO.aload_n dX12_goesOver_50 rfl rfl ?_
      refine GO.getI h_x fl_RX12_365 rfl rfl dX12_goesOver_51 (fun l25833 u25834 => ?_)
      refine GO.aload_n dX12_goesOver_54 rfl rfl ?_
      refine GO.getI h_x fl_RX12_368 rfl rfl dX12_goesOver_55 (fun l25835 u25836 => ?_)
      refine GO.imul dX12_goesOver_58 ?_
      have m25837 := mul_rng (a := vi Wi23237 x 0) (b := vi Wi23237 x 1) (A := 12) (B := 12) (by omega) (by omega) (by omega) (by omega)
      have m25838 := mul_low (a := vi Wi23237 x 0) (b := vi Wi23237 x 1) (m := 4) (n := 4) (by omega) (by omega) (by omega) (by omega)
      refine GO.icmp_ge (tgt := 185) dX12_goesOver_59 (by decide) r_i23238 ⟨by omega, by omega⟩ (fun c25839 => ?_) (fun c25839 => ?_)
      ·
        refine GO.goto (tgt := 41) dX12_goesOver_185 (by decide) ?_
        refine GO.drop [true, true, true, false, true, true, true] rfl ?_
        exact ih23234 i23237 Wi23237 ⟨by omega, by omega, trivial⟩ (by show (((2 * dsum Wi23237 x) + i23237)).toNat < (((2 * dsum Wi17463 x) + i17463)).toNat; omega)
      ·
        refine GO.iconst dX12_goesOver_62 ?_
        refine GO.istore (ls1 := [some (.ref x), some (ti p0), some (ti i23237), some (ti i23238), some (ti 0), none, none]) dX12_goesOver_63 rfl rfl ?_
        refine GO.loop2 (fun i25840 i25841 W => 0 ≤ i25840 ∧ i25840 ≤ 1 ∧ 0 ≤ i25841 ∧ i25841 ≤ 8 ∧ (dsum W x ≤ dsum Wi17463 x ∧ (i25840 ≠ 0 → dsum W x < dsum Wi17463 x)) ∧ True) (fun i25840 i25841 => [some (.ref x), some (ti p0), some (ti i25840), some (ti i23238), some (ti i25841), none, none]) (fun i25840 i25841 W => (2147483647 - i25841).toNat) i23237 0 ⟨by omega, by omega, by omega, by omega, by omega, trivial⟩ rfl (fun i25840 i25841 Wi25840 hp26073 ih26072 => ?_)
        obtain ⟨l_i25840, u_i25840, l_i25841, u_i25841, n_i25840, -⟩ := hp26073
        have r_i25840 : ir i25840 := ⟨by omega, by omega⟩
        have r_i25841 : ir i25841 := ⟨by omega, by omega⟩
        show GO mX12_goesOver K V (VS K (fun V1 => (True))) K Wi25840 0 0 65 [some (.ref x), some (ti p0), some (ti i25840), some (ti i23238), some (ti i25841), none, none] []
        refine GO.iload dX12_goesOver_65 rfl ?_
        refine GO.bipush dX12_goesOver_67 rfl ?_
        refine GO.icmp_ge (tgt := 179) dX12_goesOver_69 (by decide) r_i25841 (ir_c rfl) (fun c26074 => ?_) (fun c26074 => ?_)
        ·
          refine GO.iinc (X := i23238) (n := 1) (Y := i23238 + 1) (ls1 := [some (.ref x), some (ti p0), some (ti i25840), some (ti (i23238 + 1)), some (ti i25841), none, none]) dX12_goesOver_179 rfl rfl rfl rfl ?_
          refine GO.goto (tgt := 49) dX12_goesOver_182 (by decide) ?_
          refine GO.drop [true, true, true, true, false, true, true] rfl ?_
          exact ih25831 i25840 (i23238 + 1) Wi25840 ⟨by omega, by omega, by omega, by omega, by omega, trivial⟩ (by show (2147483647 - (i23238 + 1)).toNat < (2147483647 - i23238).toNat; omega)
        ·
          refine GO.aload_n dX12_goesOver_72 rfl rfl ?_
          refine GO.getA (n := 144) h_x fl_RX12_277 rfl rfl rfl rfl dX12_goesOver_73 (fun hv26076 h26075 => ?_)
          refine GO.iload_n dX12_goesOver_76 rfl rfl ?_
          refine GO.iald (t := 95) rfl rfl h26075 r_i23238 (by omega) (by omega) dX12_goesOver_77 (fun l26077 u26078 => ?_)
          refine GO.ldcw (X := 1000000) dX12_goesOver_78 gw_2291 rfl ?_
          refine GO.icmp_ge (tgt := 179) dX12_goesOver_81 (by decide) vi_ir (ir_c rfl) (fun c26079 => ?_) (fun c26079 => ?_)
          ·
            refine GO.iinc (X := i23238) (n := 1) (Y := i23238 + 1) (ls1 := [some (.ref x), some (ti p0), some (ti i25840), some (ti (i23238 + 1)), some (ti i25841), none, none]) dX12_goesOver_179 rfl rfl rfl rfl ?_
            refine GO.goto (tgt := 49) dX12_goesOver_182 (by decide) ?_
            refine GO.drop [true, true, true, true, false, true, true] rfl ?_
            exact ih25831 i25840 (i23238 + 1) Wi25840 ⟨by omega, by omega, by omega, by omega, by omega, trivial⟩ (by show (2147483647 - (i23238 + 1)).toNat < (2147483647 - i23238).toNat; omega)
          ·
            refine GO.aload_n dX12_goesOver_84 rfl rfl ?_
            refine GO.iload_n dX12_goesOver_85 rfl rfl ?_
            refine GO.iload dX12_goesOver_86 rfl ?_
            refine GO.callS (N := mX12_columnStep) dX12_goesOver_88 gS_RX12_639 (t_X12_columnStep r_i25841) rfl [ti i23238, .ref x] rfl rfl (Nat.le_of_ble_eq_true rfl) rfl (k_ip fun X26080 r26081 h26082 => ?_)
            refine GO.iload dX12_goesOver_91 rfl ?_
            refine GO.callS (N := mX12_rowStep) dX12_goesOver_93 gS_RX12_642 (t_X12_rowStep r_i25841) rfl [ti X26080, ti i23238, .ref x] rfl rfl (Nat.le_of_ble_eq_true rfl) rfl (k_ip fun X26083 r26084 h26085 => ?_)
            refine GO.callV (ci := 11) (N := mX12_moved) dX12_goesOver_96 (RX12, TX12, 151) rfl gV_RX12_645 h_x (t_X12_moved h_x r_i23238 r26081 r26084 (by omega) (by omega) (by omega) (by omega) (by omega) (by omega)) rfl [] rfl rfl (Nat.le_of_ble_eq_true rfl) rfl (k_ip fun X26086 r26087 h26088 => ?_)
            refine GO.istore (ls1 := [some (.ref x), some (ti p0), some (ti i25840), some (ti i23238), some (ti i25841), some (ti X26086), none]) dX12_goesOver_99 rfl rfl ?_
            refine GO.iload dX12_goesOver_101 rfl ?_
            refine GO.iconst dX12_goesOver_103 ?_
            refine GO.icmp_eq (tgt := 173) dX12_goesOver_104 (by decide) r26087 (ir_c rfl) (fun c26089 => ?_) (fun c26089 => ?_)
            ·
              refine GO.iinc (X := i25841) (n := 1) (Y := i25841 + 1) (ls1 := [some (.ref x), some (ti p0), some (ti i25840), some (ti i23238), some (ti (i25841 + 1)), some (ti X26086), none]) dX12_goesOver_173 rfl rfl rfl rfl ?_
              refine GO.goto (tgt := 65) dX12_goesOver_176 (by decide) ?_
              refine GO.drop [true, true, true, true, true, false, true] rfl ?_
              exact ih26072 i25840 (i25841 + 1) Wi25840 ⟨by omega, by omega, by omega, by omega, by omega, trivial⟩ (by show (2147483647 - (i25841 + 1)).toNat < (2147483647 - i25841).toNat; omega)
            ·
              refine GO.aload_n dX12_goesOver_107 rfl rfl ?_
              refine GO.iload dX12_goesOver_108 rfl ?_
              refine GO.callV (ci := 11) (N := mX12_isLand) dX12_goesOver_110 (RX12, TX12, 151) rfl gV_RX12_425 h_x (t_X12_isLand h_x r26087 (by omega) (by omega)) rfl [] rfl rfl (Nat.le_of_ble_eq_true rfl) rfl (k_ip fun X26090 r26091 h26092 => ?_)
              refine GO.if_ne (tgt := 119) dX12_goesOver_113 (by decide) r26091 (fun c26093 => ?_) (fun c26093 => ?_)
              ·
                refine GO.aload_n dX12_goesOver_119 rfl rfl ?_
                refine GO.getRaw h_x fl_RX12_277 hv26076 dX12_goesOver_120 ?_
                refine GO.iload_n dX12_goesOver_123 rfl rfl ?_
                refine GO.iald (t := 95) rfl rfl h26075 r_i23238 (by omega) (by omega) dX12_goesOver_124 (fun l26096 u26097 => ?_)
                refine GO.iconst dX12_goesOver_125 ?_
                refine GO.iadd dX12_goesOver_126 ?_
                refine GO.aload_n dX12_goesOver_127 rfl rfl ?_
                refine GO.getA (n := 144) h_x fl_RX12_16 rfl rfl rfl rfl dX12_goesOver_128 (fun hv26099 h26098 => ?_)
                refine GO.iload dX12_goesOver_131 rfl ?_
                refine GO.iald (t := 9) rfl rfl h26098 r26087 (by omega) (by omega) dX12_goesOver_133 (fun l26100 u26101 => ?_)
                refine GO.aload_n dX12_goesOver_134 rfl rfl ?_
                refine GO.getRaw h_x fl_RX12_16 hv26099 dX12_goesOver_135 ?_
                refine GO.iload_n dX12_goesOver_138 rfl rfl ?_
                refine GO.iald (t := 9) rfl rfl h26098 r_i23238 (by omega) (by omega) dX12_goesOver_139 (fun l26104 u26105 => ?_)
                refine GO.isub dX12_goesOver_140 ?_
                refine GO.callS (N := mX12_size) dX12_goesOver_141 gS_RX12_385 (t_X12_size ⟨by omega, by omega⟩ (by omega) (by omega)) rfl [ti ((vi Wi25840 (vq Wi25840 x 117) (i23238).toNat) + 1)] rfl rfl (Nat.le_of_ble_eq_true rfl) rfl (k_ip fun X26106 r26107 h26108 => ?_)
                refine GO.iadd dX12_goesOver_144 ?_
                refine GO.name (fun z26109 hz26110 => ?_)
                refine GO.istore (ls1 := [some (.ref x), some (ti p0), some (ti i25840), some (ti i23238), some (ti i25841), some (ti X26086), some (ti z26109)]) dX12_goesOver_145 rfl rfl ?_
                refine GO.iload dX12_goesOver_147 rfl ?_
                refine GO.aload_n dX12_goesOver_149 rfl rfl ?_
                refine GO.getRaw h_x fl_RX12_277 hv26076 dX12_goesOver_150 ?_
                refine GO.iload dX12_goesOver_153 rfl ?_
                refine GO.iald (t := 95) rfl rfl h26075 r26087 (by omega) (by omega) dX12_goesOver_155 (fun l26113 u26114 => ?_)
                refine GO.icmp_lt (tgt := 162) dX12_goesOver_156 (by decide) ⟨by omega, by omega⟩ vi_ir (fun c26115 => ?_) (fun c26115 => ?_)
                ·
                  refine GO.aload_n dX12_goesOver_162 rfl rfl ?_
                  refine GO.getRaw h_x fl_RX12_277 hv26076 dX12_goesOver_163 ?_
                  refine GO.iload dX12_goesOver_166 rfl ?_
                  refine GO.iload dX12_goesOver_168 rfl ?_
                  refine GO.iast (t := 95) rfl rfl (by decide +kernel) h26075 r26087 (by omega) (by omega) ⟨by omega, by omega⟩ (by omega) (by omega) dX12_goesOver_170 (fun V26119 e26118 => ?_)
                  refine GO.iconst dX12_goesOver_171 ?_
                  refine GO.istore_n (ls1 := [some (.ref x), some (ti p0), some (ti 1), some (ti i23238), some (ti i25841), some (ti X26086), some (ti z26109)]) dX12_goesOver_172 rfl rfl rfl ?_
                  refine GO.iinc (X := i25841) (n := 1) (Y := i25841 + 1) (ls1 := [some (.ref x), some (ti p0), some (ti 1), some (ti i23238), some (ti (i25841 + 1)), some (ti X26086), some (ti z26109)]) dX12_goesOver_173 rfl rfl rfl rfl ?_
                  refine GO.goto (tgt := 65) dX12_goesOver_176 (by decide) ?_
                  refine GO.drop [true, true, true, true, true, false, false] rfl ?_
                  have e26120 : dsum V26119 x = dsum Wi25840 x - vi Wi25840 (vq Wi25840 x 117) (X26086).toNat + z26109 := dsum_put e26118 h_x h26075 (by omega) ⟨by omega, by omega⟩
                  exact ih26072 1 (i25841 + 1) V26119 ⟨by omega, by omega, by omega, by omega, by omega, trivial⟩ (by show (2147483647 - (i25841 + 1)).toNat < (2147483647 - i25841).toNat; omega)
                ·
                  refine GO.goto (tgt := 173) dX12_goesOver_159 (by decide) ?_
                  refine GO.iinc (X := i25841) (n := 1) (Y := i25841 + 1) (ls1 := [some (.ref x), some (ti p0), some (ti i25840), some (ti i23238), some (ti (i25841 + 1)), some (ti X26086), some (ti z26109)]) dX12_goesOver_173 rfl rfl rfl rfl ?_
                  refine GO.goto (tgt := 65) dX12_goesOver_176 (by decide) ?_
                  refine GO.drop [true, true, true, true, true, false, false] rfl ?_
                  exact ih26072 i25840 (i25841 + 1) Wi25840 ⟨by omega, by omega, by omega, by omega, by omega, trivial⟩ (by show (2147483647 - (i25841 + 1)).toNat < (2147483647 - i25841).toNat; omega)
              ·
                refine GO.goto (tgt := 173) dX12_goesOver_116 (by decide) ?_
                refine GO.iinc (X := i25841) (n := 1) (Y := i25841 + 1) (ls1 := [some (.ref x), some (ti p0), some (ti i25840), some (ti i23238), some (ti (i25841 + 1)), some (ti X26086), none]) dX12_goesOver_173 rfl rfl rfl rfl ?_
                refine GO.goto (tgt := 65) dX12_goesOver_176 (by decide) ?_
                refine GO.drop [true, true, true, true, true, false, true] rfl ?_
                exact ih26072 i25840 (i25841 + 1) Wi25840 ⟨by omega, by omega, by omega, by omega, by omega, trivial⟩ (by show (2147483647 - (i25841 + 1)).toNat < (2147483647 - i25841).toNat; omega)
  ·
    refine GO.aload_n dX12_goesOver_15 rfl rfl ?_
    refine GO.getA (n := 144) h_x fl_RX12_277 rfl rfl rfl rfl dX12_goesOver_16 (fun hv26122 h26121 => ?_)
    refine GO.iload_n dX12_goesOver_19 rfl rfl ?_
    refine GO.iload_n dX12_goesOver_20 rfl rfl ?_
    refine GO.iload_n dX12_goesOver_21 rfl rfl ?_
    refine GO.icmp_ne (tgt := 29) dX12_goesOver_22 (by decide) r_i1 r_p0 (fun c26123 => ?_) (fun c26123 => ?_)
    ·
      refine GO.ldcw (X := 1000000) dX12_goesOver_29 gw_2291 rfl ?_
      refine GO.iast (t := 95) rfl rfl (by decide +kernel) h26121 r_i1 (by omega) (by omega) (ir_c rfl) (by decide) (by decide) dX12_goesOver_32 (fun V26125 e26124 => ?_)
      refine GO.iinc (X := i1) (n := 1) (Y := i1 + 1) (ls1 := [some (.ref x), some (ti p0), some (ti (i1 + 1)), none, none, none, none]) dX12_goesOver_33 rfl rfl rfl rfl ?_
      refine GO.goto (tgt := 2) dX12_goesOver_36 (by decide) ?_
      exact ih17454 (i1 + 1) V26125 ⟨by omega, by omega, trivial⟩ (by show (2147483647 - (i1 + 1)).toNat < (2147483647 - i1).toNat; omega)
    ·
      refine GO.iconst dX12_goesOver_25 ?_
      refine GO.goto (tgt := 32) dX12_goesOver_26 (by decide) ?_
      have q26126 : -2147483648 ≤ p0 ∧ p0 ≤ 2147483647 := r_p0
      refine GO.iast (t := 95) rfl rfl (by decide +kernel) h26121 r_i1 (by omega) (by omega) (ir_c rfl) (by decide) (by decide) dX12_goesOver_32 (fun V26128 e26127 => ?_)
      refine GO.iinc (X := i1) (n := 1) (Y := i1 + 1) (ls1 := [some (.ref x), some (ti p0), some (ti (i1 + 1)), none, none, none, none]) dX12_goesOver_33 rfl rfl rfl rfl ?_
      refine GO.goto (tgt := 2) dX12_goesOver_36 (by decide) ?_
      exact ih17454 (i1 + 1) V26128 ⟨by omega, by omega, trivial⟩ (by show (2147483647 - (i1 + 1)).toNat < (2147483647 - i1).toNat; omega)

set_option maxHeartbeats 1000000 in
theorem t_X12_sledge {K : Kmap} {V : Vmap} {x : Nat} {p0 : Int} {p1 : Int} {p2 : Int} (h_x : K x = some (0, 11)) (r_p0 : ir p0) (r_p1 : ir p1) (r_p2 : ir p2) : MC mX12_sledge K V [.ref x, ti p0, ti p1, ti p2] (IS K (fun X V1 => True)) := by
  refine MC.start 1 (by decide +kernel) rfl rfl rfl (ls0 := [some (.ref x), some (ti p0), some (ti p1), some (ti p2), none]) rfl ?_
  refine GO.aload_n dX12_sledge_0 rfl rfl ?_
  refine GO.iload_n dX12_sledge_1 rfl rfl ?_
  refine GO.callV (ci := 11) (N := mX12_stands) dX12_sledge_2 (RX12, TX12, 151) rfl gV_RX12_433 h_x (t_X12_stands h_x r_p0) rfl [] rfl rfl (Nat.le_of_ble_eq_true rfl) rfl (k_ip fun X1 r2 h3 => ?_)
  refine GO.if_eq (tgt := 66) dX12_sledge_5 (by decide) r2 (fun c4 => ?_) (fun c4 => ?_)
  ·
    refine GO.iconst dX12_sledge_66 ?_
    exact GO.reti rfl rfl dX12_sledge_67 ⟨rfl, _, rfl, (ir_c rfl), trivial⟩
  ·
    have q5 := h3.2.1 (by omega)
    refine GO.aload_n dX12_sledge_8 rfl rfl ?_
    refine GO.iload_n dX12_sledge_9 rfl rfl ?_
    refine GO.callV (ci := 11) (N := mX12_stands) dX12_sledge_10 (RX12, TX12, 151) rfl gV_RX12_433 h_x (t_X12_stands h_x r_p1) rfl [] rfl rfl (Nat.le_of_ble_eq_true rfl) rfl (k_ip fun X6 r7 h8 => ?_)
    refine GO.if_eq (tgt := 66) dX12_sledge_13 (by decide) r7 (fun c9 => ?_) (fun c9 => ?_)
    ·
      refine GO.iconst dX12_sledge_66 ?_
      exact GO.reti rfl rfl dX12_sledge_67 ⟨rfl, _, rfl, (ir_c rfl), trivial⟩
    ·
      have q10 := h8.2.1 (by omega)
      refine GO.iload_n dX12_sledge_16 rfl rfl ?_
      refine GO.iload_n dX12_sledge_17 rfl rfl ?_
      refine GO.icmp_eq (tgt := 66) dX12_sledge_18 (by decide) r_p0 r_p1 (fun c11 => ?_) (fun c11 => ?_)
      ·
        refine GO.iconst dX12_sledge_66 ?_
        exact GO.reti rfl rfl dX12_sledge_67 ⟨rfl, _, rfl, (ir_c rfl), trivial⟩
      ·
        refine GO.aload_n dX12_sledge_21 rfl rfl ?_
        refine GO.getA (n := 60) h_x fl_RX12_38 rfl rfl rfl rfl dX12_sledge_22 (fun hv13 h12 => ?_)
        refine GO.iload_n dX12_sledge_25 rfl rfl ?_
        have q14 : -2147483648 ≤ p0 ∧ p0 ≤ 2147483647 := r_p0
        refine GO.iald (t := 16) rfl rfl h12 r_p0 (by omega) (by omega) dX12_sledge_26 (fun l15 u16 => ?_)
        refine GO.aload_n dX12_sledge_27 rfl rfl ?_
        refine GO.getRaw h_x fl_RX12_38 hv13 dX12_sledge_28 ?_
        refine GO.iload_n dX12_sledge_31 rfl rfl ?_
        have q19 : -2147483648 ≤ p1 ∧ p1 ≤ 2147483647 := r_p1
        refine GO.iald (t := 16) rfl rfl h12 r_p1 (by omega) (by omega) dX12_sledge_32 (fun l20 u21 => ?_)
        refine GO.icmp_ne (tgt := 66) dX12_sledge_33 (by decide) vi_ir vi_ir (fun c22 => ?_) (fun c22 => ?_)
        ·
          refine GO.iconst dX12_sledge_66 ?_
          exact GO.reti rfl rfl dX12_sledge_67 ⟨rfl, _, rfl, (ir_c rfl), trivial⟩
        ·
          refine GO.iload_n dX12_sledge_36 rfl rfl ?_
          refine GO.iconst dX12_sledge_37 ?_
          refine GO.sipush dX12_sledge_38 rfl ?_
          refine GO.callS (N := mX12_in) dX12_sledge_41 gS_RX12_371 (t_X12_in r_p2 (ir_c rfl) (ir_c rfl)) rfl [] rfl rfl (Nat.le_of_ble_eq_true rfl) rfl (k_ip fun X23 r24 h25 => ?_)
          refine GO.if_eq (tgt := 66) dX12_sledge_44 (by decide) r24 (fun c26 => ?_) (fun c26 => ?_)
          ·
            have q27 := h25.2.2 (by omega)
            refine GO.iconst dX12_sledge_66 ?_
            exact GO.reti rfl rfl dX12_sledge_67 ⟨rfl, _, rfl, (ir_c rfl), trivial⟩
          ·
            have q28 := h25.2.1 (by omega)
            refine GO.iload_n dX12_sledge_47 rfl rfl ?_
            refine GO.aload_n dX12_sledge_48 rfl rfl ?_
            refine GO.getA (n := 60) h_x fl_RX12_56 rfl rfl rfl rfl dX12_sledge_49 (fun hv30 h29 => ?_)
            refine GO.iload_n dX12_sledge_52 rfl rfl ?_
            refine GO.iald (t := 22) rfl rfl h29 r_p0 (by omega) (by omega) dX12_sledge_53 (fun _ _ => ?_)
            refine GO.icmp_gt (tgt := 66) dX12_sledge_54 (by decide) r_p2 vi_ir (fun c31 => ?_) (fun c31 => ?_)
            ·
              refine GO.iconst dX12_sledge_66 ?_
              exact GO.reti rfl rfl dX12_sledge_67 ⟨rfl, _, rfl, (ir_c rfl), trivial⟩
            ·
              refine GO.aload_n dX12_sledge_57 rfl rfl ?_
              refine GO.getI h_x fl_RX12_648 rfl rfl dX12_sledge_58 (fun l32 u33 => ?_)
              refine GO.bipush dX12_sledge_61 rfl ?_
              refine GO.icmp_ne (tgt := 68) dX12_sledge_63 (by decide) vi_ir (ir_c rfl) (fun c34 => ?_) (fun c34 => ?_)
              ·
                refine GO.aload_n dX12_sledge_68 rfl rfl ?_
                refine GO.aload_n dX12_sledge_69 rfl rfl ?_
                refine GO.getA (n := 60) h_x fl_RX12_41 rfl rfl rfl rfl dX12_sledge_70 (fun hv36 h35 => ?_)
                refine GO.iload_n dX12_sledge_73 rfl rfl ?_
                refine GO.iald (t := 17) rfl rfl h35 r_p0 (by omega) (by omega) dX12_sledge_74 (fun l37 u38 => ?_)
                refine GO.callV (ci := 11) (N := mX12_goesOver) dX12_sledge_75 (RX12, TX12, 151) rfl gV_RX12_651 h_x (t_X12_goesOver h_x vi_ir (by omega) (by omega)) rfl [] rfl rfl (Nat.le_of_ble_eq_true rfl) rfl (k_vs fun V41 h40 hF39 => ?_)
                refine GO.aload_n dX12_sledge_78 rfl rfl ?_
                refine GO.getA (n := 144) h_x fl_RX12_277 rfl rfl rfl rfl dX12_sledge_79 (fun hv43 h42 => ?_)
                refine GO.aload_n dX12_sledge_82 rfl rfl ?_
                refine GO.getRaw h_x fl_RX12_41 (Eq.trans (hF39 _ _ _ h_x h_x (by decide +kernel)) hv36) dX12_sledge_83 ?_
                refine GO.iload_n dX12_sledge_86 rfl rfl ?_
                refine GO.iald (t := 17) rfl rfl h35 r_p1 (by omega) (by omega) dX12_sledge_87 (fun l46 u47 => ?_)
                refine GO.iald (t := 95) rfl rfl h42 vi_ir (by omega) (by omega) dX12_sledge_88 (fun l49 u50 => ?_)
                refine GO.name (fun z52 hz53 => ?_)
                have r54 : ir z52 := hz53 ▸ vi_ir
                refine GO.istore (ls1 := [some (.ref x), some (ti p0), some (ti p1), some (ti p2), some (ti z52)]) dX12_sledge_89 rfl rfl ?_
                refine GO.iload dX12_sledge_91 rfl ?_
                refine GO.iload_n dX12_sledge_93 rfl rfl ?_
                refine GO.icmp_lt (tgt := 99) dX12_sledge_94 (by decide) r54 r_p2 (fun c55 => ?_) (fun c55 => ?_)
                ·
                  refine GO.aload_n dX12_sledge_99 rfl rfl ?_
                  refine GO.getRaw h_x fl_RX12_56 (Eq.trans (hF39 _ _ _ h_x h_x (by decide +kernel)) hv30) dX12_sledge_100 ?_
                  refine GO.iload_n dX12_sledge_103 rfl rfl ?_
                  refine GO.aload_n dX12_sledge_104 rfl rfl ?_
                  refine GO.getRaw h_x fl_RX12_56 (Eq.trans (hF39 _ _ _ h_x h_x (by decide +kernel)) hv30) dX12_sledge_105 ?_
                  refine GO.iload_n dX12_sledge_108 rfl rfl ?_
                  refine GO.iald (t := 22) rfl rfl h29 r_p0 (by omega) (by omega) dX12_sledge_109 (fun _ _ => ?_)
                  have e60 : vi V41 (vq V x 20) (p0).toNat = vi V (vq V x 20) (p0).toNat := vi_frA hF39 h29 h29 (by decide +kernel)
                  refine GO.iload_n dX12_sledge_110 rfl rfl ?_
                  refine GO.isub dX12_sledge_111 ?_
                  have q62 : -2147483648 ≤ p2 ∧ p2 ≤ 2147483647 := r_p2
                  have q63 : -2147483648 ≤ vi V (vq V x 20) (p0).toNat ∧ vi V (vq V x 20) (p0).toNat ≤ 2147483647 := vi_ir
                  have q64 : -2147483648 ≤ vi V41 (vq V x 20) (p0).toNat ∧ vi V41 (vq V x 20) (p0).toNat ≤ 2147483647 := vi_ir
                  refine GO.iast (t := 22) rfl rfl (by decide +kernel) h29 r_p0 (by omega) (by omega) ⟨by omega, by omega⟩ (by omega) (by omega) dX12_sledge_112 (fun V65 e61 => ?_)
                  refine GO.aload_n dX12_sledge_113 rfl rfl ?_
                  refine GO.aload_n dX12_sledge_114 rfl rfl ?_
                  refine GO.getL h_x fl_RX12_654 rfl rfl dX12_sledge_115 ?_
                  refine GO.anyL (fun z66 => ?_)
                  refine GO.iload dX12_sledge_118 rfl ?_
                  refine GO.i2l dX12_sledge_120 ?_
                  refine GO.anyL (fun z67 => ?_)
                  refine GO.ladd dX12_sledge_121 ?_
                  refine GO.anyL (fun z68 => ?_)
                  refine GO.putL h_x fp_RX12_654 rfl (by decide +kernel) dX12_sledge_122 (fun V70 e69 => ?_)
                  refine GO.aload_n dX12_sledge_125 rfl rfl ?_
                  refine GO.getA (n := 40) h_x fl_RX12_247 rfl rfl rfl rfl dX12_sledge_126 (fun hv72 h71 => ?_)
                  refine GO.aload_n dX12_sledge_129 rfl rfl ?_
                  refine GO.getI h_x fl_RX12_648 rfl rfl dX12_sledge_130 (fun l73 u74 => ?_)
                  have e77 : vi V41 x 92 = vi V x 92 := vi_fr hF39 h_x h_x (by decide +kernel)
                  have e76 : vi V65 x 92 = vi V41 x 92 := vi_up e61 (Or.inl (K_ne h_x h29 (by decide)))
                  have e75 : vi V70 x 92 = vi V65 x 92 := vi_up e69 (Or.inr (by decide))
                  refine GO.iload_n dX12_sledge_133 rfl rfl ?_
                  refine GO.iast (t := 85) rfl rfl (by decide +kernel) h71 vi_ir (by omega) (by omega) r_p1 (by omega) (by omega) dX12_sledge_134 (fun V79 e78 => ?_)
                  refine GO.aload_n dX12_sledge_135 rfl rfl ?_
                  refine GO.getA (n := 40) h_x fl_RX12_250 rfl rfl rfl rfl dX12_sledge_136 (fun hv81 h80 => ?_)
                  refine GO.aload_n dX12_sledge_139 rfl rfl ?_
                  refine GO.getI h_x fl_RX12_648 rfl rfl dX12_sledge_140 (fun l82 u83 => ?_)
                  have e84 : vi V79 x 92 = vi V70 x 92 := vi_up e78 (Or.inl (K_ne h_x h71 (by decide)))
                  refine GO.aload_n dX12_sledge_143 rfl rfl ?_
                  refine GO.getRaw h_x fl_RX12_41 (Eq.trans (uq_ne e78 (Or.inl (K_ne h_x h71 (by decide)))) (Eq.trans (uq_ne e69 (Or.inr (by decide))) (Eq.trans (uq_ne e61 (Or.inl (K_ne h_x h29 (by decide)))) (Eq.trans (hF39 _ _ _ h_x h_x (by decide +kernel)) hv36)))) dX12_sledge_144 ?_
                  refine GO.iload_n dX12_sledge_147 rfl rfl ?_
                  refine GO.iald (t := 17) rfl rfl h35 r_p1 (by omega) (by omega) dX12_sledge_148 (fun l87 u88 => ?_)
                  have e91 : vi V65 (vq V x 15) (p1).toNat = vi V41 (vq V x 15) (p1).toNat := vi_up e61 (Or.inl (K_ne h35 h29 (by decide)))
                  have e90 : vi V70 (vq V x 15) (p1).toNat = vi V65 (vq V x 15) (p1).toNat := vi_up e69 (Or.inl (K_ne h35 h_x (by decide)))
                  have e89 : vi V79 (vq V x 15) (p1).toNat = vi V70 (vq V x 15) (p1).toNat := vi_up e78 (Or.inl (K_ne h35 h71 (by decide)))
                  refine GO.iast (t := 86) rfl rfl (by decide +kernel) h80 vi_ir (by omega) (by omega) vi_ir (vi_ir).1 (vi_ir).2 dX12_sledge_149 (fun V93 e92 => ?_)
                  refine GO.aload_n dX12_sledge_150 rfl rfl ?_
                  refine GO.getA (n := 40) h_x fl_RX12_253 rfl rfl rfl rfl dX12_sledge_151 (fun hv95 h94 => ?_)
                  refine GO.aload_n dX12_sledge_154 rfl rfl ?_
                  refine GO.getI h_x fl_RX12_648 rfl rfl dX12_sledge_155 (fun l96 u97 => ?_)
                  have e98 : vi V93 x 92 = vi V79 x 92 := vi_up e92 (Or.inl (K_ne h_x h80 (by decide)))
                  refine GO.iload_n dX12_sledge_158 rfl rfl ?_
                  refine GO.iload dX12_sledge_159 rfl ?_
                  refine GO.isub dX12_sledge_161 ?_
                  refine GO.iast (t := 87) rfl rfl (by decide +kernel) h94 vi_ir (by omega) (by omega) ⟨by omega, by omega⟩ (by omega) (by omega) dX12_sledge_162 (fun V100 e99 => ?_)
                  refine GO.aload_n dX12_sledge_163 rfl rfl ?_
                  refine GO.getA (n := 40) h_x fl_RX12_256 rfl rfl rfl rfl dX12_sledge_164 (fun hv102 h101 => ?_)
                  refine GO.aload_n dX12_sledge_167 rfl rfl ?_
                  refine GO.getI h_x fl_RX12_648 rfl rfl dX12_sledge_168 (fun l103 u104 => ?_)
                  have e105 : vi V100 x 92 = vi V93 x 92 := vi_up e99 (Or.inl (K_ne h_x h94 (by decide)))
                  refine GO.aload_n dX12_sledge_171 rfl rfl ?_
                  refine GO.getI h_x fl_RX12_396 rfl rfl dX12_sledge_172 (fun l106 u107 => ?_)
                  refine GO.iload dX12_sledge_175 rfl ?_
                  have hj116 : ∀ (z115 : Int), ∀ (l117 : 1 ≤ z115), ∀ (u118 : z115 ≤ 499), GO mX12_sledge K V (IS K (fun X V1 => True)) K V100 0 0 186 [some (.ref x), some (ti p0), some (ti p1), some (ti p2), some (ti z52)] [ti z115, ti (vi V100 x 2), ti (vi V100 x 92), .ref (vq V100 x 110)] := by
                    intro z115 l117 u118
                    have r119 : ir z115 := ⟨by omega, by omega⟩
                    refine GO.iadd dX12_sledge_186 ?_
                    refine GO.iast (t := 88) rfl rfl (by decide +kernel) h101 vi_ir (by omega) (by omega) ⟨by omega, by omega⟩ (by omega) (by omega) dX12_sledge_187 (fun V121 e120 => ?_)
                    refine GO.aload_n dX12_sledge_188 rfl rfl ?_
                    refine GO.getA (n := 40) h_x fl_RX12_259 rfl rfl rfl rfl dX12_sledge_189 (fun hv123 h122 => ?_)
                    refine GO.aload_n dX12_sledge_192 rfl rfl ?_
                    refine GO.getI h_x fl_RX12_648 rfl rfl dX12_sledge_193 (fun l124 u125 => ?_)
                    have e126 : vi V121 x 92 = vi V100 x 92 := vi_up e120 (Or.inl (K_ne h_x h101 (by decide)))
                    refine GO.iconst dX12_sledge_196 ?_
                    refine GO.zast (t := 89) rfl rfl (by decide +kernel) h122 vi_ir (by omega) (by omega) (by omega) (by omega) (by omega) dX12_sledge_197 (fun V128 e127 => ?_)
                    refine GO.aload_n dX12_sledge_198 rfl rfl ?_
                    refine GO.aload_n dX12_sledge_199 rfl rfl ?_
                    refine GO.getI h_x fl_RX12_648 rfl rfl dX12_sledge_200 (fun l129 u130 => ?_)
                    have e131 : vi V128 x 92 = vi V121 x 92 := vi_up e127 (Or.inl (K_ne h_x h122 (by decide)))
                    refine GO.iconst dX12_sledge_203 ?_
                    refine GO.iadd dX12_sledge_204 ?_
                    refine GO.putI h_x fp_RX12_648 rfl (by decide +kernel) ⟨by omega, by omega⟩ (by omega) (by omega) dX12_sledge_205 (fun V133 e132 => ?_)
                    refine GO.aload_n dX12_sledge_208 rfl rfl ?_
                    refine GO.getRaw h_x fl_RX12_256 (Eq.trans (uq_ne e132 (Or.inr (by decide))) (Eq.trans (uq_ne e127 (Or.inl (K_ne h_x h122 (by decide)))) (Eq.trans (uq_ne e120 (Or.inl (K_ne h_x h101 (by decide)))) hv102))) dX12_sledge_209 ?_
                    refine GO.aload_n dX12_sledge_212 rfl rfl ?_
                    refine GO.getI h_x fl_RX12_648 rfl rfl dX12_sledge_213 (fun l136 u137 => ?_)
                    have e138 : vi V133 x 92 = (vi V128 x 92) + 1 := upd2_int e132 ⟨by omega, by omega⟩
                    refine GO.iconst dX12_sledge_216 ?_
                    refine GO.isub dX12_sledge_217 ?_
                    refine GO.iald (t := 88) rfl rfl h101 ⟨by omega, by omega⟩ (by omega) (by omega) dX12_sledge_218 (fun _ _ => ?_)
                    have q142 : -2147483648 ≤ vi V133 (vq V100 x 110) ((vi V133 x 92) - 1).toNat ∧ vi V133 (vq V100 x 110) ((vi V133 x 92) - 1).toNat ≤ 2147483647 := vi_ir
                    exact GO.reti rfl rfl dX12_sledge_219 ⟨rfl, _, rfl, vi_ir, trivial⟩
                  refine GO.if_le (tgt := 185) dX12_sledge_177 (by decide) r54 (fun c143 => ?_) (fun c143 => ?_)
                  ·
                    refine GO.iconst dX12_sledge_185 ?_
                    exact hj116 1 (by omega) (by omega)
                  ·
                    refine GO.iload dX12_sledge_180 rfl ?_
                    refine GO.goto (tgt := 186) dX12_sledge_182 (by decide) ?_
                    exact hj116 z52 (by omega) (by omega)
                ·
                  refine GO.iconst dX12_sledge_97 ?_
                  exact GO.reti rfl rfl dX12_sledge_98 ⟨rfl, _, rfl, (ir_c rfl), trivial⟩
              ·
                refine GO.iconst dX12_sledge_66 ?_
                exact GO.reti rfl rfl dX12_sledge_67 ⟨rfl, _, rfl, (ir_c rfl), trivial⟩

set_option maxHeartbeats 1000000 in
theorem t_X12_sledgeGoes {K : Kmap} {V : Vmap} {x : Nat} {p0 : Int} (h_x : K x = some (0, 11)) (r_p0 : ir p0) (q_0 : p0 ≥ 0) (q_1 : p0 ≤ 39) : MC mX12_sledgeGoes K V [.ref x, ti p0] (VS K (fun V1 => (True))) := by
  refine MC.start 1 (by decide +kernel) rfl rfl rfl (ls0 := [some (.ref x), some (ti p0), none]) rfl ?_
  refine GO.aload_n dX12_sledgeGoes_0 rfl rfl ?_
  refine GO.getA (n := 40) h_x fl_RX12_259 rfl rfl rfl rfl dX12_sledgeGoes_1 (fun hv2 h1 => ?_)
  refine GO.iload_n dX12_sledgeGoes_4 rfl rfl ?_
  have q3 : -2147483648 ≤ p0 ∧ p0 ≤ 2147483647 := r_p0
  refine GO.zald (t := 89) rfl rfl h1 r_p0 (by omega) (by omega) dX12_sledgeGoes_5 (fun l4 u5 => ?_)
  refine GO.if_eq (tgt := 22) dX12_sledgeGoes_6 (by decide) vi_ir (fun c6 => ?_) (fun c6 => ?_)
  ·
    exact GO.retv rfl rfl dX12_sledgeGoes_22 ⟨rfl, rfl, trivial⟩
  ·
    refine GO.aload_n dX12_sledgeGoes_9 rfl rfl ?_
    refine GO.getI h_x fl_RX12_396 rfl rfl dX12_sledgeGoes_10 (fun l7 u8 => ?_)
    refine GO.aload_n dX12_sledgeGoes_13 rfl rfl ?_
    refine GO.getA (n := 40) h_x fl_RX12_256 rfl rfl rfl rfl dX12_sledgeGoes_14 (fun hv10 h9 => ?_)
    refine GO.iload_n dX12_sledgeGoes_17 rfl rfl ?_
    refine GO.iald (t := 88) rfl rfl h9 r_p0 (by omega) (by omega) dX12_sledgeGoes_18 (fun _ _ => ?_)
    refine GO.icmp_ge (tgt := 23) dX12_sledgeGoes_19 (by decide) vi_ir vi_ir (fun c11 => ?_) (fun c11 => ?_)
    ·
      refine GO.aload_n dX12_sledgeGoes_23 rfl rfl ?_
      refine GO.getRaw h_x fl_RX12_259 hv2 dX12_sledgeGoes_24 ?_
      refine GO.iload_n dX12_sledgeGoes_27 rfl rfl ?_
      refine GO.iconst dX12_sledgeGoes_28 ?_
      refine GO.zast (t := 89) rfl rfl (by decide +kernel) h1 r_p0 (by omega) (by omega) (by omega) (by omega) (by omega) dX12_sledgeGoes_29 (fun V15 e14 => ?_)
      refine GO.aload_n dX12_sledgeGoes_30 rfl rfl ?_
      refine GO.getA (n := 40) h_x fl_RX12_247 rfl rfl rfl rfl dX12_sledgeGoes_31 (fun hv17 h16 => ?_)
      refine GO.iload_n dX12_sledgeGoes_34 rfl rfl ?_
      refine GO.iald (t := 85) rfl rfl h16 r_p0 (by omega) (by omega) dX12_sledgeGoes_35 (fun l18 u19 => ?_)
      refine GO.name (fun z21 hz22 => ?_)
      have r23 : ir z21 := hz22 ▸ vi_ir
      refine GO.istore_n (ls1 := [some (.ref x), some (ti p0), some (ti z21)]) dX12_sledgeGoes_36 rfl rfl rfl ?_
      refine GO.aload_n dX12_sledgeGoes_37 rfl rfl ?_
      refine GO.getA (n := 60) h_x fl_RX12_80 rfl rfl rfl rfl dX12_sledgeGoes_38 (fun hv25 h24 => ?_)
      refine GO.iload_n dX12_sledgeGoes_41 rfl rfl ?_
      refine GO.zald (t := 30) rfl rfl h24 r23 (by omega) (by omega) dX12_sledgeGoes_42 (fun l26 u27 => ?_)
      refine GO.if_ne (tgt := 61) dX12_sledgeGoes_43 (by decide) vi_ir (fun c29 => ?_) (fun c29 => ?_)
      ·
        refine GO.aload_n dX12_sledgeGoes_61 rfl rfl ?_
        refine GO.aload_n dX12_sledgeGoes_62 rfl rfl ?_
        refine GO.getL h_x fl_RX12_657 rfl rfl dX12_sledgeGoes_63 ?_
        refine GO.anyL (fun z30 => ?_)
        refine GO.aload_n dX12_sledgeGoes_66 rfl rfl ?_
        refine GO.getA (n := 40) h_x fl_RX12_253 rfl rfl rfl rfl dX12_sledgeGoes_67 (fun hv32 h31 => ?_)
        refine GO.iload_n dX12_sledgeGoes_70 rfl rfl ?_
        refine GO.iald (t := 87) rfl rfl h31 r_p0 (by omega) (by omega) dX12_sledgeGoes_71 (fun _ _ => ?_)
        refine GO.i2l dX12_sledgeGoes_72 ?_
        refine GO.anyL (fun z34 => ?_)
        refine GO.ladd dX12_sledgeGoes_73 ?_
        refine GO.anyL (fun z35 => ?_)
        refine GO.putL h_x fp_RX12_657 rfl (by decide +kernel) dX12_sledgeGoes_74 (fun V37 e36 => ?_)
        refine GO.goto (tgt := 99) dX12_sledgeGoes_77 (by decide) ?_
        exact GO.retv rfl rfl dX12_sledgeGoes_99 ⟨rfl, rfl, trivial⟩
      ·
        refine GO.aload_n dX12_sledgeGoes_46 rfl rfl ?_
        refine GO.getA (n := 60) h_x fl_RX12_41 rfl rfl rfl rfl dX12_sledgeGoes_47 (fun hv39 h38 => ?_)
        refine GO.iload_n dX12_sledgeGoes_50 rfl rfl ?_
        refine GO.iald (t := 17) rfl rfl h38 r23 (by omega) (by omega) dX12_sledgeGoes_51 (fun l40 u41 => ?_)
        refine GO.aload_n dX12_sledgeGoes_52 rfl rfl ?_
        refine GO.getA (n := 40) h_x fl_RX12_250 rfl rfl rfl rfl dX12_sledgeGoes_53 (fun hv44 h43 => ?_)
        refine GO.iload_n dX12_sledgeGoes_56 rfl rfl ?_
        refine GO.iald (t := 86) rfl rfl h43 r_p0 (by omega) (by omega) dX12_sledgeGoes_57 (fun _ _ => ?_)
        refine GO.icmp_eq (tgt := 80) dX12_sledgeGoes_58 (by decide) vi_ir vi_ir (fun c46 => ?_) (fun c46 => ?_)
        ·
          refine GO.aload_n dX12_sledgeGoes_80 rfl rfl ?_
          refine GO.getA (n := 60) h_x fl_RX12_56 rfl rfl rfl rfl dX12_sledgeGoes_81 (fun hv48 h47 => ?_)
          refine GO.iload_n dX12_sledgeGoes_84 rfl rfl ?_
          refine GO.aload_n dX12_sledgeGoes_85 rfl rfl ?_
          refine GO.getRaw h_x fl_RX12_56 hv48 dX12_sledgeGoes_86 ?_
          refine GO.iload_n dX12_sledgeGoes_89 rfl rfl ?_
          refine GO.iald (t := 22) rfl rfl h47 r23 (by omega) (by omega) dX12_sledgeGoes_90 (fun _ _ => ?_)
          refine GO.aload_n dX12_sledgeGoes_91 rfl rfl ?_
          refine GO.getA (n := 40) h_x fl_RX12_253 rfl rfl rfl rfl dX12_sledgeGoes_92 (fun hv53 h52 => ?_)
          refine GO.iload_n dX12_sledgeGoes_95 rfl rfl ?_
          refine GO.iald (t := 87) rfl rfl h52 r_p0 (by omega) (by omega) dX12_sledgeGoes_96 (fun _ _ => ?_)
          refine GO.iadd dX12_sledgeGoes_97 ?_
          refine GO.norm (fun z55 r56 _ => ?_)
          refine GO.iast (t := 22) rfl rfl (by decide +kernel) h47 r23 (by omega) (by omega) r56 (r56).1 (r56).2 dX12_sledgeGoes_98 (fun V58 e57 => ?_)
          exact GO.retv rfl rfl dX12_sledgeGoes_99 ⟨rfl, rfl, trivial⟩
        ·
          refine GO.aload_n dX12_sledgeGoes_61 rfl rfl ?_
          refine GO.aload_n dX12_sledgeGoes_62 rfl rfl ?_
          refine GO.getL h_x fl_RX12_657 rfl rfl dX12_sledgeGoes_63 ?_
          refine GO.anyL (fun z59 => ?_)
          refine GO.aload_n dX12_sledgeGoes_66 rfl rfl ?_
          refine GO.getA (n := 40) h_x fl_RX12_253 rfl rfl rfl rfl dX12_sledgeGoes_67 (fun hv61 h60 => ?_)
          refine GO.iload_n dX12_sledgeGoes_70 rfl rfl ?_
          refine GO.iald (t := 87) rfl rfl h60 r_p0 (by omega) (by omega) dX12_sledgeGoes_71 (fun _ _ => ?_)
          refine GO.i2l dX12_sledgeGoes_72 ?_
          refine GO.anyL (fun z63 => ?_)
          refine GO.ladd dX12_sledgeGoes_73 ?_
          refine GO.anyL (fun z64 => ?_)
          refine GO.putL h_x fp_RX12_657 rfl (by decide +kernel) dX12_sledgeGoes_74 (fun V66 e65 => ?_)
          refine GO.goto (tgt := 99) dX12_sledgeGoes_77 (by decide) ?_
          exact GO.retv rfl rfl dX12_sledgeGoes_99 ⟨rfl, rfl, trivial⟩
    ·
      exact GO.retv rfl rfl dX12_sledgeGoes_22 ⟨rfl, rfl, trivial⟩

set_option maxHeartbeats 1000000 in
theorem t_X12_people {K : Kmap} {V : Vmap} {x : Nat} {p0 : Int} {p1 : Int} (h_x : K x = some (0, 11)) (r_p0 : ir p0) (r_p1 : ir p1) : MC mX12_people K V [.ref x, ti p0, ti p1] (IS K (fun X V1 => (X = 0 ∨ X = 1) ∧ (X ≠ 0 → True) ∧ (X = 0 → True))) := by
  refine MC.start 0 (by decide +kernel) rfl rfl rfl (ls0 := [some (.ref x), some (ti p0), some (ti p1)]) rfl ?_
  refine GO.aload_n dX12_people_0 rfl rfl ?_
  refine GO.iload_n dX12_people_1 rfl rfl ?_
  refine GO.callV (ci := 11) (N := mX12_stands) dX12_people_2 (RX12, TX12, 151) rfl gV_RX12_433 h_x (t_X12_stands h_x r_p0) rfl [] rfl rfl (Nat.le_of_ble_eq_true rfl) rfl (k_ip fun X1 r2 h3 => ?_)
  refine GO.if_eq (tgt := 39) dX12_people_5 (by decide) r2 (fun c4 => ?_) (fun c4 => ?_)
  ·
    refine GO.iconst dX12_people_39 ?_
    exact GO.retz rfl rfl dX12_people_40 (by omega) ⟨rfl, _, rfl, (ir_c rfl), ⟨by omega, fun _ => trivial, fun _ => trivial⟩⟩
  ·
    have q5 := h3.2.1 (by omega)
    refine GO.iload_n dX12_people_8 rfl rfl ?_
    refine GO.sipush dX12_people_9 rfl ?_
    refine GO.sipush dX12_people_12 rfl ?_
    refine GO.callS (N := mX12_in) dX12_people_15 gS_RX12_371 (t_X12_in r_p1 (ir_c rfl) (ir_c rfl)) rfl [] rfl rfl (Nat.le_of_ble_eq_true rfl) rfl (k_ip fun X6 r7 h8 => ?_)
    refine GO.if_eq (tgt := 39) dX12_people_18 (by decide) r7 (fun c9 => ?_) (fun c9 => ?_)
    ·
      have q10 := h8.2.2 (by omega)
      refine GO.iconst dX12_people_39 ?_
      exact GO.retz rfl rfl dX12_people_40 (by omega) ⟨rfl, _, rfl, (ir_c rfl), ⟨by omega, fun _ => trivial, fun _ => trivial⟩⟩
    ·
      have q11 := h8.2.1 (by omega)
      refine GO.aload_n dX12_people_21 rfl rfl ?_
      refine GO.getA (n := 60) h_x fl_RX12_53 rfl rfl rfl rfl dX12_people_22 (fun hv13 h12 => ?_)
      refine GO.iload_n dX12_people_25 rfl rfl ?_
      have q14 : -2147483648 ≤ p0 ∧ p0 ≤ 2147483647 := r_p0
      refine GO.iald (t := 21) rfl rfl h12 r_p0 (by omega) (by omega) dX12_people_26 (fun l15 u16 => ?_)
      refine GO.iload_n dX12_people_27 rfl rfl ?_
      refine GO.iadd dX12_people_28 ?_
      refine GO.iconst dX12_people_29 ?_
      refine GO.sipush dX12_people_30 rfl ?_
      have q17 : -2147483648 ≤ p1 ∧ p1 ≤ 2147483647 := r_p1
      refine GO.callS (N := mX12_in) dX12_people_33 gS_RX12_371 (t_X12_in ⟨by omega, by omega⟩ (ir_c rfl) (ir_c rfl)) rfl [] rfl rfl (Nat.le_of_ble_eq_true rfl) rfl (k_ip fun X18 r19 h20 => ?_)
      refine GO.if_ne (tgt := 41) dX12_people_36 (by decide) r19 (fun c21 => ?_) (fun c21 => ?_)
      ·
        have q22 := h20.2.1 (by omega)
        refine GO.aload_n dX12_people_41 rfl rfl ?_
        refine GO.getRaw h_x fl_RX12_53 hv13 dX12_people_42 ?_
        refine GO.iload_n dX12_people_45 rfl rfl ?_
        refine GO.aload_n dX12_people_46 rfl rfl ?_
        refine GO.getRaw h_x fl_RX12_53 hv13 dX12_people_47 ?_
        refine GO.iload_n dX12_people_50 rfl rfl ?_
        refine GO.iald (t := 21) rfl rfl h12 r_p0 (by omega) (by omega) dX12_people_51 (fun l27 u28 => ?_)
        refine GO.iload_n dX12_people_52 rfl rfl ?_
        refine GO.iadd dX12_people_53 ?_
        refine GO.iast (t := 21) rfl rfl (by decide +kernel) h12 r_p0 (by omega) (by omega) ⟨by omega, by omega⟩ (by omega) (by omega) dX12_people_54 (fun V30 e29 => ?_)
        refine GO.iconst dX12_people_55 ?_
        exact GO.retz rfl rfl dX12_people_56 (by omega) ⟨rfl, _, rfl, (ir_c rfl), ⟨by omega, fun _ => trivial, fun _ => trivial⟩⟩
      ·
        have q31 := h20.2.2 (by omega)
        refine GO.iconst dX12_people_39 ?_
        exact GO.retz rfl rfl dX12_people_40 (by omega) ⟨rfl, _, rfl, (ir_c rfl), ⟨by omega, fun _ => trivial, fun _ => trivial⟩⟩

set_option maxHeartbeats 1000000 in
theorem t_X12_hide {K : Kmap} {V : Vmap} {x : Nat} {p0 : Int} {p1 : Int} (h_x : K x = some (0, 11)) (r_p0 : ir p0) (r_p1 : ir p1) : MC mX12_hide K V [.ref x, ti p0, ti p1] (IS K (fun X V1 => (X = 0 ∨ X = 1) ∧ (X ≠ 0 → True) ∧ (X = 0 → True))) := by
  refine MC.start 0 (by decide +kernel) rfl rfl rfl (ls0 := [some (.ref x), some (ti p0), some (ti p1)]) rfl ?_
  refine GO.aload_n dX12_hide_0 rfl rfl ?_
  refine GO.iload_n dX12_hide_1 rfl rfl ?_
  refine GO.callV (ci := 11) (N := mX12_stands) dX12_hide_2 (RX12, TX12, 151) rfl gV_RX12_433 h_x (t_X12_stands h_x r_p0) rfl [] rfl rfl (Nat.le_of_ble_eq_true rfl) rfl (k_ip fun X1 r2 h3 => ?_)
  refine GO.if_eq (tgt := 29) dX12_hide_5 (by decide) r2 (fun c4 => ?_) (fun c4 => ?_)
  ·
    refine GO.iconst dX12_hide_29 ?_
    exact GO.retz rfl rfl dX12_hide_30 (by omega) ⟨rfl, _, rfl, (ir_c rfl), ⟨by omega, fun _ => trivial, fun _ => trivial⟩⟩
  ·
    have q5 := h3.2.1 (by omega)
    refine GO.iload_n dX12_hide_8 rfl rfl ?_
    refine GO.aload_n dX12_hide_9 rfl rfl ?_
    refine GO.getA (n := 60) h_x fl_RX12_56 rfl rfl rfl rfl dX12_hide_10 (fun hv7 h6 => ?_)
    refine GO.iload_n dX12_hide_13 rfl rfl ?_
    have q8 : -2147483648 ≤ p0 ∧ p0 ≤ 2147483647 := r_p0
    refine GO.iald (t := 22) rfl rfl h6 r_p0 (by omega) (by omega) dX12_hide_14 (fun _ _ => ?_)
    refine GO.icmp_gt (tgt := 29) dX12_hide_15 (by decide) r_p1 vi_ir (fun c9 => ?_) (fun c9 => ?_)
    ·
      refine GO.iconst dX12_hide_29 ?_
      exact GO.retz rfl rfl dX12_hide_30 (by omega) ⟨rfl, _, rfl, (ir_c rfl), ⟨by omega, fun _ => trivial, fun _ => trivial⟩⟩
    ·
      refine GO.iload_n dX12_hide_18 rfl rfl ?_
      refine GO.aload_n dX12_hide_19 rfl rfl ?_
      refine GO.getA (n := 60) h_x fl_RX12_59 rfl rfl rfl rfl dX12_hide_20 (fun hv11 h10 => ?_)
      refine GO.iload_n dX12_hide_23 rfl rfl ?_
      refine GO.iald (t := 23) rfl rfl h10 r_p0 (by omega) (by omega) dX12_hide_24 (fun _ _ => ?_)
      refine GO.ineg dX12_hide_25 ?_
      refine GO.norm (fun z12 r13 _ => ?_)
      refine GO.icmp_ge (tgt := 31) dX12_hide_26 (by decide) r_p1 r13 (fun c14 => ?_) (fun c14 => ?_)
      ·
        refine GO.aload_n dX12_hide_31 rfl rfl ?_
        refine GO.getRaw h_x fl_RX12_56 hv7 dX12_hide_32 ?_
        refine GO.iload_n dX12_hide_35 rfl rfl ?_
        refine GO.aload_n dX12_hide_36 rfl rfl ?_
        refine GO.getRaw h_x fl_RX12_56 hv7 dX12_hide_37 ?_
        refine GO.iload_n dX12_hide_40 rfl rfl ?_
        refine GO.iald (t := 22) rfl rfl h6 r_p0 (by omega) (by omega) dX12_hide_41 (fun _ _ => ?_)
        refine GO.iload_n dX12_hide_42 rfl rfl ?_
        refine GO.isub dX12_hide_43 ?_
        refine GO.norm (fun z19 r20 _ => ?_)
        refine GO.iast (t := 22) rfl rfl (by decide +kernel) h6 r_p0 (by omega) (by omega) r20 (r20).1 (r20).2 dX12_hide_44 (fun V22 e21 => ?_)
        refine GO.aload_n dX12_hide_45 rfl rfl ?_
        refine GO.getRaw h_x fl_RX12_59 (Eq.trans (uq_ne e21 (Or.inl (K_ne h_x h6 (by decide)))) hv11) dX12_hide_46 ?_
        refine GO.iload_n dX12_hide_49 rfl rfl ?_
        refine GO.aload_n dX12_hide_50 rfl rfl ?_
        refine GO.getRaw h_x fl_RX12_59 (Eq.trans (uq_ne e21 (Or.inl (K_ne h_x h6 (by decide)))) hv11) dX12_hide_51 ?_
        refine GO.iload_n dX12_hide_54 rfl rfl ?_
        refine GO.iald (t := 23) rfl rfl h10 r_p0 (by omega) (by omega) dX12_hide_55 (fun _ _ => ?_)
        have e27 : vi V22 (vq V x 21) (p0).toNat = vi V (vq V x 21) (p0).toNat := vi_up e21 (Or.inl (K_ne h10 h6 (by decide)))
        refine GO.iload_n dX12_hide_56 rfl rfl ?_
        refine GO.iadd dX12_hide_57 ?_
        refine GO.norm (fun z28 r29 _ => ?_)
        refine GO.iast (t := 23) rfl rfl (by decide +kernel) h10 r_p0 (by omega) (by omega) r29 (r29).1 (r29).2 dX12_hide_58 (fun V31 e30 => ?_)
        refine GO.iconst dX12_hide_59 ?_
        exact GO.retz rfl rfl dX12_hide_60 (by omega) ⟨rfl, _, rfl, (ir_c rfl), ⟨by omega, fun _ => trivial, fun _ => trivial⟩⟩
      ·
        refine GO.iconst dX12_hide_29 ?_
        exact GO.retz rfl rfl dX12_hide_30 (by omega) ⟨rfl, _, rfl, (ir_c rfl), ⟨by omega, fun _ => trivial, fun _ => trivial⟩⟩
