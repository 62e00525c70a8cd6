def mX12_worstEnd : MRec := (RX12, cX12_worstEnd, 5, (some .int), yX12_worstEnd, 3, 69, 0, 0, 0)
def mX12_swaps : MRec := (RX12, cX12_swaps, 4, (none : Option Jvm.ClassFile.FieldType), yX12_swaps, 0, 0, 0, 0, 157608024785577916849116160400574455220318957081861786671793173616982887085988842445657065019539662563226511961227264)
def mX12_nextOrder : MRec := (RX12, cX12_nextOrder, 5, (some .boolean), yX12_nextOrder, 1, 23, 0, 0, 157608024785577916849116160400574455220318957081861786671793173616982887085988842445657065019539662563226511961227264)
def mX12_plans : MRec := (RX12, cX12_plans, 8, (none : Option Jvm.ClassFile.FieldType), yX12_plans, 4, 93, 0, 0, 472824074356733750547348481201723365661188455424059992406226662820966037073673067306302476186697902857695362142961664)
def mX12_plan : MRec := (RX12, cX12_plan, 4, (some .int), yX12_plan, 5, 120, 0, 0, 472824074356733750547348481201723365661188455424059992406226662820966037073673067306302476186697902857695362142961664)
def mX12_planned : MRec := (RX12, cX12_planned, 5, (some .int), yX12_planned, 6, 143, 0, 0, 472824074356733750547348481201723365661188455424059992406226662820966037073673067306302476186697902857695362142961664)
def mX12_report : MRec := (RX12, cX12_report, 5, (some .boolean), yX12_report, 2, 43, 0, 0, 19543395073411661689290403889671232447349193452995614493330787700668102103073053579335880046817019299346113244380004352)
def mX12_known : MRec := (RX12, cX12_known, 7, (some .int), yX12_known, 2, 43, 0, 0, 0)
set_option maxHeartbeats 1000000 in
theorem t_X12_worstEnd {K : Kmap} {V : Vmap} {x : Nat} {p0 : Int} (h_x : K x = some (0, 11)) (r_p0 : ir p0) : MC mX12_worstEnd K V [.ref x, ti p0] (IP K V (fun X => True)) := by
  refine MC.start 3 (by decide +kernel) rfl rfl rfl (ls0 := [some (.ref x), some (ti p0), none, none, none]) rfl ?_
  refine GO.iconst dX12_worstEnd_0 ?_
  refine GO.istore_n (ls1 := [some (.ref x), some (ti p0), some (ti (-1)), none, none]) dX12_worstEnd_1 rfl rfl rfl ?_
  refine GO.iconst dX12_worstEnd_2 ?_
  refine GO.istore_n (ls1 := [some (.ref x), some (ti p0), some (ti (-1)), some (ti 0), none]) dX12_worstEnd_3 rfl rfl rfl ?_
  refine GO.loop2 (fun i1 i2 W => (-1) ≤ i1 ∧ i1 ≤ 2147483647 ∧ 0 ≤ i2 ∧ i2 ≤ 3 ∧ V = W) (fun i1 i2 => [some (.ref x), some (ti p0), some (ti i1), some (ti i2), none]) (fun i1 i2 W => (2147483647 - i2).toNat) (-1) 0 ⟨by omega, by omega, by omega, by omega, rfl⟩ rfl (fun i1 i2 V135 hp137 ih136 => ?_)
  obtain ⟨l_i1, u_i1, l_i2, u_i2, rfl⟩ := hp137
  have r_i1 : ir i1 := ⟨by omega, by omega⟩
  have r_i2 : ir i2 := ⟨by omega, by omega⟩
  show GO mX12_worstEnd K V (IP K V (fun X => True)) K V 0 0 4 [some (.ref x), some (ti p0), some (ti i1), some (ti i2), none] []
  refine GO.iload_n dX12_worstEnd_4 rfl rfl ?_
  refine GO.iconst dX12_worstEnd_5 ?_
  refine GO.icmp_ge (tgt := 44) dX12_worstEnd_6 (by decide) r_i2 (ir_c rfl) (fun c138 => ?_) (fun c138 => ?_)
  ·
    refine GO.iload_n dX12_worstEnd_44 rfl rfl ?_
    exact GO.reti rfl rfl dX12_worstEnd_45 ⟨rfl, rfl, _, rfl, r_i1, trivial⟩
  ·
    refine GO.aload_n dX12_worstEnd_9 rfl rfl ?_
    refine GO.iload_n dX12_worstEnd_10 rfl rfl ?_
    refine GO.iload_n dX12_worstEnd_11 rfl rfl ?_
    refine GO.callV (ci := 11) (N := mX12_endOf) dX12_worstEnd_12 (RX12, TX12, 151) rfl gV_RX12_739 h_x (t_X12_endOf h_x r_i2 r_p0 (by omega) (by omega)) rfl [] rfl rfl (Nat.le_of_ble_eq_true rfl) rfl (k_ip fun X139 r140 h141 => ?_)
    refine GO.istore (ls1 := [some (.ref x), some (ti p0), some (ti i1), some (ti i2), some (ti X139)]) dX12_worstEnd_15 rfl rfl ?_
    refine GO.iload dX12_worstEnd_17 rfl ?_
    refine GO.iconst dX12_worstEnd_19 ?_
    refine GO.icmp_ne (tgt := 25) dX12_worstEnd_20 (by decide) r140 (ir_c rfl) (fun c142 => ?_) (fun c142 => ?_)
    ·
      refine GO.iload dX12_worstEnd_25 rfl ?_
      refine GO.iload_n dX12_worstEnd_27 rfl rfl ?_
      refine GO.icmp_le (tgt := 36) dX12_worstEnd_28 (by decide) r140 r_i1 (fun c143 => ?_) (fun c143 => ?_)
      ·
        refine GO.iload_n dX12_worstEnd_36 rfl rfl ?_
        refine GO.istore_n (ls1 := [some (.ref x), some (ti p0), some (ti i1), some (ti i2), some (ti X139)]) dX12_worstEnd_37 rfl rfl rfl ?_
        refine GO.iinc (X := i2) (n := 1) (Y := i2 + 1) (ls1 := [some (.ref x), some (ti p0), some (ti i1), some (ti (i2 + 1)), some (ti X139)]) dX12_worstEnd_38 rfl rfl rfl rfl ?_
        refine GO.goto (tgt := 4) dX12_worstEnd_41 (by decide) ?_
        refine GO.drop [true, true, true, true, false] rfl ?_
        have q144 : -2147483648 ≤ X139 ∧ X139 ≤ 2147483647 := r140
        exact ih136 i1 (i2 + 1) V ⟨by omega, by omega, by omega, by omega, rfl⟩ (by show (2147483647 - (i2 + 1)).toNat < (2147483647 - i2).toNat; omega)
      ·
        refine GO.iload dX12_worstEnd_31 rfl ?_
        refine GO.goto (tgt := 37) dX12_worstEnd_33 (by decide) ?_
        refine GO.istore_n (ls1 := [some (.ref x), some (ti p0), some (ti X139), some (ti i2), some (ti X139)]) dX12_worstEnd_37 rfl rfl rfl ?_
        refine GO.iinc (X := i2) (n := 1) (Y := i2 + 1) (ls1 := [some (.ref x), some (ti p0), some (ti X139), some (ti (i2 + 1)), some (ti X139)]) dX12_worstEnd_38 rfl rfl rfl rfl ?_
        refine GO.goto (tgt := 4) dX12_worstEnd_41 (by decide) ?_
        refine GO.drop [true, true, true, true, false] rfl ?_
        have q145 : -2147483648 ≤ X139 ∧ X139 ≤ 2147483647 := r140
        exact ih136 X139 (i2 + 1) V ⟨by omega, by omega, by omega, by omega, rfl⟩ (by show (2147483647 - (i2 + 1)).toNat < (2147483647 - i2).toNat; omega)
    ·
      refine GO.iconst dX12_worstEnd_23 ?_
      exact GO.reti rfl rfl dX12_worstEnd_24 ⟨rfl, rfl, _, rfl, (ir_c rfl), trivial⟩

set_option maxHeartbeats 1000000 in
theorem t_X12_swaps {K : Kmap} {V : Vmap} {x : Nat} {p0 : Int} {p1 : Int} (h_x : K x = some (0, 11)) (r_p0 : ir p0) (r_p1 : ir p1) (q_0 : p0 ≥ 0) (q_1 : p0 ≤ 7) (q_2 : p1 ≥ 0) (q_3 : p1 ≤ 7) : MC mX12_swaps K V [.ref x, ti p0, ti p1] (VS K (fun V1 => (True) ∧ (SWP V V1 x p0 p1))) := by
  refine MC.start 1 (by decide +kernel) rfl rfl rfl (ls0 := [some (.ref x), some (ti p0), some (ti p1), none]) rfl ?_
  refine GO.aload_n dX12_swaps_0 rfl rfl ?_
  refine GO.getA (n := 8) h_x fl_RX12_340 rfl rfl rfl rfl dX12_swaps_1 (fun hv2 h1 => ?_)
  refine GO.iload_n dX12_swaps_4 rfl rfl ?_
  have q3 : -2147483648 ≤ p0 ∧ p0 ≤ 2147483647 := r_p0
  refine GO.iald (t := 115) rfl rfl h1 r_p0 (by omega) (by omega) dX12_swaps_5 (fun l4 u5 => ?_)
  refine GO.name (fun z6 hz7 => ?_)
  have r8 : ir z6 := hz7 ▸ vi_ir
  refine GO.istore_n (ls1 := [some (.ref x), some (ti p0), some (ti p1), some (ti z6)]) dX12_swaps_6 rfl rfl rfl ?_
  refine GO.aload_n dX12_swaps_7 rfl rfl ?_
  refine GO.getRaw h_x fl_RX12_340 hv2 dX12_swaps_8 ?_
  refine GO.iload_n dX12_swaps_11 rfl rfl ?_
  refine GO.aload_n dX12_swaps_12 rfl rfl ?_
  refine GO.getRaw h_x fl_RX12_340 hv2 dX12_swaps_13 ?_
  refine GO.iload_n dX12_swaps_16 rfl rfl ?_
  have q13 : -2147483648 ≤ p1 ∧ p1 ≤ 2147483647 := r_p1
  refine GO.iald (t := 115) rfl rfl h1 r_p1 (by omega) (by omega) dX12_swaps_17 (fun l14 u15 => ?_)
  refine GO.iast (t := 115) rfl rfl (by decide +kernel) h1 r_p0 (by omega) (by omega) vi_ir (by omega) (by omega) dX12_swaps_18 (fun V17 e16 => ?_)
  refine GO.aload_n dX12_swaps_19 rfl rfl ?_
  refine GO.getRaw h_x fl_RX12_340 (Eq.trans (uq_ne e16 (Or.inl (K_ne h_x h1 (by decide)))) hv2) dX12_swaps_20 ?_
  refine GO.iload_n dX12_swaps_23 rfl rfl ?_
  refine GO.iload_n dX12_swaps_24 rfl rfl ?_
  refine GO.iast (t := 115) rfl rfl (by decide +kernel) h1 r_p1 (by omega) (by omega) r8 (by omega) (by omega) dX12_swaps_25 (fun V21 e20 => ?_)
  exact GO.retv rfl rfl dX12_swaps_26 ⟨rfl, rfl, ⟨trivial, swp_of e16 e20 hz7 h_x h1 vi_ir r8⟩⟩

set_option maxHeartbeats 1000000 in
theorem t_X12_nextOrder {K : Kmap} {V : Vmap} {x : Nat} (h_x : K x = some (0, 11)) (w_0 : oinj V x (vi V x 137)) : MC mX12_nextOrder K V [.ref x] (IS K (fun X V1 => (X = 0 ∨ X = 1) ∧ (X ≠ 0 → True) ∧ (X = 0 → True) ∧ (NXO V V1 x X))) := by
  refine MC.start 4 (by decide +kernel) rfl rfl rfl (ls0 := [some (.ref x), none, none, none, none]) rfl ?_
  refine GO.aload_n dX12_nextOrder_0 rfl rfl ?_
  refine GO.getI h_x fl_RX12_736 rfl rfl dX12_nextOrder_1 (fun l1 u2 => ?_)
  refine GO.iconst dX12_nextOrder_4 ?_
  refine GO.isub dX12_nextOrder_5 ?_
  refine GO.name (fun z3 hz4 => ?_)
  refine GO.istore_n (ls1 := [some (.ref x), some (ti z3), none, none, none]) dX12_nextOrder_6 rfl rfl rfl ?_
  refine GO.loop1 (fun i5 W => (-2) ≤ i5 ∧ i5 ≤ 6 ∧ (i5 ≤ (vi W x 137 - 2)) ∧ V = W) (fun i5 => [some (.ref x), some (ti i5), none, none, none]) (fun i5 W => (i5 + 2147483648).toNat) z3 ⟨by omega, by omega, by omega, rfl⟩ rfl (fun i5 V151 hp153 ih152 => ?_)
  obtain ⟨l_i5, u_i5, n_i5, rfl⟩ := hp153
  have r_i5 : ir i5 := ⟨by omega, by omega⟩
  show GO mX12_nextOrder K V (IS K (fun X V1 => (X = 0 ∨ X = 1) ∧ (X ≠ 0 → True) ∧ (X = 0 → True) ∧ (NXO V V1 x X))) K V 0 0 7 [some (.ref x), some (ti i5), none, none, none] []
  refine GO.iload_n dX12_nextOrder_7 rfl rfl ?_
  refine GO.if_lt (tgt := 35) dX12_nextOrder_8 (by decide) r_i5 (fun c154 => ?_) (fun c154 => ?_)
  ·
    refine GO.iload_n dX12_nextOrder_35 rfl rfl ?_
    refine GO.if_ge (tgt := 41) dX12_nextOrder_36 (by decide) r_i5 (fun h => by exfalso; omega) (fun c155 => ?_)
    refine GO.iconst dX12_nextOrder_39 ?_
    exact GO.retz rfl rfl dX12_nextOrder_40 (Or.inl rfl) ⟨rfl, _, rfl, (ir_c rfl), ⟨Or.inl rfl, fun _ => trivial, fun _ => trivial, nxo_0 w_0⟩⟩
  ·
    refine GO.aload_n dX12_nextOrder_11 rfl rfl ?_
    refine GO.getA (n := 8) h_x fl_RX12_340 rfl rfl rfl rfl dX12_nextOrder_12 (fun hv157 h156 => ?_)
    refine GO.iload_n dX12_nextOrder_15 rfl rfl ?_
    refine GO.iald (t := 115) rfl rfl h156 r_i5 (by omega) (by omega) dX12_nextOrder_16 (fun l158 u159 => ?_)
    refine GO.aload_n dX12_nextOrder_17 rfl rfl ?_
    refine GO.getRaw h_x fl_RX12_340 hv157 dX12_nextOrder_18 ?_
    refine GO.iload_n dX12_nextOrder_21 rfl rfl ?_
    refine GO.iconst dX12_nextOrder_22 ?_
    refine GO.iadd dX12_nextOrder_23 ?_
    refine GO.iald (t := 115) rfl rfl h156 ⟨by omega, by omega⟩ (by omega) (by omega) dX12_nextOrder_24 (fun l162 u163 => ?_)
    refine GO.icmp_le (tgt := 35) dX12_nextOrder_25 (by decide) vi_ir vi_ir (fun c164 => ?_) (fun c164 => ?_)
    ·
      refine GO.iload_n dX12_nextOrder_35 rfl rfl ?_
      refine GO.if_ge (tgt := 41) dX12_nextOrder_36 (by decide) r_i5 (fun c165 => ?_) (fun h => by exfalso; omega)
      refine GO.aload_n dX12_nextOrder_41 rfl rfl ?_
      refine GO.getI h_x fl_RX12_736 rfl rfl dX12_nextOrder_42 (fun l166 u167 => ?_)
      refine GO.iconst dX12_nextOrder_45 ?_
      refine GO.isub dX12_nextOrder_46 ?_
      refine GO.name (fun z168 hz169 => ?_)
      refine GO.istore_n (ls1 := [some (.ref x), some (ti i5), some (ti z168), none, none]) dX12_nextOrder_47 rfl rfl rfl ?_
      refine GO.loop1 (fun i170 W => 0 ≤ i170 ∧ i170 ≤ 7 ∧ (i170 ≥ (i5 + 1) ∧ i170 < vi W x 137) ∧ V = W) (fun i170 => [some (.ref x), some (ti i5), some (ti i170), none, none]) (fun i170 W => (i170 + 2147483648).toNat) z168 ⟨by omega, by omega, by omega, rfl⟩ rfl (fun i170 V253 hp255 ih254 => ?_)
      obtain ⟨l_i170, u_i170, n_i170, rfl⟩ := hp255
      have r_i170 : ir i170 := ⟨by omega, by omega⟩
      show GO mX12_nextOrder K V (IS K (fun X V1 => (X = 0 ∨ X = 1) ∧ (X ≠ 0 → True) ∧ (X = 0 → True) ∧ (NXO V V1 x X))) K V 0 0 48 [some (.ref x), some (ti i5), some (ti i170), none, none] []
      refine GO.aload_n dX12_nextOrder_48 rfl rfl ?_
      refine GO.getRaw h_x fl_RX12_340 hv157 dX12_nextOrder_49 ?_
      refine GO.iload_n dX12_nextOrder_52 rfl rfl ?_
      refine GO.iald (t := 115) rfl rfl h156 r_i170 (by omega) (by omega) dX12_nextOrder_53 (fun l258 u259 => ?_)
      refine GO.aload_n dX12_nextOrder_54 rfl rfl ?_
      refine GO.getRaw h_x fl_RX12_340 hv157 dX12_nextOrder_55 ?_
      refine GO.iload_n dX12_nextOrder_58 rfl rfl ?_
      refine GO.iald (t := 115) rfl rfl h156 r_i5 (by omega) (by omega) dX12_nextOrder_59 (fun l262 u263 => ?_)
      refine GO.icmp_ge (tgt := 70) dX12_nextOrder_60 (by decide) vi_ir vi_ir (fun c264 => ?_) (fun c264 => ?_)
      ·
        refine GO.aload_n dX12_nextOrder_70 rfl rfl ?_
        refine GO.iload_n dX12_nextOrder_71 rfl rfl ?_
        refine GO.iload_n dX12_nextOrder_72 rfl rfl ?_
        refine GO.callV (ci := 11) (N := mX12_swaps) dX12_nextOrder_73 (RX12, TX12, 151) rfl gV_RX12_742 h_x (t_X12_swaps h_x r_i5 r_i170 (by omega) (by omega) (by omega) (by omega)) rfl [] rfl rfl (Nat.le_of_ble_eq_true rfl) rfl (k_vs fun V267 h266 hF265 => ?_)
        have raw_swaps := h266.2
        have rw73 := h266.2
        refine GO.iload_n dX12_nextOrder_76 rfl rfl ?_
        refine GO.iconst dX12_nextOrder_77 ?_
        refine GO.iadd dX12_nextOrder_78 ?_
        refine GO.name (fun z268 hz269 => ?_)
        refine GO.istore_n (ls1 := [some (.ref x), some (ti i5), some (ti i170), some (ti z268), none]) dX12_nextOrder_79 rfl rfl rfl ?_
        refine GO.aload_n dX12_nextOrder_80 rfl rfl ?_
        refine GO.getI h_x fl_RX12_736 rfl rfl dX12_nextOrder_81 (fun l270 u271 => ?_)
        have e272 : vi V267 x 137 = vi V x 137 := vi_fr hF265 h_x h_x (by decide +kernel)
        refine GO.iconst dX12_nextOrder_84 ?_
        refine GO.isub dX12_nextOrder_85 ?_
        refine GO.name (fun z273 hz274 => ?_)
        refine GO.istore (ls1 := [some (.ref x), some (ti i5), some (ti i170), some (ti z268), some (ti z273)]) dX12_nextOrder_86 rfl rfl ?_
        refine GO.loop2 (fun i275 i276 W => 1 ≤ i275 ∧ i275 ≤ 7 ∧ 1 ≤ i276 ∧ i276 ≤ 7 ∧ (i275 ≥ (i5 + 1) ∧ i276 < vi V267 x 137) ∧ (NXI V267 W x i5) ∧ True) (fun i275 i276 => [some (.ref x), some (ti i5), some (ti i170), some (ti i275), some (ti i276)]) (fun i275 i276 W => ((i276 - i275)).toNat) z268 z273 ⟨by omega, by omega, by omega, by omega, by omega, nxi_rf (by rw [raw_swaps.1]; exact swp_inj raw_swaps w_0 ⟨by omega, by omega⟩ ⟨by omega, by omega⟩), trivial⟩ rfl (fun i275 i276 Wi275 hp286 ih285 => ?_)
        obtain ⟨l_i275, u_i275, l_i276, u_i276, n_i275, w0_i275, -⟩ := hp286
        have r_i275 : ir i275 := ⟨by omega, by omega⟩
        have r_i276 : ir i276 := ⟨by omega, by omega⟩
        show GO mX12_nextOrder K V (IS K (fun X V1 => (X = 0 ∨ X = 1) ∧ (X ≠ 0 → True) ∧ (X = 0 → True) ∧ (NXO V V1 x X))) K Wi275 0 0 88 [some (.ref x), some (ti i5), some (ti i170), some (ti i275), some (ti i276)] []
        refine GO.iload_n dX12_nextOrder_88 rfl rfl ?_
        refine GO.iload dX12_nextOrder_89 rfl ?_
        refine GO.icmp_ge (tgt := 114) dX12_nextOrder_91 (by decide) r_i275 r_i276 (fun c287 => ?_) (fun c287 => ?_)
        ·
          refine GO.iconst dX12_nextOrder_114 ?_
          exact GO.retz rfl rfl dX12_nextOrder_115 (Or.inr rfl) ⟨rfl, _, rfl, (ir_c rfl), ⟨Or.inr rfl, fun _ => trivial, fun _ => trivial, nxo_1 w_0 raw_swaps (by assumption) (by omega) (by omega) (by omega) (by assumption)⟩⟩
        ·
          refine GO.aload_n dX12_nextOrder_94 rfl rfl ?_
          refine GO.iload_n dX12_nextOrder_95 rfl rfl ?_
          refine GO.iload dX12_nextOrder_96 rfl ?_
          refine GO.callV (ci := 11) (N := mX12_swaps) dX12_nextOrder_98 (RX12, TX12, 151) rfl gV_RX12_742 h_x (t_X12_swaps h_x r_i275 r_i276 (by omega) (by omega) (by omega) (by omega)) rfl [] rfl rfl (Nat.le_of_ble_eq_true rfl) rfl (k_vs fun V290 h289 hF288 => ?_)
          have raw_swaps := h289.2
          have rw98 := h289.2
          refine GO.iload_n dX12_nextOrder_101 rfl rfl ?_
          refine GO.iconst dX12_nextOrder_102 ?_
          refine GO.iadd dX12_nextOrder_103 ?_
          refine GO.name (fun z291 hz292 => ?_)
          refine GO.istore_n (ls1 := [some (.ref x), some (ti i5), some (ti i170), some (ti z291), some (ti i276)]) dX12_nextOrder_104 rfl rfl rfl ?_
          refine GO.iload dX12_nextOrder_105 rfl ?_
          refine GO.iconst dX12_nextOrder_107 ?_
          refine GO.isub dX12_nextOrder_108 ?_
          refine GO.name (fun z293 hz294 => ?_)
          refine GO.istore (ls1 := [some (.ref x), some (ti i5), some (ti i170), some (ti z291), some (ti z293)]) dX12_nextOrder_109 rfl rfl ?_
          refine GO.goto (tgt := 88) dX12_nextOrder_111 (by decide) ?_
          exact ih285 z291 z293 V290 ⟨by omega, by omega, by omega, by omega, by omega, nxi_step (by assumption) raw_swaps (by omega) (by omega) (by omega) (by omega), trivial⟩ (by show ((z293 - z291)).toNat < ((i276 - i275)).toNat; omega)
      ·
        have hne : i170 ≠ i5 + 1 := by intro h; subst h; omega
        refine GO.iload_n dX12_nextOrder_63 rfl rfl ?_
        refine GO.iconst dX12_nextOrder_64 ?_
        refine GO.isub dX12_nextOrder_65 ?_
        refine GO.name (fun z295 hz296 => ?_)
        refine GO.istore_n (ls1 := [some (.ref x), some (ti i5), some (ti z295), none, none]) dX12_nextOrder_66 rfl rfl rfl ?_
        refine GO.goto (tgt := 48) dX12_nextOrder_67 (by decide) ?_
        exact ih254 z295 V ⟨by omega, by omega, by omega, rfl⟩ (by show (z295 + 2147483648).toNat < (i170 + 2147483648).toNat; omega)
    ·
      refine GO.iload_n dX12_nextOrder_28 rfl rfl ?_
      refine GO.iconst dX12_nextOrder_29 ?_
      refine GO.isub dX12_nextOrder_30 ?_
      refine GO.name (fun z297 hz298 => ?_)
      refine GO.istore_n (ls1 := [some (.ref x), some (ti z297), none, none, none]) dX12_nextOrder_31 rfl rfl rfl ?_
      refine GO.goto (tgt := 7) dX12_nextOrder_32 (by decide) ?_
      exact ih152 z297 V ⟨by omega, by omega, by omega, rfl⟩ (by show (z297 + 2147483648).toNat < (i5 + 2147483648).toNat; omega)

set_option maxHeartbeats 1000000 in
theorem t_X12_plans {K : Kmap} {V : Vmap} {x : Nat} {p0 : Int} {p1 : Int} {p2 : Int} (h_x : K x = some (0, 11)) (r_p0 : ir p0) (r_p1 : ir p1) (r_p2 : ir p2) (q_0 : p0 ≥ 0) (q_1 : p0 ≤ 9) (q_2 : p1 ≥ 0) (q_3 : p1 ≤ 3) : MC mX12_plans K V [.ref x, ti p0, ti p1, ti p2] (VS K (fun V1 => (True))) := by
  refine MC.start 4 (by decide +kernel) rfl rfl rfl (ls0 := [some (.ref x), some (ti p0), some (ti p1), some (ti p2), none, none, none, none]) rfl ?_
  refine GO.aload_n dX12_plans_0 rfl rfl ?_
  refine GO.iconst dX12_plans_1 ?_
  refine GO.putI h_x fp_RX12_745 rfl (by decide +kernel) (ir_c rfl) (by decide) (by decide) dX12_plans_2 (fun V2 e1 => ?_)
  refine GO.iconst dX12_plans_5 ?_
  refine GO.istore (ls1 := [some (.ref x), some (ti p0), some (ti p1), some (ti p2), some (ti 0), none, none, none]) dX12_plans_6 rfl rfl ?_
  refine GO.iconst dX12_plans_8 ?_
  refine GO.istore (ls1 := [some (.ref x), some (ti p0), some (ti p1), some (ti p2), some (ti 0), some (ti 0), none, none]) dX12_plans_9 rfl rfl ?_
  refine GO.loop2 (fun i3 i4 W => (-2147483648) ≤ i3 ∧ i3 ≤ 2147483647 ∧ 0 ≤ i4 ∧ i4 ≤ 8 ∧ (OIN W x i4) ∧ True) (fun i3 i4 => [some (.ref x), some (ti p0), some (ti p1), some (ti p2), some (ti i3), some (ti i4), none, none]) (fun i3 i4 W => (2147483647 - i4).toNat) 0 0 ⟨by omega, by omega, by omega, by omega, oin_0 (by omega), trivial⟩ rfl (fun i3 i4 Wi3 hp18434 ih18433 => ?_)
  obtain ⟨l_i3, u_i3, l_i4, u_i4, w0_i3, -⟩ := hp18434
  have r_i3 : ir i3 := ⟨by omega, by omega⟩
  have r_i4 : ir i4 := ⟨by omega, by omega⟩
  show GO mX12_plans K V (VS K (fun V1 => (True))) K Wi3 0 0 11 [some (.ref x), some (ti p0), some (ti p1), some (ti p2), some (ti i3), some (ti i4), none, none] []
  refine GO.iload dX12_plans_11 rfl ?_
  refine GO.aload_n dX12_plans_13 rfl rfl ?_
  refine GO.getI h_x fl_RX12_736 rfl rfl dX12_plans_14 (fun l18435 u18436 => ?_)
  refine GO.icmp_ge (tgt := 47) dX12_plans_17 (by decide) r_i4 vi_ir (fun c18437 => ?_) (fun c18437 => ?_)
  ·
    refine GO.aload_n dX12_plans_47 rfl rfl ?_
    refine GO.getI h_x fl_RX12_736 rfl rfl dX12_plans_48 (fun l18438 u18439 => ?_)
    refine GO.if_le (tgt := 69) dX12_plans_51 (by decide) vi_ir (fun c18440 => ?_) (fun c18440 => ?_)
    ·
      refine GO.iconst dX12_plans_69 ?_
      refine GO.istore (ls1 := [some (.ref x), some (ti p0), some (ti p1), some (ti p2), some (ti i3), some (ti 0), none, none]) dX12_plans_70 rfl rfl ?_
      refine GO.loop1 (fun i18441 W => 0 ≤ i18441 ∧ i18441 ≤ 0 ∧ (oinj W x (vi W x 137)) ∧ True) (fun i18441 => [some (.ref x), some (ti p0), some (ti p1), some (ti p2), some (ti i3), some (ti i18441), none, none]) (fun i18441 W => (((2 * (16777216 - ornk W x)) + i18441)).toNat) 0 ⟨by omega, by omega, oin_inj (by assumption) (by omega), trivial⟩ rfl (fun i18441 Wi18441 hp18444 ih18443 => ?_)
      obtain ⟨l_i18441, u_i18441, w0_i18441, -⟩ := hp18444
      have r_i18441 : ir i18441 := ⟨by omega, by omega⟩
      show GO mX12_plans K V (VS K (fun V1 => (True))) K Wi18441 0 0 72 [some (.ref x), some (ti p0), some (ti p1), some (ti p2), some (ti i3), some (ti i18441), none, none] []
      refine GO.useWT (fun hW => ?_)
      have hub := ornk_ub hW h_x
      refine GO.iload dX12_plans_72 rfl ?_
      refine GO.if_eq (tgt := 161) dX12_plans_74 (by decide) r_i18441 (fun c18445 => ?_) (fun h => by exfalso; omega)
      exact GO.retv rfl rfl dX12_plans_161 ⟨rfl, rfl, trivial⟩
    ·
      refine GO.iload dX12_plans_54 rfl ?_
      refine GO.aload_n dX12_plans_56 rfl rfl ?_
      refine GO.getA (n := 10) h_x fl_RX12_211 rfl rfl rfl rfl dX12_plans_57 (fun hv18447 h18446 => ?_)
      refine GO.iload_n dX12_plans_60 rfl rfl ?_
      have q18448 : -2147483648 ≤ p0 ∧ p0 ≤ 2147483647 := r_p0
      refine GO.iald (t := 73) rfl rfl h18446 r_p0 (by omega) (by omega) dX12_plans_61 (fun _ _ => ?_)
      refine GO.icmp_gt (tgt := 69) dX12_plans_62 (by decide) r_i3 vi_ir (fun c18449 => ?_) (fun c18449 => ?_)
      ·
        refine GO.iconst dX12_plans_69 ?_
        refine GO.istore (ls1 := [some (.ref x), some (ti p0), some (ti p1), some (ti p2), some (ti i3), some (ti 0), none, none]) dX12_plans_70 rfl rfl ?_
        refine GO.loop1 (fun i18450 W => 0 ≤ i18450 ∧ i18450 ≤ 0 ∧ (oinj W x (vi W x 137)) ∧ True) (fun i18450 => [some (.ref x), some (ti p0), some (ti p1), some (ti p2), some (ti i3), some (ti i18450), none, none]) (fun i18450 W => (((2 * (16777216 - ornk W x)) + i18450)).toNat) 0 ⟨by omega, by omega, oin_inj (by assumption) (by omega), trivial⟩ rfl (fun i18450 Wi18450 hp18453 ih18452 => ?_)
        obtain ⟨l_i18450, u_i18450, w0_i18450, -⟩ := hp18453
        have r_i18450 : ir i18450 := ⟨by omega, by omega⟩
        show GO mX12_plans K V (VS K (fun V1 => (True))) K Wi18450 0 0 72 [some (.ref x), some (ti p0), some (ti p1), some (ti p2), some (ti i3), some (ti i18450), none, none] []
        refine GO.useWT (fun hW => ?_)
        have hub := ornk_ub hW h_x
        refine GO.iload dX12_plans_72 rfl ?_
        refine GO.if_eq (tgt := 161) dX12_plans_74 (by decide) r_i18450 (fun c18454 => ?_) (fun h => by exfalso; omega)
        exact GO.retv rfl rfl dX12_plans_161 ⟨rfl, rfl, trivial⟩
      ·
        refine GO.iconst dX12_plans_65 ?_
        refine GO.goto (tgt := 70) dX12_plans_66 (by decide) ?_
        refine GO.istore (ls1 := [some (.ref x), some (ti p0), some (ti p1), some (ti p2), some (ti i3), some (ti 1), none, none]) dX12_plans_70 rfl rfl ?_
        refine GO.loop1 (fun i18455 W => 0 ≤ i18455 ∧ i18455 ≤ 1 ∧ (oinj W x (vi W x 137)) ∧ True) (fun i18455 => [some (.ref x), some (ti p0), some (ti p1), some (ti p2), some (ti i3), some (ti i18455), none, none]) (fun i18455 W => (((2 * (16777216 - ornk W x)) + i18455)).toNat) 1 ⟨by omega, by omega, oin_inj (by assumption) (by omega), trivial⟩ rfl (fun i18455 Wi18455 hp18907 ih18906 => ?_)
        obtain ⟨l_i18455, u_i18455, w0_i18455, -⟩ := hp18907
        have r_i18455 : ir i18455 := ⟨by omega, by omega⟩
        show GO mX12_plans K V (VS K (fun V1 => (True))) K Wi18455 0 0 72 [some (.ref x), some (ti p0), some (ti p1), some (ti p2), some (ti i3), some (ti i18455), none, none] []
        refine GO.useWT (fun hW => ?_)
        have hub := ornk_ub hW h_x
        refine GO.iload dX12_plans_72 rfl ?_
        refine GO.if_eq (tgt := 161) dX12_plans_74 (by decide) r_i18455 (fun c18908 => ?_) (fun c18908 => ?_)
        ·
          exact GO.retv rfl rfl dX12_plans_161 ⟨rfl, rfl, trivial⟩
        ·
          refine GO.aload_n dX12_plans_77 rfl rfl ?_
          refine GO.iload_n dX12_plans_78 rfl rfl ?_
          refine GO.aload_n dX12_plans_79 rfl rfl ?_
          refine GO.getA (n := 4) h_x fl_RX12_244 rfl rfl rfl rfl dX12_plans_80 (fun hv18910 h18909 => ?_)
          refine GO.iload_n dX12_plans_83 rfl rfl ?_
          have q18911 : -2147483648 ≤ p1 ∧ p1 ≤ 2147483647 := r_p1
          refine GO.iald (t := 84) rfl rfl h18909 r_p1 (by omega) (by omega) dX12_plans_84 (fun _ _ => ?_)
          refine GO.iadd dX12_plans_85 ?_
          refine GO.norm (fun z18912 r18913 hn18914 => ?_)
          refine GO.callV (ci := 11) (N := mX12_worstEnd) dX12_plans_86 (RX12, TX12, 151) rfl gV_RX12_748 h_x (t_X12_worstEnd h_x r18913) rfl [] rfl rfl (Nat.le_of_ble_eq_true rfl) rfl (k_ip fun X18915 r18916 h18917 => ?_)
          refine GO.istore (ls1 := [some (.ref x), some (ti p0), some (ti p1), some (ti p2), some (ti i3), some (ti i18455), some (ti X18915), none]) dX12_plans_89 rfl rfl ?_
          refine GO.iload dX12_plans_91 rfl ?_
          refine GO.iconst dX12_plans_93 ?_
          refine GO.icmp_eq (tgt := 152) dX12_plans_94 (by decide) r18916 (ir_c rfl) (fun c18918 => ?_) (fun c18918 => ?_)
          ·
            have hosm : OSM Wi18455 Wi18455 x := by first | exact OSM.rf | assumption
            refine GO.aload_n dX12_plans_152 rfl rfl ?_
            refine GO.callV (ci := 11) (N := mX12_nextOrder) dX12_plans_153 (RX12, TX12, 151) rfl gV_RX12_751 h_x (t_X12_nextOrder h_x (osm_inj hosm (by assumption))) rfl [] rfl rfl (Nat.le_of_ble_eq_true rfl) rfl (k_is fun X18919 V18923 r18920 h18921 hF18922 => ?_)
            have raw_nextOrder := h18921.2.2.2
            have rw153 := h18921.2.2.2
            refine GO.istore (ls1 := [some (.ref x), some (ti p0), some (ti p1), some (ti p2), some (ti i3), some (ti X18919), some (ti X18915), none]) dX12_plans_156 rfl rfl ?_
            refine GO.useWT (fun hW1 => ?_)
            have hr := pl_rank hW hW1 h_x hosm raw_nextOrder
            refine GO.goto (tgt := 72) dX12_plans_158 (by decide) ?_
            refine GO.drop [true, true, true, true, true, true, false, true] rfl ?_
            exact ih18906 X18919 V18923 ⟨by omega, by omega, nxo_inj raw_nextOrder, trivial⟩ (by show (((2 * (16777216 - ornk V18923 x)) + X18919)).toNat < (((2 * (16777216 - ornk Wi18455 x)) + i18455)).toNat; omega)
          ·
            refine GO.aload_n dX12_plans_97 rfl rfl ?_
            refine GO.getI h_x fl_RX12_745 rfl rfl dX12_plans_98 (fun _ _ => ?_)
            refine GO.iconst dX12_plans_101 ?_
            refine GO.icmp_eq (tgt := 114) dX12_plans_102 (by decide) vi_ir (ir_c rfl) (fun c18924 => ?_) (fun c18924 => ?_)
            ·
              refine GO.aload_n dX12_plans_114 rfl rfl ?_
              refine GO.iload dX12_plans_115 rfl ?_
              refine GO.putI h_x fp_RX12_745 rfl (by decide +kernel) r18916 (r18916).1 (r18916).2 dX12_plans_117 (fun V18926 e18925 => ?_)
              refine GO.iconst dX12_plans_120 ?_
              refine GO.istore (ls1 := [some (.ref x), some (ti p0), some (ti p1), some (ti p2), some (ti i3), some (ti i18455), some (ti X18915), some (ti 0)]) dX12_plans_121 rfl rfl ?_
              refine GO.loop1 (fun i18927 W => 0 ≤ i18927 ∧ i18927 ≤ 8 ∧ (OSM Wi18455 W x) ∧ True) (fun i18927 => [some (.ref x), some (ti p0), some (ti p1), some (ti p2), some (ti i3), some (ti i18455), some (ti X18915), some (ti i18927)]) (fun i18927 W => (2147483647 - i18927).toNat) 0 ⟨by omega, by omega, osm_put hW h_x (by assumption) (by decide) (by decide), trivial⟩ rfl (fun i18927 Wi18927 hp19009 ih19008 => ?_)
              obtain ⟨l_i18927, u_i18927, w0_i18927, -⟩ := hp19009
              have r_i18927 : ir i18927 := ⟨by omega, by omega⟩
              show GO mX12_plans K V (VS K (fun V1 => (True))) K Wi18927 0 0 123 [some (.ref x), some (ti p0), some (ti p1), some (ti p2), some (ti i3), some (ti i18455), some (ti X18915), some (ti i18927)] []
              refine GO.iload dX12_plans_123 rfl ?_
              refine GO.aload_n dX12_plans_125 rfl rfl ?_
              refine GO.getI h_x fl_RX12_736 rfl rfl dX12_plans_126 (fun l19010 u19011 => ?_)
              refine GO.icmp_ge (tgt := 152) dX12_plans_129 (by decide) r_i18927 vi_ir (fun c19012 => ?_) (fun c19012 => ?_)
              ·
                have hosm : OSM Wi18455 Wi18927 x := by first | exact OSM.rf | assumption
                refine GO.aload_n dX12_plans_152 rfl rfl ?_
                refine GO.callV (ci := 11) (N := mX12_nextOrder) dX12_plans_153 (RX12, TX12, 151) rfl gV_RX12_751 h_x (t_X12_nextOrder h_x (osm_inj hosm (by assumption))) rfl [] rfl rfl (Nat.le_of_ble_eq_true rfl) rfl (k_is fun X19013 V19017 r19014 h19015 hF19016 => ?_)
                have raw_nextOrder := h19015.2.2.2
                have rw153 := h19015.2.2.2
                refine GO.istore (ls1 := [some (.ref x), some (ti p0), some (ti p1), some (ti p2), some (ti i3), some (ti X19013), some (ti X18915), some (ti i18927)]) dX12_plans_156 rfl rfl ?_
                refine GO.useWT (fun hW1 => ?_)
                have hr := pl_rank hW hW1 h_x hosm raw_nextOrder
                refine GO.goto (tgt := 72) dX12_plans_158 (by decide) ?_
                refine GO.drop [true, true, true, true, true, true, false, false] rfl ?_
                exact ih18906 X19013 V19017 ⟨by omega, by omega, nxo_inj raw_nextOrder, trivial⟩ (by show (((2 * (16777216 - ornk V19017 x)) + X19013)).toNat < (((2 * (16777216 - ornk Wi18455 x)) + i18455)).toNat; omega)
              ·
                refine GO.aload_n dX12_plans_132 rfl rfl ?_
                refine GO.getA (n := 8) h_x fl_RX12_343 rfl rfl rfl rfl dX12_plans_133 (fun hv19019 h19018 => ?_)
                refine GO.iload dX12_plans_136 rfl ?_
                refine GO.aload_n dX12_plans_138 rfl rfl ?_
                refine GO.getA (n := 8) h_x fl_RX12_340 rfl rfl rfl rfl dX12_plans_139 (fun hv19021 h19020 => ?_)
                refine GO.iload dX12_plans_142 rfl ?_
                refine GO.iald (t := 115) rfl rfl h19020 r_i18927 (by omega) (by omega) dX12_plans_144 (fun l19022 u19023 => ?_)
                refine GO.iast (t := 116) rfl rfl (by decide +kernel) h19018 r_i18927 (by omega) (by omega) vi_ir (vi_ir).1 (vi_ir).2 dX12_plans_145 (fun V19025 e19024 => ?_)
                refine GO.iinc (X := i18927) (n := 1) (Y := i18927 + 1) (ls1 := [some (.ref x), some (ti p0), some (ti p1), some (ti p2), some (ti i3), some (ti i18455), some (ti X18915), some (ti (i18927 + 1))]) dX12_plans_146 rfl rfl rfl rfl ?_
                refine GO.goto (tgt := 123) dX12_plans_149 (by decide) ?_
                exact ih19008 (i18927 + 1) V19025 ⟨by omega, by omega, OSM.arr (by assumption) (by assumption) h_x (by assumption) (by assumption) (by decide), trivial⟩ (by show (2147483647 - (i18927 + 1)).toNat < (2147483647 - i18927).toNat; omega)
            ·
              refine GO.iload dX12_plans_105 rfl ?_
              refine GO.aload_n dX12_plans_107 rfl rfl ?_
              refine GO.getI h_x fl_RX12_745 rfl rfl dX12_plans_108 (fun _ _ => ?_)
              refine GO.icmp_ge (tgt := 152) dX12_plans_111 (by decide) r18916 vi_ir (fun c19026 => ?_) (fun c19026 => ?_)
              ·
                have hosm : OSM Wi18455 Wi18455 x := by first | exact OSM.rf | assumption
                refine GO.aload_n dX12_plans_152 rfl rfl ?_
                refine GO.callV (ci := 11) (N := mX12_nextOrder) dX12_plans_153 (RX12, TX12, 151) rfl gV_RX12_751 h_x (t_X12_nextOrder h_x (osm_inj hosm (by assumption))) rfl [] rfl rfl (Nat.le_of_ble_eq_true rfl) rfl (k_is fun X19027 V19031 r19028 h19029 hF19030 => ?_)
                have raw_nextOrder := h19029.2.2.2
                have rw153 := h19029.2.2.2
                refine GO.istore (ls1 := [some (.ref x), some (ti p0), some (ti p1), some (ti p2), some (ti i3), some (ti X19027), some (ti X18915), none]) dX12_plans_156 rfl rfl ?_
                refine GO.useWT (fun hW1 => ?_)
                have hr := pl_rank hW hW1 h_x hosm raw_nextOrder
                refine GO.goto (tgt := 72) dX12_plans_158 (by decide) ?_
                refine GO.drop [true, true, true, true, true, true, false, true] rfl ?_
                exact ih18906 X19027 V19031 ⟨by omega, by omega, nxo_inj raw_nextOrder, trivial⟩ (by show (((2 * (16777216 - ornk V19031 x)) + X19027)).toNat < (((2 * (16777216 - ornk Wi18455 x)) + i18455)).toNat; omega)
              ·
                refine GO.aload_n dX12_plans_114 rfl rfl ?_
                refine GO.iload dX12_plans_115 rfl ?_
                refine GO.putI h_x fp_RX12_745 rfl (by decide +kernel) r18916 (r18916).1 (r18916).2 dX12_plans_117 (fun V19033 e19032 => ?_)
                refine GO.iconst dX12_plans_120 ?_
                refine GO.istore (ls1 := [some (.ref x), some (ti p0), some (ti p1), some (ti p2), some (ti i3), some (ti i18455), some (ti X18915), some (ti 0)]) dX12_plans_121 rfl rfl ?_
                refine GO.loop1 (fun i19034 W => 0 ≤ i19034 ∧ i19034 ≤ 8 ∧ (OSM Wi18455 W x) ∧ True) (fun i19034 => [some (.ref x), some (ti p0), some (ti p1), some (ti p2), some (ti i3), some (ti i18455), some (ti X18915), some (ti i19034)]) (fun i19034 W => (2147483647 - i19034).toNat) 0 ⟨by omega, by omega, osm_put hW h_x (by assumption) (by decide) (by decide), trivial⟩ rfl (fun i19034 Wi19034 hp19116 ih19115 => ?_)
                obtain ⟨l_i19034, u_i19034, w0_i19034, -⟩ := hp19116
                have r_i19034 : ir i19034 := ⟨by omega, by omega⟩
                show GO mX12_plans K V (VS K (fun V1 => (True))) K Wi19034 0 0 123 [some (.ref x), some (ti p0), some (ti p1), some (ti p2), some (ti i3), some (ti i18455), some (ti X18915), some (ti i19034)] []
                refine GO.iload dX12_plans_123 rfl ?_
                refine GO.aload_n dX12_plans_125 rfl rfl ?_
                refine GO.getI h_x fl_RX12_736 rfl rfl dX12_plans_126 (fun l19117 u19118 => ?_)
                refine GO.icmp_ge (tgt := 152) dX12_plans_129 (by decide) r_i19034 vi_ir (fun c19119 => ?_) (fun c19119 => ?_)
                ·
                  have hosm : OSM Wi18455 Wi19034 x := by first | exact OSM.rf | assumption
                  refine GO.aload_n dX12_plans_152 rfl rfl ?_
                  refine GO.callV (ci := 11) (N := mX12_nextOrder) dX12_plans_153 (RX12, TX12, 151) rfl gV_RX12_751 h_x (t_X12_nextOrder h_x (osm_inj hosm (by assumption))) rfl [] rfl rfl (Nat.le_of_ble_eq_true rfl) rfl (k_is fun X19120 V19124 r19121 h19122 hF19123 => ?_)
                  have raw_nextOrder := h19122.2.2.2
                  have rw153 := h19122.2.2.2
                  refine GO.istore (ls1 := [some (.ref x), some (ti p0), some (ti p1), some (ti p2), some (ti i3), some (ti X19120), some (ti X18915), some (ti i19034)]) dX12_plans_156 rfl rfl ?_
                  refine GO.useWT (fun hW1 => ?_)
                  have hr := pl_rank hW hW1 h_x hosm raw_nextOrder
                  refine GO.goto (tgt := 72) dX12_plans_158 (by decide) ?_
                  refine GO.drop [true, true, true, true, true, true, false, false] rfl ?_
                  exact ih18906 X19120 V19124 ⟨by omega, by omega, nxo_inj raw_nextOrder, trivial⟩ (by show (((2 * (16777216 - ornk V19124 x)) + X19120)).toNat < (((2 * (16777216 - ornk Wi18455 x)) + i18455)).toNat; omega)
                ·
                  refine GO.aload_n dX12_plans_132 rfl rfl ?_
                  refine GO.getA (n := 8) h_x fl_RX12_343 rfl rfl rfl rfl dX12_plans_133 (fun hv19126 h19125 => ?_)
                  refine GO.iload dX12_plans_136 rfl ?_
                  refine GO.aload_n dX12_plans_138 rfl rfl ?_
                  refine GO.getA (n := 8) h_x fl_RX12_340 rfl rfl rfl rfl dX12_plans_139 (fun hv19128 h19127 => ?_)
                  refine GO.iload dX12_plans_142 rfl ?_
                  refine GO.iald (t := 115) rfl rfl h19127 r_i19034 (by omega) (by omega) dX12_plans_144 (fun l19129 u19130 => ?_)
                  refine GO.iast (t := 116) rfl rfl (by decide +kernel) h19125 r_i19034 (by omega) (by omega) vi_ir (vi_ir).1 (vi_ir).2 dX12_plans_145 (fun V19132 e19131 => ?_)
                  refine GO.iinc (X := i19034) (n := 1) (Y := i19034 + 1) (ls1 := [some (.ref x), some (ti p0), some (ti p1), some (ti p2), some (ti i3), some (ti i18455), some (ti X18915), some (ti (i19034 + 1))]) dX12_plans_146 rfl rfl rfl rfl ?_
                  refine GO.goto (tgt := 123) dX12_plans_149 (by decide) ?_
                  exact ih19115 (i19034 + 1) V19132 ⟨by omega, by omega, OSM.arr (by assumption) (by assumption) h_x (by assumption) (by assumption) (by decide), trivial⟩ (by show (2147483647 - (i19034 + 1)).toNat < (2147483647 - i19034).toNat; omega)
  ·
    refine GO.aload_n dX12_plans_20 rfl rfl ?_
    refine GO.getA (n := 8) h_x fl_RX12_340 rfl rfl rfl rfl dX12_plans_21 (fun hv19134 h19133 => ?_)
    refine GO.iload dX12_plans_24 rfl ?_
    refine GO.iload dX12_plans_26 rfl ?_
    refine GO.iast (t := 115) rfl rfl (by decide +kernel) h19133 r_i4 (by omega) (by omega) r_i4 (by omega) (by omega) dX12_plans_28 (fun V19136 e19135 => ?_)
    refine GO.iload dX12_plans_29 rfl ?_
    refine GO.aload_n dX12_plans_31 rfl rfl ?_
    refine GO.getA (n := 8) h_x fl_RX12_331 rfl rfl rfl rfl dX12_plans_32 (fun hv19138 h19137 => ?_)
    refine GO.iload dX12_plans_35 rfl ?_
    refine GO.iald (t := 112) rfl rfl h19137 r_i4 (by omega) (by omega) dX12_plans_37 (fun _ _ => ?_)
    refine GO.iadd dX12_plans_38 ?_
    refine GO.norm (fun z19140 r19141 hn19142 => ?_)
    refine GO.istore (ls1 := [some (.ref x), some (ti p0), some (ti p1), some (ti p2), some (ti z19140), some (ti i4), none, none]) dX12_plans_39 rfl rfl ?_
    refine GO.iinc (X := i4) (n := 1) (Y := i4 + 1) (ls1 := [some (.ref x), some (ti p0), some (ti p1), some (ti p2), some (ti z19140), some (ti (i4 + 1)), none, none]) dX12_plans_41 rfl rfl rfl rfl ?_
    refine GO.goto (tgt := 11) dX12_plans_44 (by decide) ?_
    have q19143 : -2147483648 ≤ z19140 ∧ z19140 ≤ 2147483647 := r19141
    exact ih18433 z19140 (i4 + 1) V19136 ⟨by omega, by omega, by omega, by omega, oin_step (by assumption) (by assumption) h_x (by assumption) (by assumption) (by omega), trivial⟩ (by show (2147483647 - (i4 + 1)).toNat < (2147483647 - i4).toNat; omega)

set_option maxHeartbeats 1000000 in
theorem t_X12_plan {K : Kmap} {V : Vmap} {x : Nat} {p0 : Int} {p1 : Int} {p2 : Int} (h_x : K x = some (0, 11)) (r_p0 : ir p0) (r_p1 : ir p1) (r_p2 : ir p2) : MC mX12_plan K V [.ref x, ti p0, ti p1, ti p2] (IS K (fun X V1 => True)) := by
  refine MC.start 0 (by decide +kernel) rfl rfl rfl (ls0 := [some (.ref x), some (ti p0), some (ti p1), some (ti p2)]) rfl ?_
  refine GO.aload_n dX12_plan_0 rfl rfl ?_
  refine GO.iload_n dX12_plan_1 rfl rfl ?_
  refine GO.callV (ci := 11) (N := mX12_isShip) dX12_plan_2 (RX12, TX12, 151) rfl gV_RX12_618 h_x (t_X12_isShip h_x r_p0) rfl [] rfl rfl (Nat.le_of_ble_eq_true rfl) rfl (k_ip fun X1 r2 h3 => ?_)
  refine GO.if_eq (tgt := 26) dX12_plan_5 (by decide) r2 (fun c4 => ?_) (fun c4 => ?_)
  ·
    have q5 := h3.2.2 (by omega)
    refine GO.iconst dX12_plan_26 ?_
    exact GO.reti rfl rfl dX12_plan_27 ⟨rfl, _, rfl, (ir_c rfl), trivial⟩
  ·
    have q6 := h3.2.1 (by omega)
    refine GO.iload_n dX12_plan_8 rfl rfl ?_
    refine GO.callS (N := mX12_isSea) dX12_plan_9 gS_RX12_615 (t_X12_isSea r_p1) rfl [] rfl rfl (Nat.le_of_ble_eq_true rfl) rfl (k_ip fun X7 r8 h9 => ?_)
    refine GO.if_eq (tgt := 26) dX12_plan_12 (by decide) r8 (fun c10 => ?_) (fun c10 => ?_)
    ·
      have q11 := h9.2.2 (by omega)
      refine GO.iconst dX12_plan_26 ?_
      exact GO.reti rfl rfl dX12_plan_27 ⟨rfl, _, rfl, (ir_c rfl), trivial⟩
    ·
      have q12 := h9.2.1 (by omega)
      refine GO.iload_n dX12_plan_15 rfl rfl ?_
      refine GO.iconst dX12_plan_16 ?_
      refine GO.sipush dX12_plan_17 rfl ?_
      refine GO.callS (N := mX12_in) dX12_plan_20 gS_RX12_371 (t_X12_in r_p2 (ir_c rfl) (ir_c rfl)) rfl [] rfl rfl (Nat.le_of_ble_eq_true rfl) rfl (k_ip fun X13 r14 h15 => ?_)
      have raw_in := h15.2.2.2
      have rw20 := h15.2.2.2
      refine GO.if_ne (tgt := 28) dX12_plan_23 (by decide) r14 (fun c16 => ?_) (fun c16 => ?_)
      ·
        have q17 := h15.2.1 (by omega)
        refine GO.aload_n dX12_plan_28 rfl rfl ?_
        refine GO.iload_n dX12_plan_29 rfl rfl ?_
        refine GO.iload_n dX12_plan_30 rfl rfl ?_
        refine GO.iload_n dX12_plan_31 rfl rfl ?_
        have q18 : -2147483648 ≤ p0 ∧ p0 ≤ 2147483647 := r_p0
        have q19 : -2147483648 ≤ vi V x 91 ∧ vi V x 91 ≤ 2147483647 := vi_ir
        have q20 : -2147483648 ≤ p1 ∧ p1 ≤ 2147483647 := r_p1
        refine GO.callV (ci := 11) (N := mX12_plans) dX12_plan_32 (RX12, TX12, 151) rfl gV_RX12_754 h_x (t_X12_plans h_x r_p0 r_p1 r_p2 (by omega) (by omega) (by omega) (by omega)) rfl [] rfl rfl (Nat.le_of_ble_eq_true rfl) rfl (k_vs fun V23 h22 hF21 => ?_)
        refine GO.aload_n dX12_plan_35 rfl rfl ?_
        refine GO.getI h_x fl_RX12_745 rfl rfl dX12_plan_36 (fun _ _ => ?_)
        have q25 : -2147483648 ≤ vi V23 x 138 ∧ vi V23 x 138 ≤ 2147483647 := vi_ir
        exact GO.reti rfl rfl dX12_plan_39 ⟨rfl, _, rfl, vi_ir, trivial⟩
      ·
        have q26 := h15.2.2.1 (by omega)
        refine GO.iconst dX12_plan_26 ?_
        exact GO.reti rfl rfl dX12_plan_27 ⟨rfl, _, rfl, (ir_c rfl), trivial⟩

set_option maxHeartbeats 1000000 in
theorem t_X12_planned {K : Kmap} {V : Vmap} {x : Nat} {p0 : Int} {p1 : Int} {p2 : Int} {p3 : Int} (h_x : K x = some (0, 11)) (r_p0 : ir p0) (r_p1 : ir p1) (r_p2 : ir p2) (r_p3 : ir p3) : MC mX12_planned K V [.ref x, ti p0, ti p1, ti p2, ti p3] (IS K (fun X V1 => True)) := by
  refine MC.start 0 (by decide +kernel) rfl rfl rfl (ls0 := [some (.ref x), some (ti p0), some (ti p1), some (ti p2), some (ti p3)]) rfl ?_
  refine GO.aload_n dX12_planned_0 rfl rfl ?_
  refine GO.iload_n dX12_planned_1 rfl rfl ?_
  refine GO.iload_n dX12_planned_2 rfl rfl ?_
  refine GO.iload_n dX12_planned_3 rfl rfl ?_
  refine GO.callV (ci := 11) (N := mX12_plan) dX12_planned_4 (RX12, TX12, 151) rfl gV_RX12_758 h_x (t_X12_plan h_x r_p0 r_p1 r_p2) rfl [] rfl rfl (Nat.le_of_ble_eq_true rfl) rfl (k_is fun X1 V5 r2 h3 hF4 => ?_)
  refine GO.iconst dX12_planned_7 ?_
  refine GO.icmp_eq (tgt := 25) dX12_planned_8 (by decide) r2 (ir_c rfl) (fun c6 => ?_) (fun c6 => ?_)
  ·
    refine GO.iconst dX12_planned_25 ?_
    exact GO.reti rfl rfl dX12_planned_26 ⟨rfl, _, rfl, (ir_c rfl), trivial⟩
  ·
    refine GO.iload dX12_planned_11 rfl ?_
    refine GO.if_lt (tgt := 25) dX12_planned_13 (by decide) r_p3 (fun c7 => ?_) (fun c7 => ?_)
    ·
      refine GO.iconst dX12_planned_25 ?_
      exact GO.reti rfl rfl dX12_planned_26 ⟨rfl, _, rfl, (ir_c rfl), trivial⟩
    ·
      refine GO.iload dX12_planned_16 rfl ?_
      refine GO.aload_n dX12_planned_18 rfl rfl ?_
      refine GO.getI h_x fl_RX12_736 rfl rfl dX12_planned_19 (fun l8 u9 => ?_)
      refine GO.icmp_lt (tgt := 27) dX12_planned_22 (by decide) r_p3 vi_ir (fun c11 => ?_) (fun c11 => ?_)
      ·
        refine GO.aload_n dX12_planned_27 rfl rfl ?_
        refine GO.getA (n := 8) h_x fl_RX12_343 rfl rfl rfl rfl dX12_planned_28 (fun hv13 h12 => ?_)
        refine GO.iload dX12_planned_31 rfl ?_
        have q14 : -2147483648 ≤ p3 ∧ p3 ≤ 2147483647 := r_p3
        refine GO.iald (t := 116) rfl rfl h12 r_p3 (by omega) (by omega) dX12_planned_33 (fun _ _ => ?_)
        have q16 : -2147483648 ≤ vi V5 (vq V5 x 144) (p3).toNat ∧ vi V5 (vq V5 x 144) (p3).toNat ≤ 2147483647 := vi_ir
        exact GO.reti rfl rfl dX12_planned_34 ⟨rfl, _, rfl, vi_ir, trivial⟩
      ·
        refine GO.iconst dX12_planned_25 ?_
        exact GO.reti rfl rfl dX12_planned_26 ⟨rfl, _, rfl, (ir_c rfl), trivial⟩

set_option maxHeartbeats 1000000 in
theorem t_X12_report {K : Kmap} {V : Vmap} {x : Nat} {p0 : Int} {p1 : Int} {p2 : Int} {p3 : Int} (h_x : K x = some (0, 11)) (r_p0 : ir p0) (r_p1 : ir p1) (r_p2 : ir p2) (r_p3 : ir p3) (z_p3 : p3 = 0 ∨ p3 = 1) : MC mX12_report K V [.ref x, ti p0, ti p1, ti p2, ti p3] (IS K (fun X V1 => (X = 0 ∨ X = 1) ∧ (X ≠ 0 → True) ∧ (X = 0 → True))) := by
  refine MC.start 0 (by decide +kernel) rfl rfl rfl (ls0 := [some (.ref x), some (ti p0), some (ti p1), some (ti p2), some (ti p3)]) rfl ?_
  refine GO.aload_n dX12_report_0 rfl rfl ?_
  refine GO.iload_n dX12_report_1 rfl rfl ?_
  refine GO.callV (ci := 11) (N := mX12_isStation) dX12_report_2 (RX12, TX12, 151) rfl gV_RX12_403 h_x (t_X12_isStation h_x r_p0) rfl [] rfl rfl (Nat.le_of_ble_eq_true rfl) rfl (k_ip fun X1 r2 h3 => ?_)
  refine GO.if_eq (tgt := 43) dX12_report_5 (by decide) r2 (fun c4 => ?_) (fun c4 => ?_)
  ·
    refine GO.iconst dX12_report_43 ?_
    exact GO.retz rfl rfl dX12_report_44 (Or.inl rfl) ⟨rfl, _, rfl, (ir_c rfl), ⟨Or.inl rfl, fun _ => trivial, fun _ => trivial⟩⟩
  ·
    have q5 := h3.2.1 (by omega)
    refine GO.iload_n dX12_report_8 rfl rfl ?_
    refine GO.iconst dX12_report_9 ?_
    refine GO.aload_n dX12_report_10 rfl rfl ?_
    refine GO.getI h_x fl_RX12_396 rfl rfl dX12_report_11 (fun l6 u7 => ?_)
    refine GO.callS (N := mX12_in) dX12_report_14 gS_RX12_371 (t_X12_in r_p1 (ir_c rfl) vi_ir) rfl [] rfl rfl (Nat.le_of_ble_eq_true rfl) rfl (k_ip fun X8 r9 h10 => ?_)
    have raw_in := h10.2.2.2
    have rw14 := h10.2.2.2
    refine GO.if_eq (tgt := 43) dX12_report_17 (by decide) r9 (fun c11 => ?_) (fun c11 => ?_)
    ·
      have q12 := h10.2.2.1 (by omega)
      refine GO.iconst dX12_report_43 ?_
      exact GO.retz rfl rfl dX12_report_44 (Or.inl rfl) ⟨rfl, _, rfl, (ir_c rfl), ⟨Or.inl rfl, fun _ => trivial, fun _ => trivial⟩⟩
    ·
      have q13 := h10.2.1 (by omega)
      refine GO.iload_n dX12_report_20 rfl rfl ?_
      refine GO.sipush dX12_report_21 rfl ?_
      refine GO.ldcw (X := 1000000) dX12_report_24 gw_2291 rfl ?_
      refine GO.callS (N := mX12_in) dX12_report_27 gS_RX12_371 (t_X12_in r_p2 (ir_c rfl) (ir_c rfl)) rfl [] rfl rfl (Nat.le_of_ble_eq_true rfl) rfl (k_ip fun X14 r15 h16 => ?_)
      have raw_in := h16.2.2.2
      have rw27 := h16.2.2.2
      refine GO.if_eq (tgt := 43) dX12_report_30 (by decide) r15 (fun c17 => ?_) (fun c17 => ?_)
      ·
        have q18 := h16.2.2.1 (by omega)
        refine GO.iconst dX12_report_43 ?_
        exact GO.retz rfl rfl dX12_report_44 (Or.inl rfl) ⟨rfl, _, rfl, (ir_c rfl), ⟨Or.inl rfl, fun _ => trivial, fun _ => trivial⟩⟩
      ·
        have q19 := h16.2.1 (by omega)
        refine GO.aload_n dX12_report_33 rfl rfl ?_
        refine GO.getI h_x fl_RX12_761 rfl rfl dX12_report_34 (fun l20 u21 => ?_)
        refine GO.sipush dX12_report_37 rfl ?_
        refine GO.icmp_ne (tgt := 45) dX12_report_40 (by decide) vi_ir (ir_c rfl) (fun c22 => ?_) (fun c22 => ?_)
        ·
          refine GO.aload_n dX12_report_45 rfl rfl ?_
          refine GO.getA (n := 200) h_x fl_RX12_346 rfl rfl rfl rfl dX12_report_46 (fun hv24 h23 => ?_)
          refine GO.aload_n dX12_report_49 rfl rfl ?_
          refine GO.getI h_x fl_RX12_761 rfl rfl dX12_report_50 (fun l25 u26 => ?_)
          refine GO.iload_n dX12_report_53 rfl rfl ?_
          refine GO.iast (t := 117) rfl rfl (by decide +kernel) h23 vi_ir (by omega) (by omega) r_p0 (r_p0).1 (r_p0).2 dX12_report_54 (fun V28 e27 => ?_)
          refine GO.aload_n dX12_report_55 rfl rfl ?_
          refine GO.getA (n := 200) h_x fl_RX12_349 rfl rfl rfl rfl dX12_report_56 (fun hv30 h29 => ?_)
          refine GO.aload_n dX12_report_59 rfl rfl ?_
          refine GO.getI h_x fl_RX12_761 rfl rfl dX12_report_60 (fun l31 u32 => ?_)
          have e33 : vi V28 x 145 = vi V x 145 := vi_up e27 (Or.inl (K_ne h_x h23 (by decide)))
          refine GO.iload_n dX12_report_63 rfl rfl ?_
          refine GO.iast (t := 118) rfl rfl (by decide +kernel) h29 vi_ir (by omega) (by omega) r_p1 (r_p1).1 (r_p1).2 dX12_report_64 (fun V35 e34 => ?_)
          refine GO.aload_n dX12_report_65 rfl rfl ?_
          refine GO.getA (n := 200) h_x fl_RX12_352 rfl rfl rfl rfl dX12_report_66 (fun hv37 h36 => ?_)
          refine GO.aload_n dX12_report_69 rfl rfl ?_
          refine GO.getI h_x fl_RX12_761 rfl rfl dX12_report_70 (fun l38 u39 => ?_)
          have e40 : vi V35 x 145 = vi V28 x 145 := vi_up e34 (Or.inl (K_ne h_x h29 (by decide)))
          refine GO.iload_n dX12_report_73 rfl rfl ?_
          refine GO.iast (t := 119) rfl rfl (by decide +kernel) h36 vi_ir (by omega) (by omega) r_p2 (r_p2).1 (r_p2).2 dX12_report_74 (fun V42 e41 => ?_)
          refine GO.aload_n dX12_report_75 rfl rfl ?_
          refine GO.getA (n := 200) h_x fl_RX12_355 rfl rfl rfl rfl dX12_report_76 (fun hv44 h43 => ?_)
          refine GO.aload_n dX12_report_79 rfl rfl ?_
          refine GO.getI h_x fl_RX12_761 rfl rfl dX12_report_80 (fun l45 u46 => ?_)
          have e47 : vi V42 x 145 = vi V35 x 145 := vi_up e41 (Or.inl (K_ne h_x h36 (by decide)))
          refine GO.aload_n dX12_report_83 rfl rfl ?_
          refine GO.getI h_x fl_RX12_396 rfl rfl dX12_report_84 (fun l48 u49 => ?_)
          have e52 : vi V28 x 2 = vi V x 2 := vi_up e27 (Or.inl (K_ne h_x h23 (by decide)))
          have e51 : vi V35 x 2 = vi V28 x 2 := vi_up e34 (Or.inl (K_ne h_x h29 (by decide)))
          have e50 : vi V42 x 2 = vi V35 x 2 := vi_up e41 (Or.inl (K_ne h_x h36 (by decide)))
          refine GO.iast (t := 120) rfl rfl (by decide +kernel) h43 vi_ir (by omega) (by omega) vi_ir (vi_ir).1 (vi_ir).2 dX12_report_87 (fun V54 e53 => ?_)
          refine GO.aload_n dX12_report_88 rfl rfl ?_
          refine GO.getA (n := 200) h_x fl_RX12_358 rfl rfl rfl rfl dX12_report_89 (fun hv56 h55 => ?_)
          refine GO.aload_n dX12_report_92 rfl rfl ?_
          refine GO.getI h_x fl_RX12_761 rfl rfl dX12_report_93 (fun l57 u58 => ?_)
          have e59 : vi V54 x 145 = vi V42 x 145 := vi_up e53 (Or.inl (K_ne h_x h43 (by decide)))
          refine GO.iload dX12_report_96 rfl ?_
          refine GO.zast (t := 121) rfl rfl (by decide +kernel) h55 vi_ir (by omega) (by omega) (by omega) (by omega) (by omega) dX12_report_98 (fun V61 e60 => ?_)
          refine GO.aload_n dX12_report_99 rfl rfl ?_
          refine GO.aload_n dX12_report_100 rfl rfl ?_
          refine GO.getI h_x fl_RX12_761 rfl rfl dX12_report_101 (fun l62 u63 => ?_)
          have e64 : vi V61 x 145 = vi V54 x 145 := vi_up e60 (Or.inl (K_ne h_x h55 (by decide)))
          refine GO.iconst dX12_report_104 ?_
          refine GO.iadd dX12_report_105 ?_
          refine GO.putI h_x fp_RX12_761 rfl (by decide +kernel) ⟨by omega, by omega⟩ (by omega) (by omega) dX12_report_106 (fun V66 e65 => ?_)
          refine GO.iconst dX12_report_109 ?_
          exact GO.retz rfl rfl dX12_report_110 (Or.inr rfl) ⟨rfl, _, rfl, (ir_c rfl), ⟨Or.inr rfl, fun _ => trivial, fun _ => trivial⟩⟩
        ·
          refine GO.iconst dX12_report_43 ?_
          exact GO.retz rfl rfl dX12_report_44 (Or.inl rfl) ⟨rfl, _, rfl, (ir_c rfl), ⟨Or.inl rfl, fun _ => trivial, fun _ => trivial⟩⟩

set_option maxHeartbeats 1000000 in
theorem t_X12_known {K : Kmap} {V : Vmap} {x : Nat} {p0 : Int} {p1 : Int} {p2 : Int} (h_x : K x = some (0, 11)) (r_p0 : ir p0) (r_p1 : ir p1) (r_p2 : ir p2) : MC mX12_known K V [.ref x, ti p0, ti p1, ti p2] (IP K V (fun X => True)) := by
  refine MC.start 3 (by decide +kernel) rfl rfl rfl (ls0 := [some (.ref x), some (ti p0), some (ti p1), some (ti p2), none, none, none]) rfl ?_
  refine GO.aload_n dX12_known_0 rfl rfl ?_
  refine GO.iload_n dX12_known_1 rfl rfl ?_
  refine GO.callV (ci := 11) (N := mX12_isStation) dX12_known_2 (RX12, TX12, 151) rfl gV_RX12_403 h_x (t_X12_isStation h_x r_p0) rfl [] rfl rfl (Nat.le_of_ble_eq_true rfl) rfl (k_ip fun X1 r2 h3 => ?_)
  refine GO.if_eq (tgt := 22) dX12_known_5 (by decide) r2 (fun c4 => ?_) (fun c4 => ?_)
  ·
    refine GO.ldcw (X := (-1000001)) dX12_known_22 gw_2507 rfl ?_
    exact GO.reti rfl rfl dX12_known_25 ⟨rfl, rfl, _, rfl, (ir_c rfl), trivial⟩
  ·
    have q5 := h3.2.1 (by omega)
    refine GO.iload_n dX12_known_8 rfl rfl ?_
    refine GO.callS (N := mX12_isDay) dX12_known_9 gS_RX12_409 (t_X12_isDay r_p1) rfl [] rfl rfl (Nat.le_of_ble_eq_true rfl) rfl (k_ip fun X6 r7 h8 => ?_)
    refine GO.if_eq (tgt := 22) dX12_known_12 (by decide) r7 (fun c9 => ?_) (fun c9 => ?_)
    ·
      have q10 := h8.2.2 (by omega)
      refine GO.ldcw (X := (-1000001)) dX12_known_22 gw_2507 rfl ?_
      exact GO.reti rfl rfl dX12_known_25 ⟨rfl, rfl, _, rfl, (ir_c rfl), trivial⟩
    ·
      have q11 := h8.2.1 (by omega)
      refine GO.iload_n dX12_known_15 rfl rfl ?_
      refine GO.callS (N := mX12_isDay) dX12_known_16 gS_RX12_409 (t_X12_isDay r_p2) rfl [] rfl rfl (Nat.le_of_ble_eq_true rfl) rfl (k_ip fun X12 r13 h14 => ?_)
      refine GO.if_ne (tgt := 26) dX12_known_19 (by decide) r13 (fun c15 => ?_) (fun c15 => ?_)
      ·
        have q16 := h14.2.1 (by omega)
        refine GO.iconst dX12_known_26 ?_
        refine GO.istore (ls1 := [some (.ref x), some (ti p0), some (ti p1), some (ti p2), some (ti (-1)), none, none]) dX12_known_27 rfl rfl ?_
        refine GO.iconst dX12_known_29 ?_
        refine GO.istore (ls1 := [some (.ref x), some (ti p0), some (ti p1), some (ti p2), some (ti (-1)), some (ti (-1)), none]) dX12_known_30 rfl rfl ?_
        refine GO.iconst dX12_known_32 ?_
        refine GO.istore (ls1 := [some (.ref x), some (ti p0), some (ti p1), some (ti p2), some (ti (-1)), some (ti (-1)), some (ti 0)]) dX12_known_33 rfl rfl ?_
        refine GO.loop3 (fun i17 i18 i19 W => (-1) ≤ i17 ∧ i17 ≤ 199 ∧ (-1) ≤ i18 ∧ i18 ≤ 199 ∧ 0 ≤ i19 ∧ i19 ≤ 200 ∧ V = W) (fun i17 i18 i19 => [some (.ref x), some (ti p0), some (ti p1), some (ti p2), some (ti i17), some (ti i18), some (ti i19)]) (fun i17 i18 i19 W => (2147483647 - i19).toNat) (-1) (-1) 0 ⟨by omega, by omega, by omega, by omega, by omega, by omega, rfl⟩ rfl (fun i17 i18 i19 V1127 hp1129 ih1128 => ?_)
        obtain ⟨l_i17, u_i17, l_i18, u_i18, l_i19, u_i19, rfl⟩ := hp1129
        have r_i17 : ir i17 := ⟨by omega, by omega⟩
        have r_i18 : ir i18 := ⟨by omega, by omega⟩
        have r_i19 : ir i19 := ⟨by omega, by omega⟩
        show GO mX12_known K V (IP K V (fun X => True)) K V 0 0 35 [some (.ref x), some (ti p0), some (ti p1), some (ti p2), some (ti i17), some (ti i18), some (ti i19)] []
        refine GO.iload dX12_known_35 rfl ?_
        refine GO.aload_n dX12_known_37 rfl rfl ?_
        refine GO.getI h_x fl_RX12_761 rfl rfl dX12_known_38 (fun l1130 u1131 => ?_)
        refine GO.icmp_ge (tgt := 138) dX12_known_41 (by decide) r_i19 vi_ir (fun c1132 => ?_) (fun c1132 => ?_)
        ·
          refine GO.iload dX12_known_138 rfl ?_
          refine GO.iconst dX12_known_140 ?_
          refine GO.icmp_eq (tgt := 162) dX12_known_141 (by decide) r_i17 (ir_c rfl) (fun c1133 => ?_) (fun c1133 => ?_)
          ·
            refine GO.iload dX12_known_162 rfl ?_
            refine GO.iconst dX12_known_164 ?_
            refine GO.icmp_ne (tgt := 174) dX12_known_165 (by decide) r_i18 (ir_c rfl) (fun c1134 => ?_) (fun c1134 => ?_)
            ·
              refine GO.aload_n dX12_known_174 rfl rfl ?_
              refine GO.getA (n := 200) h_x fl_RX12_352 rfl rfl rfl rfl dX12_known_175 (fun hv1136 h1135 => ?_)
              refine GO.iload dX12_known_178 rfl ?_
              refine GO.iald (t := 119) rfl rfl h1135 r_i18 (by omega) (by omega) dX12_known_180 (fun _ _ => ?_)
              have q1137 : -2147483648 ≤ vi V (vq V x 148) (i18).toNat ∧ vi V (vq V x 148) (i18).toNat ≤ 2147483647 := vi_ir
              exact GO.reti rfl rfl dX12_known_181 ⟨rfl, rfl, _, rfl, vi_ir, trivial⟩
            ·
              refine GO.ldcw (X := (-1000001)) dX12_known_168 gw_2507 rfl ?_
              refine GO.goto (tgt := 181) dX12_known_171 (by decide) ?_
              exact GO.reti rfl rfl dX12_known_181 ⟨rfl, rfl, _, rfl, (ir_c rfl), trivial⟩
          ·
            refine GO.aload_n dX12_known_144 rfl rfl ?_
            refine GO.getA (n := 200) h_x fl_RX12_358 rfl rfl rfl rfl dX12_known_145 (fun hv1139 h1138 => ?_)
            refine GO.iload dX12_known_148 rfl ?_
            refine GO.zald (t := 121) rfl rfl h1138 r_i17 (by omega) (by omega) dX12_known_150 (fun l1140 u1141 => ?_)
            refine GO.if_eq (tgt := 162) dX12_known_151 (by decide) vi_ir (fun c1142 => ?_) (fun c1142 => ?_)
            ·
              refine GO.iload dX12_known_162 rfl ?_
              refine GO.iconst dX12_known_164 ?_
              refine GO.icmp_ne (tgt := 174) dX12_known_165 (by decide) r_i18 (ir_c rfl) (fun c1143 => ?_) (fun c1143 => ?_)
              ·
                refine GO.aload_n dX12_known_174 rfl rfl ?_
                refine GO.getA (n := 200) h_x fl_RX12_352 rfl rfl rfl rfl dX12_known_175 (fun hv1145 h1144 => ?_)
                refine GO.iload dX12_known_178 rfl ?_
                refine GO.iald (t := 119) rfl rfl h1144 r_i18 (by omega) (by omega) dX12_known_180 (fun _ _ => ?_)
                have q1146 : -2147483648 ≤ vi V (vq V x 148) (i18).toNat ∧ vi V (vq V x 148) (i18).toNat ≤ 2147483647 := vi_ir
                exact GO.reti rfl rfl dX12_known_181 ⟨rfl, rfl, _, rfl, vi_ir, trivial⟩
              ·
                refine GO.ldcw (X := (-1000001)) dX12_known_168 gw_2507 rfl ?_
                refine GO.goto (tgt := 181) dX12_known_171 (by decide) ?_
                exact GO.reti rfl rfl dX12_known_181 ⟨rfl, rfl, _, rfl, (ir_c rfl), trivial⟩
            ·
              refine GO.aload_n dX12_known_154 rfl rfl ?_
              refine GO.getA (n := 200) h_x fl_RX12_352 rfl rfl rfl rfl dX12_known_155 (fun hv1148 h1147 => ?_)
              refine GO.iload dX12_known_158 rfl ?_
              refine GO.iald (t := 119) rfl rfl h1147 r_i17 (by omega) (by omega) dX12_known_160 (fun _ _ => ?_)
              have q1149 : -2147483648 ≤ vi V (vq V x 148) (i17).toNat ∧ vi V (vq V x 148) (i17).toNat ≤ 2147483647 := vi_ir
              exact GO.reti rfl rfl dX12_known_161 ⟨rfl, rfl, _, rfl, vi_ir, trivial⟩
        ·
          refine GO.aload_n dX12_known_44 rfl rfl ?_
          refine GO.getA (n := 200) h_x fl_RX12_346 rfl rfl rfl rfl dX12_known_45 (fun hv1151 h1150 => ?_)
          refine GO.iload dX12_known_48 rfl ?_
          refine GO.iald (t := 117) rfl rfl h1150 r_i19 (by omega) (by omega) dX12_known_50 (fun _ _ => ?_)
          refine GO.iload_n dX12_known_51 rfl rfl ?_
          refine GO.icmp_ne (tgt := 132) dX12_known_52 (by decide) vi_ir r_p0 (fun c1152 => ?_) (fun c1152 => ?_)
          ·
            refine GO.iinc (X := i19) (n := 1) (Y := i19 + 1) (ls1 := [some (.ref x), some (ti p0), some (ti p1), some (ti p2), some (ti i17), some (ti i18), some (ti (i19 + 1))]) dX12_known_132 rfl rfl rfl rfl ?_
            refine GO.goto (tgt := 35) dX12_known_135 (by decide) ?_
            exact ih1128 i17 i18 (i19 + 1) V ⟨by omega, by omega, by omega, by omega, by omega, by omega, rfl⟩ (by show (2147483647 - (i19 + 1)).toNat < (2147483647 - i19).toNat; omega)
          ·
            refine GO.aload_n dX12_known_55 rfl rfl ?_
            refine GO.getA (n := 200) h_x fl_RX12_355 rfl rfl rfl rfl dX12_known_56 (fun hv1154 h1153 => ?_)
            refine GO.iload dX12_known_59 rfl ?_
            refine GO.iald (t := 120) rfl rfl h1153 r_i19 (by omega) (by omega) dX12_known_61 (fun _ _ => ?_)
            refine GO.iload_n dX12_known_62 rfl rfl ?_
            refine GO.icmp_le (tgt := 69) dX12_known_63 (by decide) vi_ir r_p2 (fun c1155 => ?_) (fun c1155 => ?_)
            ·
              refine GO.aload_n dX12_known_69 rfl rfl ?_
              refine GO.getA (n := 200) h_x fl_RX12_349 rfl rfl rfl rfl dX12_known_70 (fun hv1157 h1156 => ?_)
              refine GO.iload dX12_known_73 rfl ?_
              refine GO.iald (t := 118) rfl rfl h1156 r_i19 (by omega) (by omega) dX12_known_75 (fun _ _ => ?_)
              refine GO.iload_n dX12_known_76 rfl rfl ?_
              have hj1160 : ∀ (z1159 : Int), ∀ (l1161 : (-1) ≤ z1159), ∀ (u1162 : z1159 ≤ 199), GO mX12_known K V (IP K V (fun X => True)) K V 0 0 84 [some (.ref x), some (ti p0), some (ti p1), some (ti p2), some (ti z1159), some (ti i18), some (ti i19)] [] := by
                intro z1159 l1161 u1162
                have r1163 : ir z1159 := ⟨by omega, by omega⟩
                refine GO.aload_n dX12_known_84 rfl rfl ?_
                refine GO.getRaw h_x fl_RX12_349 hv1157 dX12_known_85 ?_
                refine GO.iload dX12_known_88 rfl ?_
                refine GO.iald (t := 118) rfl rfl h1156 r_i19 (by omega) (by omega) dX12_known_90 (fun _ _ => ?_)
                refine GO.iload_n dX12_known_91 rfl rfl ?_
                refine GO.icmp_ge (tgt := 132) dX12_known_92 (by decide) vi_ir r_p1 (fun c1166 => ?_) (fun c1166 => ?_)
                ·
                  refine GO.iinc (X := i19) (n := 1) (Y := i19 + 1) (ls1 := [some (.ref x), some (ti p0), some (ti p1), some (ti p2), some (ti z1159), some (ti i18), some (ti (i19 + 1))]) dX12_known_132 rfl rfl rfl rfl ?_
                  refine GO.goto (tgt := 35) dX12_known_135 (by decide) ?_
                  exact ih1128 z1159 i18 (i19 + 1) V ⟨by omega, by omega, by omega, by omega, by omega, by omega, rfl⟩ (by show (2147483647 - (i19 + 1)).toNat < (2147483647 - i19).toNat; omega)
                ·
                  refine GO.aload_n dX12_known_95 rfl rfl ?_
                  refine GO.getA (n := 200) h_x fl_RX12_358 rfl rfl rfl rfl dX12_known_96 (fun hv1168 h1167 => ?_)
                  refine GO.iload dX12_known_99 rfl ?_
                  refine GO.zald (t := 121) rfl rfl h1167 r_i19 (by omega) (by omega) dX12_known_101 (fun l1169 u1170 => ?_)
                  refine GO.if_eq (tgt := 132) dX12_known_102 (by decide) vi_ir (fun c1171 => ?_) (fun c1171 => ?_)
                  ·
                    refine GO.iinc (X := i19) (n := 1) (Y := i19 + 1) (ls1 := [some (.ref x), some (ti p0), some (ti p1), some (ti p2), some (ti z1159), some (ti i18), some (ti (i19 + 1))]) dX12_known_132 rfl rfl rfl rfl ?_
                    refine GO.goto (tgt := 35) dX12_known_135 (by decide) ?_
                    exact ih1128 z1159 i18 (i19 + 1) V ⟨by omega, by omega, by omega, by omega, by omega, by omega, rfl⟩ (by show (2147483647 - (i19 + 1)).toNat < (2147483647 - i19).toNat; omega)
                  ·
                    refine GO.iload dX12_known_105 rfl ?_
                    refine GO.iconst dX12_known_107 ?_
                    refine GO.icmp_eq (tgt := 128) dX12_known_108 (by decide) r_i18 (ir_c rfl) (fun c1172 => ?_) (fun c1172 => ?_)
                    ·
                      refine GO.iload dX12_known_128 rfl ?_
                      refine GO.istore (ls1 := [some (.ref x), some (ti p0), some (ti p1), some (ti p2), some (ti z1159), some (ti i19), some (ti i19)]) dX12_known_130 rfl rfl ?_
                      refine GO.iinc (X := i19) (n := 1) (Y := i19 + 1) (ls1 := [some (.ref x), some (ti p0), some (ti p1), some (ti p2), some (ti z1159), some (ti i19), some (ti (i19 + 1))]) dX12_known_132 rfl rfl rfl rfl ?_
                      refine GO.goto (tgt := 35) dX12_known_135 (by decide) ?_
                      exact ih1128 z1159 i19 (i19 + 1) V ⟨by omega, by omega, by omega, by omega, by omega, by omega, rfl⟩ (by show (2147483647 - (i19 + 1)).toNat < (2147483647 - i19).toNat; omega)
                    ·
                      refine GO.aload_n dX12_known_111 rfl rfl ?_
                      refine GO.getRaw h_x fl_RX12_349 hv1157 dX12_known_112 ?_
                      refine GO.iload dX12_known_115 rfl ?_
                      refine GO.iald (t := 118) rfl rfl h1156 r_i19 (by omega) (by omega) dX12_known_117 (fun _ _ => ?_)
                      refine GO.aload_n dX12_known_118 rfl rfl ?_
                      refine GO.getRaw h_x fl_RX12_349 hv1157 dX12_known_119 ?_
                      refine GO.iload dX12_known_122 rfl ?_
                      refine GO.iald (t := 118) rfl rfl h1156 r_i18 (by omega) (by omega) dX12_known_124 (fun _ _ => ?_)
                      refine GO.icmp_lt (tgt := 132) dX12_known_125 (by decide) vi_ir vi_ir (fun c1177 => ?_) (fun c1177 => ?_)
                      ·
                        refine GO.iinc (X := i19) (n := 1) (Y := i19 + 1) (ls1 := [some (.ref x), some (ti p0), some (ti p1), some (ti p2), some (ti z1159), some (ti i18), some (ti (i19 + 1))]) dX12_known_132 rfl rfl rfl rfl ?_
                        refine GO.goto (tgt := 35) dX12_known_135 (by decide) ?_
                        exact ih1128 z1159 i18 (i19 + 1) V ⟨by omega, by omega, by omega, by omega, by omega, by omega, rfl⟩ (by show (2147483647 - (i19 + 1)).toNat < (2147483647 - i19).toNat; omega)
                      ·
                        refine GO.iload dX12_known_128 rfl ?_
                        refine GO.istore (ls1 := [some (.ref x), some (ti p0), some (ti p1), some (ti p2), some (ti z1159), some (ti i19), some (ti i19)]) dX12_known_130 rfl rfl ?_
                        refine GO.iinc (X := i19) (n := 1) (Y := i19 + 1) (ls1 := [some (.ref x), some (ti p0), some (ti p1), some (ti p2), some (ti z1159), some (ti i19), some (ti (i19 + 1))]) dX12_known_132 rfl rfl rfl rfl ?_
                        refine GO.goto (tgt := 35) dX12_known_135 (by decide) ?_
                        exact ih1128 z1159 i19 (i19 + 1) V ⟨by omega, by omega, by omega, by omega, by omega, by omega, rfl⟩ (by show (2147483647 - (i19 + 1)).toNat < (2147483647 - i19).toNat; omega)
              refine GO.icmp_ne (tgt := 84) dX12_known_77 (by decide) vi_ir r_p1 (fun c1178 => ?_) (fun c1178 => ?_)
              ·
                exact hj1160 i17 (by omega) (by omega)
              ·
                refine GO.iload dX12_known_80 rfl ?_
                refine GO.istore (ls1 := [some (.ref x), some (ti p0), some (ti p1), some (ti p2), some (ti i19), some (ti i18), some (ti i19)]) dX12_known_82 rfl rfl ?_
                exact hj1160 i19 (by omega) (by omega)
            ·
              refine GO.goto (tgt := 132) dX12_known_66 (by decide) ?_
              refine GO.iinc (X := i19) (n := 1) (Y := i19 + 1) (ls1 := [some (.ref x), some (ti p0), some (ti p1), some (ti p2), some (ti i17), some (ti i18), some (ti (i19 + 1))]) dX12_known_132 rfl rfl rfl rfl ?_
              refine GO.goto (tgt := 35) dX12_known_135 (by decide) ?_
              exact ih1128 i17 i18 (i19 + 1) V ⟨by omega, by omega, by omega, by omega, by omega, by omega, rfl⟩ (by show (2147483647 - (i19 + 1)).toNat < (2147483647 - i19).toNat; omega)
      ·
        have q1179 := h14.2.2 (by omega)
        refine GO.ldcw (X := (-1000001)) dX12_known_22 gw_2507 rfl ?_
        exact GO.reti rfl rfl dX12_known_25 ⟨rfl, rfl, _, rfl, (ir_c rfl), trivial⟩
