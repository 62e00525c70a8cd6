def mX12_stop : MRec := (RX12, cX12_stop, 4, (some .int), yX12_stop, 3, 64, 0, 0, 29551504647295859409209280075107710353925596542086401196384791038192979236476177943226340255203144314612884122370048)
def mX12_open : MRec := (RX12, cX12_open, 5, (some .boolean), yX12_open, 1, 22, 0, 0, 118206018589183437636837120300430841415239217811396340003844880212737165314491631834242798764654746922419883970920448)
def mX12_endOf : MRec := (RX12, cX12_endOf, 6, (some .int), yX12_endOf, 2, 44, 0, 0, 0)
def mX12_worstEnd : MRec := (RX12, cX12_worstEnd, 5, (some .int), yX12_worstEnd, 3, 69, 0, 0, 0)
def mX12_swaps : MRec := (RX12, cX12_swaps, 4, (none : Option Jvm.ClassFile.FieldType), yX12_swaps, 0, 0, 0, 0, 157608024785577916849116160400574455220318957081861786671793173616982887085988842445657065019539662563226511961227264)
def mX12_nextOrder : MRec := (RX12, cX12_nextOrder, 5, (some .boolean), yX12_nextOrder, 1, 23, 0, 0, 157608024785577916849116160400574455220318957081861786671793173616982887085988842445657065019539662563226511961227264)
def mX12_plans : MRec := (RX12, cX12_plans, 8, (none : Option Jvm.ClassFile.FieldType), yX12_plans, 4, 93, 0, 0, 472824074356733750547348481201723365661188455424059992406226662820966037073673067306302476186697902857695362142961664)
def mX12_plan : MRec := (RX12, cX12_plan, 4, (some .int), yX12_plan, 5, 120, 0, 0, 472824074356733750547348481201723365661188455424059992406226662820966037073673067306302476186697902857695362142961664)
set_option maxHeartbeats 1000000 in
theorem t_X12_stop {K : Kmap} {V : Vmap} {x : Nat} {p0 : Int} {p1 : Int} (h_x : K x = some (0, 11)) (r_p0 : ir p0) (r_p1 : ir p1) : MC mX12_stop K V [.ref x, ti p0, ti p1] (IS K (fun X V1 => (True) ∧ (MSP V V1 x p0 p1 X))) := by
  refine MC.start 1 (by decide +kernel) rfl rfl rfl (ls0 := [some (.ref x), some (ti p0), some (ti p1), none]) rfl ?_
  refine GO.useWT (fun hW1 => ?_)
  have ak2 := hW1.arr h_x 139 111 (by decide) rfl (by decide)
  refine GO.aload_n dX12_stop_0 rfl rfl ?_
  refine GO.iload_n dX12_stop_1 rfl rfl ?_
  refine GO.callV (ci := 11) (N := mX12_stands) dX12_stop_2 (RX12, TX12, 151) rfl gV_RX12_433 h_x (t_X12_stands h_x r_p0) rfl [] rfl rfl (Nat.le_of_ble_eq_true rfl) rfl (k_ip fun X3 r4 h5 => ?_)
  have raw_stands := h5.2.2.2
  have rw2 := h5.2.2.2
  refine GO.if_eq (tgt := 28) dX12_stop_5 (by decide) r4 (fun c6 => ?_) (fun c6 => ?_)
  ·
    refine GO.iconst dX12_stop_28 ?_
    exact GO.reti rfl rfl dX12_stop_29 ⟨rfl, _, rfl, (ir_c rfl), ⟨(by first | exact trivial | omega), (by first | exact MSP.nt rw2 (by omega) rfl | exact MSP.nn (by omega) rfl | exact MSP.hs (by assumption) (by omega) (by omega) rfl)⟩⟩
  ·
    have q7 := h5.2.1 (by omega)
    refine GO.iload_n dX12_stop_8 rfl rfl ?_
    refine GO.iconst dX12_stop_9 ?_
    refine GO.sipush dX12_stop_10 rfl ?_
    refine GO.callS (N := mX12_in) dX12_stop_13 gS_RX12_371 (t_X12_in r_p1 (ir_c rfl) (ir_c rfl)) rfl [] rfl rfl (Nat.le_of_ble_eq_true rfl) rfl (k_ip fun X8 r9 h10 => ?_)
    have raw_in := h10.2.2.2
    have rw13 := h10.2.2.2
    refine GO.if_eq (tgt := 28) dX12_stop_16 (by decide) r9 (fun c11 => ?_) (fun c11 => ?_)
    ·
      have q12 := h10.2.2.1 (by omega)
      refine GO.iconst dX12_stop_28 ?_
      exact GO.reti rfl rfl dX12_stop_29 ⟨rfl, _, rfl, (ir_c rfl), ⟨(by first | exact trivial | omega), (by first | exact MSP.nt rw2 (by omega) rfl | exact MSP.nn (by omega) rfl | exact MSP.hs (by assumption) (by omega) (by omega) rfl)⟩⟩
    ·
      have q13 := h10.2.1 (by omega)
      refine GO.aload_n dX12_stop_19 rfl rfl ?_
      refine GO.getI h_x fl_RX12_736 rfl rfl dX12_stop_20 (fun l14 u15 => ?_)
      refine GO.bipush dX12_stop_23 rfl ?_
      refine GO.icmp_ne (tgt := 30) dX12_stop_25 (by decide) vi_ir (ir_c rfl) (fun c16 => ?_) (fun c16 => ?_)
      ·
        refine GO.iconst dX12_stop_30 ?_
        refine GO.istore_n (ls1 := [some (.ref x), some (ti p0), some (ti p1), some (ti 0)]) dX12_stop_31 rfl rfl rfl ?_
        have q18 : -2147483648 ≤ vi V x 137 ∧ vi V x 137 ≤ 2147483647 := vi_ir
        refine GO.loop1 (fun i17 W => 0 ≤ i17 ∧ i17 ≤ 7 ∧ (i17 ≥ 0 ∧ vi W x 137 = vi V x 137) ∧ (MHL W x p0 i17) ∧ ar 139 W x = ar 139 V x ∧ V = W) (fun i17 => [some (.ref x), some (ti p0), some (ti p1), some (ti i17)]) (fun i17 W => (2147483647 - i17).toNat) 0 ⟨by omega, by omega, by omega, (by first | exact MHL.beg), (rfl : ar 139 V x = ar 139 V x), rfl⟩ rfl (fun i17 V151 hp153 ih152 => ?_)
        obtain ⟨l_i17, u_i17, n_i17, hmh, kp154, rfl⟩ := hp153
        have r_i17 : ir i17 := ⟨by omega, by omega⟩
        show GO mX12_stop K V (IS K (fun X V1 => (True) ∧ (MSP V V1 x p0 p1 X))) K V 0 0 32 [some (.ref x), some (ti p0), some (ti p1), some (ti i17)] []
        refine GO.iload_n dX12_stop_32 rfl rfl ?_
        refine GO.aload_n dX12_stop_33 rfl rfl ?_
        refine GO.getI h_x fl_RX12_736 rfl rfl dX12_stop_34 (fun l155 u156 => ?_)
        refine GO.icmp_ge (tgt := 58) dX12_stop_37 (by decide) r_i17 vi_ir (fun c157 => ?_) (fun c157 => ?_)
        ·
          refine GO.aload_n dX12_stop_58 rfl rfl ?_
          refine GO.getA (n := 8) h_x fl_RX12_328 rfl rfl rfl rfl dX12_stop_59 (fun hv159 h158 => ?_)
          refine GO.aload_n dX12_stop_62 rfl rfl ?_
          refine GO.getI h_x fl_RX12_736 rfl rfl dX12_stop_63 (fun l160 u161 => ?_)
          refine GO.iload_n dX12_stop_66 rfl rfl ?_
          have q163 : -2147483648 ≤ p0 ∧ p0 ≤ 2147483647 := r_p0
          refine GO.iast (t := 111) rfl rfl (by decide +kernel) h158 vi_ir (by omega) (by omega) r_p0 (by omega) (by omega) dX12_stop_67 (fun V164 e162 => ?_)
          have ak165 := tk_put e162 ak2 h_x (vq_of hv159) r_p0 (rfl : ar 139 V x = ar 139 V x)
          refine GO.aload_n dX12_stop_68 rfl rfl ?_
          refine GO.getA (n := 8) h_x fl_RX12_331 rfl rfl rfl rfl dX12_stop_69 (fun hv167 h166 => ?_)
          refine GO.aload_n dX12_stop_72 rfl rfl ?_
          refine GO.getI h_x fl_RX12_736 rfl rfl dX12_stop_73 (fun l168 u169 => ?_)
          have e170 : vi V164 x 137 = vi V x 137 := vi_up e162 (Or.inl (K_ne h_x h158 (by decide)))
          refine GO.iload_n dX12_stop_76 rfl rfl ?_
          refine GO.iast (t := 112) rfl rfl (by decide +kernel) h166 vi_ir (by omega) (by omega) r_p1 (r_p1).1 (r_p1).2 dX12_stop_77 (fun V172 e171 => ?_)
          have ak173 := tk_oth e171 ak165.1 h_x h166 (by decide) (by decide) ak165.2
          refine GO.aload_n dX12_stop_78 rfl rfl ?_
          refine GO.aload_n dX12_stop_79 rfl rfl ?_
          refine GO.getI h_x fl_RX12_736 rfl rfl dX12_stop_80 (fun l174 u175 => ?_)
          have e176 : vi V172 x 137 = vi V164 x 137 := vi_up e171 (Or.inl (K_ne h_x h166 (by decide)))
          refine GO.iconst dX12_stop_83 ?_
          refine GO.iadd dX12_stop_84 ?_
          refine GO.putI h_x fp_RX12_736 rfl (by decide +kernel) ⟨by omega, by omega⟩ (by omega) (by omega) dX12_stop_85 (fun V178 e177 => ?_)
          have ak179 := tk_fld e177 ak173.1 h_x (by decide) ak173.2
          refine GO.aload_n dX12_stop_88 rfl rfl ?_
          refine GO.getI h_x fl_RX12_736 rfl rfl dX12_stop_89 (fun l180 u181 => ?_)
          have e182 : vi V178 x 137 = (vi V172 x 137) + 1 := upd2_int e177 ⟨by omega, by omega⟩
          refine GO.iconst dX12_stop_92 ?_
          refine GO.isub dX12_stop_93 ?_
          exact GO.reti rfl rfl dX12_stop_94 ⟨rfl, _, rfl, ⟨by omega, by omega⟩, ⟨(by first | exact trivial | omega), (by first | exact MSP.nt rw2 (by omega) rfl | exact MSP.nn (by omega) rfl | exact MSP.hs (by assumption) (by omega) (by omega) rfl | exact MSP.ok rw2 (by omega) (by omega) (by omega) hmh (by omega) (by omega) (by omega) (by omega) ak179.2 (by omega))⟩⟩
        ·
          refine GO.aload_n dX12_stop_40 rfl rfl ?_
          refine GO.getA (n := 8) h_x fl_RX12_328 rfl rfl rfl rfl dX12_stop_41 (fun hv184 h183 => ?_)
          refine GO.iload_n dX12_stop_44 rfl rfl ?_
          refine GO.iald (t := 111) rfl rfl h183 r_i17 (by omega) (by omega) dX12_stop_45 (fun l185 u186 => ?_)
          refine GO.iload_n dX12_stop_46 rfl rfl ?_
          refine GO.icmp_ne (tgt := 52) dX12_stop_47 (by decide) vi_ir r_p0 (fun c187 => ?_) (fun c187 => ?_)
          ·
            refine GO.iinc (X := i17) (n := 1) (Y := i17 + 1) (ls1 := [some (.ref x), some (ti p0), some (ti p1), some (ti (i17 + 1))]) dX12_stop_52 rfl rfl rfl rfl ?_
            refine GO.goto (tgt := 32) dX12_stop_55 (by decide) ?_
            exact ih152 (i17 + 1) V ⟨by omega, by omega, by omega, (by first | exact MHL.beg | exact MHL.step hmh (by omega) (by omega) (by omega)), (rfl : ar 139 V x = ar 139 V x), rfl⟩ (by show (2147483647 - (i17 + 1)).toNat < (2147483647 - i17).toNat; omega)
          ·
            refine GO.iconst dX12_stop_50 ?_
            exact GO.reti rfl rfl dX12_stop_51 ⟨rfl, _, rfl, (ir_c rfl), ⟨(by first | exact trivial | omega), (by first | exact MSP.nt rw2 (by omega) rfl | exact MSP.nn (by omega) rfl | exact MSP.hs (by assumption) (by omega) (by omega) rfl | exact MSP.ok rw2 (by omega) (by omega) (by omega) hmh (by omega) (by omega) (by omega) (by omega) (rfl : ar 139 V x = ar 139 V x) (by omega))⟩⟩
      ·
        refine GO.iconst dX12_stop_28 ?_
        exact GO.reti rfl rfl dX12_stop_29 ⟨rfl, _, rfl, (ir_c rfl), ⟨(by first | exact trivial | omega), (by first | exact MSP.nt rw2 (by omega) rfl | exact MSP.nn (by omega) rfl | exact MSP.hs (by assumption) (by omega) (by omega) rfl)⟩⟩

set_option maxHeartbeats 1000000 in
theorem t_X12_open {K : Kmap} {V : Vmap} {x : Nat} {p0 : Int} {p1 : Int} {p2 : Int} {p3 : Int} (h_x : K x = some (0, 11)) (r_p0 : ir p0) (r_p1 : ir p1) (r_p2 : ir p2) (r_p3 : ir p3) : MC mX12_open K V [.ref x, ti p0, ti p1, ti p2, ti p3] (IS K (fun X V1 => (X = 0 ∨ X = 1) ∧ (X ≠ 0 → True) ∧ (X = 0 → True) ∧ (X ≠ 0 ↔ 0 ≤ p0 ∧ p0 ≤ 2 ∧ 0 ≤ p1 ∧ p1 < vi V x 137 ∧ 0 ≤ p2 ∧ p2 ≤ p3 ∧ p3 ≤ 359))) := by
  refine MC.start 0 (by decide +kernel) rfl rfl rfl (ls0 := [some (.ref x), some (ti p0), some (ti p1), some (ti p2), some (ti p3)]) rfl ?_
  refine GO.iload_n dX12_open_0 rfl rfl ?_
  refine GO.iconst dX12_open_1 ?_
  refine GO.iconst dX12_open_2 ?_
  refine GO.callS (N := mX12_in) dX12_open_3 gS_RX12_371 (t_X12_in r_p0 (ir_c rfl) (ir_c rfl)) rfl [] rfl rfl (Nat.le_of_ble_eq_true rfl) rfl (k_ip fun X1 r2 h3 => ?_)
  have raw_in := h3.2.2.2
  have rw3 := h3.2.2.2
  refine GO.if_eq (tgt := 44) dX12_open_6 (by decide) r2 (fun c4 => ?_) (fun c4 => ?_)
  ·
    have q5 := h3.2.2.1 (by omega)
    refine GO.iconst dX12_open_44 ?_
    exact GO.retz rfl rfl dX12_open_45 (Or.inl rfl) ⟨rfl, _, rfl, (ir_c rfl), ⟨Or.inl rfl, fun _ => trivial, fun _ => trivial, (by first | exact ⟨fun g => absurd rfl g, fun g => by omega⟩ | exact ⟨fun _ => by omega, fun _ => by omega⟩)⟩⟩
  ·
    have q6 := h3.2.1 (by omega)
    refine GO.iload_n dX12_open_9 rfl rfl ?_
    refine GO.if_lt (tgt := 44) dX12_open_10 (by decide) r_p1 (fun c7 => ?_) (fun c7 => ?_)
    ·
      refine GO.iconst dX12_open_44 ?_
      exact GO.retz rfl rfl dX12_open_45 (Or.inl rfl) ⟨rfl, _, rfl, (ir_c rfl), ⟨Or.inl rfl, fun _ => trivial, fun _ => trivial, (by first | exact ⟨fun g => absurd rfl g, fun g => by omega⟩ | exact ⟨fun _ => by omega, fun _ => by omega⟩)⟩⟩
    ·
      refine GO.iload_n dX12_open_13 rfl rfl ?_
      refine GO.aload_n dX12_open_14 rfl rfl ?_
      refine GO.getI h_x fl_RX12_736 rfl rfl dX12_open_15 (fun l8 u9 => ?_)
      refine GO.icmp_ge (tgt := 44) dX12_open_18 (by decide) r_p1 vi_ir (fun c10 => ?_) (fun c10 => ?_)
      ·
        refine GO.iconst dX12_open_44 ?_
        exact GO.retz rfl rfl dX12_open_45 (Or.inl rfl) ⟨rfl, _, rfl, (ir_c rfl), ⟨Or.inl rfl, fun _ => trivial, fun _ => trivial, (by first | exact ⟨fun g => absurd rfl g, fun g => by omega⟩ | exact ⟨fun _ => by omega, fun _ => by omega⟩)⟩⟩
      ·
        refine GO.iload_n dX12_open_21 rfl rfl ?_
        refine GO.iconst dX12_open_22 ?_
        refine GO.sipush dX12_open_23 rfl ?_
        refine GO.callS (N := mX12_in) dX12_open_26 gS_RX12_371 (t_X12_in r_p2 (ir_c rfl) (ir_c rfl)) rfl [] rfl rfl (Nat.le_of_ble_eq_true rfl) rfl (k_ip fun X11 r12 h13 => ?_)
        have raw_in := h13.2.2.2
        have rw26 := h13.2.2.2
        refine GO.if_eq (tgt := 44) dX12_open_29 (by decide) r12 (fun c14 => ?_) (fun c14 => ?_)
        ·
          have q15 := h13.2.2.1 (by omega)
          refine GO.iconst dX12_open_44 ?_
          exact GO.retz rfl rfl dX12_open_45 (Or.inl rfl) ⟨rfl, _, rfl, (ir_c rfl), ⟨Or.inl rfl, fun _ => trivial, fun _ => trivial, (by first | exact ⟨fun g => absurd rfl g, fun g => by omega⟩ | exact ⟨fun _ => by omega, fun _ => by omega⟩)⟩⟩
        ·
          have q16 := h13.2.1 (by omega)
          refine GO.iload dX12_open_32 rfl ?_
          refine GO.iload_n dX12_open_34 rfl rfl ?_
          refine GO.sipush dX12_open_35 rfl ?_
          refine GO.callS (N := mX12_in) dX12_open_38 gS_RX12_371 (t_X12_in r_p3 r_p2 (ir_c rfl)) rfl [] rfl rfl (Nat.le_of_ble_eq_true rfl) rfl (k_ip fun X17 r18 h19 => ?_)
          have raw_in := h19.2.2.2
          have rw38 := h19.2.2.2
          refine GO.if_ne (tgt := 46) dX12_open_41 (by decide) r18 (fun c20 => ?_) (fun c20 => ?_)
          ·
            have q21 := h19.2.1 (by omega)
            refine GO.aload_n dX12_open_46 rfl rfl ?_
            refine GO.getA (n := 24) h_x fl_RX12_334 rfl rfl rfl rfl dX12_open_47 (fun hv23 h22 => ?_)
            refine GO.bipush dX12_open_50 rfl ?_
            refine GO.iload_n dX12_open_52 rfl rfl ?_
            refine GO.imul dX12_open_53 ?_
            refine GO.iload_n dX12_open_54 rfl rfl ?_
            refine GO.iadd dX12_open_55 ?_
            refine GO.iload_n dX12_open_56 rfl rfl ?_
            have q24 : -2147483648 ≤ p1 ∧ p1 ≤ 2147483647 := r_p1
            have q25 : -2147483648 ≤ vi V x 137 ∧ vi V x 137 ≤ 2147483647 := vi_ir
            have q26 : -2147483648 ≤ p0 ∧ p0 ≤ 2147483647 := r_p0
            refine GO.iast (t := 113) rfl rfl (by decide +kernel) h22 ⟨by omega, by omega⟩ (by omega) (by omega) r_p2 (r_p2).1 (r_p2).2 dX12_open_57 (fun V28 e27 => ?_)
            refine GO.aload_n dX12_open_58 rfl rfl ?_
            refine GO.getA (n := 24) h_x fl_RX12_337 rfl rfl rfl rfl dX12_open_59 (fun hv30 h29 => ?_)
            refine GO.bipush dX12_open_62 rfl ?_
            refine GO.iload_n dX12_open_64 rfl rfl ?_
            refine GO.imul dX12_open_65 ?_
            refine GO.iload_n dX12_open_66 rfl rfl ?_
            refine GO.iadd dX12_open_67 ?_
            refine GO.iload dX12_open_68 rfl ?_
            refine GO.iast (t := 114) rfl rfl (by decide +kernel) h29 ⟨by omega, by omega⟩ (by omega) (by omega) r_p3 (r_p3).1 (r_p3).2 dX12_open_70 (fun V32 e31 => ?_)
            refine GO.iconst dX12_open_71 ?_
            exact GO.retz rfl rfl dX12_open_72 (Or.inr rfl) ⟨rfl, _, rfl, (ir_c rfl), ⟨Or.inr rfl, fun _ => trivial, fun _ => trivial, (by first | exact ⟨fun g => absurd rfl g, fun g => by omega⟩ | exact ⟨fun _ => by omega, fun _ => by omega⟩)⟩⟩
          ·
            have q33 := h19.2.2.1 (by omega)
            refine GO.iconst dX12_open_44 ?_
            exact GO.retz rfl rfl dX12_open_45 (Or.inl rfl) ⟨rfl, _, rfl, (ir_c rfl), ⟨Or.inl rfl, fun _ => trivial, fun _ => trivial, (by first | exact ⟨fun g => absurd rfl g, fun g => by omega⟩ | exact ⟨fun _ => by omega, fun _ => by omega⟩)⟩⟩

set_option maxHeartbeats 1000000 in
theorem t_X12_endOf {K : Kmap} {V : Vmap} {x : Nat} {p0 : Int} {p1 : Int} (h_x : K x = some (0, 11)) (r_p0 : ir p0) (r_p1 : ir p1) (q_0 : p0 ≥ 0) (q_1 : p0 ≤ 2) : MC mX12_endOf K V [.ref x, ti p0, ti p1] (IP K V (fun X => True)) := by
  refine MC.start 3 (by decide +kernel) rfl rfl rfl (ls0 := [some (.ref x), some (ti p0), some (ti p1), none, none, none]) rfl ?_
  refine GO.iload_n dX12_endOf_0 rfl rfl ?_
  refine GO.istore_n (ls1 := [some (.ref x), some (ti p0), some (ti p1), some (ti p1), none, none]) dX12_endOf_1 rfl rfl rfl ?_
  refine GO.iconst dX12_endOf_2 ?_
  refine GO.istore (ls1 := [some (.ref x), some (ti p0), some (ti p1), some (ti p1), some (ti 0), none]) dX12_endOf_3 rfl rfl ?_
  have q383 : -2147483648 ≤ p1 ∧ p1 ≤ 2147483647 := r_p1
  refine GO.loop2 (fun i1 i2 W => (-2147483648) ≤ i1 ∧ i1 ≤ 2147483647 ∧ 0 ≤ i2 ∧ i2 ≤ 8 ∧ V = W) (fun i1 i2 => [some (.ref x), some (ti p0), some (ti p1), some (ti i1), some (ti i2), none]) (fun i1 i2 W => (2147483647 - i2).toNat) p1 0 ⟨by omega, by omega, by omega, by omega, rfl⟩ rfl (fun i1 i2 V382 hp385 ih384 => ?_)
  obtain ⟨l_i1, u_i1, l_i2, u_i2, rfl⟩ := hp385
  have r_i1 : ir i1 := ⟨by omega, by omega⟩
  have r_i2 : ir i2 := ⟨by omega, by omega⟩
  show GO mX12_endOf K V (IP K V (fun X => True)) K V 0 0 5 [some (.ref x), some (ti p0), some (ti p1), some (ti i1), some (ti i2), none] []
  refine GO.iload dX12_endOf_5 rfl ?_
  refine GO.aload_n dX12_endOf_7 rfl rfl ?_
  refine GO.getI h_x fl_RX12_736 rfl rfl dX12_endOf_8 (fun l386 u387 => ?_)
  refine GO.icmp_ge (tgt := 120) dX12_endOf_11 (by decide) r_i2 vi_ir (fun c388 => ?_) (fun c388 => ?_)
  ·
    refine GO.iload_n dX12_endOf_120 rfl rfl ?_
    exact GO.reti rfl rfl dX12_endOf_121 ⟨rfl, rfl, _, rfl, r_i1, trivial⟩
  ·
    refine GO.iload dX12_endOf_14 rfl ?_
    have hj421 : ∀ (z420 : Int), ∀ (l422 : (-2147483648) ≤ z420), ∀ (u423 : z420 ≤ 2147483647), GO mX12_endOf K V (IP K V (fun X => True)) K V 0 0 64 [some (.ref x), some (ti p0), some (ti p1), some (ti z420), some (ti i2), none] [] := by
      intro z420 l422 u423
      have r424 : ir z420 := ⟨by omega, by omega⟩
      refine GO.bipush dX12_endOf_64 rfl ?_
      refine GO.iload_n dX12_endOf_66 rfl rfl ?_
      refine GO.imul dX12_endOf_67 ?_
      refine GO.aload_n dX12_endOf_68 rfl rfl ?_
      refine GO.getA (n := 8) h_x fl_RX12_340 rfl rfl rfl rfl dX12_endOf_69 (fun hv426 h425 => ?_)
      refine GO.iload dX12_endOf_72 rfl ?_
      refine GO.iald (t := 115) rfl rfl h425 r_i2 (by omega) (by omega) dX12_endOf_74 (fun l427 u428 => ?_)
      refine GO.iadd dX12_endOf_75 ?_
      refine GO.name (fun z429 hz430 => ?_)
      refine GO.istore (ls1 := [some (.ref x), some (ti p0), some (ti p1), some (ti z420), some (ti i2), some (ti z429)]) dX12_endOf_76 rfl rfl ?_
      refine GO.iload_n dX12_endOf_78 rfl rfl ?_
      refine GO.aload_n dX12_endOf_79 rfl rfl ?_
      refine GO.getA (n := 24) h_x fl_RX12_337 rfl rfl rfl rfl dX12_endOf_80 (fun hv432 h431 => ?_)
      refine GO.iload dX12_endOf_83 rfl ?_
      have q433 : -2147483648 ≤ p0 ∧ p0 ≤ 2147483647 := r_p0
      refine GO.iald (t := 114) rfl rfl h431 ⟨by omega, by omega⟩ (by omega) (by omega) dX12_endOf_85 (fun _ _ => ?_)
      refine GO.icmp_le (tgt := 91) dX12_endOf_86 (by decide) r424 vi_ir (fun c434 => ?_) (fun c434 => ?_)
      ·
        refine GO.iload_n dX12_endOf_91 rfl rfl ?_
        refine GO.aload_n dX12_endOf_92 rfl rfl ?_
        refine GO.getA (n := 24) h_x fl_RX12_334 rfl rfl rfl rfl dX12_endOf_93 (fun hv436 h435 => ?_)
        refine GO.iload dX12_endOf_96 rfl ?_
        refine GO.iald (t := 113) rfl rfl h435 ⟨by omega, by omega⟩ (by omega) (by omega) dX12_endOf_98 (fun _ _ => ?_)
        refine GO.icmp_ge (tgt := 112) dX12_endOf_99 (by decide) r424 vi_ir (fun c437 => ?_) (fun c437 => ?_)
        ·
          refine GO.iload_n dX12_endOf_112 rfl rfl ?_
          refine GO.istore_n (ls1 := [some (.ref x), some (ti p0), some (ti p1), some (ti z420), some (ti i2), some (ti z429)]) dX12_endOf_113 rfl rfl rfl ?_
          refine GO.iinc (X := i2) (n := 1) (Y := i2 + 1) (ls1 := [some (.ref x), some (ti p0), some (ti p1), some (ti z420), some (ti (i2 + 1)), some (ti z429)]) dX12_endOf_114 rfl rfl rfl rfl ?_
          refine GO.goto (tgt := 5) dX12_endOf_117 (by decide) ?_
          refine GO.drop [true, true, true, true, true, false] rfl ?_
          have q438 : -2147483648 ≤ vi V (vq V x 141) (z429).toNat ∧ vi V (vq V x 141) (z429).toNat ≤ 2147483647 := vi_ir
          have q439 : -2147483648 ≤ vi V (vq V x 142) (z429).toNat ∧ vi V (vq V x 142) (z429).toNat ≤ 2147483647 := vi_ir
          exact ih384 z420 (i2 + 1) V ⟨by omega, by omega, by omega, by omega, rfl⟩ (by show (2147483647 - (i2 + 1)).toNat < (2147483647 - i2).toNat; omega)
        ·
          refine GO.aload_n dX12_endOf_102 rfl rfl ?_
          refine GO.getRaw h_x fl_RX12_334 hv436 dX12_endOf_103 ?_
          refine GO.iload dX12_endOf_106 rfl ?_
          refine GO.iald (t := 113) rfl rfl h435 ⟨by omega, by omega⟩ (by omega) (by omega) dX12_endOf_108 (fun _ _ => ?_)
          refine GO.goto (tgt := 113) dX12_endOf_109 (by decide) ?_
          refine GO.name (fun z442 hz443 => ?_)
          have r444 : ir z442 := hz443 ▸ vi_ir
          refine GO.istore_n (ls1 := [some (.ref x), some (ti p0), some (ti p1), some (ti z442), some (ti i2), some (ti z429)]) dX12_endOf_113 rfl rfl rfl ?_
          refine GO.iinc (X := i2) (n := 1) (Y := i2 + 1) (ls1 := [some (.ref x), some (ti p0), some (ti p1), some (ti z442), some (ti (i2 + 1)), some (ti z429)]) dX12_endOf_114 rfl rfl rfl rfl ?_
          refine GO.goto (tgt := 5) dX12_endOf_117 (by decide) ?_
          refine GO.drop [true, true, true, true, true, false] rfl ?_
          have q445 : -2147483648 ≤ z442 ∧ z442 ≤ 2147483647 := r444
          have q446 : -2147483648 ≤ vi V (vq V x 141) (z429).toNat ∧ vi V (vq V x 141) (z429).toNat ≤ 2147483647 := vi_ir
          have q447 : -2147483648 ≤ vi V (vq V x 142) (z429).toNat ∧ vi V (vq V x 142) (z429).toNat ≤ 2147483647 := vi_ir
          exact ih384 z442 (i2 + 1) V ⟨by omega, by omega, by omega, by omega, rfl⟩ (by show (2147483647 - (i2 + 1)).toNat < (2147483647 - i2).toNat; omega)
      ·
        refine GO.iconst dX12_endOf_89 ?_
        exact GO.reti rfl rfl dX12_endOf_90 ⟨rfl, rfl, _, rfl, (ir_c rfl), trivial⟩
    refine GO.if_le (tgt := 64) dX12_endOf_16 (by decide) r_i2 (fun c448 => ?_) (fun c448 => ?_)
    ·
      exact hj421 i1 (by omega) (by omega)
    ·
      refine GO.iload_n dX12_endOf_19 rfl rfl ?_
      refine GO.iconst dX12_endOf_20 ?_
      refine GO.aload_n dX12_endOf_21 rfl rfl ?_
      refine GO.aload_n dX12_endOf_22 rfl rfl ?_
      refine GO.getA (n := 60) h_x fl_RX12_41 rfl rfl rfl rfl dX12_endOf_23 (fun hv450 h449 => ?_)
      refine GO.aload_n dX12_endOf_26 rfl rfl ?_
      refine GO.getA (n := 8) h_x fl_RX12_328 rfl rfl rfl rfl dX12_endOf_27 (fun hv452 h451 => ?_)
      refine GO.aload_n dX12_endOf_30 rfl rfl ?_
      refine GO.getA (n := 8) h_x fl_RX12_340 rfl rfl rfl rfl dX12_endOf_31 (fun hv454 h453 => ?_)
      refine GO.iload dX12_endOf_34 rfl ?_
      refine GO.iconst dX12_endOf_36 ?_
      refine GO.isub dX12_endOf_37 ?_
      refine GO.iald (t := 115) rfl rfl h453 ⟨by omega, by omega⟩ (by omega) (by omega) dX12_endOf_38 (fun l455 u456 => ?_)
      refine GO.iald (t := 111) rfl rfl h451 vi_ir (by omega) (by omega) dX12_endOf_39 (fun l457 u458 => ?_)
      refine GO.iald (t := 17) rfl rfl h449 vi_ir (by omega) (by omega) dX12_endOf_40 (fun l459 u460 => ?_)
      refine GO.aload_n dX12_endOf_41 rfl rfl ?_
      refine GO.getRaw h_x fl_RX12_41 hv450 dX12_endOf_42 ?_
      refine GO.aload_n dX12_endOf_45 rfl rfl ?_
      refine GO.getRaw h_x fl_RX12_328 hv452 dX12_endOf_46 ?_
      refine GO.aload_n dX12_endOf_49 rfl rfl ?_
      refine GO.getRaw h_x fl_RX12_340 hv454 dX12_endOf_50 ?_
      refine GO.iload dX12_endOf_53 rfl ?_
      refine GO.iald (t := 115) rfl rfl h453 r_i2 (by omega) (by omega) dX12_endOf_55 (fun l467 u468 => ?_)
      refine GO.iald (t := 111) rfl rfl h451 vi_ir (by omega) (by omega) dX12_endOf_56 (fun l469 u470 => ?_)
      refine GO.iald (t := 17) rfl rfl h449 vi_ir (by omega) (by omega) dX12_endOf_57 (fun l471 u472 => ?_)
      refine GO.callV (ci := 11) (N := mX12_far) dX12_endOf_58 (RX12, TX12, 151) rfl gV_RX12_389 h_x (t_X12_far h_x vi_ir vi_ir (by omega) (by omega) (by omega) (by omega)) rfl [ti 2, ti i1] rfl rfl (Nat.le_of_ble_eq_true rfl) rfl (k_ip fun X473 r474 h475 => ?_)
      refine GO.imul dX12_endOf_61 ?_
      refine GO.iadd dX12_endOf_62 ?_
      refine GO.norm (fun z476 r477 hn478 => ?_)
      refine GO.istore_n (ls1 := [some (.ref x), some (ti p0), some (ti p1), some (ti z476), some (ti i2), none]) dX12_endOf_63 rfl rfl rfl ?_
      have q479 : -2147483648 ≤ z476 ∧ z476 ≤ 2147483647 := r477
      exact hj421 z476 (by omega) (by omega)

set_option maxHeartbeats 1000000 in
theorem t_X12_worstEnd {K : Kmap} {V : Vmap} {x : Nat} {p0 : Int} (h_x : K x = some (0, 11)) (r_p0 : ir p0) : MC mX12_worstEnd K V [.ref x, ti p0] (IP K V (fun X => True)) := by
  refine MC.start 3 (by decide +kernel) rfl rfl rfl (ls0 := [some (.ref x), some (ti p0), none, none, none]) rfl ?_
  refine GO.iconst dX12_worstEnd_0 ?_
  refine GO.istore_n (ls1 := [some (.ref x), some (ti p0), some (ti (-1)), none, none]) dX12_worstEnd_1 rfl rfl rfl ?_
  refine GO.iconst dX12_worstEnd_2 ?_
  refine GO.istore_n (ls1 := [some (.ref x), some (ti p0), some (ti (-1)), some (ti 0), none]) dX12_worstEnd_3 rfl rfl rfl ?_
  refine GO.loop2 (fun i1 i2 W => (-1) ≤ i1 ∧ i1 ≤ 2147483647 ∧ 0 ≤ i2 ∧ i2 ≤ 3 ∧ V = W) (fun i1 i2 => [some (.ref x), some (ti p0), some (ti i1), some (ti i2), none]) (fun i1 i2 W => (2147483647 - i2).toNat) (-1) 0 ⟨by omega, by omega, by omega, by omega, rfl⟩ rfl (fun i1 i2 V135 hp137 ih136 => ?_)
  obtain ⟨l_i1, u_i1, l_i2, u_i2, rfl⟩ := hp137
  have r_i1 : ir i1 := ⟨by omega, by omega⟩
  have r_i2 : ir i2 := ⟨by omega, by omega⟩
  show GO mX12_worstEnd K V (IP K V (fun X => True)) K V 0 0 4 [some (.ref x), some (ti p0), some (ti i1), some (ti i2), none] []
  refine GO.iload_n dX12_worstEnd_4 rfl rfl ?_
  refine GO.iconst dX12_worstEnd_5 ?_
  refine GO.icmp_ge (tgt := 44) dX12_worstEnd_6 (by decide) r_i2 (ir_c rfl) (fun c138 => ?_) (fun c138 => ?_)
  ·
    refine GO.iload_n dX12_worstEnd_44 rfl rfl ?_
    exact GO.reti rfl rfl dX12_worstEnd_45 ⟨rfl, rfl, _, rfl, r_i1, trivial⟩
  ·
    refine GO.aload_n dX12_worstEnd_9 rfl rfl ?_
    refine GO.iload_n dX12_worstEnd_10 rfl rfl ?_
    refine GO.iload_n dX12_worstEnd_11 rfl rfl ?_
    refine GO.callV (ci := 11) (N := mX12_endOf) dX12_worstEnd_12 (RX12, TX12, 151) rfl gV_RX12_739 h_x (t_X12_endOf h_x r_i2 r_p0 (by omega) (by omega)) rfl [] rfl rfl (Nat.le_of_ble_eq_true rfl) rfl (k_ip fun X139 r140 h141 => ?_)
    refine GO.istore (ls1 := [some (.ref x), some (ti p0), some (ti i1), some (ti i2), some (ti X139)]) dX12_worstEnd_15 rfl rfl ?_
    refine GO.iload dX12_worstEnd_17 rfl ?_
    refine GO.iconst dX12_worstEnd_19 ?_
    refine GO.icmp_ne (tgt := 25) dX12_worstEnd_20 (by decide) r140 (ir_c rfl) (fun c142 => ?_) (fun c142 => ?_)
    ·
      refine GO.iload dX12_worstEnd_25 rfl ?_
      refine GO.iload_n dX12_worstEnd_27 rfl rfl ?_
      refine GO.icmp_le (tgt := 36) dX12_worstEnd_28 (by decide) r140 r_i1 (fun c143 => ?_) (fun c143 => ?_)
      ·
        refine GO.iload_n dX12_worstEnd_36 rfl rfl ?_
        refine GO.istore_n (ls1 := [some (.ref x), some (ti p0), some (ti i1), some (ti i2), some (ti X139)]) dX12_worstEnd_37 rfl rfl rfl ?_
        refine GO.iinc (X := i2) (n := 1) (Y := i2 + 1) (ls1 := [some (.ref x), some (ti p0), some (ti i1), some (ti (i2 + 1)), some (ti X139)]) dX12_worstEnd_38 rfl rfl rfl rfl ?_
        refine GO.goto (tgt := 4) dX12_worstEnd_41 (by decide) ?_
        refine GO.drop [true, true, true, true, false] rfl ?_
        have q144 : -2147483648 ≤ X139 ∧ X139 ≤ 2147483647 := r140
        exact ih136 i1 (i2 + 1) V ⟨by omega, by omega, by omega, by omega, rfl⟩ (by show (2147483647 - (i2 + 1)).toNat < (2147483647 - i2).toNat; omega)
      ·
        refine GO.iload dX12_worstEnd_31 rfl ?_
        refine GO.goto (tgt := 37) dX12_worstEnd_33 (by decide) ?_
        refine GO.istore_n (ls1 := [some (.ref x), some (ti p0), some (ti X139), some (ti i2), some (ti X139)]) dX12_worstEnd_37 rfl rfl rfl ?_
        refine GO.iinc (X := i2) (n := 1) (Y := i2 + 1) (ls1 := [some (.ref x), some (ti p0), some (ti X139), some (ti (i2 + 1)), some (ti X139)]) dX12_worstEnd_38 rfl rfl rfl rfl ?_
        refine GO.goto (tgt := 4) dX12_worstEnd_41 (by decide) ?_
        refine GO.drop [true, true, true, true, false] rfl ?_
        have q145 : -2147483648 ≤ X139 ∧ X139 ≤ 2147483647 := r140
        exact ih136 X139 (i2 + 1) V ⟨by omega, by omega, by omega, by omega, rfl⟩ (by show (2147483647 - (i2 + 1)).toNat < (2147483647 - i2).toNat; omega)
    ·
      refine GO.iconst dX12_worstEnd_23 ?_
      exact GO.reti rfl rfl dX12_worstEnd_24 ⟨rfl, rfl, _, rfl, (ir_c rfl), trivial⟩

set_option maxHeartbeats 1000000 in
theorem t_X12_swaps {K : Kmap} {V : Vmap} {x : Nat} {p0 : Int} {p1 : Int} (h_x : K x = some (0, 11)) (r_p0 : ir p0) (r_p1 : ir p1) (q_0 : p0 ≥ 0) (q_1 : p0 ≤ 7) (q_2 : p1 ≥ 0) (q_3 : p1 ≤ 7) : MC mX12_swaps K V [.ref x, ti p0, ti p1] (VS K (fun V1 => (True) ∧ (SWP V V1 x p0 p1))) := by
  refine MC.start 1 (by decide +kernel) rfl rfl rfl (ls0 := [some (.ref x), some (ti p0), some (ti p1), none]) rfl ?_
  refine GO.aload_n dX12_swaps_0 rfl rfl ?_
  refine GO.getA (n := 8) h_x fl_RX12_340 rfl rfl rfl rfl dX12_swaps_1 (fun hv2 h1 => ?_)
  refine GO.iload_n dX12_swaps_4 rfl rfl ?_
  have q3 : -2147483648 ≤ p0 ∧ p0 ≤ 2147483647 := r_p0
  refine GO.iald (t := 115) rfl rfl h1 r_p0 (by omega) (by omega) dX12_swaps_5 (fun l4 u5 => ?_)
  refine GO.name (fun z6 hz7 => ?_)
  have r8 : ir z6 := hz7 ▸ vi_ir
  refine GO.istore_n (ls1 := [some (.ref x), some (ti p0), some (ti p1), some (ti z6)]) dX12_swaps_6 rfl rfl rfl ?_
  refine GO.aload_n dX12_swaps_7 rfl rfl ?_
  refine GO.getRaw h_x fl_RX12_340 hv2 dX12_swaps_8 ?_
  refine GO.iload_n dX12_swaps_11 rfl rfl ?_
  refine GO.aload_n dX12_swaps_12 rfl rfl ?_
  refine GO.getRaw h_x fl_RX12_340 hv2 dX12_swaps_13 ?_
  refine GO.iload_n dX12_swaps_16 rfl rfl ?_
  have q13 : -2147483648 ≤ p1 ∧ p1 ≤ 2147483647 := r_p1
  refine GO.iald (t := 115) rfl rfl h1 r_p1 (by omega) (by omega) dX12_swaps_17 (fun l14 u15 => ?_)
  refine GO.iast (t := 115) rfl rfl (by decide +kernel) h1 r_p0 (by omega) (by omega) vi_ir (by omega) (by omega) dX12_swaps_18 (fun V17 e16 => ?_)
  refine GO.aload_n dX12_swaps_19 rfl rfl ?_
  refine GO.getRaw h_x fl_RX12_340 (Eq.trans (uq_ne e16 (Or.inl (K_ne h_x h1 (by decide)))) hv2) dX12_swaps_20 ?_
  refine GO.iload_n dX12_swaps_23 rfl rfl ?_
  refine GO.iload_n dX12_swaps_24 rfl rfl ?_
  refine GO.iast (t := 115) rfl rfl (by decide +kernel) h1 r_p1 (by omega) (by omega) r8 (by omega) (by omega) dX12_swaps_25 (fun V21 e20 => ?_)
  exact GO.retv rfl rfl dX12_swaps_26 ⟨rfl, rfl, ⟨trivial, swp_of e16 e20 hz7 h_x h1 vi_ir r8⟩⟩

set_option maxHeartbeats 1000000 in
theorem t_X12_nextOrder {K : Kmap} {V : Vmap} {x : Nat} (h_x : K x = some (0, 11)) (w_0 : oinj V x (vi V x 137)) : MC mX12_nextOrder K V [.ref x] (IS K (fun X V1 => (X = 0 ∨ X = 1) ∧ (X ≠ 0 → True) ∧ (X = 0 → True) ∧ (NXO V V1 x X))) := by
  refine MC.start 4 (by decide +kernel) rfl rfl rfl (ls0 := [some (.ref x), none, none, none, none]) rfl ?_
  refine GO.aload_n dX12_nextOrder_0 rfl rfl ?_
  refine GO.getI h_x fl_RX12_736 rfl rfl dX12_nextOrder_1 (fun l1 u2 => ?_)
  refine GO.iconst dX12_nextOrder_4 ?_
  refine GO.isub dX12_nextOrder_5 ?_
  refine GO.name (fun z3 hz4 => ?_)
  refine GO.istore_n (ls1 := [some (.ref x), some (ti z3), none, none, none]) dX12_nextOrder_6 rfl rfl rfl ?_
  refine GO.loop1 (fun i5 W => (-2) ≤ i5 ∧ i5 ≤ 6 ∧ (i5 ≤ (vi W x 137 - 2)) ∧ V = W) (fun i5 => [some (.ref x), some (ti i5), none, none, none]) (fun i5 W => (i5 + 2147483648).toNat) z3 ⟨by omega, by omega, by omega, rfl⟩ rfl (fun i5 V151 hp153 ih152 => ?_)
  obtain ⟨l_i5, u_i5, n_i5, rfl⟩ := hp153
  have r_i5 : ir i5 := ⟨by omega, by omega⟩
  show GO mX12_nextOrder K V (IS K (fun X V1 => (X = 0 ∨ X = 1) ∧ (X ≠ 0 → True) ∧ (X = 0 → True) ∧ (NXO V V1 x X))) K V 0 0 7 [some (.ref x), some (ti i5), none, none, none] []
  refine GO.iload_n dX12_nextOrder_7 rfl rfl ?_
  refine GO.if_lt (tgt := 35) dX12_nextOrder_8 (by decide) r_i5 (fun c154 => ?_) (fun c154 => ?_)
  ·
    refine GO.iload_n dX12_nextOrder_35 rfl rfl ?_
    refine GO.if_ge (tgt := 41) dX12_nextOrder_36 (by decide) r_i5 (fun h => by exfalso; omega) (fun c155 => ?_)
    refine GO.iconst dX12_nextOrder_39 ?_
    exact GO.retz rfl rfl dX12_nextOrder_40 (Or.inl rfl) ⟨rfl, _, rfl, (ir_c rfl), ⟨Or.inl rfl, fun _ => trivial, fun _ => trivial, nxo_0 w_0⟩⟩
  ·
    refine GO.aload_n dX12_nextOrder_11 rfl rfl ?_
    refine GO.getA (n := 8) h_x fl_RX12_340 rfl rfl rfl rfl dX12_nextOrder_12 (fun hv157 h156 => ?_)
    refine GO.iload_n dX12_nextOrder_15 rfl rfl ?_
    refine GO.iald (t := 115) rfl rfl h156 r_i5 (by omega) (by omega) dX12_nextOrder_16 (fun l158 u159 => ?_)
    refine GO.aload_n dX12_nextOrder_17 rfl rfl ?_
    refine GO.getRaw h_x fl_RX12_340 hv157 dX12_nextOrder_18 ?_
    refine GO.iload_n dX12_nextOrder_21 rfl rfl ?_
    refine GO.iconst dX12_nextOrder_22 ?_
    refine GO.iadd dX12_nextOrder_23 ?_
    refine GO.iald (t := 115) rfl rfl h156 ⟨by omega, by omega⟩ (by omega) (by omega) dX12_nextOrder_24 (fun l162 u163 => ?_)
    refine GO.icmp_le (tgt := 35) dX12_nextOrder_25 (by decide) vi_ir vi_ir (fun c164 => ?_) (fun c164 => ?_)
    ·
      refine GO.iload_n dX12_nextOrder_35 rfl rfl ?_
      refine GO.if_ge (tgt := 41) dX12_nextOrder_36 (by decide) r_i5 (fun c165 => ?_) (fun h => by exfalso; omega)
      refine GO.aload_n dX12_nextOrder_41 rfl rfl ?_
      refine GO.getI h_x fl_RX12_736 rfl rfl dX12_nextOrder_42 (fun l166 u167 => ?_)
      refine GO.iconst dX12_nextOrder_45 ?_
      refine GO.isub dX12_nextOrder_46 ?_
      refine GO.name (fun z168 hz169 => ?_)
      refine GO.istore_n (ls1 := [some (.ref x), some (ti i5), some (ti z168), none, none]) dX12_nextOrder_47 rfl rfl rfl ?_
      refine GO.loop1 (fun i170 W => 0 ≤ i170 ∧ i170 ≤ 7 ∧ (i170 ≥ (i5 + 1) ∧ i170 < vi W x 137) ∧ V = W) (fun i170 => [some (.ref x), some (ti i5), some (ti i170), none, none]) (fun i170 W => (i170 + 2147483648).toNat) z168 ⟨by omega, by omega, by omega, rfl⟩ rfl (fun i170 V253 hp255 ih254 => ?_)
      obtain ⟨l_i170, u_i170, n_i170, rfl⟩ := hp255
      have r_i170 : ir i170 := ⟨by omega, by omega⟩
      show GO mX12_nextOrder K V (IS K (fun X V1 => (X = 0 ∨ X = 1) ∧ (X ≠ 0 → True) ∧ (X = 0 → True) ∧ (NXO V V1 x X))) K V 0 0 48 [some (.ref x), some (ti i5), some (ti i170), none, none] []
      refine GO.aload_n dX12_nextOrder_48 rfl rfl ?_
      refine GO.getRaw h_x fl_RX12_340 hv157 dX12_nextOrder_49 ?_
      refine GO.iload_n dX12_nextOrder_52 rfl rfl ?_
      refine GO.iald (t := 115) rfl rfl h156 r_i170 (by omega) (by omega) dX12_nextOrder_53 (fun l258 u259 => ?_)
      refine GO.aload_n dX12_nextOrder_54 rfl rfl ?_
      refine GO.getRaw h_x fl_RX12_340 hv157 dX12_nextOrder_55 ?_
      refine GO.iload_n dX12_nextOrder_58 rfl rfl ?_
      refine GO.iald (t := 115) rfl rfl h156 r_i5 (by omega) (by omega) dX12_nextOrder_59 (fun l262 u263 => ?_)
      refine GO.icmp_ge (tgt := 70) dX12_nextOrder_60 (by decide) vi_ir vi_ir (fun c264 => ?_) (fun c264 => ?_)
      ·
        refine GO.aload_n dX12_nextOrder_70 rfl rfl ?_
        refine GO.iload_n dX12_nextOrder_71 rfl rfl ?_
        refine GO.iload_n dX12_nextOrder_72 rfl rfl ?_
        refine GO.callV (ci := 11) (N := mX12_swaps) dX12_nextOrder_73 (RX12, TX12, 151) rfl gV_RX12_742 h_x (t_X12_swaps h_x r_i5 r_i170 (by omega) (by omega) (by omega) (by omega)) rfl [] rfl rfl (Nat.le_of_ble_eq_true rfl) rfl (k_vs fun V267 h266 hF265 => ?_)
        have raw_swaps := h266.2
        have rw73 := h266.2
        refine GO.iload_n dX12_nextOrder_76 rfl rfl ?_
        refine GO.iconst dX12_nextOrder_77 ?_
        refine GO.iadd dX12_nextOrder_78 ?_
        refine GO.name (fun z268 hz269 => ?_)
        refine GO.istore_n (ls1 := [some (.ref x), some (ti i5), some (ti i170), some (ti z268), none]) dX12_nextOrder_79 rfl rfl rfl ?_
        refine GO.aload_n dX12_nextOrder_80 rfl rfl ?_
        refine GO.getI h_x fl_RX12_736 rfl rfl dX12_nextOrder_81 (fun l270 u271 => ?_)
        have e272 : vi V267 x 137 = vi V x 137 := vi_fr hF265 h_x h_x (by decide +kernel)
        refine GO.iconst dX12_nextOrder_84 ?_
        refine GO.isub dX12_nextOrder_85 ?_
        refine GO.name (fun z273 hz274 => ?_)
        refine GO.istore (ls1 := [some (.ref x), some (ti i5), some (ti i170), some (ti z268), some (ti z273)]) dX12_nextOrder_86 rfl rfl ?_
        refine GO.loop2 (fun i275 i276 W => 1 ≤ i275 ∧ i275 ≤ 7 ∧ 1 ≤ i276 ∧ i276 ≤ 7 ∧ (i275 ≥ (i5 + 1) ∧ i276 < vi V267 x 137) ∧ (NXI V267 W x i5) ∧ True) (fun i275 i276 => [some (.ref x), some (ti i5), some (ti i170), some (ti i275), some (ti i276)]) (fun i275 i276 W => ((i276 - i275)).toNat) z268 z273 ⟨by omega, by omega, by omega, by omega, by omega, nxi_rf (by rw [raw_swaps.1]; exact swp_inj raw_swaps w_0 ⟨by omega, by omega⟩ ⟨by omega, by omega⟩), trivial⟩ rfl (fun i275 i276 Wi275 hp286 ih285 => ?_)
        obtain ⟨l_i275, u_i275, l_i276, u_i276, n_i275, w0_i275, -⟩ := hp286
        have r_i275 : ir i275 := ⟨by omega, by omega⟩
        have r_i276 : ir i276 := ⟨by omega, by omega⟩
        show GO mX12_nextOrder K V (IS K (fun X V1 => (X = 0 ∨ X = 1) ∧ (X ≠ 0 → True) ∧ (X = 0 → True) ∧ (NXO V V1 x X))) K Wi275 0 0 88 [some (.ref x), some (ti i5), some (ti i170), some (ti i275), some (ti i276)] []
        refine GO.iload_n dX12_nextOrder_88 rfl rfl ?_
        refine GO.iload dX12_nextOrder_89 rfl ?_
        refine GO.icmp_ge (tgt := 114) dX12_nextOrder_91 (by decide) r_i275 r_i276 (fun c287 => ?_) (fun c287 => ?_)
        ·
          refine GO.iconst dX12_nextOrder_114 ?_
          exact GO.retz rfl rfl dX12_nextOrder_115 (Or.inr rfl) ⟨rfl, _, rfl, (ir_c rfl), ⟨Or.inr rfl, fun _ => trivial, fun _ => trivial, nxo_1 w_0 raw_swaps (by assumption) (by omega) (by omega) (by omega) (by assumption)⟩⟩
        ·
          refine GO.aload_n dX12_nextOrder_94 rfl rfl ?_
          refine GO.iload_n dX12_nextOrder_95 rfl rfl ?_
          refine GO.iload dX12_nextOrder_96 rfl ?_
          refine GO.callV (ci := 11) (N := mX12_swaps) dX12_nextOrder_98 (RX12, TX12, 151) rfl gV_RX12_742 h_x (t_X12_swaps h_x r_i275 r_i276 (by omega) (by omega) (by omega) (by omega)) rfl [] rfl rfl (Nat.le_of_ble_eq_true rfl) rfl (k_vs fun V290 h289 hF288 => ?_)
          have raw_swaps := h289.2
          have rw98 := h289.2
          refine GO.iload_n dX12_nextOrder_101 rfl rfl ?_
          refine GO.iconst dX12_nextOrder_102 ?_
          refine GO.iadd dX12_nextOrder_103 ?_
          refine GO.name (fun z291 hz292 => ?_)
          refine GO.istore_n (ls1 := [some (.ref x), some (ti i5), some (ti i170), some (ti z291), some (ti i276)]) dX12_nextOrder_104 rfl rfl rfl ?_
          refine GO.iload dX12_nextOrder_105 rfl ?_
          refine GO.iconst dX12_nextOrder_107 ?_
          refine GO.isub dX12_nextOrder_108 ?_
          refine GO.name (fun z293 hz294 => ?_)
          refine GO.istore (ls1 := [some (.ref x), some (ti i5), some (ti i170), some (ti z291), some (ti z293)]) dX12_nextOrder_109 rfl rfl ?_
          refine GO.goto (tgt := 88) dX12_nextOrder_111 (by decide) ?_
          exact ih285 z291 z293 V290 ⟨by omega, by omega, by omega, by omega, by omega, nxi_step (by assumption) raw_swaps (by omega) (by omega) (by omega) (by omega), trivial⟩ (by show ((z293 - z291)).toNat < ((i276 - i275)).toNat; omega)
      ·
        have hne : i170 ≠ i5 + 1 := by intro h; subst h; omega
        refine GO.iload_n dX12_nextOrder_63 rfl rfl ?_
        refine GO.iconst dX12_nextOrder_64 ?_
        refine GO.isub dX12_nextOrder_65 ?_
        refine GO.name (fun z295 hz296 => ?_)
        refine GO.istore_n (ls1 := [some (.ref x), some (ti i5), some (ti z295), none, none]) dX12_nextOrder_66 rfl rfl rfl ?_
        refine GO.goto (tgt := 48) dX12_nextOrder_67 (by decide) ?_
        exact ih254 z295 V ⟨by omega, by omega, by omega, rfl⟩ (by show (z295 + 2147483648).toNat < (i170 + 2147483648).toNat; omega)
    ·
      refine GO.iload_n dX12_nextOrder_28 rfl rfl ?_
      refine GO.iconst dX12_nextOrder_29 ?_
      refine GO.isub dX12_nextOrder_30 ?_
      refine GO.name (fun z297 hz298 => ?_)
      refine GO.istore_n (ls1 := [some (.ref x), some (ti z297), none, none, none]) dX12_nextOrder_31 rfl rfl rfl ?_
      refine GO.goto (tgt := 7) dX12_nextOrder_32 (by decide) ?_
      exact ih152 z297 V ⟨by omega, by omega, by omega, rfl⟩ (by show (z297 + 2147483648).toNat < (i5 + 2147483648).toNat; omega)

set_option maxHeartbeats 1000000 in
theorem t_X12_plans {K : Kmap} {V : Vmap} {x : Nat} {p0 : Int} {p1 : Int} {p2 : Int} (h_x : K x = some (0, 11)) (r_p0 : ir p0) (r_p1 : ir p1) (r_p2 : ir p2) (q_0 : p0 ≥ 0) (q_1 : p0 ≤ 9) (q_2 : p1 ≥ 0) (q_3 : p1 ≤ 3) : MC mX12_plans K V [.ref x, ti p0, ti p1, ti p2] (VS K (fun V1 => (True))) := by
  refine MC.start 4 (by decide +kernel) rfl rfl rfl (ls0 := [some (.ref x), some (ti p0), some (ti p1), some (ti p2), none, none, none, none]) rfl ?_
  refine GO.aload_n dX12_plans_0 rfl rfl ?_
  refine GO.iconst dX12_plans_1 ?_
  refine GO.putI h_x fp_RX12_745 rfl (by decide +kernel) (ir_c rfl) (by decide) (by decide) dX12_plans_2 (fun V2 e1 => ?_)
  refine GO.iconst dX12_plans_5 ?_
  refine GO.istore (ls1 := [some (.ref x), some (ti p0), some (ti p1), some (ti p2), some (ti 0), none, none, none]) dX12_plans_6 rfl rfl ?_
  refine GO.iconst dX12_plans_8 ?_
  refine GO.istore (ls1 := [some (.ref x), some (ti p0), some (ti p1), some (ti p2), some (ti 0), some (ti 0), none, none]) dX12_plans_9 rfl rfl ?_
  refine GO.loop2 (fun i3 i4 W => (-2147483648) ≤ i3 ∧ i3 ≤ 2147483647 ∧ 0 ≤ i4 ∧ i4 ≤ 8 ∧ (OIN W x i4) ∧ True) (fun i3 i4 => [some (.ref x), some (ti p0), some (ti p1), some (ti p2), some (ti i3), some (ti i4), none, none]) (fun i3 i4 W => (2147483647 - i4).toNat) 0 0 ⟨by omega, by omega, by omega, by omega, oin_0 (by omega), trivial⟩ rfl (fun i3 i4 Wi3 hp18434 ih18433 => ?_)
  obtain ⟨l_i3, u_i3, l_i4, u_i4, w0_i3, -⟩ := hp18434
  have r_i3 : ir i3 := ⟨by omega, by omega⟩
  have r_i4 : ir i4 := ⟨by omega, by omega⟩
  show GO mX12_plans K V (VS K (fun V1 => (True))) K Wi3 0 0 11 [some (.ref x), some (ti p0), some (ti p1), some (ti p2), some (ti i3), some (ti i4), none, none] []
  refine GO.iload dX12_plans_11 rfl ?_
  refine GO.aload_n dX12_plans_13 rfl rfl ?_
  refine GO.getI h_x fl_RX12_736 rfl rfl dX12_plans_14 (fun l18435 u18436 => ?_)
  refine GO.icmp_ge (tgt := 47) dX12_plans_17 (by decide) r_i4 vi_ir (fun c18437 => ?_) (fun c18437 => ?_)
  ·
    refine GO.aload_n dX12_plans_47 rfl rfl ?_
    refine GO.getI h_x fl_RX12_736 rfl rfl dX12_plans_48 (fun l18438 u18439 => ?_)
    refine GO.if_le (tgt := 69) dX12_plans_51 (by decide) vi_ir (fun c18440 => ?_) (fun c18440 => ?_)
    ·
      refine GO.iconst dX12_plans_69 ?_
      refine GO.istore (ls1 := [some (.ref x), some (ti p0), some (ti p1), some (ti p2), some (ti i3), some (ti 0), none, none]) dX12_plans_70 rfl rfl ?_
      refine GO.loop1 (fun i18441 W => 0 ≤ i18441 ∧ i18441 ≤ 0 ∧ (oinj W x (vi W x 137)) ∧ True) (fun i18441 => [some (.ref x), some (ti p0), some (ti p1), some (ti p2), some (ti i3), some (ti i18441), none, none]) (fun i18441 W => (((2 * (16777216 - ornk W x)) + i18441)).toNat) 0 ⟨by omega, by omega, oin_inj (by assumption) (by omega), trivial⟩ rfl (fun i18441 Wi18441 hp18444 ih18443 => ?_)
      obtain ⟨l_i18441, u_i18441, w0_i18441, -⟩ := hp18444
      have r_i18441 : ir i18441 := ⟨by omega, by omega⟩
      show GO mX12_plans K V (VS K (fun V1 => (True))) K Wi18441 0 0 72 [some (.ref x), some (ti p0), some (ti p1), some (ti p2), some (ti i3), some (ti i18441), none, none] []
      refine GO.useWT (fun hW => ?_)
      have hub := ornk_ub hW h_x
      refine GO.iload dX12_plans_72 rfl ?_
      refine GO.if_eq (tgt := 161) dX12_plans_74 (by decide) r_i18441 (fun c18445 => ?_) (fun h => by exfalso; omega)
      exact GO.retv rfl rfl dX12_plans_161 ⟨rfl, rfl, trivial⟩
    ·
      refine GO.iload dX12_plans_54 rfl ?_
      refine GO.aload_n dX12_plans_56 rfl rfl ?_
      refine GO.getA (n := 10) h_x fl_RX12_211 rfl rfl rfl rfl dX12_plans_57 (fun hv18447 h18446 => ?_)
      refine GO.iload_n dX12_plans_60 rfl rfl ?_
      have q18448 : -2147483648 ≤ p0 ∧ p0 ≤ 2147483647 := r_p0
      refine GO.iald (t := 73) rfl rfl h18446 r_p0 (by omega) (by omega) dX12_plans_61 (fun _ _ => ?_)
      refine GO.icmp_gt (tgt := 69) dX12_plans_62 (by decide) r_i3 vi_ir (fun c18449 => ?_) (fun c18449 => ?_)
      ·
        refine GO.iconst dX12_plans_69 ?_
        refine GO.istore (ls1 := [some (.ref x), some (ti p0), some (ti p1), some (ti p2), some (ti i3), some (ti 0), none, none]) dX12_plans_70 rfl rfl ?_
        refine GO.loop1 (fun i18450 W => 0 ≤ i18450 ∧ i18450 ≤ 0 ∧ (oinj W x (vi W x 137)) ∧ True) (fun i18450 => [some (.ref x), some (ti p0), some (ti p1), some (ti p2), some (ti i3), some (ti i18450), none, none]) (fun i18450 W => (((2 * (16777216 - ornk W x)) + i18450)).toNat) 0 ⟨by omega, by omega, oin_inj (by assumption) (by omega), trivial⟩ rfl (fun i18450 Wi18450 hp18453 ih18452 => ?_)
        obtain ⟨l_i18450, u_i18450, w0_i18450, -⟩ := hp18453
        have r_i18450 : ir i18450 := ⟨by omega, by omega⟩
        show GO mX12_plans K V (VS K (fun V1 => (True))) K Wi18450 0 0 72 [some (.ref x), some (ti p0), some (ti p1), some (ti p2), some (ti i3), some (ti i18450), none, none] []
        refine GO.useWT (fun hW => ?_)
        have hub := ornk_ub hW h_x
        refine GO.iload dX12_plans_72 rfl ?_
        refine GO.if_eq (tgt := 161) dX12_plans_74 (by decide) r_i18450 (fun c18454 => ?_) (fun h => by exfalso; omega)
        exact GO.retv rfl rfl dX12_plans_161 ⟨rfl, rfl, trivial⟩
      ·
        refine GO.iconst dX12_plans_65 ?_
        refine GO.goto (tgt := 70) dX12_plans_66 (by decide) ?_
        refine GO.istore (ls1 := [some (.ref x), some (ti p0), some (ti p1), some (ti p2), some (ti i3), some (ti 1), none, none]) dX12_plans_70 rfl rfl ?_
        refine GO.loop1 (fun i18455 W => 0 ≤ i18455 ∧ i18455 ≤ 1 ∧ (oinj W x (vi W x 137)) ∧ True) (fun i18455 => [some (.ref x), some (ti p0), some (ti p1), some (ti p2), some (ti i3), some (ti i18455), none, none]) (fun i18455 W => (((2 * (16777216 - ornk W x)) + i18455)).toNat) 1 ⟨by omega, by omega, oin_inj (by assumption) (by omega), trivial⟩ rfl (fun i18455 Wi18455 hp18907 ih18906 => ?_)
        obtain ⟨l_i18455, u_i18455, w0_i18455, -⟩ := hp18907
        have r_i18455 : ir i18455 := ⟨by omega, by omega⟩
        show GO mX12_plans K V (VS K (fun V1 => (True))) K Wi18455 0 0 72 [some (.ref x), some (ti p0), some (ti p1), some (ti p2), some (ti i3), some (ti i18455), none, none] []
        refine GO.useWT (fun hW => ?_)
        have hub := ornk_ub hW h_x
        refine GO.iload dX12_plans_72 rfl ?_
        refine GO.if_eq (tgt := 161) dX12_plans_74 (by decide) r_i18455 (fun c18908 => ?_) (fun c18908 => ?_)
        ·
          exact GO.retv rfl rfl dX12_plans_161 ⟨rfl, rfl, trivial⟩
        ·
          refine GO.aload_n dX12_plans_77 rfl rfl ?_
          refine GO.iload_n dX12_plans_78 rfl rfl ?_
          refine GO.aload_n dX12_plans_79 rfl rfl ?_
          refine GO.getA (n := 4) h_x fl_RX12_244 rfl rfl rfl rfl dX12_plans_80 (fun hv18910 h18909 => ?_)
          refine GO.iload_n dX12_plans_83 rfl rfl ?_
          have q18911 : -2147483648 ≤ p1 ∧ p1 ≤ 2147483647 := r_p1
          refine GO.iald (t := 84) rfl rfl h18909 r_p1 (by omega) (by omega) dX12_plans_84 (fun _ _ => ?_)
          refine GO.iadd dX12_plans_85 ?_
          refine GO.norm (fun z18912 r18913 hn18914 => ?_)
          refine GO.callV (ci := 11) (N := mX12_worstEnd) dX12_plans_86 (RX12, TX12, 151) rfl gV_RX12_748 h_x (t_X12_worstEnd h_x r18913) rfl [] rfl rfl (Nat.le_of_ble_eq_true rfl) rfl (k_ip fun X18915 r18916 h18917 => ?_)
          refine GO.istore (ls1 := [some (.ref x), some (ti p0), some (ti p1), some (ti p2), some (ti i3), some (ti i18455), some (ti X18915), none]) dX12_plans_89 rfl rfl ?_
          refine GO.iload dX12_plans_91 rfl ?_
          refine GO.iconst dX12_plans_93 ?_
          refine GO.icmp_eq (tgt := 152) dX12_plans_94 (by decide) r18916 (ir_c rfl) (fun c18918 => ?_) (fun c18918 => ?_)
          ·
            have hosm : OSM Wi18455 Wi18455 x := by first | exact OSM.rf | assumption
            refine GO.aload_n dX12_plans_152 rfl rfl ?_
            refine GO.callV (ci := 11) (N := mX12_nextOrder) dX12_plans_153 (RX12, TX12, 151) rfl gV_RX12_751 h_x (t_X12_nextOrder h_x (osm_inj hosm (by assumption))) rfl [] rfl rfl (Nat.le_of_ble_eq_true rfl) rfl (k_is fun X18919 V18923 r18920 h18921 hF18922 => ?_)
            have raw_nextOrder := h18921.2.2.2
            have rw153 := h18921.2.2.2
            refine GO.istore (ls1 := [some (.ref x), some (ti p0), some (ti p1), some (ti p2), some (ti i3), some (ti X18919), some (ti X18915), none]) dX12_plans_156 rfl rfl ?_
            refine GO.useWT (fun hW1 => ?_)
            have hr := pl_rank hW hW1 h_x hosm raw_nextOrder
            refine GO.goto (tgt := 72) dX12_plans_158 (by decide) ?_
            refine GO.drop [true, true, true, true, true, true, false, true] rfl ?_
            exact ih18906 X18919 V18923 ⟨by omega, by omega, nxo_inj raw_nextOrder, trivial⟩ (by show (((2 * (16777216 - ornk V18923 x)) + X18919)).toNat < (((2 * (16777216 - ornk Wi18455 x)) + i18455)).toNat; omega)
          ·
            refine GO.aload_n dX12_plans_97 rfl rfl ?_
            refine GO.getI h_x fl_RX12_745 rfl rfl dX12_plans_98 (fun _ _ => ?_)
            refine GO.iconst dX12_plans_101 ?_
            refine GO.icmp_eq (tgt := 114) dX12_plans_102 (by decide) vi_ir (ir_c rfl) (fun c18924 => ?_) (fun c18924 => ?_)
            ·
              refine GO.aload_n dX12_plans_114 rfl rfl ?_
              refine GO.iload dX12_plans_115 rfl ?_
              refine GO.putI h_x fp_RX12_745 rfl (by decide +kernel) r18916 (r18916).1 (r18916).2 dX12_plans_117 (fun V18926 e18925 => ?_)
              refine GO.iconst dX12_plans_120 ?_
              refine GO.istore (ls1 := [some (.ref x), some (ti p0), some (ti p1), some (ti p2), some (ti i3), some (ti i18455), some (ti X18915), some (ti 0)]) dX12_plans_121 rfl rfl ?_
              refine GO.loop1 (fun i18927 W => 0 ≤ i18927 ∧ i18927 ≤ 8 ∧ (OSM Wi18455 W x) ∧ True) (fun i18927 => [some (.ref x), some (ti p0), some (ti p1), some (ti p2), some (ti i3), some (ti i18455), some (ti X18915), some (ti i18927)]) (fun i18927 W => (2147483647 - i18927).toNat) 0 ⟨by omega, by omega, osm_put hW h_x (by assumption) (by decide) (by decide), trivial⟩ rfl (fun i18927 Wi18927 hp19009 ih19008 => ?_)
              obtain ⟨l_i18927, u_i18927, w0_i18927, -⟩ := hp19009
              have r_i18927 : ir i18927 := ⟨by omega, by omega⟩
              show GO mX12_plans K V (VS K (fun V1 => (True))) K Wi18927 0 0 123 [some (.ref x), some (ti p0), some (ti p1), some (ti p2), some (ti i3), some (ti i18455), some (ti X18915), some (ti i18927)] []
              refine GO.iload dX12_plans_123 rfl ?_
              refine GO.aload_n dX12_plans_125 rfl rfl ?_
              refine GO.getI h_x fl_RX12_736 rfl rfl dX12_plans_126 (fun l19010 u19011 => ?_)
              refine GO.icmp_ge (tgt := 152) dX12_plans_129 (by decide) r_i18927 vi_ir (fun c19012 => ?_) (fun c19012 => ?_)
              ·
                have hosm : OSM Wi18455 Wi18927 x := by first | exact OSM.rf | assumption
                refine GO.aload_n dX12_plans_152 rfl rfl ?_
                refine GO.callV (ci := 11) (N := mX12_nextOrder) dX12_plans_153 (RX12, TX12, 151) rfl gV_RX12_751 h_x (t_X12_nextOrder h_x (osm_inj hosm (by assumption))) rfl [] rfl rfl (Nat.le_of_ble_eq_true rfl) rfl (k_is fun X19013 V19017 r19014 h19015 hF19016 => ?_)
                have raw_nextOrder := h19015.2.2.2
                have rw153 := h19015.2.2.2
                refine GO.istore (ls1 := [some (.ref x), some (ti p0), some (ti p1), some (ti p2), some (ti i3), some (ti X19013), some (ti X18915), some (ti i18927)]) dX12_plans_156 rfl rfl ?_
                refine GO.useWT (fun hW1 => ?_)
                have hr := pl_rank hW hW1 h_x hosm raw_nextOrder
                refine GO.goto (tgt := 72) dX12_plans_158 (by decide) ?_
                refine GO.drop [true, true, true, true, true, true, false, false] rfl ?_
                exact ih18906 X19013 V19017 ⟨by omega, by omega, nxo_inj raw_nextOrder, trivial⟩ (by show (((2 * (16777216 - ornk V19017 x)) + X19013)).toNat < (((2 * (16777216 - ornk Wi18455 x)) + i18455)).toNat; omega)
              ·
                refine GO.aload_n dX12_plans_132 rfl rfl ?_
                refine GO.getA (n := 8) h_x fl_RX12_343 rfl rfl rfl rfl dX12_plans_133 (fun hv19019 h19018 => ?_)
                refine GO.iload dX12_plans_136 rfl ?_
                refine GO.aload_n dX12_plans_138 rfl rfl ?_
                refine GO.getA (n := 8) h_x fl_RX12_340 rfl rfl rfl rfl dX12_plans_139 (fun hv19021 h19020 => ?_)
                refine GO.iload dX12_plans_142 rfl ?_
                refine GO.iald (t := 115) rfl rfl h19020 r_i18927 (by omega) (by omega) dX12_plans_144 (fun l19022 u19023 => ?_)
                refine GO.iast (t := 116) rfl rfl (by decide +kernel) h19018 r_i18927 (by omega) (by omega) vi_ir (vi_ir).1 (vi_ir).2 dX12_plans_145 (fun V19025 e19024 => ?_)
                refine GO.iinc (X := i18927) (n := 1) (Y := i18927 + 1) (ls1 := [some (.ref x), some (ti p0), some (ti p1), some (ti p2), some (ti i3), some (ti i18455), some (ti X18915), some (ti (i18927 + 1))]) dX12_plans_146 rfl rfl rfl rfl ?_
                refine GO.goto (tgt := 123) dX12_plans_149 (by decide) ?_
                exact ih19008 (i18927 + 1) V19025 ⟨by omega, by omega, OSM.arr (by assumption) (by assumption) h_x (by assumption) (by assumption) (by decide), trivial⟩ (by show (2147483647 - (i18927 + 1)).toNat < (2147483647 - i18927).toNat; omega)
            ·
              refine GO.iload dX12_plans_105 rfl ?_
              refine GO.aload_n dX12_plans_107 rfl rfl ?_
              refine GO.getI h_x fl_RX12_745 rfl rfl dX12_plans_108 (fun _ _ => ?_)
              refine GO.icmp_ge (tgt := 152) dX12_plans_111 (by decide) r18916 vi_ir (fun c19026 => ?_) (fun c19026 => ?_)
              ·
                have hosm : OSM Wi18455 Wi18455 x := by first | exact OSM.rf | assumption
                refine GO.aload_n dX12_plans_152 rfl rfl ?_
                refine GO.callV (ci := 11) (N := mX12_nextOrder) dX12_plans_153 (RX12, TX12, 151) rfl gV_RX12_751 h_x (t_X12_nextOrder h_x (osm_inj hosm (by assumption))) rfl [] rfl rfl (Nat.le_of_ble_eq_true rfl) rfl (k_is fun X19027 V19031 r19028 h19029 hF19030 => ?_)
                have raw_nextOrder := h19029.2.2.2
                have rw153 := h19029.2.2.2
                refine GO.istore (ls1 := [some (.ref x), some (ti p0), some (ti p1), some (ti p2), some (ti i3), some (ti X19027), some (ti X18915), none]) dX12_plans_156 rfl rfl ?_
                refine GO.useWT (fun hW1 => ?_)
                have hr := pl_rank hW hW1 h_x hosm raw_nextOrder
                refine GO.goto (tgt := 72) dX12_plans_158 (by decide) ?_
                refine GO.drop [true, true, true, true, true, true, false, true] rfl ?_
                exact ih18906 X19027 V19031 ⟨by omega, by omega, nxo_inj raw_nextOrder, trivial⟩ (by show (((2 * (16777216 - ornk V19031 x)) + X19027)).toNat < (((2 * (16777216 - ornk Wi18455 x)) + i18455)).toNat; omega)
              ·
                refine GO.aload_n dX12_plans_114 rfl rfl ?_
                refine GO.iload dX12_plans_115 rfl ?_
                refine GO.putI h_x fp_RX12_745 rfl (by decide +kernel) r18916 (r18916).1 (r18916).2 dX12_plans_117 (fun V19033 e19032 => ?_)
                refine GO.iconst dX12_plans_120 ?_
                refine GO.istore (ls1 := [some (.ref x), some (ti p0), some (ti p1), some (ti p2), some (ti i3), some (ti i18455), some (ti X18915), some (ti 0)]) dX12_plans_121 rfl rfl ?_
                refine GO.loop1 (fun i19034 W => 0 ≤ i19034 ∧ i19034 ≤ 8 ∧ (OSM Wi18455 W x) ∧ True) (fun i19034 => [some (.ref x), some (ti p0), some (ti p1), some (ti p2), some (ti i3), some (ti i18455), some (ti X18915), some (ti i19034)]) (fun i19034 W => (2147483647 - i19034).toNat) 0 ⟨by omega, by omega, osm_put hW h_x (by assumption) (by decide) (by decide), trivial⟩ rfl (fun i19034 Wi19034 hp19116 ih19115 => ?_)
                obtain ⟨l_i19034, u_i19034, w0_i19034, -⟩ := hp19116
                have r_i19034 : ir i19034 := ⟨by omega, by omega⟩
                show GO mX12_plans K V (VS K (fun V1 => (True))) K Wi19034 0 0 123 [some (.ref x), some (ti p0), some (ti p1), some (ti p2), some (ti i3), some (ti i18455), some (ti X18915), some (ti i19034)] []
                refine GO.iload dX12_plans_123 rfl ?_
                refine GO.aload_n dX12_plans_125 rfl rfl ?_
                refine GO.getI h_x fl_RX12_736 rfl rfl dX12_plans_126 (fun l19117 u19118 => ?_)
                refine GO.icmp_ge (tgt := 152) dX12_plans_129 (by decide) r_i19034 vi_ir (fun c19119 => ?_) (fun c19119 => ?_)
                ·
                  have hosm : OSM Wi18455 Wi19034 x := by first | exact OSM.rf | assumption
                  refine GO.aload_n dX12_plans_152 rfl rfl ?_
                  refine GO.callV (ci := 11) (N := mX12_nextOrder) dX12_plans_153 (RX12, TX12, 151) rfl gV_RX12_751 h_x (t_X12_nextOrder h_x (osm_inj hosm (by assumption))) rfl [] rfl rfl (Nat.le_of_ble_eq_true rfl) rfl (k_is fun X19120 V19124 r19121 h19122 hF19123 => ?_)
                  have raw_nextOrder := h19122.2.2.2
                  have rw153 := h19122.2.2.2
                  refine GO.istore (ls1 := [some (.ref x), some (ti p0), some (ti p1), some (ti p2), some (ti i3), some (ti X19120), some (ti X18915), some (ti i19034)]) dX12_plans_156 rfl rfl ?_
                  refine GO.useWT (fun hW1 => ?_)
                  have hr := pl_rank hW hW1 h_x hosm raw_nextOrder
                  refine GO.goto (tgt := 72) dX12_plans_158 (by decide) ?_
                  refine GO.drop [true, true, true, true, true, true, false, false] rfl ?_
                  exact ih18906 X19120 V19124 ⟨by omega, by omega, nxo_inj raw_nextOrder, trivial⟩ (by show (((2 * (16777216 - ornk V19124 x)) + X19120)).toNat < (((2 * (16777216 - ornk Wi18455 x)) + i18455)).toNat; omega)
                ·
                  refine GO.aload_n dX12_plans_132 rfl rfl ?_
                  refine GO.getA (n := 8) h_x fl_RX12_343 rfl rfl rfl rfl dX12_plans_133 (fun hv19126 h19125 => ?_)
                  refine GO.iload dX12_plans_136 rfl ?_
                  refine GO.aload_n dX12_plans_138 rfl rfl ?_
                  refine GO.getA (n := 8) h_x fl_RX12_340 rfl rfl rfl rfl dX12_plans_139 (fun hv19128 h19127 => ?_)
                  refine GO.iload dX12_plans_142 rfl ?_
                  refine GO.iald (t := 115) rfl rfl h19127 r_i19034 (by omega) (by omega) dX12_plans_144 (fun l19129 u19130 => ?_)
                  refine GO.iast (t := 116) rfl rfl (by decide +kernel) h19125 r_i19034 (by omega) (by omega) vi_ir (vi_ir).1 (vi_ir).2 dX12_plans_145 (fun V19132 e19131 => ?_)
                  refine GO.iinc (X := i19034) (n := 1) (Y := i19034 + 1) (ls1 := [some (.ref x), some (ti p0), some (ti p1), some (ti p2), some (ti i3), some (ti i18455), some (ti X18915), some (ti (i19034 + 1))]) dX12_plans_146 rfl rfl rfl rfl ?_
                  refine GO.goto (tgt := 123) dX12_plans_149 (by decide) ?_
                  exact ih19115 (i19034 + 1) V19132 ⟨by omega, by omega, OSM.arr (by assumption) (by assumption) h_x (by assumption) (by assumption) (by decide), trivial⟩ (by show (2147483647 - (i19034 + 1)).toNat < (2147483647 - i19034).toNat; omega)
  ·
    refine GO.aload_n dX12_plans_20 rfl rfl ?_
    refine GO.getA (n := 8) h_x fl_RX12_340 rfl rfl rfl rfl dX12_plans_21 (fun hv19134 h19133 => ?_)
    refine GO.iload dX12_plans_24 rfl ?_
    refine GO.iload dX12_plans_26 rfl ?_
    refine GO.iast (t := 115) rfl rfl (by decide +kernel) h19133 r_i4 (by omega) (by omega) r_i4 (by omega) (by omega) dX12_plans_28 (fun V19136 e19135 => ?_)
    refine GO.iload dX12_plans_29 rfl ?_
    refine GO.aload_n dX12_plans_31 rfl rfl ?_
    refine GO.getA (n := 8) h_x fl_RX12_331 rfl rfl rfl rfl dX12_plans_32 (fun hv19138 h19137 => ?_)
    refine GO.iload dX12_plans_35 rfl ?_
    refine GO.iald (t := 112) rfl rfl h19137 r_i4 (by omega) (by omega) dX12_plans_37 (fun _ _ => ?_)
    refine GO.iadd dX12_plans_38 ?_
    refine GO.norm (fun z19140 r19141 hn19142 => ?_)
    refine GO.istore (ls1 := [some (.ref x), some (ti p0), some (ti p1), some (ti p2), some (ti z19140), some (ti i4), none, none]) dX12_plans_39 rfl rfl ?_
    refine GO.iinc (X := i4) (n := 1) (Y := i4 + 1) (ls1 := [some (.ref x), some (ti p0), some (ti p1), some (ti p2), some (ti z19140), some (ti (i4 + 1)), none, none]) dX12_plans_41 rfl rfl rfl rfl ?_
    refine GO.goto (tgt := 11) dX12_plans_44 (by decide) ?_
    have q19143 : -2147483648 ≤ z19140 ∧ z19140 ≤ 2147483647 := r19141
    exact ih18433 z19140 (i4 + 1) V19136 ⟨by omega, by omega, by omega, by omega, oin_step (by assumption) (by assumption) h_x (by assumption) (by assumption) (by omega), trivial⟩ (by show (2147483647 - (i4 + 1)).toNat < (2147483647 - i4).toNat; omega)

set_option maxHeartbeats 1000000 in
theorem t_X12_plan {K : Kmap} {V : Vmap} {x : Nat} {p0 : Int} {p1 : Int} {p2 : Int} (h_x : K x = some (0, 11)) (r_p0 : ir p0) (r_p1 : ir p1) (r_p2 : ir p2) : MC mX12_plan K V [.ref x, ti p0, ti p1, ti p2] (IS K (fun X V1 => True)) := by
  refine MC.start 0 (by decide +kernel) rfl rfl rfl (ls0 := [some (.ref x), some (ti p0), some (ti p1), some (ti p2)]) rfl ?_
  refine GO.aload_n dX12_plan_0 rfl rfl ?_
  refine GO.iload_n dX12_plan_1 rfl rfl ?_
  refine GO.callV (ci := 11) (N := mX12_isShip) dX12_plan_2 (RX12, TX12, 151) rfl gV_RX12_618 h_x (t_X12_isShip h_x r_p0) rfl [] rfl rfl (Nat.le_of_ble_eq_true rfl) rfl (k_ip fun X1 r2 h3 => ?_)
  refine GO.if_eq (tgt := 26) dX12_plan_5 (by decide) r2 (fun c4 => ?_) (fun c4 => ?_)
  ·
    have q5 := h3.2.2 (by omega)
    refine GO.iconst dX12_plan_26 ?_
    exact GO.reti rfl rfl dX12_plan_27 ⟨rfl, _, rfl, (ir_c rfl), trivial⟩
  ·
    have q6 := h3.2.1 (by omega)
    refine GO.iload_n dX12_plan_8 rfl rfl ?_
    refine GO.callS (N := mX12_isSea) dX12_plan_9 gS_RX12_615 (t_X12_isSea r_p1) rfl [] rfl rfl (Nat.le_of_ble_eq_true rfl) rfl (k_ip fun X7 r8 h9 => ?_)
    refine GO.if_eq (tgt := 26) dX12_plan_12 (by decide) r8 (fun c10 => ?_) (fun c10 => ?_)
    ·
      have q11 := h9.2.2 (by omega)
      refine GO.iconst dX12_plan_26 ?_
      exact GO.reti rfl rfl dX12_plan_27 ⟨rfl, _, rfl, (ir_c rfl), trivial⟩
    ·
      have q12 := h9.2.1 (by omega)
      refine GO.iload_n dX12_plan_15 rfl rfl ?_
      refine GO.iconst dX12_plan_16 ?_
      refine GO.sipush dX12_plan_17 rfl ?_
      refine GO.callS (N := mX12_in) dX12_plan_20 gS_RX12_371 (t_X12_in r_p2 (ir_c rfl) (ir_c rfl)) rfl [] rfl rfl (Nat.le_of_ble_eq_true rfl) rfl (k_ip fun X13 r14 h15 => ?_)
      have raw_in := h15.2.2.2
      have rw20 := h15.2.2.2
      refine GO.if_ne (tgt := 28) dX12_plan_23 (by decide) r14 (fun c16 => ?_) (fun c16 => ?_)
      ·
        have q17 := h15.2.1 (by omega)
        refine GO.aload_n dX12_plan_28 rfl rfl ?_
        refine GO.iload_n dX12_plan_29 rfl rfl ?_
        refine GO.iload_n dX12_plan_30 rfl rfl ?_
        refine GO.iload_n dX12_plan_31 rfl rfl ?_
        have q18 : -2147483648 ≤ p0 ∧ p0 ≤ 2147483647 := r_p0
        have q19 : -2147483648 ≤ vi V x 91 ∧ vi V x 91 ≤ 2147483647 := vi_ir
        have q20 : -2147483648 ≤ p1 ∧ p1 ≤ 2147483647 := r_p1
        refine GO.callV (ci := 11) (N := mX12_plans) dX12_plan_32 (RX12, TX12, 151) rfl gV_RX12_754 h_x (t_X12_plans h_x r_p0 r_p1 r_p2 (by omega) (by omega) (by omega) (by omega)) rfl [] rfl rfl (Nat.le_of_ble_eq_true rfl) rfl (k_vs fun V23 h22 hF21 => ?_)
        refine GO.aload_n dX12_plan_35 rfl rfl ?_
        refine GO.getI h_x fl_RX12_745 rfl rfl dX12_plan_36 (fun _ _ => ?_)
        have q25 : -2147483648 ≤ vi V23 x 138 ∧ vi V23 x 138 ≤ 2147483647 := vi_ir
        exact GO.reti rfl rfl dX12_plan_39 ⟨rfl, _, rfl, vi_ir, trivial⟩
      ·
        have q26 := h15.2.2.1 (by omega)
        refine GO.iconst dX12_plan_26 ?_
        exact GO.reti rfl rfl dX12_plan_27 ⟨rfl, _, rfl, (ir_c rfl), trivial⟩
