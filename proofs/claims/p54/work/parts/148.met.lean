def mX12_stop : MRec := (RX12, cX12_stop, 4, (some .int), yX12_stop, 3, 64, 0, 0, 29551504647295859409209280075107710353925596542086401196384791038192979236476177943226340255203144314612884122370048)
def mX12_open : MRec := (RX12, cX12_open, 5, (some .boolean), yX12_open, 1, 22, 0, 0, 118206018589183437636837120300430841415239217811396340003844880212737165314491631834242798764654746922419883970920448)
set_option maxHeartbeats 1000000 in
theorem t_X12_stop {K : Kmap} {V : Vmap} {x : Nat} {p0 : Int} {p1 : Int} (h_x : K x = some (0, 11)) (r_p0 : ir p0) (r_p1 : ir p1) : MC mX12_stop K V [.ref x, ti p0, ti p1] (IS K (fun X V1 => (True) ∧ (MSP V V1 x p0 p1 X) ∧ (MSQ V V1 x p1 X))) := by
  refine MC.start 1 (by decide +kernel) rfl rfl rfl (ls0 := [some (.ref x), some (ti p0), some (ti p1), none]) rfl ?_
  refine GO.useWT (fun hW1 => ?_)
  have ak2 := hW1.arr h_x 139 111 (by decide) rfl (by decide)
  have ak3 := hW1.arr h_x 140 112 (by decide) rfl (by decide)
  refine GO.aload_n dX12_stop_0 rfl rfl ?_
  refine GO.iload_n dX12_stop_1 rfl rfl ?_
  refine GO.callV (ci := 11) (N := mX12_stands) dX12_stop_2 (RX12, TX12, 151) rfl gV_RX12_433 h_x (t_X12_stands h_x r_p0) rfl [] rfl rfl (Nat.le_of_ble_eq_true rfl) rfl (k_ip fun X4 r5 h6 => ?_)
  have raw_stands := h6.2.2.2
  have rw2 := h6.2.2.2
  refine GO.if_eq (tgt := 28) dX12_stop_5 (by decide) r5 (fun c7 => ?_) (fun c7 => ?_)
  ·
    refine GO.iconst dX12_stop_28 ?_
    exact GO.reti rfl rfl dX12_stop_29 ⟨rfl, _, rfl, (ir_c rfl), ⟨(by first | exact trivial | omega), (by first | exact MSP.nt rw2 (by omega) rfl | exact MSP.nn (by omega) rfl | exact MSP.hs (by assumption) (by omega) (by omega) rfl | exact MSP.ok rw2 (by omega) (by omega) (by omega) hmh (by omega) (by omega) (by omega) (by omega) (rfl : ar 139 V x = ar 139 V x) (by omega)), (by first | exact MSQ.ok (by omega) (rfl : ar 140 V x = ar 140 V x) (by omega) | exact Or.inl ⟨rfl, rfl⟩)⟩⟩
  ·
    have q8 := h6.2.1 (by omega)
    refine GO.iload_n dX12_stop_8 rfl rfl ?_
    refine GO.iconst dX12_stop_9 ?_
    refine GO.sipush dX12_stop_10 rfl ?_
    refine GO.callS (N := mX12_in) dX12_stop_13 gS_RX12_371 (t_X12_in r_p1 (ir_c rfl) (ir_c rfl)) rfl [] rfl rfl (Nat.le_of_ble_eq_true rfl) rfl (k_ip fun X9 r10 h11 => ?_)
    have raw_in := h11.2.2.2
    have rw13 := h11.2.2.2
    refine GO.if_eq (tgt := 28) dX12_stop_16 (by decide) r10 (fun c12 => ?_) (fun c12 => ?_)
    ·
      have q13 := h11.2.2.1 (by omega)
      refine GO.iconst dX12_stop_28 ?_
      exact GO.reti rfl rfl dX12_stop_29 ⟨rfl, _, rfl, (ir_c rfl), ⟨(by first | exact trivial | omega), (by first | exact MSP.nt rw2 (by omega) rfl | exact MSP.nn (by omega) rfl | exact MSP.hs (by assumption) (by omega) (by omega) rfl | exact MSP.ok rw2 (by omega) (by omega) (by omega) hmh (by omega) (by omega) (by omega) (by omega) (rfl : ar 139 V x = ar 139 V x) (by omega)), (by first | exact MSQ.ok (by omega) (rfl : ar 140 V x = ar 140 V x) (by omega) | exact Or.inl ⟨rfl, rfl⟩)⟩⟩
    ·
      have q14 := h11.2.1 (by omega)
      refine GO.aload_n dX12_stop_19 rfl rfl ?_
      refine GO.getI h_x fl_RX12_736 rfl rfl dX12_stop_20 (fun l15 u16 => ?_)
      refine GO.bipush dX12_stop_23 rfl ?_
      refine GO.icmp_ne (tgt := 30) dX12_stop_25 (by decide) vi_ir (ir_c rfl) (fun c17 => ?_) (fun c17 => ?_)
      ·
        refine GO.iconst dX12_stop_30 ?_
        refine GO.istore_n (ls1 := [some (.ref x), some (ti p0), some (ti p1), some (ti 0)]) dX12_stop_31 rfl rfl rfl ?_
        have q19 : -2147483648 ≤ vi V x 137 ∧ vi V x 137 ≤ 2147483647 := vi_ir
        refine GO.loop1 (fun i18 W => 0 ≤ i18 ∧ i18 ≤ 7 ∧ (i18 ≥ 0 ∧ vi W x 137 = vi V x 137) ∧ (MHL W x p0 i18) ∧ ar 139 W x = ar 139 V x ∧ ar 140 W x = ar 140 V x ∧ V = W) (fun i18 => [some (.ref x), some (ti p0), some (ti p1), some (ti i18)]) (fun i18 W => (2147483647 - i18).toNat) 0 ⟨by omega, by omega, by omega, (by first | exact MHL.beg | exact MHL.step hmh (by omega) (by omega) (by omega)), (rfl : ar 139 V x = ar 139 V x), (rfl : ar 140 V x = ar 140 V x), rfl⟩ rfl (fun i18 V164 hp166 ih165 => ?_)
        obtain ⟨l_i18, u_i18, n_i18, hmh, kp167, kp168, rfl⟩ := hp166
        have r_i18 : ir i18 := ⟨by omega, by omega⟩
        show GO mX12_stop K V (IS K (fun X V1 => (True) ∧ (MSP V V1 x p0 p1 X) ∧ (MSQ V V1 x p1 X))) K V 0 0 32 [some (.ref x), some (ti p0), some (ti p1), some (ti i18)] []
        refine GO.iload_n dX12_stop_32 rfl rfl ?_
        refine GO.aload_n dX12_stop_33 rfl rfl ?_
        refine GO.getI h_x fl_RX12_736 rfl rfl dX12_stop_34 (fun l169 u170 => ?_)
        refine GO.icmp_ge (tgt := 58) dX12_stop_37 (by decide) r_i18 vi_ir (fun c171 => ?_) (fun c171 => ?_)
        ·
          refine GO.aload_n dX12_stop_58 rfl rfl ?_
          refine GO.getA (n := 8) h_x fl_RX12_328 rfl rfl rfl rfl dX12_stop_59 (fun hv173 h172 => ?_)
          refine GO.aload_n dX12_stop_62 rfl rfl ?_
          refine GO.getI h_x fl_RX12_736 rfl rfl dX12_stop_63 (fun l174 u175 => ?_)
          refine GO.iload_n dX12_stop_66 rfl rfl ?_
          have q177 : -2147483648 ≤ p0 ∧ p0 ≤ 2147483647 := r_p0
          refine GO.iast (t := 111) rfl rfl (by decide +kernel) h172 vi_ir (by omega) (by omega) r_p0 (by omega) (by omega) dX12_stop_67 (fun V178 e176 => ?_)
          have ak179 := tk_put e176 ak2 h_x (vq_of hv173) r_p0 (rfl : ar 139 V x = ar 139 V x)
          have ak180 := tk_oth e176 ak3 h_x h172 (by decide) (by decide) (rfl : ar 140 V x = ar 140 V x)
          refine GO.aload_n dX12_stop_68 rfl rfl ?_
          refine GO.getA (n := 8) h_x fl_RX12_331 rfl rfl rfl rfl dX12_stop_69 (fun hv182 h181 => ?_)
          refine GO.aload_n dX12_stop_72 rfl rfl ?_
          refine GO.getI h_x fl_RX12_736 rfl rfl dX12_stop_73 (fun l183 u184 => ?_)
          have e185 : vi V178 x 137 = vi V x 137 := vi_up e176 (Or.inl (K_ne h_x h172 (by decide)))
          refine GO.iload_n dX12_stop_76 rfl rfl ?_
          refine GO.iast (t := 112) rfl rfl (by decide +kernel) h181 vi_ir (by omega) (by omega) r_p1 (r_p1).1 (r_p1).2 dX12_stop_77 (fun V187 e186 => ?_)
          have ak188 := tk_oth e186 ak179.1 h_x h181 (by decide) (by decide) ak179.2
          have ak189 := tk_put e186 ak180.1 h_x (vq_of hv182) r_p1 ak180.2
          refine GO.aload_n dX12_stop_78 rfl rfl ?_
          refine GO.aload_n dX12_stop_79 rfl rfl ?_
          refine GO.getI h_x fl_RX12_736 rfl rfl dX12_stop_80 (fun l190 u191 => ?_)
          have e192 : vi V187 x 137 = vi V178 x 137 := vi_up e186 (Or.inl (K_ne h_x h181 (by decide)))
          refine GO.iconst dX12_stop_83 ?_
          refine GO.iadd dX12_stop_84 ?_
          refine GO.putI h_x fp_RX12_736 rfl (by decide +kernel) ⟨by omega, by omega⟩ (by omega) (by omega) dX12_stop_85 (fun V194 e193 => ?_)
          have ak195 := tk_fld e193 ak188.1 h_x (by decide) ak188.2
          have ak196 := tk_fld e193 ak189.1 h_x (by decide) ak189.2
          refine GO.aload_n dX12_stop_88 rfl rfl ?_
          refine GO.getI h_x fl_RX12_736 rfl rfl dX12_stop_89 (fun l197 u198 => ?_)
          have e199 : vi V194 x 137 = (vi V187 x 137) + 1 := upd2_int e193 ⟨by omega, by omega⟩
          refine GO.iconst dX12_stop_92 ?_
          refine GO.isub dX12_stop_93 ?_
          exact GO.reti rfl rfl dX12_stop_94 ⟨rfl, _, rfl, ⟨by omega, by omega⟩, ⟨(by first | exact trivial | omega), (by first | exact MSP.nt rw2 (by omega) rfl | exact MSP.nn (by omega) rfl | exact MSP.hs (by assumption) (by omega) (by omega) rfl | exact MSP.ok rw2 (by omega) (by omega) (by omega) hmh (by omega) (by omega) (by omega) (by omega) ak195.2 (by omega)), (by first | exact MSQ.ok (by omega) ak196.2 (by omega) | exact Or.inl ⟨rfl, rfl⟩)⟩⟩
        ·
          refine GO.aload_n dX12_stop_40 rfl rfl ?_
          refine GO.getA (n := 8) h_x fl_RX12_328 rfl rfl rfl rfl dX12_stop_41 (fun hv201 h200 => ?_)
          refine GO.iload_n dX12_stop_44 rfl rfl ?_
          refine GO.iald (t := 111) rfl rfl h200 r_i18 (by omega) (by omega) dX12_stop_45 (fun l202 u203 => ?_)
          refine GO.iload_n dX12_stop_46 rfl rfl ?_
          refine GO.icmp_ne (tgt := 52) dX12_stop_47 (by decide) vi_ir r_p0 (fun c204 => ?_) (fun c204 => ?_)
          ·
            refine GO.iinc (X := i18) (n := 1) (Y := i18 + 1) (ls1 := [some (.ref x), some (ti p0), some (ti p1), some (ti (i18 + 1))]) dX12_stop_52 rfl rfl rfl rfl ?_
            refine GO.goto (tgt := 32) dX12_stop_55 (by decide) ?_
            exact ih165 (i18 + 1) V ⟨by omega, by omega, by omega, (by first | exact MHL.beg | exact MHL.step hmh (by omega) (by omega) (by omega)), (rfl : ar 139 V x = ar 139 V x), (rfl : ar 140 V x = ar 140 V x), rfl⟩ (by show (2147483647 - (i18 + 1)).toNat < (2147483647 - i18).toNat; omega)
          ·
            refine GO.iconst dX12_stop_50 ?_
            exact GO.reti rfl rfl dX12_stop_51 ⟨rfl, _, rfl, (ir_c rfl), ⟨(by first | exact trivial | omega), (by first | exact MSP.nt rw2 (by omega) rfl | exact MSP.nn (by omega) rfl | exact MSP.hs (by assumption) (by omega) (by omega) rfl | exact MSP.ok rw2 (by omega) (by omega) (by omega) hmh (by omega) (by omega) (by omega) (by omega) (rfl : ar 139 V x = ar 139 V x) (by omega)), (by first | exact MSQ.ok (by omega) (rfl : ar 140 V x = ar 140 V x) (by omega) | exact Or.inl ⟨rfl, rfl⟩)⟩⟩
      ·
        refine GO.iconst dX12_stop_28 ?_
        exact GO.reti rfl rfl dX12_stop_29 ⟨rfl, _, rfl, (ir_c rfl), ⟨(by first | exact trivial | omega), (by first | exact MSP.nt rw2 (by omega) rfl | exact MSP.nn (by omega) rfl | exact MSP.hs (by assumption) (by omega) (by omega) rfl | exact MSP.ok rw2 (by omega) (by omega) (by omega) hmh (by omega) (by omega) (by omega) (by omega) (rfl : ar 139 V x = ar 139 V x) (by omega)), (by first | exact MSQ.ok (by omega) (rfl : ar 140 V x = ar 140 V x) (by omega) | exact Or.inl ⟨rfl, rfl⟩)⟩⟩

set_option maxHeartbeats 1000000 in
theorem t_X12_open {K : Kmap} {V : Vmap} {x : Nat} {p0 : Int} {p1 : Int} {p2 : Int} {p3 : Int} (h_x : K x = some (0, 11)) (r_p0 : ir p0) (r_p1 : ir p1) (r_p2 : ir p2) (r_p3 : ir p3) : MC mX12_open K V [.ref x, ti p0, ti p1, ti p2, ti p3] (IS K (fun X V1 => (X = 0 ∨ X = 1) ∧ (X ≠ 0 → True) ∧ (X = 0 → True) ∧ (X ≠ 0 ↔ 0 ≤ p0 ∧ p0 ≤ 2 ∧ 0 ≤ p1 ∧ p1 < vi V x 137 ∧ 0 ≤ p2 ∧ p2 ≤ p3 ∧ p3 ≤ 359) ∧ (MOC V V1 x p0 p1 p2 p3 X))) := by
  refine MC.start 0 (by decide +kernel) rfl rfl rfl (ls0 := [some (.ref x), some (ti p0), some (ti p1), some (ti p2), some (ti p3)]) rfl ?_
  refine GO.useWT (fun hW1 => ?_)
  have ak2 := hW1.arr h_x 141 113 (by decide) rfl (by decide)
  have ak3 := hW1.arr h_x 142 114 (by decide) rfl (by decide)
  refine GO.iload_n dX12_open_0 rfl rfl ?_
  refine GO.iconst dX12_open_1 ?_
  refine GO.iconst dX12_open_2 ?_
  refine GO.callS (N := mX12_in) dX12_open_3 gS_RX12_371 (t_X12_in r_p0 (ir_c rfl) (ir_c rfl)) rfl [] rfl rfl (Nat.le_of_ble_eq_true rfl) rfl (k_ip fun X4 r5 h6 => ?_)
  have raw_in := h6.2.2.2
  have rw3 := h6.2.2.2
  refine GO.if_eq (tgt := 44) dX12_open_6 (by decide) r5 (fun c7 => ?_) (fun c7 => ?_)
  ·
    have q8 := h6.2.2.1 (by omega)
    refine GO.iconst dX12_open_44 ?_
    exact GO.retz rfl rfl dX12_open_45 (Or.inl rfl) ⟨rfl, _, rfl, (ir_c rfl), ⟨Or.inl rfl, fun _ => trivial, fun _ => trivial, (by first | exact ⟨fun g => absurd rfl g, fun g => by omega⟩ | exact ⟨fun _ => by omega, fun _ => by omega⟩), (by first | exact Or.inl ⟨rfl, rfl⟩ | exact MOC.ok (by decide) (by unfold OQD; omega) (rfl : ar 141 V x = ar 141 V x) (rfl : ar 142 V x = ar 142 V x) (by omega) (by omega))⟩⟩
  ·
    have q9 := h6.2.1 (by omega)
    refine GO.iload_n dX12_open_9 rfl rfl ?_
    refine GO.if_lt (tgt := 44) dX12_open_10 (by decide) r_p1 (fun c10 => ?_) (fun c10 => ?_)
    ·
      refine GO.iconst dX12_open_44 ?_
      exact GO.retz rfl rfl dX12_open_45 (Or.inl rfl) ⟨rfl, _, rfl, (ir_c rfl), ⟨Or.inl rfl, fun _ => trivial, fun _ => trivial, (by first | exact ⟨fun g => absurd rfl g, fun g => by omega⟩ | exact ⟨fun _ => by omega, fun _ => by omega⟩), (by first | exact Or.inl ⟨rfl, rfl⟩ | exact MOC.ok (by decide) (by unfold OQD; omega) (rfl : ar 141 V x = ar 141 V x) (rfl : ar 142 V x = ar 142 V x) (by omega) (by omega))⟩⟩
    ·
      refine GO.iload_n dX12_open_13 rfl rfl ?_
      refine GO.aload_n dX12_open_14 rfl rfl ?_
      refine GO.getI h_x fl_RX12_736 rfl rfl dX12_open_15 (fun l11 u12 => ?_)
      refine GO.icmp_ge (tgt := 44) dX12_open_18 (by decide) r_p1 vi_ir (fun c13 => ?_) (fun c13 => ?_)
      ·
        refine GO.iconst dX12_open_44 ?_
        exact GO.retz rfl rfl dX12_open_45 (Or.inl rfl) ⟨rfl, _, rfl, (ir_c rfl), ⟨Or.inl rfl, fun _ => trivial, fun _ => trivial, (by first | exact ⟨fun g => absurd rfl g, fun g => by omega⟩ | exact ⟨fun _ => by omega, fun _ => by omega⟩), (by first | exact Or.inl ⟨rfl, rfl⟩ | exact MOC.ok (by decide) (by unfold OQD; omega) (rfl : ar 141 V x = ar 141 V x) (rfl : ar 142 V x = ar 142 V x) (by omega) (by omega))⟩⟩
      ·
        refine GO.iload_n dX12_open_21 rfl rfl ?_
        refine GO.iconst dX12_open_22 ?_
        refine GO.sipush dX12_open_23 rfl ?_
        refine GO.callS (N := mX12_in) dX12_open_26 gS_RX12_371 (t_X12_in r_p2 (ir_c rfl) (ir_c rfl)) rfl [] rfl rfl (Nat.le_of_ble_eq_true rfl) rfl (k_ip fun X14 r15 h16 => ?_)
        have raw_in := h16.2.2.2
        have rw26 := h16.2.2.2
        refine GO.if_eq (tgt := 44) dX12_open_29 (by decide) r15 (fun c17 => ?_) (fun c17 => ?_)
        ·
          have q18 := h16.2.2.1 (by omega)
          refine GO.iconst dX12_open_44 ?_
          exact GO.retz rfl rfl dX12_open_45 (Or.inl rfl) ⟨rfl, _, rfl, (ir_c rfl), ⟨Or.inl rfl, fun _ => trivial, fun _ => trivial, (by first | exact ⟨fun g => absurd rfl g, fun g => by omega⟩ | exact ⟨fun _ => by omega, fun _ => by omega⟩), (by first | exact Or.inl ⟨rfl, rfl⟩ | exact MOC.ok (by decide) (by unfold OQD; omega) (rfl : ar 141 V x = ar 141 V x) (rfl : ar 142 V x = ar 142 V x) (by omega) (by omega))⟩⟩
        ·
          have q19 := h16.2.1 (by omega)
          refine GO.iload dX12_open_32 rfl ?_
          refine GO.iload_n dX12_open_34 rfl rfl ?_
          refine GO.sipush dX12_open_35 rfl ?_
          refine GO.callS (N := mX12_in) dX12_open_38 gS_RX12_371 (t_X12_in r_p3 r_p2 (ir_c rfl)) rfl [] rfl rfl (Nat.le_of_ble_eq_true rfl) rfl (k_ip fun X20 r21 h22 => ?_)
          have raw_in := h22.2.2.2
          have rw38 := h22.2.2.2
          refine GO.if_ne (tgt := 46) dX12_open_41 (by decide) r21 (fun c23 => ?_) (fun c23 => ?_)
          ·
            have q24 := h22.2.1 (by omega)
            refine GO.aload_n dX12_open_46 rfl rfl ?_
            refine GO.getA (n := 24) h_x fl_RX12_334 rfl rfl rfl rfl dX12_open_47 (fun hv26 h25 => ?_)
            refine GO.bipush dX12_open_50 rfl ?_
            refine GO.iload_n dX12_open_52 rfl rfl ?_
            refine GO.imul dX12_open_53 ?_
            refine GO.iload_n dX12_open_54 rfl rfl ?_
            refine GO.iadd dX12_open_55 ?_
            refine GO.iload_n dX12_open_56 rfl rfl ?_
            have q27 : -2147483648 ≤ p1 ∧ p1 ≤ 2147483647 := r_p1
            have q28 : -2147483648 ≤ vi V x 137 ∧ vi V x 137 ≤ 2147483647 := vi_ir
            have q29 : -2147483648 ≤ p0 ∧ p0 ≤ 2147483647 := r_p0
            refine GO.iast (t := 113) rfl rfl (by decide +kernel) h25 ⟨by omega, by omega⟩ (by omega) (by omega) r_p2 (r_p2).1 (r_p2).2 dX12_open_57 (fun V31 e30 => ?_)
            have ak32 := tk_put e30 ak2 h_x (vq_of hv26) r_p2 (rfl : ar 141 V x = ar 141 V x)
            have ak33 := tk_oth e30 ak3 h_x h25 (by decide) (by decide) (rfl : ar 142 V x = ar 142 V x)
            refine GO.aload_n dX12_open_58 rfl rfl ?_
            refine GO.getA (n := 24) h_x fl_RX12_337 rfl rfl rfl rfl dX12_open_59 (fun hv35 h34 => ?_)
            refine GO.bipush dX12_open_62 rfl ?_
            refine GO.iload_n dX12_open_64 rfl rfl ?_
            refine GO.imul dX12_open_65 ?_
            refine GO.iload_n dX12_open_66 rfl rfl ?_
            refine GO.iadd dX12_open_67 ?_
            refine GO.iload dX12_open_68 rfl ?_
            refine GO.iast (t := 114) rfl rfl (by decide +kernel) h34 ⟨by omega, by omega⟩ (by omega) (by omega) r_p3 (r_p3).1 (r_p3).2 dX12_open_70 (fun V37 e36 => ?_)
            have ak38 := tk_oth e36 ak32.1 h_x h34 (by decide) (by decide) ak32.2
            have ak39 := tk_put e36 ak33.1 h_x (vq_of hv35) r_p3 ak33.2
            refine GO.iconst dX12_open_71 ?_
            exact GO.retz rfl rfl dX12_open_72 (Or.inr rfl) ⟨rfl, _, rfl, (ir_c rfl), ⟨Or.inr rfl, fun _ => trivial, fun _ => trivial, (by first | exact ⟨fun g => absurd rfl g, fun g => by omega⟩ | exact ⟨fun _ => by omega, fun _ => by omega⟩), (by first | exact Or.inl ⟨rfl, rfl⟩ | exact MOC.ok (by decide) (by unfold OQD; omega) ak38.2 ak39.2 (by omega) (by omega))⟩⟩
          ·
            have q40 := h22.2.2.1 (by omega)
            refine GO.iconst dX12_open_44 ?_
            exact GO.retz rfl rfl dX12_open_45 (Or.inl rfl) ⟨rfl, _, rfl, (ir_c rfl), ⟨Or.inl rfl, fun _ => trivial, fun _ => trivial, (by first | exact ⟨fun g => absurd rfl g, fun g => by omega⟩ | exact ⟨fun _ => by omega, fun _ => by omega⟩), (by first | exact Or.inl ⟨rfl, rfl⟩ | exact MOC.ok (by decide) (by unfold OQD; omega) (rfl : ar 141 V x = ar 141 V x) (rfl : ar 142 V x = ar 142 V x) (by omega) (by omega))⟩⟩
