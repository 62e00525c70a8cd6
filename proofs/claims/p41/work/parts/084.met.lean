def mX8_has_k33 : MRec := (RX8, cX8_has, 2, (some .boolean), yX8_has, 0, 0, 0, 0, 0)
def mX9_hasCondition : MRec := (RX9, cX9_hasCondition, 2, (some .boolean), yX9_hasCondition, 1, 24, 0, 0, 0)
def mX8_get_k32 : MRec := (RX8, cX8_get, 5, (some .int), yX8_get, 0, 0, 0, 0, 0)
def mX1_readingOf : MRec := (RX1, cX1_readingOf, 6, (some (.object "IceTreaty$Text")), yX1_readingOf, 1, 24, 0, 0, 0)
def mX4_put_t136 : MRec := (RX4, cX4_put, 3, (none : Option Jvm.ClassFile.FieldType), yX4_put, 0, 0, 0, 0, 330527984395124299475957654016385519914202341482140609642324397637202895618155672912594605219857642423795606012511679152128)
def mX1_push : MRec := (RX1, cX1_push, 2, (none : Option Jvm.ClassFile.FieldType), yX1_push, 1, 22, 0, 0, 330527984395124299475957654016385519914202341482140609642324397637202895618155672912594605219857642423795606012511687540736)
def mX1_pop : MRec := (RX1, cX1_pop, 1, (some .int), yX1_pop, 1, 21, 0, 0, 8388608)
def mX1_reckon : MRec := (RX1, cX1_reckon, 3, (some .int), yX1_reckon, 0, 0, 0, 0, 0)
def mX1_holds : MRec := (RX1, cX1_holds, 10, (some .int), yX1_holds, 2, 43, 0, 0, 330527984395124299475957654016385519914202341482140609642324397637202895618155672912594605219857642423795606012511687540736)
def mX1_wasTold : MRec := (RX1, cX1_wasTold, 2, (some .boolean), yX1_wasTold, 0, 0, 0, 0, 0)
def mX1_bar : MRec := (RX1, cX1_bar, 6, (some .int), yX1_bar, 2, 45, 0, 0, 0)
set_option maxHeartbeats 1000000 in
theorem t_X8_has_k33 {K : Kmap} {V : Vmap} {x : Nat} {p0 : Int} (h_x : K x = some (0, 33)) (r_p0 : ir p0) : MC mX8_has_k33 K V [.ref x, ti p0] (IP K V (fun X => (X = 0 ∨ X = 1) ∧ (X ≠ 0 → p0 ≥ 0 ∧ p0 < vi V x 3) ∧ (X = 0 → (p0 < 0 ∨ p0 ≥ vi V x 3)))) := by
  refine MC.start 0 (by decide +kernel) rfl rfl rfl (ls0 := [some (.ref x), some (ti p0)]) rfl ?_
  refine GO.iload_n dX8_has_0 rfl rfl ?_
  refine GO.if_lt (tgt := 16) dX8_has_1 (by decide) r_p0 (fun c1 => ?_) (fun c1 => ?_)
  ·
    refine GO.iconst dX8_has_16 ?_
    have q2 : -2147483648 ≤ vi V x 3 ∧ vi V x 3 ≤ 2147483647 := vi_ir
    exact GO.retz rfl rfl dX8_has_17 (Or.inl rfl) ⟨rfl, rfl, _, rfl, (ir_c rfl), ⟨Or.inl rfl, fun h => absurd rfl h, fun h => by omega⟩⟩
  ·
    refine GO.iload_n dX8_has_4 rfl rfl ?_
    refine GO.aload_n dX8_has_5 rfl rfl ?_
    refine GO.getI h_x fl_RX8_9_k33 rfl rfl dX8_has_6 (fun l3 u4 => ?_)
    refine GO.icmp_ge (tgt := 16) dX8_has_9 (by decide) r_p0 vi_ir (fun c5 => ?_) (fun c5 => ?_)
    ·
      refine GO.iconst dX8_has_16 ?_
      have q6 : -2147483648 ≤ p0 ∧ p0 ≤ 2147483647 := r_p0
      exact GO.retz rfl rfl dX8_has_17 (Or.inl rfl) ⟨rfl, rfl, _, rfl, (ir_c rfl), ⟨Or.inl rfl, fun h => absurd rfl h, fun h => by omega⟩⟩
    ·
      refine GO.iconst dX8_has_12 ?_
      refine GO.goto (tgt := 17) dX8_has_13 (by decide) ?_
      have q7 : -2147483648 ≤ p0 ∧ p0 ≤ 2147483647 := r_p0
      exact GO.retz rfl rfl dX8_has_17 (Or.inr rfl) ⟨rfl, rfl, _, rfl, (ir_c rfl), ⟨Or.inr rfl, fun h => by omega, fun h => absurd h (by decide)⟩⟩

set_option maxHeartbeats 1000000 in
theorem t_X9_hasCondition {K : Kmap} {V : Vmap} {x : Nat} {p0 : Int} (h_x : K x = some (0, 8)) (r_p0 : ir p0) : MC mX9_hasCondition K V [.ref x, ti p0] (IP K V (fun X => (X = 0 ∨ X = 1) ∧ (X ≠ 0 → True) ∧ (X = 0 → True) ∧ (HCN K V x p0 X))) := by
  refine MC.start 0 (by decide +kernel) rfl rfl rfl (ls0 := [some (.ref x), some (ti p0)]) rfl ?_
  refine GO.aload_n dX9_hasCondition_0 rfl rfl ?_
  refine GO.getR h_x fl_RX9_26 rfl rfl dX9_hasCondition_1 (fun hv2 h1 => ?_)
  refine GO.iload_n dX9_hasCondition_4 rfl rfl ?_
  refine GO.callV (ci := 33) (N := mX8_has_k33) dX9_hasCondition_5 (RX8, TX8, 4) rfl gV_RX9_43 h1 (t_X8_has_k33 h1 r_p0) rfl [] rfl rfl (Nat.le_of_ble_eq_true rfl) rfl (k_ip fun X3 r4 h5 => ?_)
  refine GO.if_eq (tgt := 36) dX9_hasCondition_8 (by decide) r4 (fun c6 => ?_) (fun c6 => ?_)
  ·
    have q7 := h5.2.2 (by omega)
    refine GO.iconst dX9_hasCondition_36 ?_
    exact GO.retz rfl rfl dX9_hasCondition_37 (Or.inl rfl) ⟨rfl, rfl, _, rfl, (ir_c rfl), ⟨Or.inl rfl, fun _ => trivial, fun _ => trivial, (by first | exact HCN.out (by omega) (by omega))⟩⟩
  ·
    have q8 := h5.2.1 (by omega)
    refine GO.aload_n dX9_hasCondition_11 rfl rfl ?_
    refine GO.getRaw h_x fl_RX9_26 hv2 dX9_hasCondition_12 ?_
    refine GO.iload_n dX9_hasCondition_15 rfl rfl ?_
    refine GO.iconst dX9_hasCondition_16 ?_
    refine GO.callV (ci := 33) (N := mX8_get_k33) dX9_hasCondition_17 (RX8, TX8, 4) rfl gV_RX9_40 h1 (t_X8_get_k33 h1 r_p0 (ir_c rfl)) rfl [] rfl rfl (Nat.le_of_ble_eq_true rfl) rfl (k_ip fun X11 r12 h13 => ?_)
    have raw_get := h13.2
    have rw17 := h13.2
    refine GO.aload_n dX9_hasCondition_20 rfl rfl ?_
    refine GO.getRaw h_x fl_RX9_26 hv2 dX9_hasCondition_21 ?_
    refine GO.iload_n dX9_hasCondition_24 rfl rfl ?_
    refine GO.iconst dX9_hasCondition_25 ?_
    refine GO.callV (ci := 33) (N := mX8_get_k33) dX9_hasCondition_26 (RX8, TX8, 4) rfl gV_RX9_40 h1 (t_X8_get_k33 h1 r_p0 (ir_c rfl)) rfl [ti X11] rfl rfl (Nat.le_of_ble_eq_true rfl) rfl (k_ip fun X16 r17 h18 => ?_)
    have raw_get := h18.2
    have rw26 := h18.2
    refine GO.icmp_le (tgt := 36) dX9_hasCondition_29 (by decide) r12 r17 (fun c19 => ?_) (fun c19 => ?_)
    ·
      refine GO.iconst dX9_hasCondition_36 ?_
      exact GO.retz rfl rfl dX9_hasCondition_37 (Or.inl rfl) ⟨rfl, rfl, _, rfl, (ir_c rfl), ⟨Or.inl rfl, fun _ => trivial, fun _ => trivial, (by first | exact HCN.out (by omega) (by omega) | exact HCN.in (by omega) (by omega) rw17 rw26 (by constructor <;> intro _ <;> omega))⟩⟩
    ·
      refine GO.iconst dX9_hasCondition_32 ?_
      refine GO.goto (tgt := 37) dX9_hasCondition_33 (by decide) ?_
      exact GO.retz rfl rfl dX9_hasCondition_37 (Or.inr rfl) ⟨rfl, rfl, _, rfl, (ir_c rfl), ⟨Or.inr rfl, fun _ => trivial, fun _ => trivial, (by first | exact HCN.out (by omega) (by omega) | exact HCN.in (by omega) (by omega) rw17 rw26 (by constructor <;> intro _ <;> omega))⟩⟩

set_option maxHeartbeats 1000000 in
theorem t_X8_get_k32 {K : Kmap} {V : Vmap} {x : Nat} {p0 : Int} {p1 : Int} (h_x : K x = some (0, 32)) (r_p0 : ir p0) (r_p1 : ir p1) : MC mX8_get_k32 K V [.ref x, ti p0, ti p1] (IP K V (fun X => (X ≥ (-2147483648) ∧ X ≤ 2147483647) ∧ (TG K V x p0 p1 X))) := by
  refine MC.start 2 (by decide +kernel) rfl rfl rfl (ls0 := [some (.ref x), some (ti p0), some (ti p1), none, none]) rfl ?_
  refine GO.iload_n dX8_get_0 rfl rfl ?_
  refine GO.aload_n dX8_get_1 rfl rfl ?_
  refine GO.getI h_x fl_RX8_15_k32 rfl rfl dX8_get_2 (fun l1 u2 => ?_)
  refine GO.imul dX8_get_5 ?_
  refine GO.norm (fun z3 r4 hn5 => ?_)
  refine GO.iload_n dX8_get_6 rfl rfl ?_
  refine GO.iadd dX8_get_7 ?_
  refine GO.norm (fun z6 r7 hn8 => ?_)
  refine GO.istore_n (ls1 := [some (.ref x), some (ti p0), some (ti p1), some (ti z6), none]) dX8_get_8 rfl rfl rfl ?_
  refine GO.iload_n dX8_get_9 rfl rfl ?_
  refine GO.if_lt (tgt := 37) dX8_get_10 (by decide) r_p0 (fun c9 => ?_) (fun c9 => ?_)
  ·
    refine GO.iconst dX8_get_37 ?_
    refine GO.istore (ls1 := [some (.ref x), some (ti p0), some (ti p1), some (ti z6), some (ti 0)]) dX8_get_38 rfl rfl ?_
    refine GO.iload dX8_get_40 rfl ?_
    refine GO.if_eq (tgt := 67) dX8_get_42 (by decide) (ir_c rfl) (fun c10 => ?_) (fun h => by exfalso; omega)
    refine GO.iconst dX8_get_67 ?_
    exact GO.reti rfl rfl dX8_get_68 ⟨rfl, rfl, _, rfl, (ir_c rfl), ⟨(by first | exact trivial | omega), (by first | exact TG.in (by assumption) (by assumption) ⟨by omega, by omega, by omega, by omega⟩ | exact TG.out (by omega) rfl | exact TG.neg (by assumption) (by assumption) ⟨by omega, by omega, by omega, by omega⟩ (by omega) | exact TG.bad (by assumption) (by assumption) ⟨by omega, by omega, by omega, by omega⟩ (by assumption) (by omega))⟩⟩
  ·
    refine GO.iload_n dX8_get_13 rfl rfl ?_
    refine GO.aload_n dX8_get_14 rfl rfl ?_
    refine GO.getI h_x fl_RX8_9_k32 rfl rfl dX8_get_15 (fun l11 u12 => ?_)
    refine GO.icmp_ge (tgt := 37) dX8_get_18 (by decide) r_p0 vi_ir (fun c13 => ?_) (fun c13 => ?_)
    ·
      refine GO.iconst dX8_get_37 ?_
      refine GO.istore (ls1 := [some (.ref x), some (ti p0), some (ti p1), some (ti z6), some (ti 0)]) dX8_get_38 rfl rfl ?_
      refine GO.iload dX8_get_40 rfl ?_
      refine GO.if_eq (tgt := 67) dX8_get_42 (by decide) (ir_c rfl) (fun c14 => ?_) (fun h => by exfalso; omega)
      refine GO.iconst dX8_get_67 ?_
      exact GO.reti rfl rfl dX8_get_68 ⟨rfl, rfl, _, rfl, (ir_c rfl), ⟨(by first | exact trivial | omega), (by first | exact TG.in (by assumption) (by assumption) ⟨by omega, by omega, by omega, by omega⟩ | exact TG.out (by omega) rfl | exact TG.neg (by assumption) (by assumption) ⟨by omega, by omega, by omega, by omega⟩ (by omega) | exact TG.bad (by assumption) (by assumption) ⟨by omega, by omega, by omega, by omega⟩ (by assumption) (by omega))⟩⟩
    ·
      refine GO.iload_n dX8_get_21 rfl rfl ?_
      refine GO.if_lt (tgt := 37) dX8_get_22 (by decide) r_p1 (fun c15 => ?_) (fun c15 => ?_)
      ·
        refine GO.iconst dX8_get_37 ?_
        refine GO.istore (ls1 := [some (.ref x), some (ti p0), some (ti p1), some (ti z6), some (ti 0)]) dX8_get_38 rfl rfl ?_
        refine GO.iload dX8_get_40 rfl ?_
        refine GO.if_eq (tgt := 67) dX8_get_42 (by decide) (ir_c rfl) (fun c16 => ?_) (fun h => by exfalso; omega)
        refine GO.iconst dX8_get_67 ?_
        exact GO.reti rfl rfl dX8_get_68 ⟨rfl, rfl, _, rfl, (ir_c rfl), ⟨(by first | exact trivial | omega), (by first | exact TG.in (by assumption) (by assumption) ⟨by omega, by omega, by omega, by omega⟩ | exact TG.out (by omega) rfl | exact TG.neg (by assumption) (by assumption) ⟨by omega, by omega, by omega, by omega⟩ (by omega) | exact TG.bad (by assumption) (by assumption) ⟨by omega, by omega, by omega, by omega⟩ (by assumption) (by omega))⟩⟩
      ·
        refine GO.iload_n dX8_get_25 rfl rfl ?_
        refine GO.aload_n dX8_get_26 rfl rfl ?_
        refine GO.getI h_x fl_RX8_15_k32 rfl rfl dX8_get_27 (fun l17 u18 => ?_)
        refine GO.icmp_ge (tgt := 37) dX8_get_30 (by decide) r_p1 vi_ir (fun c19 => ?_) (fun c19 => ?_)
        ·
          refine GO.iconst dX8_get_37 ?_
          refine GO.istore (ls1 := [some (.ref x), some (ti p0), some (ti p1), some (ti z6), some (ti 0)]) dX8_get_38 rfl rfl ?_
          refine GO.iload dX8_get_40 rfl ?_
          refine GO.if_eq (tgt := 67) dX8_get_42 (by decide) (ir_c rfl) (fun c20 => ?_) (fun h => by exfalso; omega)
          refine GO.iconst dX8_get_67 ?_
          exact GO.reti rfl rfl dX8_get_68 ⟨rfl, rfl, _, rfl, (ir_c rfl), ⟨(by first | exact trivial | omega), (by first | exact TG.in (by assumption) (by assumption) ⟨by omega, by omega, by omega, by omega⟩ | exact TG.out (by omega) rfl | exact TG.neg (by assumption) (by assumption) ⟨by omega, by omega, by omega, by omega⟩ (by omega) | exact TG.bad (by assumption) (by assumption) ⟨by omega, by omega, by omega, by omega⟩ (by assumption) (by omega))⟩⟩
        ·
          refine GO.iconst dX8_get_33 ?_
          refine GO.goto (tgt := 38) dX8_get_34 (by decide) ?_
          refine GO.istore (ls1 := [some (.ref x), some (ti p0), some (ti p1), some (ti z6), some (ti 1)]) dX8_get_38 rfl rfl ?_
          refine GO.iload dX8_get_40 rfl ?_
          refine GO.if_eq (tgt := 67) dX8_get_42 (by decide) (ir_c rfl) (fun h => by exfalso; omega) (fun c21 => ?_)
          refine GO.iload_n dX8_get_45 rfl rfl ?_
          refine GO.if_lt (tgt := 67) dX8_get_46 (by decide) r7 (fun c22 => ?_) (fun c22 => ?_)
          ·
            refine GO.iconst dX8_get_67 ?_
            exact GO.reti rfl rfl dX8_get_68 ⟨rfl, rfl, _, rfl, (ir_c rfl), ⟨(by first | exact trivial | omega), (by first | exact TG.in (by assumption) (by assumption) ⟨by omega, by omega, by omega, by omega⟩ | exact TG.out (by omega) rfl | exact TG.neg (by assumption) (by assumption) ⟨by omega, by omega, by omega, by omega⟩ (by omega) | exact TG.bad (by assumption) (by assumption) ⟨by omega, by omega, by omega, by omega⟩ (by assumption) (by omega))⟩⟩
          ·
            refine GO.iload_n dX8_get_49 rfl rfl ?_
            refine GO.aload_n dX8_get_50 rfl rfl ?_
            refine GO.getA (n := 60) h_x fl_RX8_27_k32 rfl rfl rfl rfl dX8_get_51 (fun hv24 h23 => ?_)
            refine GO.alen h23 dX8_get_54 (fun h25 => ?_)
            refine GO.icmp_ge (tgt := 67) dX8_get_55 (by decide) r7 ⟨by omega, by omega⟩ (fun c26 => ?_) (fun c26 => ?_)
            ·
              refine GO.iconst dX8_get_67 ?_
              exact GO.reti rfl rfl dX8_get_68 ⟨rfl, rfl, _, rfl, (ir_c rfl), ⟨(by first | exact trivial | omega), (by first | exact TG.in (by assumption) (by assumption) ⟨by omega, by omega, by omega, by omega⟩ | exact TG.out (by omega) rfl | exact TG.neg (by assumption) (by assumption) ⟨by omega, by omega, by omega, by omega⟩ (by omega) | exact TG.bad (by assumption) (by assumption) ⟨by omega, by omega, by omega, by omega⟩ (by assumption) (by omega))⟩⟩
            ·
              refine GO.aload_n dX8_get_58 rfl rfl ?_
              refine GO.getRaw h_x fl_RX8_27_k32 hv24 dX8_get_59 ?_
              refine GO.iload_n dX8_get_62 rfl rfl ?_
              have q29 : -2147483648 ≤ z6 ∧ z6 ≤ 2147483647 := r7
              refine GO.iald (t := 154) rfl rfl h23 r7 (by omega) (by omega) dX8_get_63 (fun _ _ => ?_)
              refine GO.goto (tgt := 68) dX8_get_64 (by decide) ?_
              have q30 : -2147483648 ≤ vi V (vq V x 2) (z6).toNat ∧ vi V (vq V x 2) (z6).toNat ≤ 2147483647 := vi_ir
              exact GO.reti rfl rfl dX8_get_68 ⟨rfl, rfl, _, rfl, vi_ir, ⟨(by first | exact trivial | omega), (by first | exact TG.in (by assumption) (by assumption) ⟨by omega, by omega, by omega, by omega⟩ | exact TG.out (by omega) rfl | exact TG.neg (by assumption) (by assumption) ⟨by omega, by omega, by omega, by omega⟩ (by omega) | exact TG.bad (by assumption) (by assumption) ⟨by omega, by omega, by omega, by omega⟩ (by assumption) (by omega))⟩⟩

set_option maxHeartbeats 1000000 in
theorem t_X1_readingOf {K : Kmap} {V : Vmap} {x : Nat} {p0 : Int} {p1 : Int} {p2 : Int} (h_x : K x = some (0, 1)) (r_p0 : ir p0) (r_p1 : ir p1) (r_p2 : ir p2) : MC mX1_readingOf K V [.ref x, ti p0, ti p1, ti p2] (RP K V 8 (True) (fun _ => True)) := by
  refine MC.start 2 (by decide +kernel) rfl rfl rfl (ls0 := [some (.ref x), some (ti p0), some (ti p1), some (ti p2), none, none]) rfl ?_
  refine GO.aload_n dX1_readingOf_0 rfl rfl ?_
  refine GO.getR h_x fl_RX1_26 rfl rfl dX1_readingOf_1 (fun hv2 h1 => ?_)
  refine GO.getI h1 fl_RX1_105_k32 rfl rfl dX1_readingOf_4 (fun l3 u4 => ?_)
  refine GO.iconst dX1_readingOf_7 ?_
  refine GO.isub dX1_readingOf_8 ?_
  refine GO.name (fun z5 hz6 => ?_)
  refine GO.istore (ls1 := [some (.ref x), some (ti p0), some (ti p1), some (ti p2), some (ti z5), none]) dX1_readingOf_9 rfl rfl ?_
  refine GO.loop1 (fun i7 W => (-1) ≤ i7 ∧ i7 ≤ 19 ∧ V = W) (fun i7 => [some (.ref x), some (ti p0), some (ti p1), some (ti p2), some (ti i7), none]) (fun i7 W => (i7 + 2147483648).toNat) z5 ⟨by omega, by omega, rfl⟩ rfl (fun i7 V67 hp69 ih68 => ?_)
  obtain ⟨l_i7, u_i7, rfl⟩ := hp69
  have r_i7 : ir i7 := ⟨by omega, by omega⟩
  show GO mX1_readingOf K V (RP K V 8 (True) (fun _ => True)) K V 0 0 11 [some (.ref x), some (ti p0), some (ti p1), some (ti p2), some (ti i7), none] []
  refine GO.iload dX1_readingOf_11 rfl ?_
  refine GO.if_lt (tgt := 94) dX1_readingOf_13 (by decide) r_i7 (fun c70 => ?_) (fun c70 => ?_)
  ·
    refine GO.null dX1_readingOf_94 ?_
    exact GO.reta rfl rfl (Or.inl ⟨_, rfl⟩) dX1_readingOf_95 (Or.inl rfl) ⟨rfl, rfl, Or.inl ⟨rfl, trivial⟩⟩
  ·
    refine GO.aload_n dX1_readingOf_16 rfl rfl ?_
    refine GO.getRaw h_x fl_RX1_26 hv2 dX1_readingOf_17 ?_
    refine GO.iload dX1_readingOf_20 rfl ?_
    refine GO.iconst dX1_readingOf_22 ?_
    refine GO.callV (ci := 32) (N := mX8_get_k32) dX1_readingOf_23 (RX8, TX8, 4) rfl gV_RX1_116 h1 (t_X8_get_k32 h1 r_i7 (ir_c rfl)) rfl [] rfl rfl (Nat.le_of_ble_eq_true rfl) rfl (k_ip fun X73 r74 h75 => ?_)
    have raw_get := h75.2
    have rw23 := h75.2
    refine GO.iload_n dX1_readingOf_26 rfl rfl ?_
    have hj90 : ∀ (z89 : Int), ∀ (l91 : 0 ≤ z89), ∀ (u92 : z89 ≤ 1), GO mX1_readingOf K V (RP K V 8 (True) (fun _ => True)) K V 0 0 63 [some (.ref x), some (ti p0), some (ti p1), some (ti p2), some (ti i7), none] [ti z89] := by
      intro z89 l91 u92
      have r93 : ir z89 := ⟨by omega, by omega⟩
      refine GO.istore (ls1 := [some (.ref x), some (ti p0), some (ti p1), some (ti p2), some (ti i7), some (ti z89)]) dX1_readingOf_63 rfl rfl ?_
      refine GO.iload dX1_readingOf_65 rfl ?_
      refine GO.if_eq (tgt := 88) dX1_readingOf_67 (by decide) r93 (fun c94 => ?_) (fun c94 => ?_)
      ·
        refine GO.iinc (X := i7) (n := (-1)) (Y := i7 + (-1)) (ls1 := [some (.ref x), some (ti p0), some (ti p1), some (ti p2), some (ti (i7 + (-1))), some (ti z89)]) dX1_readingOf_88 rfl rfl rfl rfl ?_
        refine GO.goto (tgt := 11) dX1_readingOf_91 (by decide) ?_
        refine GO.drop [true, true, true, true, true, false] rfl ?_
        exact ih68 (i7 + (-1)) V ⟨by omega, by omega, rfl⟩ (by show ((i7 + (-1)) + 2147483648).toNat < (i7 + 2147483648).toNat; omega)
      ·
        refine GO.iload dX1_readingOf_70 rfl ?_
        refine GO.aload_n dX1_readingOf_72 rfl rfl ?_
        refine GO.getA (n := 20) h_x fl_RX1_30 rfl rfl rfl rfl dX1_readingOf_73 (fun hv96 h95 => ?_)
        refine GO.alen h95 dX1_readingOf_76 (fun h97 => ?_)
        refine GO.icmp_ge (tgt := 88) dX1_readingOf_77 (by decide) r_i7 ⟨by omega, by omega⟩ (fun h => by exfalso; omega) (fun c98 => ?_)
        refine GO.aload_n dX1_readingOf_80 rfl rfl ?_
        refine GO.getRaw h_x fl_RX1_30 hv96 dX1_readingOf_81 ?_
        refine GO.iload dX1_readingOf_84 rfl ?_
        refine GO.aald (t := 157) rfl rfl h95 r_i7 (by omega) (by omega) dX1_readingOf_86 (fun _ => ?_) (fun _ h101 => ?_)
        ·
          exact GO.reta rfl rfl (Or.inl ⟨_, rfl⟩) dX1_readingOf_87 (Or.inl rfl) ⟨rfl, rfl, Or.inl ⟨rfl, trivial⟩⟩
        ·
          exact GO.reta rfl rfl (Or.inl ⟨_, rfl⟩) dX1_readingOf_87 (Or.inr ⟨_, rfl⟩) ⟨rfl, rfl, Or.inr ⟨_, rfl, h101, trivial⟩⟩
    have hj115 : GO mX1_readingOf K V (RP K V 8 (True) (fun _ => True)) K V 0 0 62 [some (.ref x), some (ti p0), some (ti p1), some (ti p2), some (ti i7), none] [] := by
      skip
      refine GO.iconst dX1_readingOf_62 ?_
      exact hj90 0 (by omega) (by omega)
    refine GO.icmp_ne (tgt := 62) dX1_readingOf_27 (by decide) r74 r_p0 (fun c116 => ?_) (fun c116 => ?_)
    ·
      exact hj115 
    ·
      refine GO.aload_n dX1_readingOf_30 rfl rfl ?_
      refine GO.getRaw h_x fl_RX1_26 hv2 dX1_readingOf_31 ?_
      refine GO.iload dX1_readingOf_34 rfl ?_
      refine GO.iconst dX1_readingOf_36 ?_
      refine GO.callV (ci := 32) (N := mX8_get_k32) dX1_readingOf_37 (RX8, TX8, 4) rfl gV_RX1_116 h1 (t_X8_get_k32 h1 r_i7 (ir_c rfl)) rfl [] rfl rfl (Nat.le_of_ble_eq_true rfl) rfl (k_ip fun X119 r120 h121 => ?_)
      have raw_get := h121.2
      have rw37 := h121.2
      refine GO.iload_n dX1_readingOf_40 rfl rfl ?_
      refine GO.icmp_ne (tgt := 62) dX1_readingOf_41 (by decide) r120 r_p1 (fun c122 => ?_) (fun c122 => ?_)
      ·
        exact hj115 
      ·
        refine GO.aload_n dX1_readingOf_44 rfl rfl ?_
        refine GO.getRaw h_x fl_RX1_26 hv2 dX1_readingOf_45 ?_
        refine GO.iload dX1_readingOf_48 rfl ?_
        refine GO.iconst dX1_readingOf_50 ?_
        refine GO.callV (ci := 32) (N := mX8_get_k32) dX1_readingOf_51 (RX8, TX8, 4) rfl gV_RX1_116 h1 (t_X8_get_k32 h1 r_i7 (ir_c rfl)) rfl [] rfl rfl (Nat.le_of_ble_eq_true rfl) rfl (k_ip fun X125 r126 h127 => ?_)
        have raw_get := h127.2
        have rw51 := h127.2
        refine GO.iload_n dX1_readingOf_54 rfl rfl ?_
        refine GO.icmp_ne (tgt := 62) dX1_readingOf_55 (by decide) r126 r_p2 (fun c128 => ?_) (fun c128 => ?_)
        ·
          exact hj115 
        ·
          refine GO.iconst dX1_readingOf_58 ?_
          refine GO.goto (tgt := 63) dX1_readingOf_59 (by decide) ?_
          exact hj90 1 (by omega) (by omega)

set_option maxHeartbeats 1000000 in
theorem t_X4_put_t136 {K : Kmap} {V : Vmap} {p0 n_p0 : Nat} {p1 : Int} {p2 : Int} (h_p0 : K p0 = some (137, n_p0)) (r_p1 : ir p1) (r_p2 : ir p2) : MC mX4_put_t136 K V [.ref p0, ti p1, ti p2] (VS K (fun V1 => (True) ∧ (V1 = rpv V p0 n_p0 p1 p2))) := by
  refine MC.start 0 (by decide +kernel) rfl rfl rfl (ls0 := [some (.ref p0), some (ti p1), some (ti p2)]) rfl ?_
  refine GO.aload_n dX4_put_0 rfl rfl ?_
  refine GO.ifnull dX4_put_1 ?_
  refine GO.iload_n dX4_put_4 rfl rfl ?_
  refine GO.if_lt (tgt := 18) dX4_put_5 (by decide) r_p1 (fun c1 => ?_) (fun c1 => ?_)
  ·
    exact GO.retv rfl rfl dX4_put_18 ⟨rfl, rfl, ⟨trivial, (by first | exact rpv_in (by assumption) (by omega) (by omega) | exact rpv_out (by omega))⟩⟩
  ·
    refine GO.iload_n dX4_put_8 rfl rfl ?_
    refine GO.aload_n dX4_put_9 rfl rfl ?_
    refine GO.alen h_p0 dX4_put_10 (fun h2 => ?_)
    refine GO.icmp_ge (tgt := 18) dX4_put_11 (by decide) r_p1 ⟨by omega, by omega⟩ (fun c3 => ?_) (fun c3 => ?_)
    ·
      exact GO.retv rfl rfl dX4_put_18 ⟨rfl, rfl, ⟨trivial, (by first | exact rpv_in (by assumption) (by omega) (by omega) | exact rpv_out (by omega))⟩⟩
    ·
      refine GO.aload_n dX4_put_14 rfl rfl ?_
      refine GO.iload_n dX4_put_15 rfl rfl ?_
      refine GO.iload_n dX4_put_16 rfl rfl ?_
      have q4 : -2147483648 ≤ p1 ∧ p1 ≤ 2147483647 := r_p1
      refine GO.iast (t := 136) rfl rfl (by decide +kernel) h_p0 r_p1 (by omega) (by omega) r_p2 (r_p2).1 (r_p2).2 dX4_put_17 (fun V6 e5 => ?_)
      exact GO.retv rfl rfl dX4_put_18 ⟨rfl, rfl, ⟨trivial, (by first | exact rpv_in (by assumption) (by omega) (by omega) | exact rpv_out (by omega))⟩⟩

set_option maxHeartbeats 1000000 in
theorem t_X1_push {K : Kmap} {V : Vmap} {x : Nat} {p0 : Int} (h_x : K x = some (0, 1)) (r_p0 : ir p0) : MC mX1_push K V [.ref x, ti p0] (VS K (fun V1 => (True))) := by
  refine MC.start 0 (by decide +kernel) rfl rfl rfl (ls0 := [some (.ref x), some (ti p0)]) rfl ?_
  refine GO.aload_n dX1_push_0 rfl rfl ?_
  refine GO.getA (n := 32) h_x fl_RX1_49 rfl rfl rfl rfl dX1_push_1 (fun hv2 h1 => ?_)
  refine GO.aload_n dX1_push_4 rfl rfl ?_
  refine GO.getI h_x fl_RX1_52 rfl rfl dX1_push_5 (fun _ _ => ?_)
  refine GO.iload_n dX1_push_8 rfl rfl ?_
  refine GO.callS (N := mX4_put_t136) dX1_push_9 gS_RX1_108 (t_X4_put_t136 h1 vi_ir r_p0) rfl [] rfl rfl (Nat.le_of_ble_eq_true rfl) rfl (k_vs fun V5 h4 hF3 => ?_)
  have raw_put := h4.2
  have rw9 := h4.2
  refine GO.aload_n dX1_push_12 rfl rfl ?_
  refine GO.dup dX1_push_13 rfl ?_
  refine GO.getI h_x fl_RX1_52 rfl rfl dX1_push_14 (fun _ _ => ?_)
  have e6 : vi V5 x 10 = vi V x 10 := vi_fr hF3 h_x h_x (by decide +kernel)
  refine GO.iconst dX1_push_17 ?_
  refine GO.iadd dX1_push_18 ?_
  refine GO.norm (fun z7 r8 hn9 => ?_)
  refine GO.putI h_x fp_RX1_52 rfl (by decide +kernel) r8 (r8).1 (r8).2 dX1_push_19 (fun V11 e10 => ?_)
  exact GO.retv rfl rfl dX1_push_22 ⟨rfl, rfl, trivial⟩

set_option maxHeartbeats 1000000 in
theorem t_X1_pop {K : Kmap} {V : Vmap} {x : Nat} (h_x : K x = some (0, 1)) : MC mX1_pop K V [.ref x] (IS K (fun X V1 => True)) := by
  refine MC.start 0 (by decide +kernel) rfl rfl rfl (ls0 := [some (.ref x)]) rfl ?_
  refine GO.aload_n dX1_pop_0 rfl rfl ?_
  refine GO.dup dX1_pop_1 rfl ?_
  refine GO.getI h_x fl_RX1_52 rfl rfl dX1_pop_2 (fun _ _ => ?_)
  refine GO.iconst dX1_pop_5 ?_
  refine GO.isub dX1_pop_6 ?_
  refine GO.norm (fun z1 r2 hn3 => ?_)
  refine GO.putI h_x fp_RX1_52 rfl (by decide +kernel) r2 (r2).1 (r2).2 dX1_pop_7 (fun V5 e4 => ?_)
  refine GO.aload_n dX1_pop_10 rfl rfl ?_
  refine GO.getA (n := 32) h_x fl_RX1_49 rfl rfl rfl rfl dX1_pop_11 (fun hv7 h6 => ?_)
  refine GO.aload_n dX1_pop_14 rfl rfl ?_
  refine GO.getI h_x fl_RX1_52 rfl rfl dX1_pop_15 (fun _ _ => ?_)
  have e8 : vi V5 x 10 = z1 := upd2_int e4 r2
  refine GO.callS (N := mX4_get) dX1_pop_18 gS_RX1_88 (t_X4_get rfl h6 vi_ir) rfl [] rfl rfl (Nat.le_of_ble_eq_true rfl) rfl (k_ip fun X9 r10 h11 => ?_)
  have raw_get := h11.2
  have rw18 := h11.2
  exact GO.reti rfl rfl dX1_pop_21 ⟨rfl, _, rfl, r10, trivial⟩

set_option maxHeartbeats 1000000 in
theorem t_X1_reckon {K : Kmap} {V : Vmap} {p0 : Int} {p1 : Int} {p2 : Int} (r_p0 : ir p0) (r_p1 : ir p1) (r_p2 : ir p2) : MC mX1_reckon K V [ti p0, ti p1, ti p2] (IP K V (fun X => True)) := by
  refine MC.start 0 (by decide +kernel) rfl rfl rfl (ls0 := [some (ti p0), some (ti p1), some (ti p2)]) rfl ?_
  refine GO.iload_n dX1_reckon_0 rfl rfl ?_
  have q1 : -2147483648 ≤ p0 ∧ p0 ≤ 2147483647 := r_p0
  rcases (show (p0 < 5 ∨ 11 < p0) ∨ p0 = 5 ∨ p0 = 6 ∨ p0 = 7 ∨ p0 = 8 ∨ p0 = 9 ∨ p0 = 10 ∨ p0 = 11 by omega) with c2 | c2 | c2 | c2 | c2 | c2 | c2 | c2
  ·
    refine GO.tableOut (tgt := 102) dX1_reckon_1 r_p0 c2 (by decide) ?_
    refine GO.iload_n dX1_reckon_102 rfl rfl ?_
    refine GO.iload_n dX1_reckon_103 rfl rfl ?_
    refine GO.icmp_ne (tgt := 111) dX1_reckon_104 (by decide) r_p1 r_p2 (fun c3 => ?_) (fun c3 => ?_)
    ·
      refine GO.iconst dX1_reckon_111 ?_
      exact GO.reti rfl rfl dX1_reckon_112 ⟨rfl, rfl, _, rfl, (ir_c rfl), trivial⟩
    ·
      refine GO.iconst dX1_reckon_107 ?_
      refine GO.goto (tgt := 112) dX1_reckon_108 (by decide) ?_
      exact GO.reti rfl rfl dX1_reckon_112 ⟨rfl, rfl, _, rfl, (ir_c rfl), trivial⟩
  ·
    refine GO.tableAt (n := 5) (tgt := 44) dX1_reckon_1 (ir_c rfl) c2 (by decide) (by decide) rfl (by decide) ?_
    refine GO.iload_n dX1_reckon_44 rfl rfl ?_
    refine GO.iload_n dX1_reckon_45 rfl rfl ?_
    refine GO.iadd dX1_reckon_46 ?_
    refine GO.norm (fun z4 r5 hn6 => ?_)
    have q7 : -2147483648 ≤ z4 ∧ z4 ≤ 2147483647 := r5
    exact GO.reti rfl rfl dX1_reckon_47 ⟨rfl, rfl, _, rfl, r5, trivial⟩
  ·
    refine GO.tableAt (n := 6) (tgt := 48) dX1_reckon_1 (ir_c rfl) c2 (by decide) (by decide) rfl (by decide) ?_
    refine GO.iload_n dX1_reckon_48 rfl rfl ?_
    refine GO.iload_n dX1_reckon_49 rfl rfl ?_
    refine GO.isub dX1_reckon_50 ?_
    refine GO.norm (fun z8 r9 hn10 => ?_)
    have q11 : -2147483648 ≤ z8 ∧ z8 ≤ 2147483647 := r9
    exact GO.reti rfl rfl dX1_reckon_51 ⟨rfl, rfl, _, rfl, r9, trivial⟩
  ·
    refine GO.tableAt (n := 7) (tgt := 52) dX1_reckon_1 (ir_c rfl) c2 (by decide) (by decide) rfl (by decide) ?_
    refine GO.iload_n dX1_reckon_52 rfl rfl ?_
    refine GO.iload_n dX1_reckon_53 rfl rfl ?_
    refine GO.imul dX1_reckon_54 ?_
    refine GO.norm (fun z12 r13 hn14 => ?_)
    have q15 : -2147483648 ≤ z12 ∧ z12 ≤ 2147483647 := r13
    exact GO.reti rfl rfl dX1_reckon_55 ⟨rfl, rfl, _, rfl, r13, trivial⟩
  ·
    refine GO.tableAt (n := 8) (tgt := 56) dX1_reckon_1 (ir_c rfl) c2 (by decide) (by decide) rfl (by decide) ?_
    refine GO.iload_n dX1_reckon_56 rfl rfl ?_
    refine GO.if_ne (tgt := 64) dX1_reckon_57 (by decide) r_p2 (fun c16 => ?_) (fun c16 => ?_)
    ·
      refine GO.iload_n dX1_reckon_64 rfl rfl ?_
      refine GO.iload_n dX1_reckon_65 rfl rfl ?_
      have q17 : -2147483648 ≤ p2 ∧ p2 ≤ 2147483647 := r_p2
      refine GO.idiv dX1_reckon_66 r_p2 (by omega) ?_
      have q18 : -2147483648 ≤ wdiv p1 p2 ∧ wdiv p1 p2 ≤ 2147483647 := wdiv_ir
      exact GO.reti rfl rfl dX1_reckon_67 ⟨rfl, rfl, _, rfl, wdiv_ir, trivial⟩
    ·
      refine GO.iconst dX1_reckon_60 ?_
      refine GO.goto (tgt := 67) dX1_reckon_61 (by decide) ?_
      exact GO.reti rfl rfl dX1_reckon_67 ⟨rfl, rfl, _, rfl, (ir_c rfl), trivial⟩
  ·
    refine GO.tableAt (n := 9) (tgt := 68) dX1_reckon_1 (ir_c rfl) c2 (by decide) (by decide) rfl (by decide) ?_
    refine GO.iload_n dX1_reckon_68 rfl rfl ?_
    refine GO.if_ne (tgt := 76) dX1_reckon_69 (by decide) r_p2 (fun c19 => ?_) (fun c19 => ?_)
    ·
      refine GO.iload_n dX1_reckon_76 rfl rfl ?_
      refine GO.iload_n dX1_reckon_77 rfl rfl ?_
      have q20 : -2147483648 ≤ p2 ∧ p2 ≤ 2147483647 := r_p2
      refine GO.irem dX1_reckon_78 r_p2 (by omega) ?_
      have q21 : -2147483648 ≤ wrem p1 p2 ∧ wrem p1 p2 ≤ 2147483647 := wrem_ir
      exact GO.reti rfl rfl dX1_reckon_79 ⟨rfl, rfl, _, rfl, wrem_ir, trivial⟩
    ·
      refine GO.iconst dX1_reckon_72 ?_
      refine GO.goto (tgt := 79) dX1_reckon_73 (by decide) ?_
      exact GO.reti rfl rfl dX1_reckon_79 ⟨rfl, rfl, _, rfl, (ir_c rfl), trivial⟩
  ·
    refine GO.tableAt (n := 10) (tgt := 80) dX1_reckon_1 (ir_c rfl) c2 (by decide) (by decide) rfl (by decide) ?_
    refine GO.iload_n dX1_reckon_80 rfl rfl ?_
    refine GO.iload_n dX1_reckon_81 rfl rfl ?_
    refine GO.icmp_ge (tgt := 89) dX1_reckon_82 (by decide) r_p1 r_p2 (fun c22 => ?_) (fun c22 => ?_)
    ·
      refine GO.iconst dX1_reckon_89 ?_
      exact GO.reti rfl rfl dX1_reckon_90 ⟨rfl, rfl, _, rfl, (ir_c rfl), trivial⟩
    ·
      refine GO.iconst dX1_reckon_85 ?_
      refine GO.goto (tgt := 90) dX1_reckon_86 (by decide) ?_
      exact GO.reti rfl rfl dX1_reckon_90 ⟨rfl, rfl, _, rfl, (ir_c rfl), trivial⟩
  ·
    refine GO.tableAt (n := 11) (tgt := 91) dX1_reckon_1 (ir_c rfl) c2 (by decide) (by decide) rfl (by decide) ?_
    refine GO.iload_n dX1_reckon_91 rfl rfl ?_
    refine GO.iload_n dX1_reckon_92 rfl rfl ?_
    refine GO.icmp_le (tgt := 100) dX1_reckon_93 (by decide) r_p1 r_p2 (fun c23 => ?_) (fun c23 => ?_)
    ·
      refine GO.iconst dX1_reckon_100 ?_
      exact GO.reti rfl rfl dX1_reckon_101 ⟨rfl, rfl, _, rfl, (ir_c rfl), trivial⟩
    ·
      refine GO.iconst dX1_reckon_96 ?_
      refine GO.goto (tgt := 101) dX1_reckon_97 (by decide) ?_
      exact GO.reti rfl rfl dX1_reckon_101 ⟨rfl, rfl, _, rfl, (ir_c rfl), trivial⟩

set_option maxHeartbeats 1000000 in
theorem t_X1_holds {K : Kmap} {V : Vmap} {x : Nat} {p0 : Nat} {p1 : Int} (h_x : K x = some (0, 1)) (h_p0 : K p0 = some (0, 8)) (r_p1 : ir p1) : MC mX1_holds K V [.ref x, .ref p0, ti p1] (IS K (fun X V1 => True)) := by
  refine MC.start 7 (by decide +kernel) rfl rfl rfl (ls0 := [some (.ref x), some (.ref p0), some (ti p1), none, none, none, none, none, none, none]) rfl ?_
  refine GO.aload_n dX1_holds_0 rfl rfl ?_
  refine GO.getR h_p0 fl_RX1_102 rfl rfl dX1_holds_1 (fun hv2 h1 => ?_)
  refine GO.iload_n dX1_holds_4 rfl rfl ?_
  refine GO.iconst dX1_holds_5 ?_
  refine GO.callV (ci := 33) (N := mX8_get_k33) dX1_holds_6 (RX8, TX8, 4) rfl gV_RX1_116 h1 (t_X8_get_k33 h1 r_p1 (ir_c rfl)) rfl [] rfl rfl (Nat.le_of_ble_eq_true rfl) rfl (k_ip fun X3 r4 h5 => ?_)
  have raw_get := h5.2
  have rw6 := h5.2
  refine GO.istore_n (ls1 := [some (.ref x), some (.ref p0), some (ti p1), some (ti X3), none, none, none, none, none, none]) dX1_holds_9 rfl rfl rfl ?_
  refine GO.aload_n dX1_holds_10 rfl rfl ?_
  refine GO.getRaw h_p0 fl_RX1_102 hv2 dX1_holds_11 ?_
  refine GO.iload_n dX1_holds_14 rfl rfl ?_
  refine GO.iconst dX1_holds_15 ?_
  refine GO.callV (ci := 33) (N := mX8_get_k33) dX1_holds_16 (RX8, TX8, 4) rfl gV_RX1_116 h1 (t_X8_get_k33 h1 r_p1 (ir_c rfl)) rfl [] rfl rfl (Nat.le_of_ble_eq_true rfl) rfl (k_ip fun X8 r9 h10 => ?_)
  have raw_get := h10.2
  have rw16 := h10.2
  refine GO.istore (ls1 := [some (.ref x), some (.ref p0), some (ti p1), some (ti X3), some (ti X8), none, none, none, none, none]) dX1_holds_19 rfl rfl ?_
  refine GO.aload_n dX1_holds_21 rfl rfl ?_
  refine GO.iconst dX1_holds_22 ?_
  refine GO.putI h_x fp_RX1_52 rfl (by decide +kernel) (ir_c rfl) (by decide) (by decide) dX1_holds_23 (fun V12 e11 => ?_)
  refine GO.iconst dX1_holds_26 ?_
  refine GO.istore (ls1 := [some (.ref x), some (.ref p0), some (ti p1), some (ti X3), some (ti X8), some (ti 0), none, none, none, none]) dX1_holds_27 rfl rfl ?_
  refine GO.loop2 (fun i13 i14 W => (-2147483648) ≤ i13 ∧ i13 ≤ 2147483647 ∧ 0 ≤ i14 ∧ i14 ≤ 200 ∧ True) (fun i13 i14 => [some (.ref x), some (.ref p0), some (ti p1), some (ti i13), some (ti X8), some (ti i14), none, none, none, none]) (fun i13 i14 W => (2147483647 - i14).toNat) X3 0 ⟨by omega, by omega, by omega, by omega, trivial⟩ rfl (fun i13 i14 Wi13 hp1162 ih1161 => ?_)
  obtain ⟨l_i13, u_i13, l_i14, u_i14, -⟩ := hp1162
  have r_i13 : ir i13 := ⟨by omega, by omega⟩
  have r_i14 : ir i14 := ⟨by omega, by omega⟩
  show GO mX1_holds K V (IS K (fun X V1 => True)) K Wi13 0 0 29 [some (.ref x), some (.ref p0), some (ti p1), some (ti i13), some (ti X8), some (ti i14), none, none, none, none] []
  refine GO.iload dX1_holds_29 rfl ?_
  refine GO.sipush dX1_holds_31 rfl ?_
  refine GO.icmp_ge (tgt := 225) dX1_holds_34 (by decide) r_i14 (ir_c rfl) (fun c1163 => ?_) (fun c1163 => ?_)
  ·
    refine GO.aload_n dX1_holds_225 rfl rfl ?_
    refine GO.callV (ci := 1) (N := mX1_pop) dX1_holds_226 (RX1, TX1, 13) rfl gV_RX1_169 h_x (t_X1_pop h_x) rfl [] rfl rfl (Nat.le_of_ble_eq_true rfl) rfl (k_is fun X1164 V1168 r1165 h1166 hF1167 => ?_)
    have q1169 : -2147483648 ≤ X1164 ∧ X1164 ≤ 2147483647 := r1165
    exact GO.reti rfl rfl dX1_holds_229 ⟨rfl, _, rfl, r1165, trivial⟩
  ·
    refine GO.iload_n dX1_holds_37 rfl rfl ?_
    refine GO.iload dX1_holds_38 rfl ?_
    refine GO.icmp_ge (tgt := 225) dX1_holds_40 (by decide) r_i13 r9 (fun c1170 => ?_) (fun c1170 => ?_)
    ·
      refine GO.aload_n dX1_holds_225 rfl rfl ?_
      refine GO.callV (ci := 1) (N := mX1_pop) dX1_holds_226 (RX1, TX1, 13) rfl gV_RX1_169 h_x (t_X1_pop h_x) rfl [] rfl rfl (Nat.le_of_ble_eq_true rfl) rfl (k_is fun X1171 V1175 r1172 h1173 hF1174 => ?_)
      have q1176 : -2147483648 ≤ X1171 ∧ X1171 ≤ 2147483647 := r1172
      exact GO.reti rfl rfl dX1_holds_229 ⟨rfl, _, rfl, r1172, trivial⟩
    ·
      refine GO.aload_n dX1_holds_43 rfl rfl ?_
      refine GO.getB h_p0 fl_RX1_162 rfl rfl dX1_holds_44 (fun n1179 hv1178 h1177 b1180 => ?_)
      refine GO.iload_n dX1_holds_47 rfl rfl ?_
      refine GO.callS (N := mX4_get) dX1_holds_48 gS_RX1_88 (t_X4_get rfl h1177 r_i13) rfl [] rfl rfl (Nat.le_of_ble_eq_true rfl) rfl (k_ip fun X1181 r1182 h1183 => ?_)
      have raw_get := h1183.2
      have rw48 := h1183.2
      refine GO.bipush dX1_holds_51 rfl ?_
      refine GO.iand dX1_holds_53 ?_
      refine GO.name (fun z1184 hz1185 => ?_)
      have r1186 : ir z1184 := hz1185 ▸ wand_ir
      refine GO.istore (ls1 := [some (.ref x), some (.ref p0), some (ti p1), some (ti i13), some (ti X8), some (ti i14), some (ti z1184), none, none, none]) dX1_holds_54 rfl rfl ?_
      refine GO.aload_n dX1_holds_56 rfl rfl ?_
      refine GO.getRaw h_p0 fl_RX1_162 hv1178 dX1_holds_57 ?_
      refine GO.iload_n dX1_holds_60 rfl rfl ?_
      refine GO.callS (N := mX4_get) dX1_holds_61 gS_RX1_88 (t_X4_get rfl h1177 r_i13) rfl [] rfl rfl (Nat.le_of_ble_eq_true rfl) rfl (k_ip fun X1189 r1190 h1191 => ?_)
      have raw_get := h1191.2
      have rw61 := h1191.2
      refine GO.iconst dX1_holds_64 ?_
      refine GO.ishr dX1_holds_65 ?_
      refine GO.name (fun z1192 hz1193 => ?_)
      have r1194 : ir z1192 := hz1193 ▸ wshr_ir
      refine GO.istore (ls1 := [some (.ref x), some (.ref p0), some (ti p1), some (ti i13), some (ti X8), some (ti i14), some (ti z1184), some (ti z1192), none, none]) dX1_holds_66 rfl rfl ?_
      refine GO.iinc (X := i13) (n := 1) (Y := i13 + 1) (ls1 := [some (.ref x), some (.ref p0), some (ti p1), some (ti (i13 + 1)), some (ti X8), some (ti i14), some (ti z1184), some (ti z1192), none, none]) dX1_holds_68 rfl rfl rfl rfl ?_
      refine GO.iload dX1_holds_71 rfl ?_
      refine GO.if_ne (tgt := 85) dX1_holds_73 (by decide) r1186 (fun c1195 => ?_) (fun c1195 => ?_)
      ·
        refine GO.iload dX1_holds_85 rfl ?_
        refine GO.iconst dX1_holds_87 ?_
        refine GO.icmp_ne (tgt := 107) dX1_holds_88 (by decide) r1186 (ir_c rfl) (fun c1196 => ?_) (fun c1196 => ?_)
        ·
          refine GO.iload dX1_holds_107 rfl ?_
          refine GO.iconst dX1_holds_109 ?_
          refine GO.icmp_ne (tgt := 126) dX1_holds_110 (by decide) r1186 (ir_c rfl) (fun c1197 => ?_) (fun c1197 => ?_)
          ·
            refine GO.iload dX1_holds_126 rfl ?_
            refine GO.iconst dX1_holds_128 ?_
            have hj1225 : ∀ (l1226 : 3 ≤ z1184), ∀ (u1227 : z1184 ≤ 4), GO mX1_holds K V (IS K (fun X V1 => True)) K Wi13 0 0 138 [some (.ref x), some (.ref p0), some (ti p1), some (ti (i13 + 1)), some (ti X8), some (ti i14), some (ti z1184), some (ti z1192), none, none] [] := by
              intro l1226 u1227
              refine GO.aload_n dX1_holds_138 rfl rfl ?_
              refine GO.callV (ci := 1) (N := mX1_pop) dX1_holds_139 (RX1, TX1, 13) rfl gV_RX1_169 h_x (t_X1_pop h_x) rfl [] rfl rfl (Nat.le_of_ble_eq_true rfl) rfl (k_is fun X1228 V1232 r1229 h1230 hF1231 => ?_)
              refine GO.istore (ls1 := [some (.ref x), some (.ref p0), some (ti p1), some (ti (i13 + 1)), some (ti X8), some (ti i14), some (ti z1184), some (ti z1192), some (ti X1228), none]) dX1_holds_142 rfl rfl ?_
              refine GO.iload dX1_holds_144 rfl ?_
              refine GO.iload dX1_holds_146 rfl ?_
              refine GO.iconst dX1_holds_148 ?_
              refine GO.icmp_ne (tgt := 156) dX1_holds_149 (by decide) r1186 (ir_c rfl) (fun c1233 => ?_) (fun c1233 => ?_)
              ·
                refine GO.iconst dX1_holds_156 ?_
                refine GO.icmp_ne (tgt := 169) dX1_holds_157 (by decide) r1229 (ir_c rfl) (fun c1234 => ?_) (fun c1234 => ?_)
                ·
                  refine GO.goto (tgt := 219) dX1_holds_169 (by decide) ?_
                  refine GO.iinc (X := i14) (n := 1) (Y := i14 + 1) (ls1 := [some (.ref x), some (.ref p0), some (ti p1), some (ti (i13 + 1)), some (ti X8), some (ti (i14 + 1)), some (ti z1184), some (ti z1192), some (ti X1228), none]) dX1_holds_219 rfl rfl rfl rfl ?_
                  refine GO.goto (tgt := 29) dX1_holds_222 (by decide) ?_
                  refine GO.drop [true, true, true, true, true, true, false, false, false, true] rfl ?_
                  exact ih1161 (i13 + 1) (i14 + 1) V1232 ⟨by omega, by omega, by omega, by omega, trivial⟩ (by show (2147483647 - (i14 + 1)).toNat < (2147483647 - i14).toNat; omega)
                ·
                  refine GO.aload_n dX1_holds_160 rfl rfl ?_
                  refine GO.iload dX1_holds_161 rfl ?_
                  refine GO.callV (ci := 1) (N := mX1_push) dX1_holds_163 (RX1, TX1, 13) rfl gV_RX1_165 h_x (t_X1_push h_x r1229) rfl [] rfl rfl (Nat.le_of_ble_eq_true rfl) rfl (k_vs fun V1237 h1236 hF1235 => ?_)
                  refine GO.iload dX1_holds_166 rfl ?_
                  refine GO.istore_n (ls1 := [some (.ref x), some (.ref p0), some (ti p1), some (ti z1192), some (ti X8), some (ti i14), some (ti z1184), some (ti z1192), some (ti X1228), none]) dX1_holds_168 rfl rfl rfl ?_
                  refine GO.goto (tgt := 219) dX1_holds_169 (by decide) ?_
                  refine GO.iinc (X := i14) (n := 1) (Y := i14 + 1) (ls1 := [some (.ref x), some (.ref p0), some (ti p1), some (ti z1192), some (ti X8), some (ti (i14 + 1)), some (ti z1184), some (ti z1192), some (ti X1228), none]) dX1_holds_219 rfl rfl rfl rfl ?_
                  refine GO.goto (tgt := 29) dX1_holds_222 (by decide) ?_
                  refine GO.drop [true, true, true, true, true, true, false, false, false, true] rfl ?_
                  have q1238 : -2147483648 ≤ z1192 ∧ z1192 ≤ 2147483647 := r1194
                  have q1239 : -2147483648 ≤ wshr X1189 5 ∧ wshr X1189 5 ≤ 2147483647 := wshr_ir
                  exact ih1161 z1192 (i14 + 1) V1237 ⟨by omega, by omega, by omega, by omega, trivial⟩ (by show (2147483647 - (i14 + 1)).toNat < (2147483647 - i14).toNat; omega)
              ·
                refine GO.iconst dX1_holds_152 ?_
                refine GO.goto (tgt := 157) dX1_holds_153 (by decide) ?_
                refine GO.icmp_ne (tgt := 169) dX1_holds_157 (by decide) r1229 (ir_c rfl) (fun c1240 => ?_) (fun c1240 => ?_)
                ·
                  refine GO.goto (tgt := 219) dX1_holds_169 (by decide) ?_
                  refine GO.iinc (X := i14) (n := 1) (Y := i14 + 1) (ls1 := [some (.ref x), some (.ref p0), some (ti p1), some (ti (i13 + 1)), some (ti X8), some (ti (i14 + 1)), some (ti z1184), some (ti z1192), some (ti X1228), none]) dX1_holds_219 rfl rfl rfl rfl ?_
                  refine GO.goto (tgt := 29) dX1_holds_222 (by decide) ?_
                  refine GO.drop [true, true, true, true, true, true, false, false, false, true] rfl ?_
                  exact ih1161 (i13 + 1) (i14 + 1) V1232 ⟨by omega, by omega, by omega, by omega, trivial⟩ (by show (2147483647 - (i14 + 1)).toNat < (2147483647 - i14).toNat; omega)
                ·
                  refine GO.aload_n dX1_holds_160 rfl rfl ?_
                  refine GO.iload dX1_holds_161 rfl ?_
                  refine GO.callV (ci := 1) (N := mX1_push) dX1_holds_163 (RX1, TX1, 13) rfl gV_RX1_165 h_x (t_X1_push h_x r1229) rfl [] rfl rfl (Nat.le_of_ble_eq_true rfl) rfl (k_vs fun V1243 h1242 hF1241 => ?_)
                  refine GO.iload dX1_holds_166 rfl ?_
                  refine GO.istore_n (ls1 := [some (.ref x), some (.ref p0), some (ti p1), some (ti z1192), some (ti X8), some (ti i14), some (ti z1184), some (ti z1192), some (ti X1228), none]) dX1_holds_168 rfl rfl rfl ?_
                  refine GO.goto (tgt := 219) dX1_holds_169 (by decide) ?_
                  refine GO.iinc (X := i14) (n := 1) (Y := i14 + 1) (ls1 := [some (.ref x), some (.ref p0), some (ti p1), some (ti z1192), some (ti X8), some (ti (i14 + 1)), some (ti z1184), some (ti z1192), some (ti X1228), none]) dX1_holds_219 rfl rfl rfl rfl ?_
                  refine GO.goto (tgt := 29) dX1_holds_222 (by decide) ?_
                  refine GO.drop [true, true, true, true, true, true, false, false, false, true] rfl ?_
                  have q1244 : -2147483648 ≤ z1192 ∧ z1192 ≤ 2147483647 := r1194
                  have q1245 : -2147483648 ≤ wshr X1189 5 ∧ wshr X1189 5 ≤ 2147483647 := wshr_ir
                  exact ih1161 z1192 (i14 + 1) V1243 ⟨by omega, by omega, by omega, by omega, trivial⟩ (by show (2147483647 - (i14 + 1)).toNat < (2147483647 - i14).toNat; omega)
            refine GO.icmp_eq (tgt := 138) dX1_holds_129 (by decide) r1186 (ir_c rfl) (fun c1246 => ?_) (fun c1246 => ?_)
            ·
              have q1247 : -2147483648 ≤ z1184 ∧ z1184 ≤ 2147483647 := r1186
              have q1248 : -2147483648 ≤ wand X1181 31 ∧ wand X1181 31 ≤ 2147483647 := wand_ir
              exact hj1225  (by omega) (by omega)
            ·
              refine GO.iload dX1_holds_132 rfl ?_
              refine GO.iconst dX1_holds_134 ?_
              refine GO.icmp_ne (tgt := 172) dX1_holds_135 (by decide) r1186 (ir_c rfl) (fun c1249 => ?_) (fun c1249 => ?_)
              ·
                refine GO.aload_n dX1_holds_172 rfl rfl ?_
                refine GO.callV (ci := 1) (N := mX1_pop) dX1_holds_173 (RX1, TX1, 13) rfl gV_RX1_169 h_x (t_X1_pop h_x) rfl [] rfl rfl (Nat.le_of_ble_eq_true rfl) rfl (k_is fun X1250 V1254 r1251 h1252 hF1253 => ?_)
                refine GO.istore (ls1 := [some (.ref x), some (.ref p0), some (ti p1), some (ti (i13 + 1)), some (ti X8), some (ti i14), some (ti z1184), some (ti z1192), some (ti X1250), none]) dX1_holds_176 rfl rfl ?_
                refine GO.aload_n dX1_holds_178 rfl rfl ?_
                refine GO.callV (ci := 1) (N := mX1_pop) dX1_holds_179 (RX1, TX1, 13) rfl gV_RX1_169 h_x (t_X1_pop h_x) rfl [] rfl rfl (Nat.le_of_ble_eq_true rfl) rfl (k_is fun X1255 V1259 r1256 h1257 hF1258 => ?_)
                refine GO.istore (ls1 := [some (.ref x), some (.ref p0), some (ti p1), some (ti (i13 + 1)), some (ti X8), some (ti i14), some (ti z1184), some (ti z1192), some (ti X1250), some (ti X1255)]) dX1_holds_182 rfl rfl ?_
                refine GO.iload dX1_holds_184 rfl ?_
                refine GO.if_ne (tgt := 206) dX1_holds_186 (by decide) r1251 (fun c1260 => ?_) (fun c1260 => ?_)
                ·
                  refine GO.aload_n dX1_holds_206 rfl rfl ?_
                  refine GO.iload dX1_holds_207 rfl ?_
                  refine GO.iload dX1_holds_209 rfl ?_
                  refine GO.iload dX1_holds_211 rfl ?_
                  refine GO.callS (N := mX1_reckon) dX1_holds_213 gS_RX1_173 (t_X1_reckon r1186 r1256 r1251) rfl [.ref x] rfl rfl (Nat.le_of_ble_eq_true rfl) rfl (k_ip fun X1261 r1262 h1263 => ?_)
                  refine GO.callV (ci := 1) (N := mX1_push) dX1_holds_216 (RX1, TX1, 13) rfl gV_RX1_165 h_x (t_X1_push h_x r1262) rfl [] rfl rfl (Nat.le_of_ble_eq_true rfl) rfl (k_vs fun V1266 h1265 hF1264 => ?_)
                  refine GO.iinc (X := i14) (n := 1) (Y := i14 + 1) (ls1 := [some (.ref x), some (.ref p0), some (ti p1), some (ti (i13 + 1)), some (ti X8), some (ti (i14 + 1)), some (ti z1184), some (ti z1192), some (ti X1250), some (ti X1255)]) dX1_holds_219 rfl rfl rfl rfl ?_
                  refine GO.goto (tgt := 29) dX1_holds_222 (by decide) ?_
                  refine GO.drop [true, true, true, true, true, true, false, false, false, false] rfl ?_
                  exact ih1161 (i13 + 1) (i14 + 1) V1266 ⟨by omega, by omega, by omega, by omega, trivial⟩ (by show (2147483647 - (i14 + 1)).toNat < (2147483647 - i14).toNat; omega)
                ·
                  refine GO.iload dX1_holds_189 rfl ?_
                  refine GO.bipush dX1_holds_191 rfl ?_
                  refine GO.icmp_eq (tgt := 203) dX1_holds_193 (by decide) r1186 (ir_c rfl) (fun c1267 => ?_) (fun c1267 => ?_)
                  ·
                    refine GO.bipush dX1_holds_203 rfl ?_
                    exact GO.reti rfl rfl dX1_holds_205 ⟨rfl, _, rfl, (ir_c rfl), trivial⟩
                  ·
                    refine GO.iload dX1_holds_196 rfl ?_
                    refine GO.bipush dX1_holds_198 rfl ?_
                    refine GO.icmp_ne (tgt := 206) dX1_holds_200 (by decide) r1186 (ir_c rfl) (fun c1268 => ?_) (fun c1268 => ?_)
                    ·
                      refine GO.aload_n dX1_holds_206 rfl rfl ?_
                      refine GO.iload dX1_holds_207 rfl ?_
                      refine GO.iload dX1_holds_209 rfl ?_
                      refine GO.iload dX1_holds_211 rfl ?_
                      refine GO.callS (N := mX1_reckon) dX1_holds_213 gS_RX1_173 (t_X1_reckon r1186 r1256 r1251) rfl [.ref x] rfl rfl (Nat.le_of_ble_eq_true rfl) rfl (k_ip fun X1269 r1270 h1271 => ?_)
                      refine GO.callV (ci := 1) (N := mX1_push) dX1_holds_216 (RX1, TX1, 13) rfl gV_RX1_165 h_x (t_X1_push h_x r1270) rfl [] rfl rfl (Nat.le_of_ble_eq_true rfl) rfl (k_vs fun V1274 h1273 hF1272 => ?_)
                      refine GO.iinc (X := i14) (n := 1) (Y := i14 + 1) (ls1 := [some (.ref x), some (.ref p0), some (ti p1), some (ti (i13 + 1)), some (ti X8), some (ti (i14 + 1)), some (ti z1184), some (ti z1192), some (ti X1250), some (ti X1255)]) dX1_holds_219 rfl rfl rfl rfl ?_
                      refine GO.goto (tgt := 29) dX1_holds_222 (by decide) ?_
                      refine GO.drop [true, true, true, true, true, true, false, false, false, false] rfl ?_
                      exact ih1161 (i13 + 1) (i14 + 1) V1274 ⟨by omega, by omega, by omega, by omega, trivial⟩ (by show (2147483647 - (i14 + 1)).toNat < (2147483647 - i14).toNat; omega)
                    ·
                      refine GO.bipush dX1_holds_203 rfl ?_
                      exact GO.reti rfl rfl dX1_holds_205 ⟨rfl, _, rfl, (ir_c rfl), trivial⟩
              ·
                have q1275 : -2147483648 ≤ z1184 ∧ z1184 ≤ 2147483647 := r1186
                have q1276 : -2147483648 ≤ wand X1181 31 ∧ wand X1181 31 ≤ 2147483647 := wand_ir
                exact hj1225  (by omega) (by omega)
          ·
            refine GO.aload_n dX1_holds_113 rfl rfl ?_
            refine GO.iconst dX1_holds_114 ?_
            refine GO.aload_n dX1_holds_115 rfl rfl ?_
            refine GO.callV (ci := 1) (N := mX1_pop) dX1_holds_116 (RX1, TX1, 13) rfl gV_RX1_169 h_x (t_X1_pop h_x) rfl [ti 1, .ref x] rfl rfl (Nat.le_of_ble_eq_true rfl) rfl (k_is fun X1277 V1281 r1278 h1279 hF1280 => ?_)
            refine GO.isub dX1_holds_119 ?_
            refine GO.norm (fun z1282 r1283 hn1284 => ?_)
            refine GO.callV (ci := 1) (N := mX1_push) dX1_holds_120 (RX1, TX1, 13) rfl gV_RX1_165 h_x (t_X1_push h_x r1283) rfl [] rfl rfl (Nat.le_of_ble_eq_true rfl) rfl (k_vs fun V1287 h1286 hF1285 => ?_)
            refine GO.goto (tgt := 219) dX1_holds_123 (by decide) ?_
            refine GO.iinc (X := i14) (n := 1) (Y := i14 + 1) (ls1 := [some (.ref x), some (.ref p0), some (ti p1), some (ti (i13 + 1)), some (ti X8), some (ti (i14 + 1)), some (ti z1184), some (ti z1192), none, none]) dX1_holds_219 rfl rfl rfl rfl ?_
            refine GO.goto (tgt := 29) dX1_holds_222 (by decide) ?_
            refine GO.drop [true, true, true, true, true, true, false, false, true, true] rfl ?_
            exact ih1161 (i13 + 1) (i14 + 1) V1287 ⟨by omega, by omega, by omega, by omega, trivial⟩ (by show (2147483647 - (i14 + 1)).toNat < (2147483647 - i14).toNat; omega)
        ·
          refine GO.aload_n dX1_holds_91 rfl rfl ?_
          refine GO.aload_n dX1_holds_92 rfl rfl ?_
          refine GO.getA (n := 14) h_x fl_RX1_46 rfl rfl rfl rfl dX1_holds_93 (fun hv1289 h1288 => ?_)
          refine GO.iload dX1_holds_96 rfl ?_
          refine GO.callS (N := mX4_get) dX1_holds_98 gS_RX1_88 (t_X4_get rfl h1288 r1194) rfl [.ref x] rfl rfl (Nat.le_of_ble_eq_true rfl) rfl (k_ip fun X1290 r1291 h1292 => ?_)
          have raw_get := h1292.2
          have rw98 := h1292.2
          refine GO.callV (ci := 1) (N := mX1_push) dX1_holds_101 (RX1, TX1, 13) rfl gV_RX1_165 h_x (t_X1_push h_x r1291) rfl [] rfl rfl (Nat.le_of_ble_eq_true rfl) rfl (k_vs fun V1295 h1294 hF1293 => ?_)
          refine GO.goto (tgt := 219) dX1_holds_104 (by decide) ?_
          refine GO.iinc (X := i14) (n := 1) (Y := i14 + 1) (ls1 := [some (.ref x), some (.ref p0), some (ti p1), some (ti (i13 + 1)), some (ti X8), some (ti (i14 + 1)), some (ti z1184), some (ti z1192), none, none]) dX1_holds_219 rfl rfl rfl rfl ?_
          refine GO.goto (tgt := 29) dX1_holds_222 (by decide) ?_
          refine GO.drop [true, true, true, true, true, true, false, false, true, true] rfl ?_
          exact ih1161 (i13 + 1) (i14 + 1) V1295 ⟨by omega, by omega, by omega, by omega, trivial⟩ (by show (2147483647 - (i14 + 1)).toNat < (2147483647 - i14).toNat; omega)
      ·
        refine GO.aload_n dX1_holds_76 rfl rfl ?_
        refine GO.iload dX1_holds_77 rfl ?_
        refine GO.callV (ci := 1) (N := mX1_push) dX1_holds_79 (RX1, TX1, 13) rfl gV_RX1_165 h_x (t_X1_push h_x r1194) rfl [] rfl rfl (Nat.le_of_ble_eq_true rfl) rfl (k_vs fun V1298 h1297 hF1296 => ?_)
        refine GO.goto (tgt := 219) dX1_holds_82 (by decide) ?_
        refine GO.iinc (X := i14) (n := 1) (Y := i14 + 1) (ls1 := [some (.ref x), some (.ref p0), some (ti p1), some (ti (i13 + 1)), some (ti X8), some (ti (i14 + 1)), some (ti z1184), some (ti z1192), none, none]) dX1_holds_219 rfl rfl rfl rfl ?_
        refine GO.goto (tgt := 29) dX1_holds_222 (by decide) ?_
        refine GO.drop [true, true, true, true, true, true, false, false, true, true] rfl ?_
        exact ih1161 (i13 + 1) (i14 + 1) V1298 ⟨by omega, by omega, by omega, by omega, trivial⟩ (by show (2147483647 - (i14 + 1)).toNat < (2147483647 - i14).toNat; omega)

set_option maxHeartbeats 1000000 in
theorem t_X1_wasTold {K : Kmap} {V : Vmap} {p0 : Int} {p1 : Int} (r_p0 : ir p0) (r_p1 : ir p1) : MC mX1_wasTold K V [ti p0, ti p1] (IP K V (fun X => (X = 0 ∨ X = 1) ∧ (X ≠ 0 → True) ∧ (X = 0 → True))) := by
  refine MC.start 0 (by decide +kernel) rfl rfl rfl (ls0 := [some (ti p0), some (ti p1)]) rfl ?_
  refine GO.iload_n dX1_wasTold_0 rfl rfl ?_
  refine GO.iconst dX1_wasTold_1 ?_
  refine GO.icmp_eq (tgt := 14) dX1_wasTold_2 (by decide) r_p0 (ir_c rfl) (fun c1 => ?_) (fun c1 => ?_)
  ·
    refine GO.iconst dX1_wasTold_14 ?_
    exact GO.retz rfl rfl dX1_wasTold_15 (Or.inl rfl) ⟨rfl, rfl, _, rfl, (ir_c rfl), ⟨Or.inl rfl, fun _ => trivial, fun _ => trivial⟩⟩
  ·
    refine GO.iload_n dX1_wasTold_5 rfl rfl ?_
    refine GO.iload_n dX1_wasTold_6 rfl rfl ?_
    refine GO.icmp_gt (tgt := 14) dX1_wasTold_7 (by decide) r_p0 r_p1 (fun c2 => ?_) (fun c2 => ?_)
    ·
      refine GO.iconst dX1_wasTold_14 ?_
      exact GO.retz rfl rfl dX1_wasTold_15 (Or.inl rfl) ⟨rfl, rfl, _, rfl, (ir_c rfl), ⟨Or.inl rfl, fun _ => trivial, fun _ => trivial⟩⟩
    ·
      refine GO.iconst dX1_wasTold_10 ?_
      refine GO.goto (tgt := 15) dX1_wasTold_11 (by decide) ?_
      exact GO.retz rfl rfl dX1_wasTold_15 (Or.inr rfl) ⟨rfl, rfl, _, rfl, (ir_c rfl), ⟨Or.inr rfl, fun _ => trivial, fun _ => trivial⟩⟩

set_option maxHeartbeats 1000000 in
theorem t_X1_bar {K : Kmap} {V : Vmap} {p0 : Nat} {p1 : Int} {p2 : Nat} {p3 : Int} {p4 : Int} (h_p0 : K p0 = some (0, 8)) (r_p1 : ir p1) (h_p2 : K p2 = some (0, 9)) (r_p3 : ir p3) (r_p4 : ir p4) (z_p4 : p4 = 0 ∨ p4 = 1) : MC mX1_bar K V [.ref p0, ti p1, .ref p2, ti p3, ti p4] (IP K V (fun X => True)) := by
  refine MC.start 1 (by decide +kernel) rfl rfl rfl (ls0 := [some (.ref p0), some (ti p1), some (.ref p2), some (ti p3), some (ti p4), none]) rfl ?_
  refine GO.aload_n dX1_bar_0 rfl rfl ?_
  refine GO.getI h_p2 fl_RX1_147 rfl rfl dX1_bar_1 (fun _ _ => ?_)
  refine GO.aload_n dX1_bar_4 rfl rfl ?_
  refine GO.getR h_p0 fl_RX1_102 rfl rfl dX1_bar_5 (fun hv2 h1 => ?_)
  refine GO.iload_n dX1_bar_8 rfl rfl ?_
  refine GO.iconst dX1_bar_9 ?_
  refine GO.callV (ci := 33) (N := mX8_get_k33) dX1_bar_10 (RX8, TX8, 4) rfl gV_RX1_116 h1 (t_X8_get_k33 h1 r_p1 (ir_c rfl)) rfl [ti (vi V p2 3)] rfl rfl (Nat.le_of_ble_eq_true rfl) rfl (k_ip fun X3 r4 h5 => ?_)
  have raw_get := h5.2
  have rw10 := h5.2
  refine GO.isub dX1_bar_13 ?_
  refine GO.norm (fun z6 r7 hn8 => ?_)
  refine GO.istore (ls1 := [some (.ref p0), some (ti p1), some (.ref p2), some (ti p3), some (ti p4), some (ti z6)]) dX1_bar_14 rfl rfl ?_
  refine GO.aload_n dX1_bar_16 rfl rfl ?_
  refine GO.iload_n dX1_bar_17 rfl rfl ?_
  refine GO.callV (ci := 8) (N := mX9_letterOf) dX1_bar_18 (RX9, TX9, 5) rfl gV_RX1_119 h_p0 (t_X9_letterOf h_p0 r_p1) rfl [] rfl rfl (Nat.le_of_ble_eq_true rfl) rfl (k_ip fun X9 r10 h11 => ?_)
  have raw_letterOf := h11.2
  have rw18 := h11.2
  by_cases c12 : X9 = 99
  ·
    refine GO.lookupK (n := 99) (tgt := 127) dX1_bar_21 (ir_c rfl) c12 (by decide) rfl (by decide) ?_
    refine GO.iload dX1_bar_127 rfl ?_
    refine GO.if_eq (tgt := 136) dX1_bar_129 (by decide) r_p4 (fun c13 => ?_) (fun c13 => ?_)
    ·
      refine GO.iconst dX1_bar_136 ?_
      exact GO.reti rfl rfl dX1_bar_137 ⟨rfl, rfl, _, rfl, (ir_c rfl), trivial⟩
    ·
      refine GO.iconst dX1_bar_132 ?_
      refine GO.goto (tgt := 137) dX1_bar_133 (by decide) ?_
      exact GO.reti rfl rfl dX1_bar_137 ⟨rfl, rfl, _, rfl, (ir_c rfl), trivial⟩
  by_cases c14 : X9 = 102
  ·
    refine GO.lookupK (n := 102) (tgt := 72) dX1_bar_21 (ir_c rfl) c14 (by decide) rfl (by decide) ?_
    refine GO.iconst dX1_bar_72 ?_
    exact GO.reti rfl rfl dX1_bar_73 ⟨rfl, rfl, _, rfl, (ir_c rfl), trivial⟩
  by_cases c15 : X9 = 108
  ·
    refine GO.lookupK (n := 108) (tgt := 74) dX1_bar_21 (ir_c rfl) c15 (by decide) rfl (by decide) ?_
    refine GO.aload_n dX1_bar_74 rfl rfl ?_
    refine GO.getI h_p2 fl_RX1_150 rfl rfl dX1_bar_75 (fun _ _ => ?_)
    refine GO.iload_n dX1_bar_78 rfl rfl ?_
    refine GO.callS (N := mX1_wasTold) dX1_bar_79 gS_RX1_153 (t_X1_wasTold vi_ir r_p3) rfl [] rfl rfl (Nat.le_of_ble_eq_true rfl) rfl (k_ip fun X16 r17 h18 => ?_)
    refine GO.if_eq (tgt := 89) dX1_bar_82 (by decide) r17 (fun c19 => ?_) (fun c19 => ?_)
    ·
      refine GO.iconst dX1_bar_89 ?_
      exact GO.reti rfl rfl dX1_bar_90 ⟨rfl, rfl, _, rfl, (ir_c rfl), trivial⟩
    ·
      refine GO.iconst dX1_bar_85 ?_
      refine GO.goto (tgt := 90) dX1_bar_86 (by decide) ?_
      exact GO.reti rfl rfl dX1_bar_90 ⟨rfl, rfl, _, rfl, (ir_c rfl), trivial⟩
  by_cases c20 : X9 = 110
  ·
    refine GO.lookupK (n := 110) (tgt := 91) dX1_bar_21 (ir_c rfl) c20 (by decide) rfl (by decide) ?_
    refine GO.aload_n dX1_bar_91 rfl rfl ?_
    refine GO.getI h_p2 fl_RX1_156 rfl rfl dX1_bar_92 (fun _ _ => ?_)
    refine GO.iload dX1_bar_95 rfl ?_
    refine GO.callS (N := mX1_wasTold) dX1_bar_97 gS_RX1_153 (t_X1_wasTold vi_ir r7) rfl [] rfl rfl (Nat.le_of_ble_eq_true rfl) rfl (k_ip fun X21 r22 h23 => ?_)
    refine GO.if_eq (tgt := 107) dX1_bar_100 (by decide) r22 (fun c24 => ?_) (fun c24 => ?_)
    ·
      refine GO.iconst dX1_bar_107 ?_
      exact GO.reti rfl rfl dX1_bar_108 ⟨rfl, rfl, _, rfl, (ir_c rfl), trivial⟩
    ·
      refine GO.iconst dX1_bar_103 ?_
      refine GO.goto (tgt := 108) dX1_bar_104 (by decide) ?_
      exact GO.reti rfl rfl dX1_bar_108 ⟨rfl, rfl, _, rfl, (ir_c rfl), trivial⟩
  by_cases c25 : X9 = 115
  ·
    refine GO.lookupK (n := 115) (tgt := 109) dX1_bar_21 (ir_c rfl) c25 (by decide) rfl (by decide) ?_
    refine GO.aload_n dX1_bar_109 rfl rfl ?_
    refine GO.getI h_p2 fl_RX1_159 rfl rfl dX1_bar_110 (fun _ _ => ?_)
    refine GO.iload dX1_bar_113 rfl ?_
    refine GO.callS (N := mX1_wasTold) dX1_bar_115 gS_RX1_153 (t_X1_wasTold vi_ir r7) rfl [] rfl rfl (Nat.le_of_ble_eq_true rfl) rfl (k_ip fun X26 r27 h28 => ?_)
    refine GO.if_eq (tgt := 125) dX1_bar_118 (by decide) r27 (fun c29 => ?_) (fun c29 => ?_)
    ·
      refine GO.iconst dX1_bar_125 ?_
      exact GO.reti rfl rfl dX1_bar_126 ⟨rfl, rfl, _, rfl, (ir_c rfl), trivial⟩
    ·
      refine GO.iconst dX1_bar_121 ?_
      refine GO.goto (tgt := 126) dX1_bar_122 (by decide) ?_
      exact GO.reti rfl rfl dX1_bar_126 ⟨rfl, rfl, _, rfl, (ir_c rfl), trivial⟩
  refine GO.lookup (off := 117) (tgt := 138) dX1_bar_21 r10 (by decide) (by simp [Op.lookupswitch.offset, Ne.symm c12, Ne.symm c14, Ne.symm c15, Ne.symm c20, Ne.symm c25, c12, c14, c15, c20, c25]) (by decide) ?_
  refine GO.iconst dX1_bar_138 ?_
  exact GO.reti rfl rfl dX1_bar_139 ⟨rfl, rfl, _, rfl, (ir_c rfl), trivial⟩
