def mX8_isFull_k34 : MRec := (RX8, cX8_isFull, 1, (some .boolean), yX8_isFull, 0, 0, 0, 0, 0)
def mX8_put_k34 : MRec := (RX8, cX8_put, 6, (none : Option Jvm.ClassFile.FieldType), yX8_put, 0, 0, 0, 0, 346583711765101857447301773017885462929554634421977071896309947576827663475703202879996800763017447262173901370175446478621769728)
def mX8_append_k34 : MRec := (RX8, cX8_append, 7, (some .int), yX8_append, 1, 25, 0, 0, 40131652080904949243476790488282231640246122763238325954424140190648896440865526195785026639619810363502319100491144716629504315406428504948246801194450135957054982084640921181024257015111651255738366427136)
def mX3_addSounding : MRec := (RX3, cX3_addSounding, 3, (some .boolean), yX3_addSounding, 2, 51, 0, 0, 40131652080904949243476790488282231640246122763238325954424140190648896440865526195785026639619810363502319100491144716629504315406428504948246801194450135957054982084640921181024257015111651255738366427136)
def mX8_get_k34 : MRec := (RX8, cX8_get, 5, (some .int), yX8_get, 0, 0, 0, 0, 0)
def mX3_sureDepth : MRec := (RX3, cX3_sureDepth, 5, (some .int), yX3_sureDepth, 1, 24, 0, 0, 0)
def mX4_put : MRec := (RX4, cX4_put, 3, (none : Option Jvm.ClassFile.FieldType), yX4_put, 0, 0, 0, 0, 3794275180128377091639574036764685364535950857523710002444946112771297432041422848)
def mX4_add : MRec := (RX4, cX4_add, 3, (none : Option Jvm.ClassFile.FieldType), yX4_add, 1, 22, 0, 0, 3794275180128377091639574036764685364535950857523710002444946112771297432041422848)
def mX5_faultAnswer : MRec := (RX5, cX5_faultAnswer, 1, (some .int), yX5_faultAnswer, 0, 0, 0, 0, 0)
def mX5_next : MRec := (RX5, cX5_next, 2, (some .int), yX5_next, 0, 0, 0, 0, 0)
def mX5_isClauseLetter : MRec := (RX5, cX5_isClauseLetter, 1, (some .boolean), yX5_isClauseLetter, 0, 0, 0, 0, 0)
def mX8_isFull_k33 : MRec := (RX8, cX8_isFull, 1, (some .boolean), yX8_isFull, 0, 0, 0, 0, 0)
def mX8_put_k33 : MRec := (RX8, cX8_put, 6, (none : Option Jvm.ClassFile.FieldType), yX8_put, 0, 0, 0, 0, 173291855882550928723650886508942731464777317210988535948154973788413831737851601439998400381508723631086950685087723239310884864)
def mX8_append_k33 : MRec := (RX8, cX8_append, 7, (some .int), yX8_append, 1, 25, 0, 0, 2508228255056559327717299405517639477515382672702395372151508761915556027554247017610461397038871342244590268670728224941903634681856417161330287177423753648575934980623877706991217145293929961318044925952)
set_option maxHeartbeats 1000000 in
theorem t_X8_isFull_k34 {K : Kmap} {V : Vmap} {x : Nat} (h_x : K x = some (0, 34)) : MC mX8_isFull_k34 K V [.ref x] (IP K V (fun X => (X = 0 ∨ X = 1) ∧ (X ≠ 0 → vi V x 3 ≥ 8) ∧ (X = 0 → vi V x 3 ≤ 7))) := by
  refine MC.start 0 (by decide +kernel) rfl rfl rfl (ls0 := [some (.ref x)]) rfl ?_
  refine GO.aload_n dX8_isFull_0 rfl rfl ?_
  refine GO.getI h_x fl_RX8_9_k34 rfl rfl dX8_isFull_1 (fun l1 u2 => ?_)
  refine GO.aload_n dX8_isFull_4 rfl rfl ?_
  refine GO.getI h_x fl_RX8_18_k34 rfl rfl dX8_isFull_5 (fun l3 u4 => ?_)
  refine GO.icmp_lt (tgt := 15) dX8_isFull_8 (by decide) vi_ir vi_ir (fun c5 => ?_) (fun c5 => ?_)
  ·
    refine GO.iconst dX8_isFull_15 ?_
    exact GO.retz rfl rfl dX8_isFull_16 (Or.inl rfl) ⟨rfl, rfl, _, rfl, (ir_c rfl), ⟨Or.inl rfl, fun h => absurd rfl h, fun h => by omega⟩⟩
  ·
    refine GO.iconst dX8_isFull_11 ?_
    refine GO.goto (tgt := 16) dX8_isFull_12 (by decide) ?_
    exact GO.retz rfl rfl dX8_isFull_16 (Or.inr rfl) ⟨rfl, rfl, _, rfl, (ir_c rfl), ⟨Or.inr rfl, fun h => by omega, fun h => absurd h (by decide)⟩⟩

set_option maxHeartbeats 1000000 in
theorem t_X8_put_k34 {K : Kmap} {V : Vmap} {x : Nat} {p0 : Int} {p1 : Int} {p2 : Int} (h_x : K x = some (0, 34)) (r_p0 : ir p0) (r_p1 : ir p1) (r_p2 : ir p2) : MC mX8_put_k34 K V [.ref x, ti p0, ti p1, ti p2] (VS K (fun V1 => (True))) := by
  refine MC.start 2 (by decide +kernel) rfl rfl rfl (ls0 := [some (.ref x), some (ti p0), some (ti p1), some (ti p2), none, none]) rfl ?_
  refine GO.iload_n dX8_put_0 rfl rfl ?_
  refine GO.aload_n dX8_put_1 rfl rfl ?_
  refine GO.getI h_x fl_RX8_15_k34 rfl rfl dX8_put_2 (fun l1 u2 => ?_)
  refine GO.imul dX8_put_5 ?_
  refine GO.norm (fun z3 r4 hn5 => ?_)
  refine GO.iload_n dX8_put_6 rfl rfl ?_
  refine GO.iadd dX8_put_7 ?_
  refine GO.norm (fun z6 r7 hn8 => ?_)
  refine GO.istore (ls1 := [some (.ref x), some (ti p0), some (ti p1), some (ti p2), some (ti z6), none]) dX8_put_8 rfl rfl ?_
  refine GO.iload_n dX8_put_10 rfl rfl ?_
  have hj18 : ∀ (z17 : Int), ∀ (l19 : 0 ≤ z17), ∀ (u20 : z17 ≤ 1), GO mX8_put_k34 K V (VS K (fun V1 => (True))) K V 0 0 39 [some (.ref x), some (ti p0), some (ti p1), some (ti p2), some (ti z6), none] [ti z17] := by
    intro z17 l19 u20
    have r21 : ir z17 := ⟨by omega, by omega⟩
    refine GO.istore (ls1 := [some (.ref x), some (ti p0), some (ti p1), some (ti p2), some (ti z6), some (ti z17)]) dX8_put_39 rfl rfl ?_
    refine GO.iload dX8_put_41 rfl ?_
    refine GO.if_eq (tgt := 69) dX8_put_43 (by decide) r21 (fun c22 => ?_) (fun c22 => ?_)
    ·
      exact GO.retv rfl rfl dX8_put_69 ⟨rfl, rfl, trivial⟩
    ·
      refine GO.iload dX8_put_46 rfl ?_
      refine GO.if_lt (tgt := 69) dX8_put_48 (by decide) r7 (fun c23 => ?_) (fun c23 => ?_)
      ·
        exact GO.retv rfl rfl dX8_put_69 ⟨rfl, rfl, trivial⟩
      ·
        refine GO.iload dX8_put_51 rfl ?_
        refine GO.aload_n dX8_put_53 rfl rfl ?_
        refine GO.getA (n := 16) h_x fl_RX8_27_k34 rfl rfl rfl rfl dX8_put_54 (fun hv25 h24 => ?_)
        refine GO.alen h24 dX8_put_57 (fun h26 => ?_)
        refine GO.icmp_ge (tgt := 69) dX8_put_58 (by decide) r7 ⟨by omega, by omega⟩ (fun c27 => ?_) (fun c27 => ?_)
        ·
          exact GO.retv rfl rfl dX8_put_69 ⟨rfl, rfl, trivial⟩
        ·
          refine GO.aload_n dX8_put_61 rfl rfl ?_
          refine GO.getRaw h_x fl_RX8_27_k34 hv25 dX8_put_62 ?_
          refine GO.iload dX8_put_65 rfl ?_
          refine GO.iload_n dX8_put_67 rfl rfl ?_
          have q30 : -2147483648 ≤ z6 ∧ z6 ≤ 2147483647 := r7
          refine GO.iast (t := 156) rfl rfl (by decide +kernel) h24 r7 (by omega) (by omega) r_p2 (r_p2).1 (r_p2).2 dX8_put_68 (fun V32 e31 => ?_)
          exact GO.retv rfl rfl dX8_put_69 ⟨rfl, rfl, trivial⟩
  have hj41 : GO mX8_put_k34 K V (VS K (fun V1 => (True))) K V 0 0 38 [some (.ref x), some (ti p0), some (ti p1), some (ti p2), some (ti z6), none] [] := by
    skip
    refine GO.iconst dX8_put_38 ?_
    exact hj18 0 (by omega) (by omega)
  refine GO.if_lt (tgt := 38) dX8_put_11 (by decide) r_p0 (fun c42 => ?_) (fun c42 => ?_)
  ·
    exact hj41 
  ·
    refine GO.iload_n dX8_put_14 rfl rfl ?_
    refine GO.aload_n dX8_put_15 rfl rfl ?_
    refine GO.getI h_x fl_RX8_9_k34 rfl rfl dX8_put_16 (fun l43 u44 => ?_)
    refine GO.icmp_ge (tgt := 38) dX8_put_19 (by decide) r_p0 vi_ir (fun c45 => ?_) (fun c45 => ?_)
    ·
      exact hj41 
    ·
      refine GO.iload_n dX8_put_22 rfl rfl ?_
      refine GO.if_lt (tgt := 38) dX8_put_23 (by decide) r_p1 (fun c46 => ?_) (fun c46 => ?_)
      ·
        exact hj41 
      ·
        refine GO.iload_n dX8_put_26 rfl rfl ?_
        refine GO.aload_n dX8_put_27 rfl rfl ?_
        refine GO.getI h_x fl_RX8_15_k34 rfl rfl dX8_put_28 (fun l47 u48 => ?_)
        refine GO.icmp_ge (tgt := 38) dX8_put_31 (by decide) r_p1 vi_ir (fun c49 => ?_) (fun c49 => ?_)
        ·
          exact hj41 
        ·
          refine GO.iconst dX8_put_34 ?_
          refine GO.goto (tgt := 39) dX8_put_35 (by decide) ?_
          exact hj18 1 (by omega) (by omega)

set_option maxHeartbeats 1000000 in
theorem t_X8_append_k34 {K : Kmap} {V : Vmap} {x : Nat} {p0 : Int} {p1 : Int} {p2 : Int} {p3 : Int} {p4 : Int} (h_x : K x = some (0, 34)) (r_p0 : ir p0) (r_p1 : ir p1) (r_p2 : ir p2) (r_p3 : ir p3) (r_p4 : ir p4) : MC mX8_append_k34 K V [.ref x, ti p0, ti p1, ti p2, ti p3, ti p4] (IS K (fun X V1 => True)) := by
  refine MC.start 1 (by decide +kernel) rfl rfl rfl (ls0 := [some (.ref x), some (ti p0), some (ti p1), some (ti p2), some (ti p3), some (ti p4), none]) rfl ?_
  refine GO.aload_n dX8_append_0 rfl rfl ?_
  refine GO.callV (ci := 34) (N := mX8_isFull_k34) dX8_append_1 (RX8, TX8, 4) rfl gV_RX8_31 h_x (t_X8_isFull_k34 h_x) rfl [] rfl rfl (Nat.le_of_ble_eq_true rfl) rfl (k_ip fun X1 r2 h3 => ?_)
  refine GO.if_eq (tgt := 9) dX8_append_4 (by decide) r2 (fun c4 => ?_) (fun c4 => ?_)
  ·
    have q5 := h3.2.2 (by omega)
    refine GO.aload_n dX8_append_9 rfl rfl ?_
    refine GO.getI h_x fl_RX8_9_k34 rfl rfl dX8_append_10 (fun l6 u7 => ?_)
    refine GO.name (fun z8 hz9 => ?_)
    have r10 : ir z8 := hz9 ▸ vi_ir
    refine GO.istore (ls1 := [some (.ref x), some (ti p0), some (ti p1), some (ti p2), some (ti p3), some (ti p4), some (ti z8)]) dX8_append_13 rfl rfl ?_
    refine GO.aload_n dX8_append_15 rfl rfl ?_
    refine GO.dup dX8_append_16 rfl ?_
    refine GO.getI h_x fl_RX8_9_k34 rfl rfl dX8_append_17 (fun l11 u12 => ?_)
    refine GO.iconst dX8_append_20 ?_
    refine GO.iadd dX8_append_21 ?_
    have q14 : -2147483648 ≤ vi V x 3 ∧ vi V x 3 ≤ 2147483647 := vi_ir
    have q15 : -2147483648 ≤ z8 ∧ z8 ≤ 2147483647 := r10
    refine GO.putI h_x fp_RX8_9_k34 rfl (by decide +kernel) ⟨by omega, by omega⟩ (by omega) (by omega) dX8_append_22 (fun V16 e13 => ?_)
    refine GO.aload_n dX8_append_25 rfl rfl ?_
    refine GO.iload dX8_append_26 rfl ?_
    refine GO.iconst dX8_append_28 ?_
    refine GO.iload_n dX8_append_29 rfl rfl ?_
    refine GO.callV (ci := 34) (N := mX8_put_k34) dX8_append_30 (RX8, TX8, 4) rfl gV_RX8_35 h_x (t_X8_put_k34 h_x r10 (ir_c rfl) r_p0) rfl [] rfl rfl (Nat.le_of_ble_eq_true rfl) rfl (k_vs fun V19 h18 hF17 => ?_)
    refine GO.aload_n dX8_append_33 rfl rfl ?_
    refine GO.iload dX8_append_34 rfl ?_
    refine GO.iconst dX8_append_36 ?_
    refine GO.iload_n dX8_append_37 rfl rfl ?_
    refine GO.callV (ci := 34) (N := mX8_put_k34) dX8_append_38 (RX8, TX8, 4) rfl gV_RX8_35 h_x (t_X8_put_k34 h_x r10 (ir_c rfl) r_p1) rfl [] rfl rfl (Nat.le_of_ble_eq_true rfl) rfl (k_vs fun V22 h21 hF20 => ?_)
    refine GO.aload_n dX8_append_41 rfl rfl ?_
    refine GO.iload dX8_append_42 rfl ?_
    refine GO.iconst dX8_append_44 ?_
    refine GO.iload_n dX8_append_45 rfl rfl ?_
    refine GO.callV (ci := 34) (N := mX8_put_k34) dX8_append_46 (RX8, TX8, 4) rfl gV_RX8_35 h_x (t_X8_put_k34 h_x r10 (ir_c rfl) r_p2) rfl [] rfl rfl (Nat.le_of_ble_eq_true rfl) rfl (k_vs fun V25 h24 hF23 => ?_)
    refine GO.aload_n dX8_append_49 rfl rfl ?_
    refine GO.iload dX8_append_50 rfl ?_
    refine GO.iconst dX8_append_52 ?_
    refine GO.iload dX8_append_53 rfl ?_
    refine GO.callV (ci := 34) (N := mX8_put_k34) dX8_append_55 (RX8, TX8, 4) rfl gV_RX8_35 h_x (t_X8_put_k34 h_x r10 (ir_c rfl) r_p3) rfl [] rfl rfl (Nat.le_of_ble_eq_true rfl) rfl (k_vs fun V28 h27 hF26 => ?_)
    refine GO.aload_n dX8_append_58 rfl rfl ?_
    refine GO.iload dX8_append_59 rfl ?_
    refine GO.iconst dX8_append_61 ?_
    refine GO.iload dX8_append_62 rfl ?_
    refine GO.callV (ci := 34) (N := mX8_put_k34) dX8_append_64 (RX8, TX8, 4) rfl gV_RX8_35 h_x (t_X8_put_k34 h_x r10 (ir_c rfl) r_p4) rfl [] rfl rfl (Nat.le_of_ble_eq_true rfl) rfl (k_vs fun V31 h30 hF29 => ?_)
    refine GO.iload dX8_append_67 rfl ?_
    exact GO.reti rfl rfl dX8_append_69 ⟨rfl, _, rfl, r10, trivial⟩
  ·
    have q32 := h3.2.1 (by omega)
    refine GO.iconst dX8_append_7 ?_
    exact GO.reti rfl rfl dX8_append_8 ⟨rfl, _, rfl, (ir_c rfl), trivial⟩

set_option maxHeartbeats 1000000 in
theorem t_X3_addSounding {K : Kmap} {V : Vmap} {x : Nat} {p0 : Int} {p1 : Int} (h_x : K x = some (0, 3)) (r_p0 : ir p0) (r_p1 : ir p1) : MC mX3_addSounding K V [.ref x, ti p0, ti p1] (IS K (fun X V1 => (X = 0 ∨ X = 1) ∧ (X ≠ 0 → True) ∧ (X = 0 → True))) := by
  refine MC.start 0 (by decide +kernel) rfl rfl rfl (ls0 := [some (.ref x), some (ti p0), some (ti p1)]) rfl ?_
  refine GO.aload_n dX3_addSounding_0 rfl rfl ?_
  refine GO.getN h_x fl_RX3_64 rfl rfl dX3_addSounding_1 (fun hv2 => ?_) (fun hv2 h1 => ?_)
  ·
    refine GO.ifnullN (tgt := 31) dX3_addSounding_4 (by decide) ?_
    refine GO.iconst dX3_addSounding_31 ?_
    exact GO.retz rfl rfl dX3_addSounding_32 (Or.inl rfl) ⟨rfl, _, rfl, (ir_c rfl), ⟨Or.inl rfl, fun _ => trivial, fun _ => trivial⟩⟩
  ·
    refine GO.ifnull dX3_addSounding_4 ?_
    refine GO.aload_n dX3_addSounding_7 rfl rfl ?_
    refine GO.getRaw h_x fl_RX3_64 hv2 dX3_addSounding_8 ?_
    refine GO.iload_n dX3_addSounding_11 rfl rfl ?_
    refine GO.iload_n dX3_addSounding_12 rfl rfl ?_
    refine GO.isub dX3_addSounding_13 ?_
    refine GO.norm (fun z5 r6 hn7 => ?_)
    refine GO.iload_n dX3_addSounding_14 rfl rfl ?_
    refine GO.iload_n dX3_addSounding_15 rfl rfl ?_
    refine GO.iadd dX3_addSounding_16 ?_
    refine GO.norm (fun z8 r9 hn10 => ?_)
    refine GO.iconst dX3_addSounding_17 ?_
    refine GO.iconst dX3_addSounding_18 ?_
    refine GO.iconst dX3_addSounding_19 ?_
    refine GO.callV (ci := 34) (N := mX8_append_k34) dX3_addSounding_20 (RX8, TX8, 4) rfl gV_RX3_74 h1 (t_X8_append_k34 h1 r6 r9 (ir_c rfl) (ir_c rfl) (ir_c rfl)) rfl [] rfl rfl (Nat.le_of_ble_eq_true rfl) rfl (k_is fun X11 V15 r12 h13 hF14 => ?_)
    refine GO.iconst dX3_addSounding_23 ?_
    refine GO.icmp_eq (tgt := 31) dX3_addSounding_24 (by decide) r12 (ir_c rfl) (fun c16 => ?_) (fun c16 => ?_)
    ·
      refine GO.iconst dX3_addSounding_31 ?_
      exact GO.retz rfl rfl dX3_addSounding_32 (Or.inl rfl) ⟨rfl, _, rfl, (ir_c rfl), ⟨Or.inl rfl, fun _ => trivial, fun _ => trivial⟩⟩
    ·
      refine GO.iconst dX3_addSounding_27 ?_
      refine GO.goto (tgt := 32) dX3_addSounding_28 (by decide) ?_
      exact GO.retz rfl rfl dX3_addSounding_32 (Or.inr rfl) ⟨rfl, _, rfl, (ir_c rfl), ⟨Or.inr rfl, fun _ => trivial, fun _ => trivial⟩⟩

set_option maxHeartbeats 1000000 in
theorem t_X8_get_k34 {K : Kmap} {V : Vmap} {x : Nat} {p0 : Int} {p1 : Int} (h_x : K x = some (0, 34)) (r_p0 : ir p0) (r_p1 : ir p1) : MC mX8_get_k34 K V [.ref x, ti p0, ti p1] (IP K V (fun X => True)) := by
  refine MC.start 2 (by decide +kernel) rfl rfl rfl (ls0 := [some (.ref x), some (ti p0), some (ti p1), none, none]) rfl ?_
  refine GO.iload_n dX8_get_0 rfl rfl ?_
  refine GO.aload_n dX8_get_1 rfl rfl ?_
  refine GO.getI h_x fl_RX8_15_k34 rfl rfl dX8_get_2 (fun l1 u2 => ?_)
  refine GO.imul dX8_get_5 ?_
  refine GO.norm (fun z3 r4 hn5 => ?_)
  refine GO.iload_n dX8_get_6 rfl rfl ?_
  refine GO.iadd dX8_get_7 ?_
  refine GO.norm (fun z6 r7 hn8 => ?_)
  refine GO.istore_n (ls1 := [some (.ref x), some (ti p0), some (ti p1), some (ti z6), none]) dX8_get_8 rfl rfl rfl ?_
  refine GO.iload_n dX8_get_9 rfl rfl ?_
  have hj18 : ∀ (z17 : Int), ∀ (l19 : 0 ≤ z17), ∀ (u20 : z17 ≤ 1), GO mX8_get_k34 K V (IP K V (fun X => True)) K V 0 0 38 [some (.ref x), some (ti p0), some (ti p1), some (ti z6), none] [ti z17] := by
    intro z17 l19 u20
    have r21 : ir z17 := ⟨by omega, by omega⟩
    refine GO.istore (ls1 := [some (.ref x), some (ti p0), some (ti p1), some (ti z6), some (ti z17)]) dX8_get_38 rfl rfl ?_
    refine GO.iload dX8_get_40 rfl ?_
    refine GO.if_eq (tgt := 67) dX8_get_42 (by decide) r21 (fun c22 => ?_) (fun c22 => ?_)
    ·
      refine GO.iconst dX8_get_67 ?_
      exact GO.reti rfl rfl dX8_get_68 ⟨rfl, rfl, _, rfl, (ir_c rfl), trivial⟩
    ·
      refine GO.iload_n dX8_get_45 rfl rfl ?_
      refine GO.if_lt (tgt := 67) dX8_get_46 (by decide) r7 (fun c23 => ?_) (fun c23 => ?_)
      ·
        refine GO.iconst dX8_get_67 ?_
        exact GO.reti rfl rfl dX8_get_68 ⟨rfl, rfl, _, rfl, (ir_c rfl), trivial⟩
      ·
        refine GO.iload_n dX8_get_49 rfl rfl ?_
        refine GO.aload_n dX8_get_50 rfl rfl ?_
        refine GO.getA (n := 16) h_x fl_RX8_27_k34 rfl rfl rfl rfl dX8_get_51 (fun hv25 h24 => ?_)
        refine GO.alen h24 dX8_get_54 (fun h26 => ?_)
        refine GO.icmp_ge (tgt := 67) dX8_get_55 (by decide) r7 ⟨by omega, by omega⟩ (fun c27 => ?_) (fun c27 => ?_)
        ·
          refine GO.iconst dX8_get_67 ?_
          exact GO.reti rfl rfl dX8_get_68 ⟨rfl, rfl, _, rfl, (ir_c rfl), trivial⟩
        ·
          refine GO.aload_n dX8_get_58 rfl rfl ?_
          refine GO.getRaw h_x fl_RX8_27_k34 hv25 dX8_get_59 ?_
          refine GO.iload_n dX8_get_62 rfl rfl ?_
          have q30 : -2147483648 ≤ z6 ∧ z6 ≤ 2147483647 := r7
          refine GO.iald (t := 156) rfl rfl h24 r7 (by omega) (by omega) dX8_get_63 (fun _ _ => ?_)
          refine GO.goto (tgt := 68) dX8_get_64 (by decide) ?_
          have q31 : -2147483648 ≤ vi V (vq V x 2) (z6).toNat ∧ vi V (vq V x 2) (z6).toNat ≤ 2147483647 := vi_ir
          exact GO.reti rfl rfl dX8_get_68 ⟨rfl, rfl, _, rfl, vi_ir, trivial⟩
  have hj40 : GO mX8_get_k34 K V (IP K V (fun X => True)) K V 0 0 37 [some (.ref x), some (ti p0), some (ti p1), some (ti z6), none] [] := by
    skip
    refine GO.iconst dX8_get_37 ?_
    exact hj18 0 (by omega) (by omega)
  refine GO.if_lt (tgt := 37) dX8_get_10 (by decide) r_p0 (fun c41 => ?_) (fun c41 => ?_)
  ·
    exact hj40 
  ·
    refine GO.iload_n dX8_get_13 rfl rfl ?_
    refine GO.aload_n dX8_get_14 rfl rfl ?_
    refine GO.getI h_x fl_RX8_9_k34 rfl rfl dX8_get_15 (fun l42 u43 => ?_)
    refine GO.icmp_ge (tgt := 37) dX8_get_18 (by decide) r_p0 vi_ir (fun c44 => ?_) (fun c44 => ?_)
    ·
      exact hj40 
    ·
      refine GO.iload_n dX8_get_21 rfl rfl ?_
      refine GO.if_lt (tgt := 37) dX8_get_22 (by decide) r_p1 (fun c45 => ?_) (fun c45 => ?_)
      ·
        exact hj40 
      ·
        refine GO.iload_n dX8_get_25 rfl rfl ?_
        refine GO.aload_n dX8_get_26 rfl rfl ?_
        refine GO.getI h_x fl_RX8_15_k34 rfl rfl dX8_get_27 (fun l46 u47 => ?_)
        refine GO.icmp_ge (tgt := 37) dX8_get_30 (by decide) r_p1 vi_ir (fun c48 => ?_) (fun c48 => ?_)
        ·
          exact hj40 
        ·
          refine GO.iconst dX8_get_33 ?_
          refine GO.goto (tgt := 38) dX8_get_34 (by decide) ?_
          exact hj18 1 (by omega) (by omega)

set_option maxHeartbeats 1000000 in
theorem t_X3_sureDepth {K : Kmap} {V : Vmap} {x : Nat} (h_x : K x = some (0, 3)) : MC mX3_sureDepth K V [.ref x] (IP K V (fun X => True)) := by
  refine MC.start 4 (by decide +kernel) rfl rfl rfl (ls0 := [some (.ref x), none, none, none, none]) rfl ?_
  refine GO.aload_n dX3_sureDepth_0 rfl rfl ?_
  refine GO.getN h_x fl_RX3_64 rfl rfl dX3_sureDepth_1 (fun hv2 => ?_) (fun hv2 h1 => ?_)
  ·
    refine GO.ifnullN (tgt := 17) dX3_sureDepth_4 (by decide) ?_
    refine GO.iconst dX3_sureDepth_17 ?_
    exact GO.reti rfl rfl dX3_sureDepth_18 ⟨rfl, rfl, _, rfl, (ir_c rfl), trivial⟩
  ·
    refine GO.ifnull dX3_sureDepth_4 ?_
    refine GO.aload_n dX3_sureDepth_7 rfl rfl ?_
    refine GO.getRaw h_x fl_RX3_64 hv2 dX3_sureDepth_8 ?_
    refine GO.getI h1 fl_RX3_78_k34 rfl rfl dX3_sureDepth_11 (fun l5 u6 => ?_)
    refine GO.if_ne (tgt := 19) dX3_sureDepth_14 (by decide) vi_ir (fun c7 => ?_) (fun c7 => ?_)
    ·
      refine GO.aload_n dX3_sureDepth_19 rfl rfl ?_
      refine GO.getRaw h_x fl_RX3_64 hv2 dX3_sureDepth_20 ?_
      refine GO.iconst dX3_sureDepth_23 ?_
      refine GO.iconst dX3_sureDepth_24 ?_
      refine GO.callV (ci := 34) (N := mX8_get_k34) dX3_sureDepth_25 (RX8, TX8, 4) rfl gV_RX3_81 h1 (t_X8_get_k34 h1 (ir_c rfl) (ir_c rfl)) rfl [] rfl rfl (Nat.le_of_ble_eq_true rfl) rfl (k_ip fun X10 r11 h12 => ?_)
      refine GO.istore_n (ls1 := [some (.ref x), some (ti X10), none, none, none]) dX3_sureDepth_28 rfl rfl rfl ?_
      refine GO.iload_n dX3_sureDepth_29 rfl rfl ?_
      refine GO.istore_n (ls1 := [some (.ref x), some (ti X10), some (ti X10), none, none]) dX3_sureDepth_30 rfl rfl rfl ?_
      refine GO.aload_n dX3_sureDepth_31 rfl rfl ?_
      refine GO.getRaw h_x fl_RX3_64 hv2 dX3_sureDepth_32 ?_
      refine GO.iconst dX3_sureDepth_35 ?_
      refine GO.iconst dX3_sureDepth_36 ?_
      refine GO.callV (ci := 34) (N := mX8_get_k34) dX3_sureDepth_37 (RX8, TX8, 4) rfl gV_RX3_81 h1 (t_X8_get_k34 h1 (ir_c rfl) (ir_c rfl)) rfl [] rfl rfl (Nat.le_of_ble_eq_true rfl) rfl (k_ip fun X15 r16 h17 => ?_)
      refine GO.istore_n (ls1 := [some (.ref x), some (ti X10), some (ti X10), some (ti X15), none]) dX3_sureDepth_40 rfl rfl rfl ?_
      refine GO.iconst dX3_sureDepth_41 ?_
      refine GO.istore (ls1 := [some (.ref x), some (ti X10), some (ti X10), some (ti X15), some (ti 1)]) dX3_sureDepth_42 rfl rfl ?_
      have q243 : -2147483648 ≤ X15 ∧ X15 ≤ 2147483647 := r16
      have q244 : -2147483648 ≤ X10 ∧ X10 ≤ 2147483647 := r11
      refine GO.loop4 (fun i18 i19 i20 i21 W => (-2147483648) ≤ i18 ∧ i18 ≤ 2147483647 ∧ (-2147483648) ≤ i19 ∧ i19 ≤ 2147483647 ∧ (-2147483648) ≤ i20 ∧ i20 ≤ 2147483647 ∧ 1 ≤ i21 ∧ i21 ≤ 8 ∧ V = W) (fun i18 i19 i20 i21 => [some (.ref x), some (ti i18), some (ti i19), some (ti i20), some (ti i21)]) (fun i18 i19 i20 i21 W => (2147483647 - i21).toNat) X10 X10 X15 1 ⟨by omega, by omega, by omega, by omega, by omega, by omega, by omega, by omega, rfl⟩ rfl (fun i18 i19 i20 i21 V242 hp246 ih245 => ?_)
      obtain ⟨l_i18, u_i18, l_i19, u_i19, l_i20, u_i20, l_i21, u_i21, rfl⟩ := hp246
      have r_i18 : ir i18 := ⟨by omega, by omega⟩
      have r_i19 : ir i19 := ⟨by omega, by omega⟩
      have r_i20 : ir i20 := ⟨by omega, by omega⟩
      have r_i21 : ir i21 := ⟨by omega, by omega⟩
      show GO mX3_sureDepth K V (IP K V (fun X => True)) K V 0 0 44 [some (.ref x), some (ti i18), some (ti i19), some (ti i20), some (ti i21)] []
      refine GO.iload dX3_sureDepth_44 rfl ?_
      refine GO.aload_n dX3_sureDepth_46 rfl rfl ?_
      refine GO.getRaw h_x fl_RX3_64 hv2 dX3_sureDepth_47 ?_
      refine GO.getI h1 fl_RX3_78_k34 rfl rfl dX3_sureDepth_50 (fun l249 u250 => ?_)
      refine GO.icmp_ge (tgt := 107) dX3_sureDepth_53 (by decide) r_i21 vi_ir (fun c251 => ?_) (fun c251 => ?_)
      ·
        refine GO.iconst dX3_sureDepth_107 ?_
        refine GO.iload_n dX3_sureDepth_108 rfl rfl ?_
        refine GO.iload_n dX3_sureDepth_109 rfl rfl ?_
        refine GO.icmp_gt (tgt := 117) dX3_sureDepth_110 (by decide) r_i19 r_i20 (fun c252 => ?_) (fun c252 => ?_)
        ·
          refine GO.iload_n dX3_sureDepth_117 rfl rfl ?_
          refine GO.callS (N := mJ9_max_7cf53) dX3_sureDepth_118 gS_RX3_90 (t_J9_max_7cf53 (ir_c rfl) r_i18) rfl [] rfl rfl (Nat.le_of_ble_eq_true rfl) rfl (k_ip fun X253 r254 h255 => ?_)
          have q256 : -2147483648 ≤ X253 ∧ X253 ≤ 2147483647 := r254
          exact GO.reti rfl rfl dX3_sureDepth_121 ⟨rfl, rfl, _, rfl, r254, trivial⟩
        ·
          refine GO.iload_n dX3_sureDepth_113 rfl rfl ?_
          refine GO.goto (tgt := 118) dX3_sureDepth_114 (by decide) ?_
          refine GO.callS (N := mJ9_max_7cf53) dX3_sureDepth_118 gS_RX3_90 (t_J9_max_7cf53 (ir_c rfl) r_i19) rfl [] rfl rfl (Nat.le_of_ble_eq_true rfl) rfl (k_ip fun X257 r258 h259 => ?_)
          have q260 : -2147483648 ≤ X257 ∧ X257 ≤ 2147483647 := r258
          exact GO.reti rfl rfl dX3_sureDepth_121 ⟨rfl, rfl, _, rfl, r258, trivial⟩
      ·
        refine GO.iload_n dX3_sureDepth_56 rfl rfl ?_
        refine GO.aload_n dX3_sureDepth_57 rfl rfl ?_
        refine GO.getRaw h_x fl_RX3_64 hv2 dX3_sureDepth_58 ?_
        refine GO.iload dX3_sureDepth_61 rfl ?_
        refine GO.iconst dX3_sureDepth_63 ?_
        refine GO.callV (ci := 34) (N := mX8_get_k34) dX3_sureDepth_64 (RX8, TX8, 4) rfl gV_RX3_81 h1 (t_X8_get_k34 h1 r_i21 (ir_c rfl)) rfl [ti i18] rfl rfl (Nat.le_of_ble_eq_true rfl) rfl (k_ip fun X263 r264 h265 => ?_)
        refine GO.callS (N := mJ9_min_7cf53) dX3_sureDepth_67 gS_RX3_85 (t_J9_min_7cf53 r_i18 r264) rfl [] rfl rfl (Nat.le_of_ble_eq_true rfl) rfl (k_ip fun X266 r267 h268 => ?_)
        have q269 : -2147483648 ≤ X263 ∧ X263 ≤ 2147483647 := r264
        have q270 : -2147483648 ≤ X266 ∧ X266 ≤ 2147483647 := r267
        refine GO.istore_n (ls1 := [some (.ref x), some (ti X266), some (ti i19), some (ti i20), some (ti i21)]) dX3_sureDepth_70 rfl rfl rfl ?_
        refine GO.iload_n dX3_sureDepth_71 rfl rfl ?_
        refine GO.aload_n dX3_sureDepth_72 rfl rfl ?_
        refine GO.getRaw h_x fl_RX3_64 hv2 dX3_sureDepth_73 ?_
        refine GO.iload dX3_sureDepth_76 rfl ?_
        refine GO.iconst dX3_sureDepth_78 ?_
        refine GO.callV (ci := 34) (N := mX8_get_k34) dX3_sureDepth_79 (RX8, TX8, 4) rfl gV_RX3_81 h1 (t_X8_get_k34 h1 r_i21 (ir_c rfl)) rfl [ti i19] rfl rfl (Nat.le_of_ble_eq_true rfl) rfl (k_ip fun X273 r274 h275 => ?_)
        refine GO.callS (N := mJ9_max_7cf53) dX3_sureDepth_82 gS_RX3_90 (t_J9_max_7cf53 r_i19 r274) rfl [] rfl rfl (Nat.le_of_ble_eq_true rfl) rfl (k_ip fun X276 r277 h278 => ?_)
        have q279 : -2147483648 ≤ X273 ∧ X273 ≤ 2147483647 := r274
        have q280 : -2147483648 ≤ X276 ∧ X276 ≤ 2147483647 := r277
        refine GO.istore_n (ls1 := [some (.ref x), some (ti X266), some (ti X276), some (ti i20), some (ti i21)]) dX3_sureDepth_85 rfl rfl rfl ?_
        refine GO.iload_n dX3_sureDepth_86 rfl rfl ?_
        refine GO.aload_n dX3_sureDepth_87 rfl rfl ?_
        refine GO.getRaw h_x fl_RX3_64 hv2 dX3_sureDepth_88 ?_
        refine GO.iload dX3_sureDepth_91 rfl ?_
        refine GO.iconst dX3_sureDepth_93 ?_
        refine GO.callV (ci := 34) (N := mX8_get_k34) dX3_sureDepth_94 (RX8, TX8, 4) rfl gV_RX3_81 h1 (t_X8_get_k34 h1 r_i21 (ir_c rfl)) rfl [ti i20] rfl rfl (Nat.le_of_ble_eq_true rfl) rfl (k_ip fun X283 r284 h285 => ?_)
        refine GO.callS (N := mJ9_min_7cf53) dX3_sureDepth_97 gS_RX3_85 (t_J9_min_7cf53 r_i20 r284) rfl [] rfl rfl (Nat.le_of_ble_eq_true rfl) rfl (k_ip fun X286 r287 h288 => ?_)
        have q289 : -2147483648 ≤ X283 ∧ X283 ≤ 2147483647 := r284
        have q290 : -2147483648 ≤ X286 ∧ X286 ≤ 2147483647 := r287
        refine GO.istore_n (ls1 := [some (.ref x), some (ti X266), some (ti X276), some (ti X286), some (ti i21)]) dX3_sureDepth_100 rfl rfl rfl ?_
        refine GO.iinc (X := i21) (n := 1) (Y := i21 + 1) (ls1 := [some (.ref x), some (ti X266), some (ti X276), some (ti X286), some (ti (i21 + 1))]) dX3_sureDepth_101 rfl rfl rfl rfl ?_
        refine GO.goto (tgt := 44) dX3_sureDepth_104 (by decide) ?_
        exact ih245 X266 X276 X286 (i21 + 1) V ⟨by omega, by omega, by omega, by omega, by omega, by omega, by omega, by omega, rfl⟩ (by show (2147483647 - (i21 + 1)).toNat < (2147483647 - i21).toNat; omega)
    ·
      refine GO.iconst dX3_sureDepth_17 ?_
      exact GO.reti rfl rfl dX3_sureDepth_18 ⟨rfl, rfl, _, rfl, (ir_c rfl), trivial⟩

set_option maxHeartbeats 1000000 in
theorem t_X4_put {K : Kmap} {V : Vmap} {p0 n_p0 : Nat} {p1 : Int} {p2 : Int} (h_p0 : K p0 = some (1, n_p0)) (r_p1 : ir p1) (r_p2 : ir p2) : MC mX4_put K V [.ref p0, ti p1, ti p2] (VS K (fun V1 => (True) ∧ (V1 = rpv V p0 n_p0 p1 p2))) := by
  refine MC.start 0 (by decide +kernel) rfl rfl rfl (ls0 := [some (.ref p0), some (ti p1), some (ti p2)]) rfl ?_
  refine GO.aload_n dX4_put_0 rfl rfl ?_
  refine GO.ifnull dX4_put_1 ?_
  refine GO.iload_n dX4_put_4 rfl rfl ?_
  refine GO.if_lt (tgt := 18) dX4_put_5 (by decide) r_p1 (fun c1 => ?_) (fun c1 => ?_)
  ·
    exact GO.retv rfl rfl dX4_put_18 ⟨rfl, rfl, ⟨trivial, (by first | exact rpv_in (by assumption) (by omega) (by omega) | exact rpv_out (by omega))⟩⟩
  ·
    refine GO.iload_n dX4_put_8 rfl rfl ?_
    refine GO.aload_n dX4_put_9 rfl rfl ?_
    refine GO.alen h_p0 dX4_put_10 (fun h2 => ?_)
    refine GO.icmp_ge (tgt := 18) dX4_put_11 (by decide) r_p1 ⟨by omega, by omega⟩ (fun c3 => ?_) (fun c3 => ?_)
    ·
      exact GO.retv rfl rfl dX4_put_18 ⟨rfl, rfl, ⟨trivial, (by first | exact rpv_in (by assumption) (by omega) (by omega) | exact rpv_out (by omega))⟩⟩
    ·
      refine GO.aload_n dX4_put_14 rfl rfl ?_
      refine GO.iload_n dX4_put_15 rfl rfl ?_
      refine GO.iload_n dX4_put_16 rfl rfl ?_
      have q4 : -2147483648 ≤ p1 ∧ p1 ≤ 2147483647 := r_p1
      refine GO.iast (t := 0) rfl rfl (by decide +kernel) h_p0 r_p1 (by omega) (by omega) r_p2 (r_p2).1 (r_p2).2 dX4_put_17 (fun V6 e5 => ?_)
      exact GO.retv rfl rfl dX4_put_18 ⟨rfl, rfl, ⟨trivial, (by first | exact rpv_in (by assumption) (by omega) (by omega) | exact rpv_out (by omega))⟩⟩

set_option maxHeartbeats 1000000 in
theorem t_X4_add {K : Kmap} {V : Vmap} {p0 n_p0 : Nat} {p1 : Int} {p2 : Int} (h_p0 : K p0 = some (1, n_p0)) (r_p1 : ir p1) (r_p2 : ir p2) : MC mX4_add K V [.ref p0, ti p1, ti p2] (VS K (fun V1 => (True))) := by
  refine MC.start 0 (by decide +kernel) rfl rfl rfl (ls0 := [some (.ref p0), some (ti p1), some (ti p2)]) rfl ?_
  refine GO.aload_n dX4_add_0 rfl rfl ?_
  refine GO.iload_n dX4_add_1 rfl rfl ?_
  refine GO.aload_n dX4_add_2 rfl rfl ?_
  refine GO.iload_n dX4_add_3 rfl rfl ?_
  refine GO.callS (N := mX4_get) dX4_add_4 gS_RX4_7 (t_X4_get rfl h_p0 r_p1) rfl [ti p1, .ref p0] rfl rfl (Nat.le_of_ble_eq_true rfl) rfl (k_ip fun X1 r2 h3 => ?_)
  have raw_get := h3.2
  have rw4 := h3.2
  refine GO.iload_n dX4_add_7 rfl rfl ?_
  refine GO.iadd dX4_add_8 ?_
  refine GO.norm (fun z4 r5 hn6 => ?_)
  refine GO.callS (N := mX4_put) dX4_add_9 gS_RX4_13 (t_X4_put h_p0 r_p1 r5) rfl [] rfl rfl (Nat.le_of_ble_eq_true rfl) rfl (k_vs fun V9 h8 hF7 => ?_)
  have raw_put := h8.2
  have rw9 := h8.2
  exact GO.retv rfl rfl dX4_add_12 ⟨rfl, rfl, trivial⟩

set_option maxHeartbeats 1000000 in
theorem t_X5_faultAnswer {K : Kmap} {V : Vmap} {x : Nat} (h_x : K x = some (0, 4)) : MC mX5_faultAnswer K V [.ref x] (IP K V (fun X => (X ≥ (-2147483648) ∧ X ≤ 2147483647) ∧ (FAN V x X))) := by
  refine MC.start 0 (by decide +kernel) rfl rfl rfl (ls0 := [some (.ref x)]) rfl ?_
  refine GO.sipush dX5_faultAnswer_0 rfl ?_
  refine GO.aload_n dX5_faultAnswer_3 rfl rfl ?_
  refine GO.getI h_x fl_RX5_18 rfl rfl dX5_faultAnswer_4 (fun _ _ => ?_)
  refine GO.imul dX5_faultAnswer_7 ?_
  refine GO.norm (fun z1 r2 hn3 => ?_)
  refine GO.aload_n dX5_faultAnswer_8 rfl rfl ?_
  refine GO.getI h_x fl_RX5_21 rfl rfl dX5_faultAnswer_9 (fun _ _ => ?_)
  refine GO.isub dX5_faultAnswer_12 ?_
  refine GO.norm (fun z4 r5 hn6 => ?_)
  have q7 : -2147483648 ≤ z4 ∧ z4 ≤ 2147483647 := r5
  exact GO.reti rfl rfl dX5_faultAnswer_13 ⟨rfl, rfl, _, rfl, r5, ⟨(by first | exact trivial | omega), FAN.mk (by assumption) (by assumption)⟩⟩

set_option maxHeartbeats 1000000 in
theorem t_X5_next {K : Kmap} {V : Vmap} {x : Nat} (h_x : K x = some (0, 4)) : MC mX5_next K V [.ref x] (IP K V (fun X => X ≥ (-1) ∧ X ≤ 255 ∧ X = sgC V x)) := by
  refine MC.start 1 (by decide +kernel) rfl rfl rfl (ls0 := [some (.ref x), none]) rfl ?_
  refine GO.aload_n dX5_next_0 rfl rfl ?_
  refine GO.getA (n := 400) h_x fl_RX5_24 rfl rfl rfl rfl dX5_next_1 (fun hv2 h1 => ?_)
  refine GO.ifnull dX5_next_4 ?_
  refine GO.aload_n dX5_next_7 rfl rfl ?_
  refine GO.getI h_x fl_RX5_9 rfl rfl dX5_next_8 (fun _ _ => ?_)
  refine GO.if_lt (tgt := 41) dX5_next_11 (by decide) vi_ir (fun c3 => ?_) (fun c3 => ?_)
  ·
    refine GO.iconst dX5_next_41 ?_
    refine GO.istore_n (ls1 := [some (.ref x), some (ti 0)]) dX5_next_42 rfl rfl rfl ?_
    refine GO.iload_n dX5_next_43 rfl rfl ?_
    refine GO.if_eq (tgt := 59) dX5_next_44 (by decide) (ir_c rfl) (fun c4 => ?_) (fun h => by exfalso; omega)
    have hs := sgC_no (V := V) (x := x) (by omega)
    refine GO.iconst dX5_next_59 ?_
    exact GO.reti rfl rfl dX5_next_60 ⟨rfl, rfl, _, rfl, (ir_c rfl), by omega⟩
  ·
    refine GO.aload_n dX5_next_14 rfl rfl ?_
    refine GO.getI h_x fl_RX5_9 rfl rfl dX5_next_15 (fun _ _ => ?_)
    refine GO.aload_n dX5_next_18 rfl rfl ?_
    refine GO.getI h_x fl_RX5_28 rfl rfl dX5_next_19 (fun _ _ => ?_)
    refine GO.icmp_ge (tgt := 41) dX5_next_22 (by decide) vi_ir vi_ir (fun c5 => ?_) (fun c5 => ?_)
    ·
      refine GO.iconst dX5_next_41 ?_
      refine GO.istore_n (ls1 := [some (.ref x), some (ti 0)]) dX5_next_42 rfl rfl rfl ?_
      refine GO.iload_n dX5_next_43 rfl rfl ?_
      refine GO.if_eq (tgt := 59) dX5_next_44 (by decide) (ir_c rfl) (fun c6 => ?_) (fun h => by exfalso; omega)
      have hs := sgC_no (V := V) (x := x) (by omega)
      refine GO.iconst dX5_next_59 ?_
      exact GO.reti rfl rfl dX5_next_60 ⟨rfl, rfl, _, rfl, (ir_c rfl), by omega⟩
    ·
      refine GO.aload_n dX5_next_25 rfl rfl ?_
      refine GO.getI h_x fl_RX5_9 rfl rfl dX5_next_26 (fun _ _ => ?_)
      refine GO.aload_n dX5_next_29 rfl rfl ?_
      refine GO.getRaw h_x fl_RX5_24 hv2 dX5_next_30 ?_
      refine GO.alen h1 dX5_next_33 (fun h9 => ?_)
      refine GO.icmp_ge (tgt := 41) dX5_next_34 (by decide) vi_ir ⟨by omega, by omega⟩ (fun c10 => ?_) (fun c10 => ?_)
      ·
        refine GO.iconst dX5_next_41 ?_
        refine GO.istore_n (ls1 := [some (.ref x), some (ti 0)]) dX5_next_42 rfl rfl rfl ?_
        refine GO.iload_n dX5_next_43 rfl rfl ?_
        refine GO.if_eq (tgt := 59) dX5_next_44 (by decide) (ir_c rfl) (fun c11 => ?_) (fun h => by exfalso; omega)
        have hs := sgC_no (V := V) (x := x) (by omega)
        refine GO.iconst dX5_next_59 ?_
        exact GO.reti rfl rfl dX5_next_60 ⟨rfl, rfl, _, rfl, (ir_c rfl), by omega⟩
      ·
        refine GO.iconst dX5_next_37 ?_
        refine GO.goto (tgt := 42) dX5_next_38 (by decide) ?_
        refine GO.istore_n (ls1 := [some (.ref x), some (ti 1)]) dX5_next_42 rfl rfl rfl ?_
        refine GO.iload_n dX5_next_43 rfl rfl ?_
        refine GO.if_eq (tgt := 59) dX5_next_44 (by decide) (ir_c rfl) (fun h => by exfalso; omega) (fun c12 => ?_)
        refine GO.aload_n dX5_next_47 rfl rfl ?_
        refine GO.getRaw h_x fl_RX5_24 hv2 dX5_next_48 ?_
        refine GO.aload_n dX5_next_51 rfl rfl ?_
        refine GO.getI h_x fl_RX5_9 rfl rfl dX5_next_52 (fun _ _ => ?_)
        have q15 : -2147483648 ≤ vi V x 3 ∧ vi V x 3 ≤ 2147483647 := vi_ir
        have q16 : -2147483648 ≤ vi V x 1 ∧ vi V x 1 ≤ 2147483647 := vi_ir
        refine GO.iald (t := 153) rfl rfl h1 vi_ir (by omega) (by omega) dX5_next_55 (fun l17 u18 => ?_)
        have hs := sgC_yes (V := V) (x := x) rfl (by omega)
        refine GO.goto (tgt := 60) dX5_next_56 (by decide) ?_
        exact GO.reti rfl rfl dX5_next_60 ⟨rfl, rfl, _, rfl, vi_ir, by omega⟩

set_option maxHeartbeats 1000000 in
theorem t_X5_isClauseLetter {K : Kmap} {V : Vmap} {p0 : Int} (r_p0 : ir p0) : MC mX5_isClauseLetter K V [ti p0] (IP K V (fun X => (X = 0 ∨ X = 1) ∧ (X ≠ 0 → (p0 = 97 ∨ p0 = 99 ∨ p0 = 102 ∨ p0 = 103 ∨ p0 = 107 ∨ p0 = 108 ∨ p0 = 110 ∨ p0 = 113 ∨ p0 = 115 ∨ p0 = 120 ∨ p0 = 122)) ∧ (X = 0 → p0 ≠ 97 ∧ p0 ≠ 99 ∧ p0 ≠ 102 ∧ p0 ≠ 103 ∧ p0 ≠ 107 ∧ p0 ≠ 108 ∧ p0 ≠ 110 ∧ p0 ≠ 113 ∧ p0 ≠ 115 ∧ p0 ≠ 120 ∧ p0 ≠ 122))) := by
  refine MC.start 0 (by decide +kernel) rfl rfl rfl (ls0 := [some (ti p0)]) rfl ?_
  refine GO.iload_n dX5_isClauseLetter_0 rfl rfl ?_
  have q1 : -2147483648 ≤ p0 ∧ p0 ≤ 2147483647 := r_p0
  rcases (show (p0 < 97 ∨ 122 < p0) ∨ p0 = 97 ∨ p0 = 98 ∨ p0 = 99 ∨ p0 = 100 ∨ p0 = 101 ∨ p0 = 102 ∨ p0 = 103 ∨ p0 = 104 ∨ p0 = 105 ∨ p0 = 106 ∨ p0 = 107 ∨ p0 = 108 ∨ p0 = 109 ∨ p0 = 110 ∨ p0 = 111 ∨ p0 = 112 ∨ p0 = 113 ∨ p0 = 114 ∨ p0 = 115 ∨ p0 = 116 ∨ p0 = 117 ∨ p0 = 118 ∨ p0 = 119 ∨ p0 = 120 ∨ p0 = 121 ∨ p0 = 122 by omega) with c2 | c2 | c2 | c2 | c2 | c2 | c2 | c2 | c2 | c2 | c2 | c2 | c2 | c2 | c2 | c2 | c2 | c2 | c2 | c2 | c2 | c2 | c2 | c2 | c2 | c2 | c2
  ·
    refine GO.tableOut (tgt := 122) dX5_isClauseLetter_1 r_p0 c2 (by decide) ?_
    refine GO.iconst dX5_isClauseLetter_122 ?_
    exact GO.retz rfl rfl dX5_isClauseLetter_123 (Or.inl rfl) ⟨rfl, rfl, _, rfl, (ir_c rfl), ⟨Or.inl rfl, fun h => absurd rfl h, fun h => by omega⟩⟩
  ·
    refine GO.tableAt (n := 97) (tgt := 120) dX5_isClauseLetter_1 (ir_c rfl) c2 (by decide) (by decide) rfl (by decide) ?_
    refine GO.iconst dX5_isClauseLetter_120 ?_
    exact GO.retz rfl rfl dX5_isClauseLetter_121 (Or.inr rfl) ⟨rfl, rfl, _, rfl, (ir_c rfl), ⟨Or.inr rfl, fun h => by omega, fun h => absurd h (by decide)⟩⟩
  ·
    refine GO.tableAt (n := 98) (tgt := 122) dX5_isClauseLetter_1 (ir_c rfl) c2 (by decide) (by decide) rfl (by decide) ?_
    refine GO.iconst dX5_isClauseLetter_122 ?_
    exact GO.retz rfl rfl dX5_isClauseLetter_123 (Or.inl rfl) ⟨rfl, rfl, _, rfl, (ir_c rfl), ⟨Or.inl rfl, fun h => absurd rfl h, fun h => by omega⟩⟩
  ·
    refine GO.tableAt (n := 99) (tgt := 120) dX5_isClauseLetter_1 (ir_c rfl) c2 (by decide) (by decide) rfl (by decide) ?_
    refine GO.iconst dX5_isClauseLetter_120 ?_
    exact GO.retz rfl rfl dX5_isClauseLetter_121 (Or.inr rfl) ⟨rfl, rfl, _, rfl, (ir_c rfl), ⟨Or.inr rfl, fun h => by omega, fun h => absurd h (by decide)⟩⟩
  ·
    refine GO.tableAt (n := 100) (tgt := 122) dX5_isClauseLetter_1 (ir_c rfl) c2 (by decide) (by decide) rfl (by decide) ?_
    refine GO.iconst dX5_isClauseLetter_122 ?_
    exact GO.retz rfl rfl dX5_isClauseLetter_123 (Or.inl rfl) ⟨rfl, rfl, _, rfl, (ir_c rfl), ⟨Or.inl rfl, fun h => absurd rfl h, fun h => by omega⟩⟩
  ·
    refine GO.tableAt (n := 101) (tgt := 122) dX5_isClauseLetter_1 (ir_c rfl) c2 (by decide) (by decide) rfl (by decide) ?_
    refine GO.iconst dX5_isClauseLetter_122 ?_
    exact GO.retz rfl rfl dX5_isClauseLetter_123 (Or.inl rfl) ⟨rfl, rfl, _, rfl, (ir_c rfl), ⟨Or.inl rfl, fun h => absurd rfl h, fun h => by omega⟩⟩
  ·
    refine GO.tableAt (n := 102) (tgt := 120) dX5_isClauseLetter_1 (ir_c rfl) c2 (by decide) (by decide) rfl (by decide) ?_
    refine GO.iconst dX5_isClauseLetter_120 ?_
    exact GO.retz rfl rfl dX5_isClauseLetter_121 (Or.inr rfl) ⟨rfl, rfl, _, rfl, (ir_c rfl), ⟨Or.inr rfl, fun h => by omega, fun h => absurd h (by decide)⟩⟩
  ·
    refine GO.tableAt (n := 103) (tgt := 120) dX5_isClauseLetter_1 (ir_c rfl) c2 (by decide) (by decide) rfl (by decide) ?_
    refine GO.iconst dX5_isClauseLetter_120 ?_
    exact GO.retz rfl rfl dX5_isClauseLetter_121 (Or.inr rfl) ⟨rfl, rfl, _, rfl, (ir_c rfl), ⟨Or.inr rfl, fun h => by omega, fun h => absurd h (by decide)⟩⟩
  ·
    refine GO.tableAt (n := 104) (tgt := 122) dX5_isClauseLetter_1 (ir_c rfl) c2 (by decide) (by decide) rfl (by decide) ?_
    refine GO.iconst dX5_isClauseLetter_122 ?_
    exact GO.retz rfl rfl dX5_isClauseLetter_123 (Or.inl rfl) ⟨rfl, rfl, _, rfl, (ir_c rfl), ⟨Or.inl rfl, fun h => absurd rfl h, fun h => by omega⟩⟩
  ·
    refine GO.tableAt (n := 105) (tgt := 122) dX5_isClauseLetter_1 (ir_c rfl) c2 (by decide) (by decide) rfl (by decide) ?_
    refine GO.iconst dX5_isClauseLetter_122 ?_
    exact GO.retz rfl rfl dX5_isClauseLetter_123 (Or.inl rfl) ⟨rfl, rfl, _, rfl, (ir_c rfl), ⟨Or.inl rfl, fun h => absurd rfl h, fun h => by omega⟩⟩
  ·
    refine GO.tableAt (n := 106) (tgt := 122) dX5_isClauseLetter_1 (ir_c rfl) c2 (by decide) (by decide) rfl (by decide) ?_
    refine GO.iconst dX5_isClauseLetter_122 ?_
    exact GO.retz rfl rfl dX5_isClauseLetter_123 (Or.inl rfl) ⟨rfl, rfl, _, rfl, (ir_c rfl), ⟨Or.inl rfl, fun h => absurd rfl h, fun h => by omega⟩⟩
  ·
    refine GO.tableAt (n := 107) (tgt := 120) dX5_isClauseLetter_1 (ir_c rfl) c2 (by decide) (by decide) rfl (by decide) ?_
    refine GO.iconst dX5_isClauseLetter_120 ?_
    exact GO.retz rfl rfl dX5_isClauseLetter_121 (Or.inr rfl) ⟨rfl, rfl, _, rfl, (ir_c rfl), ⟨Or.inr rfl, fun h => by omega, fun h => absurd h (by decide)⟩⟩
  ·
    refine GO.tableAt (n := 108) (tgt := 120) dX5_isClauseLetter_1 (ir_c rfl) c2 (by decide) (by decide) rfl (by decide) ?_
    refine GO.iconst dX5_isClauseLetter_120 ?_
    exact GO.retz rfl rfl dX5_isClauseLetter_121 (Or.inr rfl) ⟨rfl, rfl, _, rfl, (ir_c rfl), ⟨Or.inr rfl, fun h => by omega, fun h => absurd h (by decide)⟩⟩
  ·
    refine GO.tableAt (n := 109) (tgt := 122) dX5_isClauseLetter_1 (ir_c rfl) c2 (by decide) (by decide) rfl (by decide) ?_
    refine GO.iconst dX5_isClauseLetter_122 ?_
    exact GO.retz rfl rfl dX5_isClauseLetter_123 (Or.inl rfl) ⟨rfl, rfl, _, rfl, (ir_c rfl), ⟨Or.inl rfl, fun h => absurd rfl h, fun h => by omega⟩⟩
  ·
    refine GO.tableAt (n := 110) (tgt := 120) dX5_isClauseLetter_1 (ir_c rfl) c2 (by decide) (by decide) rfl (by decide) ?_
    refine GO.iconst dX5_isClauseLetter_120 ?_
    exact GO.retz rfl rfl dX5_isClauseLetter_121 (Or.inr rfl) ⟨rfl, rfl, _, rfl, (ir_c rfl), ⟨Or.inr rfl, fun h => by omega, fun h => absurd h (by decide)⟩⟩
  ·
    refine GO.tableAt (n := 111) (tgt := 122) dX5_isClauseLetter_1 (ir_c rfl) c2 (by decide) (by decide) rfl (by decide) ?_
    refine GO.iconst dX5_isClauseLetter_122 ?_
    exact GO.retz rfl rfl dX5_isClauseLetter_123 (Or.inl rfl) ⟨rfl, rfl, _, rfl, (ir_c rfl), ⟨Or.inl rfl, fun h => absurd rfl h, fun h => by omega⟩⟩
  ·
    refine GO.tableAt (n := 112) (tgt := 122) dX5_isClauseLetter_1 (ir_c rfl) c2 (by decide) (by decide) rfl (by decide) ?_
    refine GO.iconst dX5_isClauseLetter_122 ?_
    exact GO.retz rfl rfl dX5_isClauseLetter_123 (Or.inl rfl) ⟨rfl, rfl, _, rfl, (ir_c rfl), ⟨Or.inl rfl, fun h => absurd rfl h, fun h => by omega⟩⟩
  ·
    refine GO.tableAt (n := 113) (tgt := 120) dX5_isClauseLetter_1 (ir_c rfl) c2 (by decide) (by decide) rfl (by decide) ?_
    refine GO.iconst dX5_isClauseLetter_120 ?_
    exact GO.retz rfl rfl dX5_isClauseLetter_121 (Or.inr rfl) ⟨rfl, rfl, _, rfl, (ir_c rfl), ⟨Or.inr rfl, fun h => by omega, fun h => absurd h (by decide)⟩⟩
  ·
    refine GO.tableAt (n := 114) (tgt := 122) dX5_isClauseLetter_1 (ir_c rfl) c2 (by decide) (by decide) rfl (by decide) ?_
    refine GO.iconst dX5_isClauseLetter_122 ?_
    exact GO.retz rfl rfl dX5_isClauseLetter_123 (Or.inl rfl) ⟨rfl, rfl, _, rfl, (ir_c rfl), ⟨Or.inl rfl, fun h => absurd rfl h, fun h => by omega⟩⟩
  ·
    refine GO.tableAt (n := 115) (tgt := 120) dX5_isClauseLetter_1 (ir_c rfl) c2 (by decide) (by decide) rfl (by decide) ?_
    refine GO.iconst dX5_isClauseLetter_120 ?_
    exact GO.retz rfl rfl dX5_isClauseLetter_121 (Or.inr rfl) ⟨rfl, rfl, _, rfl, (ir_c rfl), ⟨Or.inr rfl, fun h => by omega, fun h => absurd h (by decide)⟩⟩
  ·
    refine GO.tableAt (n := 116) (tgt := 122) dX5_isClauseLetter_1 (ir_c rfl) c2 (by decide) (by decide) rfl (by decide) ?_
    refine GO.iconst dX5_isClauseLetter_122 ?_
    exact GO.retz rfl rfl dX5_isClauseLetter_123 (Or.inl rfl) ⟨rfl, rfl, _, rfl, (ir_c rfl), ⟨Or.inl rfl, fun h => absurd rfl h, fun h => by omega⟩⟩
  ·
    refine GO.tableAt (n := 117) (tgt := 122) dX5_isClauseLetter_1 (ir_c rfl) c2 (by decide) (by decide) rfl (by decide) ?_
    refine GO.iconst dX5_isClauseLetter_122 ?_
    exact GO.retz rfl rfl dX5_isClauseLetter_123 (Or.inl rfl) ⟨rfl, rfl, _, rfl, (ir_c rfl), ⟨Or.inl rfl, fun h => absurd rfl h, fun h => by omega⟩⟩
  ·
    refine GO.tableAt (n := 118) (tgt := 122) dX5_isClauseLetter_1 (ir_c rfl) c2 (by decide) (by decide) rfl (by decide) ?_
    refine GO.iconst dX5_isClauseLetter_122 ?_
    exact GO.retz rfl rfl dX5_isClauseLetter_123 (Or.inl rfl) ⟨rfl, rfl, _, rfl, (ir_c rfl), ⟨Or.inl rfl, fun h => absurd rfl h, fun h => by omega⟩⟩
  ·
    refine GO.tableAt (n := 119) (tgt := 122) dX5_isClauseLetter_1 (ir_c rfl) c2 (by decide) (by decide) rfl (by decide) ?_
    refine GO.iconst dX5_isClauseLetter_122 ?_
    exact GO.retz rfl rfl dX5_isClauseLetter_123 (Or.inl rfl) ⟨rfl, rfl, _, rfl, (ir_c rfl), ⟨Or.inl rfl, fun h => absurd rfl h, fun h => by omega⟩⟩
  ·
    refine GO.tableAt (n := 120) (tgt := 120) dX5_isClauseLetter_1 (ir_c rfl) c2 (by decide) (by decide) rfl (by decide) ?_
    refine GO.iconst dX5_isClauseLetter_120 ?_
    exact GO.retz rfl rfl dX5_isClauseLetter_121 (Or.inr rfl) ⟨rfl, rfl, _, rfl, (ir_c rfl), ⟨Or.inr rfl, fun h => by omega, fun h => absurd h (by decide)⟩⟩
  ·
    refine GO.tableAt (n := 121) (tgt := 122) dX5_isClauseLetter_1 (ir_c rfl) c2 (by decide) (by decide) rfl (by decide) ?_
    refine GO.iconst dX5_isClauseLetter_122 ?_
    exact GO.retz rfl rfl dX5_isClauseLetter_123 (Or.inl rfl) ⟨rfl, rfl, _, rfl, (ir_c rfl), ⟨Or.inl rfl, fun h => absurd rfl h, fun h => by omega⟩⟩
  ·
    refine GO.tableAt (n := 122) (tgt := 120) dX5_isClauseLetter_1 (ir_c rfl) c2 (by decide) (by decide) rfl (by decide) ?_
    refine GO.iconst dX5_isClauseLetter_120 ?_
    exact GO.retz rfl rfl dX5_isClauseLetter_121 (Or.inr rfl) ⟨rfl, rfl, _, rfl, (ir_c rfl), ⟨Or.inr rfl, fun h => by omega, fun h => absurd h (by decide)⟩⟩

set_option maxHeartbeats 1000000 in
theorem t_X8_isFull_k33 {K : Kmap} {V : Vmap} {x : Nat} (h_x : K x = some (0, 33)) : MC mX8_isFull_k33 K V [.ref x] (IP K V (fun X => (X = 0 ∨ X = 1) ∧ (X ≠ 0 → vi V x 3 ≥ vi V x 1) ∧ (X = 0 → vi V x 3 < vi V x 1 ∧ vi V x 3 ≤ 11))) := by
  refine MC.start 0 (by decide +kernel) rfl rfl rfl (ls0 := [some (.ref x)]) rfl ?_
  refine GO.aload_n dX8_isFull_0 rfl rfl ?_
  refine GO.getI h_x fl_RX8_9_k33 rfl rfl dX8_isFull_1 (fun l1 u2 => ?_)
  refine GO.aload_n dX8_isFull_4 rfl rfl ?_
  refine GO.getI h_x fl_RX8_18_k33 rfl rfl dX8_isFull_5 (fun l3 u4 => ?_)
  refine GO.icmp_lt (tgt := 15) dX8_isFull_8 (by decide) vi_ir vi_ir (fun c5 => ?_) (fun c5 => ?_)
  ·
    refine GO.iconst dX8_isFull_15 ?_
    exact GO.retz rfl rfl dX8_isFull_16 (Or.inl rfl) ⟨rfl, rfl, _, rfl, (ir_c rfl), ⟨Or.inl rfl, fun h => absurd rfl h, fun h => by omega⟩⟩
  ·
    refine GO.iconst dX8_isFull_11 ?_
    refine GO.goto (tgt := 16) dX8_isFull_12 (by decide) ?_
    exact GO.retz rfl rfl dX8_isFull_16 (Or.inr rfl) ⟨rfl, rfl, _, rfl, (ir_c rfl), ⟨Or.inr rfl, fun h => by omega, fun h => absurd h (by decide)⟩⟩

set_option maxHeartbeats 1000000 in
theorem t_X8_put_k33 {K : Kmap} {V : Vmap} {x : Nat} {p0 : Int} {p1 : Int} {p2 : Int} (h_x : K x = some (0, 33)) (r_p0 : ir p0) (r_p1 : ir p1) (r_p2 : ir p2) : MC mX8_put_k33 K V [.ref x, ti p0, ti p1, ti p2] (VS K (fun V1 => (True) ∧ (TPU K V V1 x p0 p1 p2))) := by
  refine MC.start 2 (by decide +kernel) rfl rfl rfl (ls0 := [some (.ref x), some (ti p0), some (ti p1), some (ti p2), none, none]) rfl ?_
  refine GO.iload_n dX8_put_0 rfl rfl ?_
  refine GO.aload_n dX8_put_1 rfl rfl ?_
  refine GO.getI h_x fl_RX8_15_k33 rfl rfl dX8_put_2 (fun l1 u2 => ?_)
  refine GO.imul dX8_put_5 ?_
  refine GO.norm (fun z3 r4 hn5 => ?_)
  refine GO.iload_n dX8_put_6 rfl rfl ?_
  refine GO.iadd dX8_put_7 ?_
  refine GO.norm (fun z6 r7 hn8 => ?_)
  refine GO.istore (ls1 := [some (.ref x), some (ti p0), some (ti p1), some (ti p2), some (ti z6), none]) dX8_put_8 rfl rfl ?_
  refine GO.iload_n dX8_put_10 rfl rfl ?_
  refine GO.if_lt (tgt := 38) dX8_put_11 (by decide) r_p0 (fun c9 => ?_) (fun c9 => ?_)
  ·
    refine GO.iconst dX8_put_38 ?_
    refine GO.istore (ls1 := [some (.ref x), some (ti p0), some (ti p1), some (ti p2), some (ti z6), some (ti 0)]) dX8_put_39 rfl rfl ?_
    refine GO.iload dX8_put_41 rfl ?_
    refine GO.if_eq (tgt := 69) dX8_put_43 (by decide) (ir_c rfl) (fun c10 => ?_) (fun h => by exfalso; omega)
    exact GO.retv rfl rfl dX8_put_69 ⟨rfl, rfl, ⟨trivial, (by first | exact TPU.in (by assumption) (by assumption) ⟨by omega, by omega, by omega, by omega⟩ (by assumption) | exact TPU.out (by omega) | exact TPU.neg (by assumption) (by assumption) ⟨by omega, by omega, by omega, by omega⟩ (by omega) | exact TPU.bad (by assumption) (by assumption) ⟨by omega, by omega, by omega, by omega⟩ (by assumption) (by omega))⟩⟩
  ·
    refine GO.iload_n dX8_put_14 rfl rfl ?_
    refine GO.aload_n dX8_put_15 rfl rfl ?_
    refine GO.getI h_x fl_RX8_9_k33 rfl rfl dX8_put_16 (fun l11 u12 => ?_)
    refine GO.icmp_ge (tgt := 38) dX8_put_19 (by decide) r_p0 vi_ir (fun c13 => ?_) (fun c13 => ?_)
    ·
      refine GO.iconst dX8_put_38 ?_
      refine GO.istore (ls1 := [some (.ref x), some (ti p0), some (ti p1), some (ti p2), some (ti z6), some (ti 0)]) dX8_put_39 rfl rfl ?_
      refine GO.iload dX8_put_41 rfl ?_
      refine GO.if_eq (tgt := 69) dX8_put_43 (by decide) (ir_c rfl) (fun c14 => ?_) (fun h => by exfalso; omega)
      exact GO.retv rfl rfl dX8_put_69 ⟨rfl, rfl, ⟨trivial, (by first | exact TPU.in (by assumption) (by assumption) ⟨by omega, by omega, by omega, by omega⟩ (by assumption) | exact TPU.out (by omega) | exact TPU.neg (by assumption) (by assumption) ⟨by omega, by omega, by omega, by omega⟩ (by omega) | exact TPU.bad (by assumption) (by assumption) ⟨by omega, by omega, by omega, by omega⟩ (by assumption) (by omega))⟩⟩
    ·
      refine GO.iload_n dX8_put_22 rfl rfl ?_
      refine GO.if_lt (tgt := 38) dX8_put_23 (by decide) r_p1 (fun c15 => ?_) (fun c15 => ?_)
      ·
        refine GO.iconst dX8_put_38 ?_
        refine GO.istore (ls1 := [some (.ref x), some (ti p0), some (ti p1), some (ti p2), some (ti z6), some (ti 0)]) dX8_put_39 rfl rfl ?_
        refine GO.iload dX8_put_41 rfl ?_
        refine GO.if_eq (tgt := 69) dX8_put_43 (by decide) (ir_c rfl) (fun c16 => ?_) (fun h => by exfalso; omega)
        exact GO.retv rfl rfl dX8_put_69 ⟨rfl, rfl, ⟨trivial, (by first | exact TPU.in (by assumption) (by assumption) ⟨by omega, by omega, by omega, by omega⟩ (by assumption) | exact TPU.out (by omega) | exact TPU.neg (by assumption) (by assumption) ⟨by omega, by omega, by omega, by omega⟩ (by omega) | exact TPU.bad (by assumption) (by assumption) ⟨by omega, by omega, by omega, by omega⟩ (by assumption) (by omega))⟩⟩
      ·
        refine GO.iload_n dX8_put_26 rfl rfl ?_
        refine GO.aload_n dX8_put_27 rfl rfl ?_
        refine GO.getI h_x fl_RX8_15_k33 rfl rfl dX8_put_28 (fun l17 u18 => ?_)
        refine GO.icmp_ge (tgt := 38) dX8_put_31 (by decide) r_p1 vi_ir (fun c19 => ?_) (fun c19 => ?_)
        ·
          refine GO.iconst dX8_put_38 ?_
          refine GO.istore (ls1 := [some (.ref x), some (ti p0), some (ti p1), some (ti p2), some (ti z6), some (ti 0)]) dX8_put_39 rfl rfl ?_
          refine GO.iload dX8_put_41 rfl ?_
          refine GO.if_eq (tgt := 69) dX8_put_43 (by decide) (ir_c rfl) (fun c20 => ?_) (fun h => by exfalso; omega)
          exact GO.retv rfl rfl dX8_put_69 ⟨rfl, rfl, ⟨trivial, (by first | exact TPU.in (by assumption) (by assumption) ⟨by omega, by omega, by omega, by omega⟩ (by assumption) | exact TPU.out (by omega) | exact TPU.neg (by assumption) (by assumption) ⟨by omega, by omega, by omega, by omega⟩ (by omega) | exact TPU.bad (by assumption) (by assumption) ⟨by omega, by omega, by omega, by omega⟩ (by assumption) (by omega))⟩⟩
        ·
          refine GO.iconst dX8_put_34 ?_
          refine GO.goto (tgt := 39) dX8_put_35 (by decide) ?_
          refine GO.istore (ls1 := [some (.ref x), some (ti p0), some (ti p1), some (ti p2), some (ti z6), some (ti 1)]) dX8_put_39 rfl rfl ?_
          refine GO.iload dX8_put_41 rfl ?_
          refine GO.if_eq (tgt := 69) dX8_put_43 (by decide) (ir_c rfl) (fun h => by exfalso; omega) (fun c21 => ?_)
          refine GO.iload dX8_put_46 rfl ?_
          refine GO.if_lt (tgt := 69) dX8_put_48 (by decide) r7 (fun c22 => ?_) (fun c22 => ?_)
          ·
            exact GO.retv rfl rfl dX8_put_69 ⟨rfl, rfl, ⟨trivial, (by first | exact TPU.in (by assumption) (by assumption) ⟨by omega, by omega, by omega, by omega⟩ (by assumption) | exact TPU.out (by omega) | exact TPU.neg (by assumption) (by assumption) ⟨by omega, by omega, by omega, by omega⟩ (by omega) | exact TPU.bad (by assumption) (by assumption) ⟨by omega, by omega, by omega, by omega⟩ (by assumption) (by omega))⟩⟩
          ·
            refine GO.iload dX8_put_51 rfl ?_
            refine GO.aload_n dX8_put_53 rfl rfl ?_
            refine GO.getB h_x fl_RX8_27_k33 rfl rfl dX8_put_54 (fun n25 hv24 h23 b26 => ?_)
            refine GO.alen h23 dX8_put_57 (fun h27 => ?_)
            refine GO.icmp_ge (tgt := 69) dX8_put_58 (by decide) r7 ⟨by omega, by omega⟩ (fun c28 => ?_) (fun c28 => ?_)
            ·
              exact GO.retv rfl rfl dX8_put_69 ⟨rfl, rfl, ⟨trivial, (by first | exact TPU.in (by assumption) (by assumption) ⟨by omega, by omega, by omega, by omega⟩ (by assumption) | exact TPU.out (by omega) | exact TPU.neg (by assumption) (by assumption) ⟨by omega, by omega, by omega, by omega⟩ (by omega) | exact TPU.bad (by assumption) (by assumption) ⟨by omega, by omega, by omega, by omega⟩ (by assumption) (by omega))⟩⟩
            ·
              refine GO.aload_n dX8_put_61 rfl rfl ?_
              refine GO.getRaw h_x fl_RX8_27_k33 hv24 dX8_put_62 ?_
              refine GO.iload dX8_put_65 rfl ?_
              refine GO.iload_n dX8_put_67 rfl rfl ?_
              have q31 : -2147483648 ≤ z6 ∧ z6 ≤ 2147483647 := r7
              refine GO.iast (t := 155) rfl rfl (by decide +kernel) h23 r7 (by omega) (by omega) r_p2 (r_p2).1 (r_p2).2 dX8_put_68 (fun V33 e32 => ?_)
              exact GO.retv rfl rfl dX8_put_69 ⟨rfl, rfl, ⟨trivial, (by first | exact TPU.in (by assumption) (by assumption) ⟨by omega, by omega, by omega, by omega⟩ (by assumption) | exact TPU.out (by omega) | exact TPU.neg (by assumption) (by assumption) ⟨by omega, by omega, by omega, by omega⟩ (by omega) | exact TPU.bad (by assumption) (by assumption) ⟨by omega, by omega, by omega, by omega⟩ (by assumption) (by omega))⟩⟩

set_option maxHeartbeats 1000000 in
theorem t_X8_append_k33 {K : Kmap} {V : Vmap} {x : Nat} {p0 : Int} {p1 : Int} {p2 : Int} {p3 : Int} {p4 : Int} (h_x : K x = some (0, 33)) (r_p0 : ir p0) (r_p1 : ir p1) (r_p2 : ir p2) (r_p3 : ir p3) (r_p4 : ir p4) : MC mX8_append_k33 K V [.ref x, ti p0, ti p1, ti p2, ti p3, ti p4] (IS K (fun X V1 => (X ≥ (-2147483648) ∧ X ≤ 2147483647) ∧ (APP K V V1 x p0 p1 p2 p3 p4 X))) := by
  refine MC.start 1 (by decide +kernel) rfl rfl rfl (ls0 := [some (.ref x), some (ti p0), some (ti p1), some (ti p2), some (ti p3), some (ti p4), none]) rfl ?_
  refine GO.aload_n dX8_append_0 rfl rfl ?_
  refine GO.callV (ci := 33) (N := mX8_isFull_k33) dX8_append_1 (RX8, TX8, 4) rfl gV_RX8_31 h_x (t_X8_isFull_k33 h_x) rfl [] rfl rfl (Nat.le_of_ble_eq_true rfl) rfl (k_ip fun X1 r2 h3 => ?_)
  refine GO.if_eq (tgt := 9) dX8_append_4 (by decide) r2 (fun c4 => ?_) (fun c4 => ?_)
  ·
    have q5 := h3.2.2 (by omega)
    refine GO.aload_n dX8_append_9 rfl rfl ?_
    refine GO.getI h_x fl_RX8_9_k33 rfl rfl dX8_append_10 (fun l6 u7 => ?_)
    refine GO.name (fun z8 hz9 => ?_)
    have r10 : ir z8 := hz9 ▸ vi_ir
    refine GO.istore (ls1 := [some (.ref x), some (ti p0), some (ti p1), some (ti p2), some (ti p3), some (ti p4), some (ti z8)]) dX8_append_13 rfl rfl ?_
    refine GO.aload_n dX8_append_15 rfl rfl ?_
    refine GO.dup dX8_append_16 rfl ?_
    refine GO.getI h_x fl_RX8_9_k33 rfl rfl dX8_append_17 (fun l11 u12 => ?_)
    refine GO.iconst dX8_append_20 ?_
    refine GO.iadd dX8_append_21 ?_
    have q14 : -2147483648 ≤ vi V x 3 ∧ vi V x 3 ≤ 2147483647 := vi_ir
    have q15 : -2147483648 ≤ z8 ∧ z8 ≤ 2147483647 := r10
    have q16 : -2147483648 ≤ vi V x 1 ∧ vi V x 1 ≤ 2147483647 := vi_ir
    refine GO.putI h_x fp_RX8_9_k33 rfl (by decide +kernel) ⟨by omega, by omega⟩ (by omega) (by omega) dX8_append_22 (fun V17 e13 => ?_)
    refine GO.aload_n dX8_append_25 rfl rfl ?_
    refine GO.iload dX8_append_26 rfl ?_
    refine GO.iconst dX8_append_28 ?_
    refine GO.iload_n dX8_append_29 rfl rfl ?_
    refine GO.callV (ci := 33) (N := mX8_put_k33) dX8_append_30 (RX8, TX8, 4) rfl gV_RX8_35 h_x (t_X8_put_k33 h_x r10 (ir_c rfl) r_p0) rfl [] rfl rfl (Nat.le_of_ble_eq_true rfl) rfl (k_vs fun V20 h19 hF18 => ?_)
    have raw_put := h19.2
    have rw30 := h19.2
    refine GO.aload_n dX8_append_33 rfl rfl ?_
    refine GO.iload dX8_append_34 rfl ?_
    refine GO.iconst dX8_append_36 ?_
    refine GO.iload_n dX8_append_37 rfl rfl ?_
    refine GO.callV (ci := 33) (N := mX8_put_k33) dX8_append_38 (RX8, TX8, 4) rfl gV_RX8_35 h_x (t_X8_put_k33 h_x r10 (ir_c rfl) r_p1) rfl [] rfl rfl (Nat.le_of_ble_eq_true rfl) rfl (k_vs fun V23 h22 hF21 => ?_)
    have raw_put := h22.2
    have rw38 := h22.2
    refine GO.aload_n dX8_append_41 rfl rfl ?_
    refine GO.iload dX8_append_42 rfl ?_
    refine GO.iconst dX8_append_44 ?_
    refine GO.iload_n dX8_append_45 rfl rfl ?_
    refine GO.callV (ci := 33) (N := mX8_put_k33) dX8_append_46 (RX8, TX8, 4) rfl gV_RX8_35 h_x (t_X8_put_k33 h_x r10 (ir_c rfl) r_p2) rfl [] rfl rfl (Nat.le_of_ble_eq_true rfl) rfl (k_vs fun V26 h25 hF24 => ?_)
    have raw_put := h25.2
    have rw46 := h25.2
    refine GO.aload_n dX8_append_49 rfl rfl ?_
    refine GO.iload dX8_append_50 rfl ?_
    refine GO.iconst dX8_append_52 ?_
    refine GO.iload dX8_append_53 rfl ?_
    refine GO.callV (ci := 33) (N := mX8_put_k33) dX8_append_55 (RX8, TX8, 4) rfl gV_RX8_35 h_x (t_X8_put_k33 h_x r10 (ir_c rfl) r_p3) rfl [] rfl rfl (Nat.le_of_ble_eq_true rfl) rfl (k_vs fun V29 h28 hF27 => ?_)
    have raw_put := h28.2
    have rw55 := h28.2
    refine GO.aload_n dX8_append_58 rfl rfl ?_
    refine GO.iload dX8_append_59 rfl ?_
    refine GO.iconst dX8_append_61 ?_
    refine GO.iload dX8_append_62 rfl ?_
    refine GO.callV (ci := 33) (N := mX8_put_k33) dX8_append_64 (RX8, TX8, 4) rfl gV_RX8_35 h_x (t_X8_put_k33 h_x r10 (ir_c rfl) r_p4) rfl [] rfl rfl (Nat.le_of_ble_eq_true rfl) rfl (k_vs fun V32 h31 hF30 => ?_)
    have raw_put := h31.2
    have rw64 := h31.2
    refine GO.iload dX8_append_67 rfl ?_
    exact GO.reti rfl rfl dX8_append_69 ⟨rfl, _, rfl, r10, ⟨(by first | exact trivial | omega), (by first | exact APP.no (by omega) rfl | exact APP.yes h_x (by omega) (by omega) (by assumption) rfl ⟨by omega, by omega⟩ rw30 rw38 rw46 rw55 rw64)⟩⟩
  ·
    have q33 := h3.2.1 (by omega)
    refine GO.iconst dX8_append_7 ?_
    exact GO.reti rfl rfl dX8_append_8 ⟨rfl, _, rfl, (ir_c rfl), ⟨(by first | exact trivial | omega), (by first | exact APP.no (by omega) rfl)⟩⟩
