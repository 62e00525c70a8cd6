def mX5_writeText : MRec := (RX5, cX5_writeText, 2, (none : Option Jvm.ClassFile.FieldType), yX5_writeText, 35, 835, 0, 0, 2508228255056559327717299405517639477515382672702395372151508761915556027554247102225625402190692008089749696865421322977703054109852485596376082301365031896428200604842813990547687308375642969839908159488)
def mX5_writeReading : MRec := (RX5, cX5_writeReading, 1, (none : Option Jvm.ClassFile.FieldType), yX5_writeReading, 34, 814, 0, 0, 2508228255056559327717299405517639477515382672702395372151508761915556027554247102225625402190692008089749696865421322977703054109852485596376082301365031896428200604842813990547687308375642969839908159488)
def mX6_forget : MRec := (RX6, cX6_forget, 1, (none : Option Jvm.ClassFile.FieldType), yX6_forget, 0, 0, 0, 0, 4611686018427387904)
def mX8_get_k24 : MRec := (RX8, cX8_get, 5, (some .int), yX8_get, 0, 0, 0, 0, 0)
def mX6_hasStation : MRec := (RX6, cX6_hasStation, 3, (some .boolean), yX6_hasStation, 1, 24, 0, 0, 0)
def mX6_needs : MRec := (RX6, cX6_needs, 3, (some .int), yX6_needs, 1, 24, 0, 0, 0)
def mX6_leastAhead : MRec := (RX6, cX6_leastAhead, 6, (some .int), yX6_leastAhead, 1, 21, 0, 0, 0)
def mX4_put_t142 : MRec := (RX4, cX4_put, 3, (none : Option Jvm.ClassFile.FieldType), yX4_put, 0, 0, 0, 0, 21153791001287955166461289857048673274508949854856999017108761448780985319561963066406054734070889115122918784800747465736192)
def mX6_lookAhead : MRec := (RX6, cX6_lookAhead, 3, (none : Option Jvm.ClassFile.FieldType), yX6_lookAhead, 2, 46, 0, 0, 21153791001287955166461289857048673274508949854856999017108761448780985319561963066406054734070889115122918784800747465736192)
def mX4_put_t140 : MRec := (RX4, cX4_put, 3, (none : Option Jvm.ClassFile.FieldType), yX4_put, 0, 0, 0, 0, 5288447750321988791615322464262168318627237463714249754277190362195246329890490766601513683517722278780729696200186866434048)
def mX6_comes : MRec := (RX6, cX6_comes, 10, (some .boolean), yX6_comes, 1, 22, 0, 0, 5288447750321988791615322464262168318627237463714249754277190362195246329890490766601513683517722278780729696200186866434048)
def mX4_put_t143 : MRec := (RX4, cX4_put, 3, (none : Option Jvm.ClassFile.FieldType), yX4_put, 0, 0, 0, 0, 42307582002575910332922579714097346549017899709713998034217522897561970639123926132812109468141778230245837569601494931472384)
def mX6_keep : MRec := (RX6, cX6_keep, 3, (none : Option Jvm.ClassFile.FieldType), yX6_keep, 1, 22, 0, 0, 42307582002575910332922579714097346549017899709713998034217522897561970639123926132812109468141778230245846792973531786248192)
set_option maxHeartbeats 1000000 in
theorem t_X5_writeText {K : Kmap} {V : Vmap} {x : Nat} (h_x : K x = some (0, 4)) (q_0 : vi V x 4 = 0) : MC mX5_writeText K V [.ref x] (VS K (fun V1 => (True) ∧ (TXR K V V1 x))) := by
  refine MC.start 1 (by decide +kernel) rfl rfl rfl (ls0 := [some (.ref x), none]) rfl ?_
  refine GO.useWT (fun hW_0 => ?_)
  refine GO.iconst dX5_writeText_0 ?_
  refine GO.istore_n (ls1 := [some (.ref x), some (ti 0)]) dX5_writeText_1 rfl rfl rfl ?_
  have q2 : -2147483648 ≤ vi V x 4 ∧ vi V x 4 ≤ 2147483647 := vi_ir
  refine GO.loop1 (fun i1 W => 0 ≤ i1 ∧ i1 ≤ 13 ∧ (vi W x 4 = 0) ∧ (TXI K V W x i1) ∧ True) (fun i1 => [some (.ref x), some (ti i1)]) (fun i1 W => (2147483647 - i1).toNat) 0 ⟨by omega, by omega, by omega, (by first | exact TXI.nil), trivial⟩ rfl (fun i1 Wi1 hp157 ih156 => ?_)
  obtain ⟨l_i1, u_i1, n_i1, htx, -⟩ := hp157
  have r_i1 : ir i1 := ⟨by omega, by omega⟩
  show GO mX5_writeText K V (VS K (fun V1 => (True) ∧ (TXR K V V1 x))) K Wi1 0 0 2 [some (.ref x), some (ti i1)] []
  refine GO.iload_n dX5_writeText_2 rfl rfl ?_
  refine GO.bipush dX5_writeText_3 rfl ?_
  refine GO.icmp_gt (tgt := 50) dX5_writeText_5 (by decide) r_i1 (ir_c rfl) (fun c158 => ?_) (fun c158 => ?_)
  ·
    exact GO.retv rfl rfl dX5_writeText_50 ⟨rfl, rfl, ⟨trivial, (by first | exact TXI.end htx (by omega))⟩⟩
  ·
    refine GO.aload_n dX5_writeText_8 rfl rfl ?_
    refine GO.getI h_x fl_RX5_18 rfl rfl dX5_writeText_9 (fun _ _ => ?_)
    refine GO.if_ne (tgt := 50) dX5_writeText_12 (by decide) vi_ir (fun c159 => ?_) (fun c159 => ?_)
    ·
      exact GO.retv rfl rfl dX5_writeText_50 ⟨rfl, rfl, ⟨trivial, (by first | exact TXI.end htx (by omega))⟩⟩
    ·
      refine GO.aload_n dX5_writeText_15 rfl rfl ?_
      have q160 : -2147483648 ≤ vi Wi1 x 4 ∧ vi Wi1 x 4 ≤ 2147483647 := vi_ir
      have q161 : -2147483648 ≤ vi Wi1 x 5 ∧ vi Wi1 x 5 ≤ 2147483647 := vi_ir
      refine GO.callV (ci := 4) (N := mX5_clause) dX5_writeText_16 (RX5, TX5, 7) rfl gV_RX5_35 h_x (t_X5_clause h_x (by omega) (by omega)) rfl [] rfl rfl (Nat.le_of_ble_eq_true rfl) rfl (k_vs fun V164 h163 hF162 => ?_)
      have raw_clause := h163.2
      have rw16 := h163.2
      refine GO.aload_n dX5_writeText_19 rfl rfl ?_
      refine GO.getI h_x fl_RX5_18 rfl rfl dX5_writeText_20 (fun _ _ => ?_)
      refine GO.if_ne (tgt := 37) dX5_writeText_23 (by decide) vi_ir (fun c167 => ?_) (fun c167 => ?_)
      ·
        exact GO.retv rfl rfl dX5_writeText_37 ⟨rfl, rfl, ⟨trivial, (by first | exact TXI.ret htx (by omega) rw16 (by omega) | exact TXI.end htx (by omega))⟩⟩
      ·
        refine GO.aload_n dX5_writeText_26 rfl rfl ?_
        refine GO.getI h_x fl_RX5_9 rfl rfl dX5_writeText_27 (fun _ _ => ?_)
        refine GO.aload_n dX5_writeText_30 rfl rfl ?_
        refine GO.getI h_x fl_RX5_28 rfl rfl dX5_writeText_31 (fun _ _ => ?_)
        refine GO.icmp_lt (tgt := 38) dX5_writeText_34 (by decide) vi_ir vi_ir (fun c170 => ?_) (fun c170 => ?_)
        ·
          refine GO.useWT (fun hWc => ?_)
          refine GO.aload_n dX5_writeText_38 rfl rfl ?_
          refine GO.bipush dX5_writeText_39 rfl ?_
          refine GO.callV (ci := 4) (N := mX5_take) dX5_writeText_41 (RX5, TX5, 7) rfl gV_RX5_38 h_x (t_X5_take h_x (ir_c rfl) (by omega)) rfl [] rfl rfl (Nat.le_of_ble_eq_true rfl) rfl (k_vs fun V173 h172 hF171 => ?_)
          have raw_take := h172.2
          have rw41 := h172.2
          refine GO.iinc (X := i1) (n := 1) (Y := i1 + 1) (ls1 := [some (.ref x), some (ti (i1 + 1))]) dX5_writeText_44 rfl rfl rfl rfl ?_
          refine GO.goto (tgt := 2) dX5_writeText_47 (by decide) ?_
          have e175 : vi V173 x 4 = vi V164 x 4 := vi_fr hF171 h_x h_x (by decide +kernel)
          have q176 : -2147483648 ≤ vi V164 x 4 ∧ vi V164 x 4 ≤ 2147483647 := vi_ir
          exact ih156 (i1 + 1) V173 ⟨by omega, by omega, by omega, (by first | exact TXI.nil | exact TXI.step htx (by omega) rw16 (by omega) (by omega) rw41 (CSame.fr (by assumption) h_x hWc (by decide +kernel))), trivial⟩ (by show (2147483647 - (i1 + 1)).toNat < (2147483647 - i1).toNat; omega)
        ·
          exact GO.retv rfl rfl dX5_writeText_37 ⟨rfl, rfl, ⟨trivial, (by first | exact TXI.ret htx (by omega) rw16 (by omega) | exact TXI.end htx (by omega))⟩⟩

set_option maxHeartbeats 1000000 in
theorem t_X5_writeReading {K : Kmap} {V : Vmap} {x : Nat} (h_x : K x = some (0, 4)) (q_0 : vi V x 4 = 0) : MC mX5_writeReading K V [.ref x] (VS K (fun V1 => (True) ∧ (RDR K V V1 x))) := by
  refine MC.start 0 (by decide +kernel) rfl rfl rfl (ls0 := [some (.ref x)]) rfl ?_
  refine GO.useWT (fun hW_0 => ?_)
  refine GO.aload_n dX5_writeReading_0 rfl rfl ?_
  refine GO.getR h_x fl_RX5_31 rfl rfl dX5_writeReading_1 (fun hv2 h1 => ?_)
  refine GO.getR h1 fl_RX5_42 rfl rfl dX5_writeReading_4 (fun hv4 h3 => ?_)
  refine GO.bipush dX5_writeReading_7 rfl ?_
  refine GO.iconst dX5_writeReading_9 ?_
  refine GO.iconst dX5_writeReading_10 ?_
  refine GO.iconst dX5_writeReading_11 ?_
  refine GO.iconst dX5_writeReading_12 ?_
  refine GO.callV (ci := 33) (N := mX8_append_k33) dX5_writeReading_13 (RX8, TX8, 4) rfl gV_RX5_48 h3 (t_X8_append_k33 h3 (ir_c rfl) (ir_c rfl) (ir_c rfl) (ir_c rfl) (ir_c rfl)) rfl [] rfl rfl (Nat.le_of_ble_eq_true rfl) rfl (k_is fun X5 V9 r6 h7 hF8 => ?_)
  have raw_append := h7.2
  have rw13 := h7.2
  refine GO.pop dX5_writeReading_16 rfl ?_
  refine GO.aload_n dX5_writeReading_17 rfl rfl ?_
  have e10 : vi V9 x 4 = vi V x 4 := vi_fr hF8 h_x h_x (by decide +kernel)
  have q11 : -2147483648 ≤ vi V x 4 ∧ vi V x 4 ≤ 2147483647 := vi_ir
  refine GO.callV (ci := 4) (N := mX5_condition) dX5_writeReading_18 (RX5, TX5, 7) rfl gV_RX5_54 h_x (t_X5_condition h_x (by omega)) rfl [] rfl rfl (Nat.le_of_ble_eq_true rfl) rfl (k_vs fun V14 h13 hF12 => ?_)
  have raw_condition := h13.2
  have rw18 := h13.2
  refine GO.useWT (fun hW2 => ?_)
  refine GO.aload_n dX5_writeReading_21 rfl rfl ?_
  refine GO.getI h_x fl_RX5_9 rfl rfl dX5_writeReading_22 (fun _ _ => ?_)
  refine GO.aload_n dX5_writeReading_25 rfl rfl ?_
  refine GO.getI h_x fl_RX5_28 rfl rfl dX5_writeReading_26 (fun _ _ => ?_)
  refine GO.icmp_ge (tgt := 41) dX5_writeReading_29 (by decide) vi_ir vi_ir (fun c19 => ?_) (fun c19 => ?_)
  ·
    exact GO.retv rfl rfl dX5_writeReading_41 ⟨rfl, rfl, ⟨trivial, (by first | exact RDR.mk rw13 (ir_c rfl) h_x hW_0 (by assumption) (by decide +kernel) rw18 (Or.inl ⟨by omega, rfl⟩))⟩⟩
  ·
    refine GO.aload_n dX5_writeReading_32 rfl rfl ?_
    refine GO.iconst dX5_writeReading_33 ?_
    refine GO.aload_n dX5_writeReading_34 rfl rfl ?_
    refine GO.getI h_x fl_RX5_9 rfl rfl dX5_writeReading_35 (fun _ _ => ?_)
    refine GO.callV (ci := 4) (N := mX5_refuse) dX5_writeReading_38 (RX5, TX5, 7) rfl gV_RX5_57 h_x (t_X5_refuse h_x (ir_c rfl) vi_ir (by omega)) rfl [] rfl rfl (Nat.le_of_ble_eq_true rfl) rfl (k_vs fun V22 h21 hF20 => ?_)
    have raw_refuse := h21.2
    have rw38 := h21.2
    exact GO.retv rfl rfl dX5_writeReading_41 ⟨rfl, rfl, ⟨trivial, (by first | exact RDR.mk rw13 (ir_c rfl) h_x hW_0 (by assumption) (by decide +kernel) rw18 (Or.inl ⟨by omega, rfl⟩) | exact RDR.mk rw13 (ir_c rfl) h_x hW_0 (by assumption) (by decide +kernel) rw18 (Or.inr ⟨by omega, hW2, _, vi_ir, rfl, rw38⟩))⟩⟩

set_option maxHeartbeats 1000000 in
theorem t_X6_forget {K : Kmap} {V : Vmap} {x : Nat} (h_x : K x = some (0, 5)) : MC mX6_forget K V [.ref x] (VS K (fun V1 => (True))) := by
  refine MC.start 0 (by decide +kernel) rfl rfl rfl (ls0 := [some (.ref x)]) rfl ?_
  refine GO.aload_n dX6_forget_0 rfl rfl ?_
  refine GO.iconst dX6_forget_1 ?_
  refine GO.putI h_x fp_RX6_42 rfl (by decide +kernel) (ir_c rfl) (by decide) (by decide) dX6_forget_2 (fun V2 e1 => ?_)
  exact GO.retv rfl rfl dX6_forget_5 ⟨rfl, rfl, trivial⟩

set_option maxHeartbeats 1000000 in
theorem t_X8_get_k24 {K : Kmap} {V : Vmap} {x : Nat} {p0 : Int} {p1 : Int} (h_x : K x = some (0, 24)) (r_p0 : ir p0) (r_p1 : ir p1) : MC mX8_get_k24 K V [.ref x, ti p0, ti p1] (IP K V (fun X => (X ≥ (-2147483648) ∧ X ≤ 2147483647) ∧ (TG K V x p0 p1 X))) := by
  refine MC.start 2 (by decide +kernel) rfl rfl rfl (ls0 := [some (.ref x), some (ti p0), some (ti p1), none, none]) rfl ?_
  refine GO.iload_n dX8_get_0 rfl rfl ?_
  refine GO.aload_n dX8_get_1 rfl rfl ?_
  refine GO.getI h_x fl_RX8_15_k24 rfl rfl dX8_get_2 (fun l1 u2 => ?_)
  refine GO.imul dX8_get_5 ?_
  refine GO.norm (fun z3 r4 hn5 => ?_)
  refine GO.iload_n dX8_get_6 rfl rfl ?_
  refine GO.iadd dX8_get_7 ?_
  refine GO.norm (fun z6 r7 hn8 => ?_)
  refine GO.istore_n (ls1 := [some (.ref x), some (ti p0), some (ti p1), some (ti z6), none]) dX8_get_8 rfl rfl rfl ?_
  refine GO.iload_n dX8_get_9 rfl rfl ?_
  refine GO.if_lt (tgt := 37) dX8_get_10 (by decide) r_p0 (fun c9 => ?_) (fun c9 => ?_)
  ·
    refine GO.iconst dX8_get_37 ?_
    refine GO.istore (ls1 := [some (.ref x), some (ti p0), some (ti p1), some (ti z6), some (ti 0)]) dX8_get_38 rfl rfl ?_
    refine GO.iload dX8_get_40 rfl ?_
    refine GO.if_eq (tgt := 67) dX8_get_42 (by decide) (ir_c rfl) (fun c10 => ?_) (fun h => by exfalso; omega)
    refine GO.iconst dX8_get_67 ?_
    exact GO.reti rfl rfl dX8_get_68 ⟨rfl, rfl, _, rfl, (ir_c rfl), ⟨(by first | exact trivial | omega), (by first | exact TG.in (by assumption) (by assumption) ⟨by omega, by omega, by omega, by omega⟩ | exact TG.out (by omega) rfl | exact TG.neg (by assumption) (by assumption) ⟨by omega, by omega, by omega, by omega⟩ (by omega) | exact TG.bad (by assumption) (by assumption) ⟨by omega, by omega, by omega, by omega⟩ (by assumption) (by omega))⟩⟩
  ·
    refine GO.iload_n dX8_get_13 rfl rfl ?_
    refine GO.aload_n dX8_get_14 rfl rfl ?_
    refine GO.getI h_x fl_RX8_9_k24 rfl rfl dX8_get_15 (fun l11 u12 => ?_)
    refine GO.icmp_ge (tgt := 37) dX8_get_18 (by decide) r_p0 vi_ir (fun c13 => ?_) (fun c13 => ?_)
    ·
      refine GO.iconst dX8_get_37 ?_
      refine GO.istore (ls1 := [some (.ref x), some (ti p0), some (ti p1), some (ti z6), some (ti 0)]) dX8_get_38 rfl rfl ?_
      refine GO.iload dX8_get_40 rfl ?_
      refine GO.if_eq (tgt := 67) dX8_get_42 (by decide) (ir_c rfl) (fun c14 => ?_) (fun h => by exfalso; omega)
      refine GO.iconst dX8_get_67 ?_
      exact GO.reti rfl rfl dX8_get_68 ⟨rfl, rfl, _, rfl, (ir_c rfl), ⟨(by first | exact trivial | omega), (by first | exact TG.in (by assumption) (by assumption) ⟨by omega, by omega, by omega, by omega⟩ | exact TG.out (by omega) rfl | exact TG.neg (by assumption) (by assumption) ⟨by omega, by omega, by omega, by omega⟩ (by omega) | exact TG.bad (by assumption) (by assumption) ⟨by omega, by omega, by omega, by omega⟩ (by assumption) (by omega))⟩⟩
    ·
      refine GO.iload_n dX8_get_21 rfl rfl ?_
      refine GO.if_lt (tgt := 37) dX8_get_22 (by decide) r_p1 (fun c15 => ?_) (fun c15 => ?_)
      ·
        refine GO.iconst dX8_get_37 ?_
        refine GO.istore (ls1 := [some (.ref x), some (ti p0), some (ti p1), some (ti z6), some (ti 0)]) dX8_get_38 rfl rfl ?_
        refine GO.iload dX8_get_40 rfl ?_
        refine GO.if_eq (tgt := 67) dX8_get_42 (by decide) (ir_c rfl) (fun c16 => ?_) (fun h => by exfalso; omega)
        refine GO.iconst dX8_get_67 ?_
        exact GO.reti rfl rfl dX8_get_68 ⟨rfl, rfl, _, rfl, (ir_c rfl), ⟨(by first | exact trivial | omega), (by first | exact TG.in (by assumption) (by assumption) ⟨by omega, by omega, by omega, by omega⟩ | exact TG.out (by omega) rfl | exact TG.neg (by assumption) (by assumption) ⟨by omega, by omega, by omega, by omega⟩ (by omega) | exact TG.bad (by assumption) (by assumption) ⟨by omega, by omega, by omega, by omega⟩ (by assumption) (by omega))⟩⟩
      ·
        refine GO.iload_n dX8_get_25 rfl rfl ?_
        refine GO.aload_n dX8_get_26 rfl rfl ?_
        refine GO.getI h_x fl_RX8_15_k24 rfl rfl dX8_get_27 (fun l17 u18 => ?_)
        refine GO.icmp_ge (tgt := 37) dX8_get_30 (by decide) r_p1 vi_ir (fun c19 => ?_) (fun c19 => ?_)
        ·
          refine GO.iconst dX8_get_37 ?_
          refine GO.istore (ls1 := [some (.ref x), some (ti p0), some (ti p1), some (ti z6), some (ti 0)]) dX8_get_38 rfl rfl ?_
          refine GO.iload dX8_get_40 rfl ?_
          refine GO.if_eq (tgt := 67) dX8_get_42 (by decide) (ir_c rfl) (fun c20 => ?_) (fun h => by exfalso; omega)
          refine GO.iconst dX8_get_67 ?_
          exact GO.reti rfl rfl dX8_get_68 ⟨rfl, rfl, _, rfl, (ir_c rfl), ⟨(by first | exact trivial | omega), (by first | exact TG.in (by assumption) (by assumption) ⟨by omega, by omega, by omega, by omega⟩ | exact TG.out (by omega) rfl | exact TG.neg (by assumption) (by assumption) ⟨by omega, by omega, by omega, by omega⟩ (by omega) | exact TG.bad (by assumption) (by assumption) ⟨by omega, by omega, by omega, by omega⟩ (by assumption) (by omega))⟩⟩
        ·
          refine GO.iconst dX8_get_33 ?_
          refine GO.goto (tgt := 38) dX8_get_34 (by decide) ?_
          refine GO.istore (ls1 := [some (.ref x), some (ti p0), some (ti p1), some (ti z6), some (ti 1)]) dX8_get_38 rfl rfl ?_
          refine GO.iload dX8_get_40 rfl ?_
          refine GO.if_eq (tgt := 67) dX8_get_42 (by decide) (ir_c rfl) (fun h => by exfalso; omega) (fun c21 => ?_)
          refine GO.iload_n dX8_get_45 rfl rfl ?_
          refine GO.if_lt (tgt := 67) dX8_get_46 (by decide) r7 (fun c22 => ?_) (fun c22 => ?_)
          ·
            refine GO.iconst dX8_get_67 ?_
            exact GO.reti rfl rfl dX8_get_68 ⟨rfl, rfl, _, rfl, (ir_c rfl), ⟨(by first | exact trivial | omega), (by first | exact TG.in (by assumption) (by assumption) ⟨by omega, by omega, by omega, by omega⟩ | exact TG.out (by omega) rfl | exact TG.neg (by assumption) (by assumption) ⟨by omega, by omega, by omega, by omega⟩ (by omega) | exact TG.bad (by assumption) (by assumption) ⟨by omega, by omega, by omega, by omega⟩ (by assumption) (by omega))⟩⟩
          ·
            refine GO.iload_n dX8_get_49 rfl rfl ?_
            refine GO.aload_n dX8_get_50 rfl rfl ?_
            refine GO.getA (n := 16) h_x fl_RX8_27_k24 rfl rfl rfl rfl dX8_get_51 (fun hv24 h23 => ?_)
            refine GO.alen h23 dX8_get_54 (fun h25 => ?_)
            refine GO.icmp_ge (tgt := 67) dX8_get_55 (by decide) r7 ⟨by omega, by omega⟩ (fun c26 => ?_) (fun c26 => ?_)
            ·
              refine GO.iconst dX8_get_67 ?_
              exact GO.reti rfl rfl dX8_get_68 ⟨rfl, rfl, _, rfl, (ir_c rfl), ⟨(by first | exact trivial | omega), (by first | exact TG.in (by assumption) (by assumption) ⟨by omega, by omega, by omega, by omega⟩ | exact TG.out (by omega) rfl | exact TG.neg (by assumption) (by assumption) ⟨by omega, by omega, by omega, by omega⟩ (by omega) | exact TG.bad (by assumption) (by assumption) ⟨by omega, by omega, by omega, by omega⟩ (by assumption) (by omega))⟩⟩
            ·
              refine GO.aload_n dX8_get_58 rfl rfl ?_
              refine GO.getRaw h_x fl_RX8_27_k24 hv24 dX8_get_59 ?_
              refine GO.iload_n dX8_get_62 rfl rfl ?_
              have q29 : -2147483648 ≤ z6 ∧ z6 ≤ 2147483647 := r7
              refine GO.iald (t := 146) rfl rfl h23 r7 (by omega) (by omega) dX8_get_63 (fun _ _ => ?_)
              refine GO.goto (tgt := 68) dX8_get_64 (by decide) ?_
              have q30 : -2147483648 ≤ vi V (vq V x 2) (z6).toNat ∧ vi V (vq V x 2) (z6).toNat ≤ 2147483647 := vi_ir
              exact GO.reti rfl rfl dX8_get_68 ⟨rfl, rfl, _, rfl, vi_ir, ⟨(by first | exact trivial | omega), (by first | exact TG.in (by assumption) (by assumption) ⟨by omega, by omega, by omega, by omega⟩ | exact TG.out (by omega) rfl | exact TG.neg (by assumption) (by assumption) ⟨by omega, by omega, by omega, by omega⟩ (by omega) | exact TG.bad (by assumption) (by assumption) ⟨by omega, by omega, by omega, by omega⟩ (by assumption) (by omega))⟩⟩

set_option maxHeartbeats 1000000 in
theorem t_X6_hasStation {K : Kmap} {V : Vmap} {x : Nat} {p0 : Int} (h_x : K x = some (0, 5)) (r_p0 : ir p0) : MC mX6_hasStation K V [.ref x, ti p0] (IP K V (fun X => (X = 0 ∨ X = 1) ∧ (X ≠ 0 → True) ∧ (X = 0 → True) ∧ (X ≠ 0 ↔ HST V x p0))) := by
  refine MC.start 1 (by decide +kernel) rfl rfl rfl (ls0 := [some (.ref x), some (ti p0), none]) rfl ?_
  refine GO.iconst dX6_hasStation_0 ?_
  refine GO.istore_n (ls1 := [some (.ref x), some (ti p0), some (ti 0)]) dX6_hasStation_1 rfl rfl rfl ?_
  refine GO.loop1 (fun i1 W => 0 ≤ i1 ∧ i1 ≤ 8 ∧ (i1 ≥ 0) ∧ (HSL W x p0 i1) ∧ V = W) (fun i1 => [some (.ref x), some (ti p0), some (ti i1)]) (fun i1 W => (2147483647 - i1).toNat) 0 ⟨by omega, by omega, by omega, (by first | exact HSL.beg), rfl⟩ rfl (fun i1 V57 hp59 ih58 => ?_)
  obtain ⟨l_i1, u_i1, n_i1, hhs, rfl⟩ := hp59
  have r_i1 : ir i1 := ⟨by omega, by omega⟩
  show GO mX6_hasStation K V (IP K V (fun X => (X = 0 ∨ X = 1) ∧ (X ≠ 0 → True) ∧ (X = 0 → True) ∧ (X ≠ 0 ↔ HST V x p0))) K V 0 0 2 [some (.ref x), some (ti p0), some (ti i1)] []
  refine GO.useWT (fun hWh => ?_)
  refine GO.iload_n dX6_hasStation_2 rfl rfl ?_
  refine GO.aload_n dX6_hasStation_3 rfl rfl ?_
  refine GO.getR h_x fl_RX6_14 rfl rfl dX6_hasStation_4 (fun hv61 h60 => ?_)
  refine GO.getI h60 fl_RX6_55_k24 rfl rfl dX6_hasStation_7 (fun l62 u63 => ?_)
  refine GO.icmp_ge (tgt := 34) dX6_hasStation_10 (by decide) r_i1 vi_ir (fun c64 => ?_) (fun c64 => ?_)
  ·
    refine GO.iconst dX6_hasStation_34 ?_
    exact GO.retz rfl rfl dX6_hasStation_35 (Or.inl rfl) ⟨rfl, rfl, _, rfl, (ir_c rfl), ⟨Or.inl rfl, fun _ => trivial, fun _ => trivial, (by first | exact HST.no hhs (by omega) rfl)⟩⟩
  ·
    refine GO.aload_n dX6_hasStation_13 rfl rfl ?_
    refine GO.getRaw h_x fl_RX6_14 hv61 dX6_hasStation_14 ?_
    refine GO.iload_n dX6_hasStation_17 rfl rfl ?_
    refine GO.iconst dX6_hasStation_18 ?_
    refine GO.callV (ci := 24) (N := mX8_get_k24) dX6_hasStation_19 (RX8, TX8, 4) rfl gV_RX6_58 h60 (t_X8_get_k24 h60 r_i1 (ir_c rfl)) rfl [] rfl rfl (Nat.le_of_ble_eq_true rfl) rfl (k_ip fun X67 r68 h69 => ?_)
    have raw_get := h69.2
    have rw19 := h69.2
    refine GO.iload_n dX6_hasStation_22 rfl rfl ?_
    refine GO.icmp_ne (tgt := 28) dX6_hasStation_23 (by decide) r68 r_p0 (fun c70 => ?_) (fun c70 => ?_)
    ·
      refine GO.iinc (X := i1) (n := 1) (Y := i1 + 1) (ls1 := [some (.ref x), some (ti p0), some (ti (i1 + 1))]) dX6_hasStation_28 rfl rfl rfl rfl ?_
      refine GO.goto (tgt := 2) dX6_hasStation_31 (by decide) ?_
      exact ih58 (i1 + 1) V ⟨by omega, by omega, by omega, (by first | exact HSL.beg | exact HSL.step hhs hWh h_x (by omega) (by omega) rw19 (by omega) (by omega)), rfl⟩ (by show (2147483647 - (i1 + 1)).toNat < (2147483647 - i1).toNat; omega)
    ·
      refine GO.iconst dX6_hasStation_26 ?_
      exact GO.retz rfl rfl dX6_hasStation_27 (Or.inr rfl) ⟨rfl, rfl, _, rfl, (ir_c rfl), ⟨Or.inr rfl, fun _ => trivial, fun _ => trivial, (by first | exact HST.yes hWh h_x (by omega) (by omega) rw19 (by omega) (by omega) | exact HST.no hhs (by omega) rfl)⟩⟩

set_option maxHeartbeats 1000000 in
theorem t_X6_needs {K : Kmap} {V : Vmap} {x : Nat} (h_x : K x = some (0, 5)) : MC mX6_needs K V [.ref x] (IP K V (fun X => True)) := by
  refine MC.start 2 (by decide +kernel) rfl rfl rfl (ls0 := [some (.ref x), none, none]) rfl ?_
  refine GO.iconst dX6_needs_0 ?_
  refine GO.istore_n (ls1 := [some (.ref x), some (ti 0), none]) dX6_needs_1 rfl rfl rfl ?_
  refine GO.iconst dX6_needs_2 ?_
  refine GO.istore_n (ls1 := [some (.ref x), some (ti 0), some (ti 0)]) dX6_needs_3 rfl rfl rfl ?_
  refine GO.loop2 (fun i1 i2 W => (-2147483648) ≤ i1 ∧ i1 ≤ 2147483647 ∧ 0 ≤ i2 ∧ i2 ≤ 8 ∧ V = W) (fun i1 i2 => [some (.ref x), some (ti i1), some (ti i2)]) (fun i1 i2 W => (2147483647 - i2).toNat) 0 0 ⟨by omega, by omega, by omega, by omega, rfl⟩ rfl (fun i1 i2 V353 hp355 ih354 => ?_)
  obtain ⟨l_i1, u_i1, l_i2, u_i2, rfl⟩ := hp355
  have r_i1 : ir i1 := ⟨by omega, by omega⟩
  have r_i2 : ir i2 := ⟨by omega, by omega⟩
  show GO mX6_needs K V (IP K V (fun X => True)) K V 0 0 4 [some (.ref x), some (ti i1), some (ti i2)] []
  refine GO.iload_n dX6_needs_4 rfl rfl ?_
  refine GO.aload_n dX6_needs_5 rfl rfl ?_
  refine GO.getR h_x fl_RX6_14 rfl rfl dX6_needs_6 (fun hv357 h356 => ?_)
  refine GO.getI h356 fl_RX6_55_k24 rfl rfl dX6_needs_9 (fun l358 u359 => ?_)
  refine GO.icmp_ge (tgt := 33) dX6_needs_12 (by decide) r_i2 vi_ir (fun c360 => ?_) (fun c360 => ?_)
  ·
    refine GO.iload_n dX6_needs_33 rfl rfl ?_
    exact GO.reti rfl rfl dX6_needs_34 ⟨rfl, rfl, _, rfl, r_i1, trivial⟩
  ·
    refine GO.iload_n dX6_needs_15 rfl rfl ?_
    refine GO.aload_n dX6_needs_16 rfl rfl ?_
    refine GO.getRaw h_x fl_RX6_14 hv357 dX6_needs_17 ?_
    refine GO.iload_n dX6_needs_20 rfl rfl ?_
    refine GO.iconst dX6_needs_21 ?_
    refine GO.callV (ci := 24) (N := mX8_get_k24) dX6_needs_22 (RX8, TX8, 4) rfl gV_RX6_58 h356 (t_X8_get_k24 h356 r_i2 (ir_c rfl)) rfl [ti i1] rfl rfl (Nat.le_of_ble_eq_true rfl) rfl (k_ip fun X363 r364 h365 => ?_)
    have raw_get := h365.2
    have rw22 := h365.2
    refine GO.iadd dX6_needs_25 ?_
    refine GO.norm (fun z366 r367 hn368 => ?_)
    refine GO.istore_n (ls1 := [some (.ref x), some (ti z366), some (ti i2)]) dX6_needs_26 rfl rfl rfl ?_
    refine GO.iinc (X := i2) (n := 1) (Y := i2 + 1) (ls1 := [some (.ref x), some (ti z366), some (ti (i2 + 1))]) dX6_needs_27 rfl rfl rfl rfl ?_
    refine GO.goto (tgt := 4) dX6_needs_30 (by decide) ?_
    have q369 : -2147483648 ≤ z366 ∧ z366 ≤ 2147483647 := r367
    exact ih354 z366 (i2 + 1) V ⟨by omega, by omega, by omega, by omega, rfl⟩ (by show (2147483647 - (i2 + 1)).toNat < (2147483647 - i2).toNat; omega)

set_option maxHeartbeats 1000000 in
theorem t_X6_leastAhead {K : Kmap} {V : Vmap} {x : Nat} {p0 : Int} {p1 : Int} (h_x : K x = some (0, 5)) (r_p0 : ir p0) (r_p1 : ir p1) : MC mX6_leastAhead K V [.ref x, ti p0, ti p1] (IP K V (fun X => True)) := by
  refine MC.start 3 (by decide +kernel) rfl rfl rfl (ls0 := [some (.ref x), some (ti p0), some (ti p1), none, none, none]) rfl ?_
  refine GO.iconst dX6_leastAhead_0 ?_
  refine GO.istore_n (ls1 := [some (.ref x), some (ti p0), some (ti p1), some (ti (-1)), none, none]) dX6_leastAhead_1 rfl rfl rfl ?_
  refine GO.iconst dX6_leastAhead_2 ?_
  refine GO.istore (ls1 := [some (.ref x), some (ti p0), some (ti p1), some (ti (-1)), some (ti 0), none]) dX6_leastAhead_3 rfl rfl ?_
  refine GO.loop2 (fun i1 i2 W => (-2147483648) ≤ i1 ∧ i1 ≤ 2147483647 ∧ 0 ≤ i2 ∧ i2 ≤ 8 ∧ V = W) (fun i1 i2 => [some (.ref x), some (ti p0), some (ti p1), some (ti i1), some (ti i2), none]) (fun i1 i2 W => (2147483647 - i2).toNat) (-1) 0 ⟨by omega, by omega, by omega, by omega, rfl⟩ rfl (fun i1 i2 V1060 hp1062 ih1061 => ?_)
  obtain ⟨l_i1, u_i1, l_i2, u_i2, rfl⟩ := hp1062
  have r_i1 : ir i1 := ⟨by omega, by omega⟩
  have r_i2 : ir i2 := ⟨by omega, by omega⟩
  show GO mX6_leastAhead K V (IP K V (fun X => True)) K V 0 0 5 [some (.ref x), some (ti p0), some (ti p1), some (ti i1), some (ti i2), none] []
  refine GO.iload dX6_leastAhead_5 rfl ?_
  refine GO.aload_n dX6_leastAhead_7 rfl rfl ?_
  refine GO.getR h_x fl_RX6_14 rfl rfl dX6_leastAhead_8 (fun hv1064 h1063 => ?_)
  refine GO.getI h1063 fl_RX6_55_k24 rfl rfl dX6_leastAhead_11 (fun l1065 u1066 => ?_)
  refine GO.icmp_ge (tgt := 90) dX6_leastAhead_14 (by decide) r_i2 vi_ir (fun c1067 => ?_) (fun c1067 => ?_)
  ·
    refine GO.iconst dX6_leastAhead_90 ?_
    refine GO.iload_n dX6_leastAhead_91 rfl rfl ?_
    refine GO.callS (N := mJ9_max_7cf53) dX6_leastAhead_92 gS_RX6_83 (t_J9_max_7cf53 (ir_c rfl) r_i1) rfl [] rfl rfl (Nat.le_of_ble_eq_true rfl) rfl (k_ip fun X1068 r1069 h1070 => ?_)
    have q1071 : -2147483648 ≤ X1068 ∧ X1068 ≤ 2147483647 := r1069
    exact GO.reti rfl rfl dX6_leastAhead_95 ⟨rfl, rfl, _, rfl, r1069, trivial⟩
  ·
    refine GO.iload_n dX6_leastAhead_17 rfl rfl ?_
    refine GO.iload dX6_leastAhead_18 rfl ?_
    refine GO.ishr dX6_leastAhead_20 ?_
    refine GO.iconst dX6_leastAhead_21 ?_
    refine GO.iand dX6_leastAhead_22 ?_
    refine GO.if_ne (tgt := 29) dX6_leastAhead_23 (by decide) wand_ir (fun c1072 => ?_) (fun c1072 => ?_)
    ·
      refine GO.aload_n dX6_leastAhead_29 rfl rfl ?_
      refine GO.getA (n := 64) h_x fl_RX6_27 rfl rfl rfl rfl dX6_leastAhead_30 (fun hv1074 h1073 => ?_)
      refine GO.iload_n dX6_leastAhead_33 rfl rfl ?_
      refine GO.bipush dX6_leastAhead_34 rfl ?_
      refine GO.imul dX6_leastAhead_36 ?_
      refine GO.norm (fun z1075 r1076 hn1077 => ?_)
      refine GO.iload dX6_leastAhead_37 rfl ?_
      refine GO.iadd dX6_leastAhead_39 ?_
      refine GO.norm (fun z1078 r1079 hn1080 => ?_)
      refine GO.callS (N := mX4_get) dX6_leastAhead_40 gS_RX6_75 (t_X4_get rfl h1073 r1079) rfl [] rfl rfl (Nat.le_of_ble_eq_true rfl) rfl (k_ip fun X1081 r1082 h1083 => ?_)
      have raw_get := h1083.2
      have rw40 := h1083.2
      refine GO.aload_n dX6_leastAhead_43 rfl rfl ?_
      refine GO.getA (n := 2048) h_x fl_RX6_36 rfl rfl rfl rfl dX6_leastAhead_44 (fun hv1085 h1084 => ?_)
      refine GO.iload_n dX6_leastAhead_47 rfl rfl ?_
      refine GO.iconst dX6_leastAhead_48 ?_
      refine GO.iload dX6_leastAhead_49 rfl ?_
      refine GO.ishl dX6_leastAhead_51 ?_
      refine GO.iconst dX6_leastAhead_52 ?_
      refine GO.ixor dX6_leastAhead_53 ?_
      refine GO.iand dX6_leastAhead_54 ?_
      refine GO.bipush dX6_leastAhead_55 rfl ?_
      refine GO.imul dX6_leastAhead_57 ?_
      refine GO.norm (fun z1086 r1087 hn1088 => ?_)
      refine GO.iload dX6_leastAhead_58 rfl ?_
      refine GO.iadd dX6_leastAhead_60 ?_
      refine GO.norm (fun z1089 r1090 hn1091 => ?_)
      refine GO.callS (N := mX4_get) dX6_leastAhead_61 gS_RX6_75 (t_X4_get rfl h1084 r1090) rfl [ti X1081] rfl rfl (Nat.le_of_ble_eq_true rfl) rfl (k_ip fun X1092 r1093 h1094 => ?_)
      have raw_get := h1094.2
      have rw61 := h1094.2
      refine GO.iadd dX6_leastAhead_64 ?_
      refine GO.norm (fun z1095 r1096 hn1097 => ?_)
      refine GO.istore (ls1 := [some (.ref x), some (ti p0), some (ti p1), some (ti i1), some (ti i2), some (ti z1095)]) dX6_leastAhead_65 rfl rfl ?_
      refine GO.iload_n dX6_leastAhead_67 rfl rfl ?_
      refine GO.iconst dX6_leastAhead_68 ?_
      refine GO.icmp_ne (tgt := 77) dX6_leastAhead_69 (by decide) r_i1 (ir_c rfl) (fun c1098 => ?_) (fun c1098 => ?_)
      ·
        refine GO.iload_n dX6_leastAhead_77 rfl rfl ?_
        refine GO.iload dX6_leastAhead_78 rfl ?_
        refine GO.callS (N := mJ9_min_7cf53) dX6_leastAhead_80 gS_RX6_78 (t_J9_min_7cf53 r_i1 r1096) rfl [] rfl rfl (Nat.le_of_ble_eq_true rfl) rfl (k_ip fun X1099 r1100 h1101 => ?_)
        have q1102 : -2147483648 ≤ z1095 ∧ z1095 ≤ 2147483647 := r1096
        have q1103 : -2147483648 ≤ X1099 ∧ X1099 ≤ 2147483647 := r1100
        refine GO.istore_n (ls1 := [some (.ref x), some (ti p0), some (ti p1), some (ti X1099), some (ti i2), some (ti z1095)]) dX6_leastAhead_83 rfl rfl rfl ?_
        refine GO.iinc (X := i2) (n := 1) (Y := i2 + 1) (ls1 := [some (.ref x), some (ti p0), some (ti p1), some (ti X1099), some (ti (i2 + 1)), some (ti z1095)]) dX6_leastAhead_84 rfl rfl rfl rfl ?_
        refine GO.goto (tgt := 5) dX6_leastAhead_87 (by decide) ?_
        refine GO.drop [true, true, true, true, true, false] rfl ?_
        exact ih1061 X1099 (i2 + 1) V ⟨by omega, by omega, by omega, by omega, rfl⟩ (by show (2147483647 - (i2 + 1)).toNat < (2147483647 - i2).toNat; omega)
      ·
        refine GO.iload dX6_leastAhead_72 rfl ?_
        refine GO.goto (tgt := 83) dX6_leastAhead_74 (by decide) ?_
        refine GO.istore_n (ls1 := [some (.ref x), some (ti p0), some (ti p1), some (ti z1095), some (ti i2), some (ti z1095)]) dX6_leastAhead_83 rfl rfl rfl ?_
        refine GO.iinc (X := i2) (n := 1) (Y := i2 + 1) (ls1 := [some (.ref x), some (ti p0), some (ti p1), some (ti z1095), some (ti (i2 + 1)), some (ti z1095)]) dX6_leastAhead_84 rfl rfl rfl rfl ?_
        refine GO.goto (tgt := 5) dX6_leastAhead_87 (by decide) ?_
        refine GO.drop [true, true, true, true, true, false] rfl ?_
        have q1104 : -2147483648 ≤ z1095 ∧ z1095 ≤ 2147483647 := r1096
        exact ih1061 z1095 (i2 + 1) V ⟨by omega, by omega, by omega, by omega, rfl⟩ (by show (2147483647 - (i2 + 1)).toNat < (2147483647 - i2).toNat; omega)
    ·
      refine GO.goto (tgt := 84) dX6_leastAhead_26 (by decide) ?_
      refine GO.iinc (X := i2) (n := 1) (Y := i2 + 1) (ls1 := [some (.ref x), some (ti p0), some (ti p1), some (ti i1), some (ti (i2 + 1)), none]) dX6_leastAhead_84 rfl rfl rfl rfl ?_
      refine GO.goto (tgt := 5) dX6_leastAhead_87 (by decide) ?_
      exact ih1061 i1 (i2 + 1) V ⟨by omega, by omega, by omega, by omega, rfl⟩ (by show (2147483647 - (i2 + 1)).toNat < (2147483647 - i2).toNat; omega)

set_option maxHeartbeats 1000000 in
theorem t_X4_put_t142 {K : Kmap} {V : Vmap} {p0 n_p0 : Nat} {p1 : Int} {p2 : Int} (h_p0 : K p0 = some (143, n_p0)) (r_p1 : ir p1) (r_p2 : ir p2) : MC mX4_put_t142 K V [.ref p0, ti p1, ti p2] (VS K (fun V1 => (True) ∧ (V1 = rpv V p0 n_p0 p1 p2))) := by
  refine MC.start 0 (by decide +kernel) rfl rfl rfl (ls0 := [some (.ref p0), some (ti p1), some (ti p2)]) rfl ?_
  refine GO.aload_n dX4_put_0 rfl rfl ?_
  refine GO.ifnull dX4_put_1 ?_
  refine GO.iload_n dX4_put_4 rfl rfl ?_
  refine GO.if_lt (tgt := 18) dX4_put_5 (by decide) r_p1 (fun c1 => ?_) (fun c1 => ?_)
  ·
    exact GO.retv rfl rfl dX4_put_18 ⟨rfl, rfl, ⟨trivial, (by first | exact rpv_in (by assumption) (by omega) (by omega) | exact rpv_out (by omega))⟩⟩
  ·
    refine GO.iload_n dX4_put_8 rfl rfl ?_
    refine GO.aload_n dX4_put_9 rfl rfl ?_
    refine GO.alen h_p0 dX4_put_10 (fun h2 => ?_)
    refine GO.icmp_ge (tgt := 18) dX4_put_11 (by decide) r_p1 ⟨by omega, by omega⟩ (fun c3 => ?_) (fun c3 => ?_)
    ·
      exact GO.retv rfl rfl dX4_put_18 ⟨rfl, rfl, ⟨trivial, (by first | exact rpv_in (by assumption) (by omega) (by omega) | exact rpv_out (by omega))⟩⟩
    ·
      refine GO.aload_n dX4_put_14 rfl rfl ?_
      refine GO.iload_n dX4_put_15 rfl rfl ?_
      refine GO.iload_n dX4_put_16 rfl rfl ?_
      have q4 : -2147483648 ≤ p1 ∧ p1 ≤ 2147483647 := r_p1
      refine GO.iast (t := 142) rfl rfl (by decide +kernel) h_p0 r_p1 (by omega) (by omega) r_p2 (r_p2).1 (r_p2).2 dX4_put_17 (fun V6 e5 => ?_)
      exact GO.retv rfl rfl dX4_put_18 ⟨rfl, rfl, ⟨trivial, (by first | exact rpv_in (by assumption) (by omega) (by omega) | exact rpv_out (by omega))⟩⟩

set_option maxHeartbeats 1000000 in
theorem t_X6_lookAhead {K : Kmap} {V : Vmap} {x : Nat} (h_x : K x = some (0, 5)) : MC mX6_lookAhead K V [.ref x] (VS K (fun V1 => (True))) := by
  refine MC.start 2 (by decide +kernel) rfl rfl rfl (ls0 := [some (.ref x), none, none]) rfl ?_
  refine GO.iconst dX6_lookAhead_0 ?_
  refine GO.istore_n (ls1 := [some (.ref x), some (ti 1), none]) dX6_lookAhead_1 rfl rfl rfl ?_
  refine GO.loop1 (fun i1 W => 1 ≤ i1 ∧ i1 ≤ 2147483647 ∧ True) (fun i1 => [some (.ref x), some (ti i1), none]) (fun i1 W => (2147483647 - i1).toNat) 1 ⟨by omega, by omega, trivial⟩ rfl (fun i1 Wi1 hp2423 ih2422 => ?_)
  obtain ⟨l_i1, u_i1, -⟩ := hp2423
  have r_i1 : ir i1 := ⟨by omega, by omega⟩
  show GO mX6_lookAhead K V (VS K (fun V1 => (True))) K Wi1 0 0 2 [some (.ref x), some (ti i1), none] []
  refine GO.iload_n dX6_lookAhead_2 rfl rfl ?_
  refine GO.iconst dX6_lookAhead_3 ?_
  refine GO.aload_n dX6_lookAhead_4 rfl rfl ?_
  refine GO.getR h_x fl_RX6_14 rfl rfl dX6_lookAhead_5 (fun hv2425 h2424 => ?_)
  refine GO.getI h2424 fl_RX6_55_k24 rfl rfl dX6_lookAhead_8 (fun l2426 u2427 => ?_)
  refine GO.ishl dX6_lookAhead_11 ?_
  refine GO.icmp_ge (tgt := 59) dX6_lookAhead_12 (by decide) r_i1 wshl_ir (fun c2428 => ?_) (fun c2428 => ?_)
  ·
    exact GO.retv rfl rfl dX6_lookAhead_59 ⟨rfl, rfl, trivial⟩
  ·
    refine GO.iconst dX6_lookAhead_15 ?_
    refine GO.istore_n (ls1 := [some (.ref x), some (ti i1), some (ti 0)]) dX6_lookAhead_16 rfl rfl rfl ?_
    refine GO.loop1 (fun i2429 W => 0 ≤ i2429 ∧ i2429 ≤ 8 ∧ True) (fun i2429 => [some (.ref x), some (ti i1), some (ti i2429)]) (fun i2429 W => (2147483647 - i2429).toNat) 0 ⟨by omega, by omega, trivial⟩ rfl (fun i2429 Wi2429 hp2524 ih2523 => ?_)
    obtain ⟨l_i2429, u_i2429, -⟩ := hp2524
    have r_i2429 : ir i2429 := ⟨by omega, by omega⟩
    show GO mX6_lookAhead K V (VS K (fun V1 => (True))) K Wi2429 0 0 17 [some (.ref x), some (ti i1), some (ti i2429)] []
    refine GO.iload_n dX6_lookAhead_17 rfl rfl ?_
    refine GO.aload_n dX6_lookAhead_18 rfl rfl ?_
    refine GO.getR h_x fl_RX6_14 rfl rfl dX6_lookAhead_19 (fun hv2526 h2525 => ?_)
    refine GO.getI h2525 fl_RX6_55_k24 rfl rfl dX6_lookAhead_22 (fun l2527 u2528 => ?_)
    refine GO.icmp_ge (tgt := 53) dX6_lookAhead_25 (by decide) r_i2429 vi_ir (fun c2529 => ?_) (fun c2529 => ?_)
    ·
      refine GO.iinc (X := i1) (n := 1) (Y := i1 + 1) (ls1 := [some (.ref x), some (ti (i1 + 1)), some (ti i2429)]) dX6_lookAhead_53 rfl rfl rfl rfl ?_
      refine GO.goto (tgt := 2) dX6_lookAhead_56 (by decide) ?_
      refine GO.drop [true, true, false] rfl ?_
      have q2530 : -2147483648 ≤ wshl 1 (vi Wi1 (vq Wi1 x 0) 3) ∧ wshl 1 (vi Wi1 (vq Wi1 x 0) 3) ≤ 2147483647 := wshl_ir
      exact ih2422 (i1 + 1) Wi2429 ⟨by omega, by omega, trivial⟩ (by show (2147483647 - (i1 + 1)).toNat < (2147483647 - i1).toNat; omega)
    ·
      refine GO.aload_n dX6_lookAhead_28 rfl rfl ?_
      refine GO.getA (n := 2048) h_x fl_RX6_36 rfl rfl rfl rfl dX6_lookAhead_29 (fun hv2532 h2531 => ?_)
      refine GO.iload_n dX6_lookAhead_32 rfl rfl ?_
      refine GO.bipush dX6_lookAhead_33 rfl ?_
      refine GO.imul dX6_lookAhead_35 ?_
      refine GO.norm (fun z2533 r2534 hn2535 => ?_)
      refine GO.iload_n dX6_lookAhead_36 rfl rfl ?_
      refine GO.iadd dX6_lookAhead_37 ?_
      refine GO.norm (fun z2536 r2537 hn2538 => ?_)
      refine GO.aload_n dX6_lookAhead_38 rfl rfl ?_
      refine GO.iload_n dX6_lookAhead_39 rfl rfl ?_
      refine GO.iload_n dX6_lookAhead_40 rfl rfl ?_
      refine GO.callV (ci := 5) (N := mX6_leastAhead) dX6_lookAhead_41 (RX6, TX6, 10) rfl gV_RX6_68 h_x (t_X6_leastAhead h_x r_i1 r_i2429) rfl [ti z2536, .ref (vq Wi2429 x 6)] rfl rfl (Nat.le_of_ble_eq_true rfl) rfl (k_ip fun X2539 r2540 h2541 => ?_)
      refine GO.callS (N := mX4_put_t142) dX6_lookAhead_44 gS_RX6_71 (t_X4_put_t142 h2531 r2537 r2540) rfl [] rfl rfl (Nat.le_of_ble_eq_true rfl) rfl (k_vs fun V2544 h2543 hF2542 => ?_)
      have raw_put := h2543.2
      have rw44 := h2543.2
      refine GO.iinc (X := i2429) (n := 1) (Y := i2429 + 1) (ls1 := [some (.ref x), some (ti i1), some (ti (i2429 + 1))]) dX6_lookAhead_47 rfl rfl rfl rfl ?_
      refine GO.goto (tgt := 17) dX6_lookAhead_50 (by decide) ?_
      exact ih2523 (i2429 + 1) V2544 ⟨by omega, by omega, trivial⟩ (by show (2147483647 - (i2429 + 1)).toNat < (2147483647 - i2429).toNat; omega)

set_option maxHeartbeats 1000000 in
theorem t_X4_put_t140 {K : Kmap} {V : Vmap} {p0 n_p0 : Nat} {p1 : Int} {p2 : Int} (h_p0 : K p0 = some (141, n_p0)) (r_p1 : ir p1) (r_p2 : ir p2) : MC mX4_put_t140 K V [.ref p0, ti p1, ti p2] (VS K (fun V1 => (True) ∧ (V1 = rpv V p0 n_p0 p1 p2))) := by
  refine MC.start 0 (by decide +kernel) rfl rfl rfl (ls0 := [some (.ref p0), some (ti p1), some (ti p2)]) rfl ?_
  refine GO.aload_n dX4_put_0 rfl rfl ?_
  refine GO.ifnull dX4_put_1 ?_
  refine GO.iload_n dX4_put_4 rfl rfl ?_
  refine GO.if_lt (tgt := 18) dX4_put_5 (by decide) r_p1 (fun c1 => ?_) (fun c1 => ?_)
  ·
    exact GO.retv rfl rfl dX4_put_18 ⟨rfl, rfl, ⟨trivial, (by first | exact rpv_in (by assumption) (by omega) (by omega) | exact rpv_out (by omega))⟩⟩
  ·
    refine GO.iload_n dX4_put_8 rfl rfl ?_
    refine GO.aload_n dX4_put_9 rfl rfl ?_
    refine GO.alen h_p0 dX4_put_10 (fun h2 => ?_)
    refine GO.icmp_ge (tgt := 18) dX4_put_11 (by decide) r_p1 ⟨by omega, by omega⟩ (fun c3 => ?_) (fun c3 => ?_)
    ·
      exact GO.retv rfl rfl dX4_put_18 ⟨rfl, rfl, ⟨trivial, (by first | exact rpv_in (by assumption) (by omega) (by omega) | exact rpv_out (by omega))⟩⟩
    ·
      refine GO.aload_n dX4_put_14 rfl rfl ?_
      refine GO.iload_n dX4_put_15 rfl rfl ?_
      refine GO.iload_n dX4_put_16 rfl rfl ?_
      have q4 : -2147483648 ≤ p1 ∧ p1 ≤ 2147483647 := r_p1
      refine GO.iast (t := 140) rfl rfl (by decide +kernel) h_p0 r_p1 (by omega) (by omega) r_p2 (r_p2).1 (r_p2).2 dX4_put_17 (fun V6 e5 => ?_)
      exact GO.retv rfl rfl dX4_put_18 ⟨rfl, rfl, ⟨trivial, (by first | exact rpv_in (by assumption) (by omega) (by omega) | exact rpv_out (by omega))⟩⟩

set_option maxHeartbeats 1000000 in
theorem t_X6_comes {K : Kmap} {V : Vmap} {x : Nat} {p0 : Int} {p1 : Int} {p2 : Int} (h_x : K x = some (0, 5)) (r_p0 : ir p0) (r_p1 : ir p1) (r_p2 : ir p2) : MC mX6_comes K V [.ref x, ti p0, ti p1, ti p2] (IS K (fun X V1 => (X = 0 ∨ X = 1) ∧ (X ≠ 0 → True) ∧ (X = 0 → True))) := by
  refine MC.start 6 (by decide +kernel) rfl rfl rfl (ls0 := [some (.ref x), some (ti p0), some (ti p1), some (ti p2), none, none, none, none, none, none]) rfl ?_
  refine GO.aload_n dX6_comes_0 rfl rfl ?_
  refine GO.getA (n := 64) h_x fl_RX6_27 rfl rfl rfl rfl dX6_comes_1 (fun hv2 h1 => ?_)
  refine GO.aload_n dX6_comes_4 rfl rfl ?_
  refine GO.getA (n := 8) h_x fl_RX6_33 rfl rfl rfl rfl dX6_comes_5 (fun hv4 h3 => ?_)
  refine GO.iload_n dX6_comes_8 rfl rfl ?_
  refine GO.iconst dX6_comes_9 ?_
  refine GO.isub dX6_comes_10 ?_
  refine GO.norm (fun z5 r6 hn7 => ?_)
  refine GO.callS (N := mX4_get) dX6_comes_11 gS_RX6_75 (t_X4_get rfl h3 r6) rfl [.ref (vq V x 3)] rfl rfl (Nat.le_of_ble_eq_true rfl) rfl (k_ip fun X8 r9 h10 => ?_)
  have raw_get := h10.2
  have rw11 := h10.2
  refine GO.bipush dX6_comes_14 rfl ?_
  refine GO.imul dX6_comes_16 ?_
  refine GO.norm (fun z11 r12 hn13 => ?_)
  refine GO.iload_n dX6_comes_17 rfl rfl ?_
  refine GO.iadd dX6_comes_18 ?_
  refine GO.norm (fun z14 r15 hn16 => ?_)
  refine GO.callS (N := mX4_get) dX6_comes_19 gS_RX6_75 (t_X4_get rfl h1 r15) rfl [] rfl rfl (Nat.le_of_ble_eq_true rfl) rfl (k_ip fun X17 r18 h19 => ?_)
  have raw_get := h19.2
  have rw19 := h19.2
  refine GO.istore (ls1 := [some (.ref x), some (ti p0), some (ti p1), some (ti p2), some (ti X17), none, none, none, none, none]) dX6_comes_22 rfl rfl ?_
  refine GO.iconst dX6_comes_24 ?_
  refine GO.aload_n dX6_comes_25 rfl rfl ?_
  refine GO.getR h_x fl_RX6_14 rfl rfl dX6_comes_26 (fun hv21 h20 => ?_)
  refine GO.getI h20 fl_RX6_55_k24 rfl rfl dX6_comes_29 (fun l22 u23 => ?_)
  refine GO.ishl dX6_comes_32 ?_
  refine GO.iconst dX6_comes_33 ?_
  refine GO.isub dX6_comes_34 ?_
  refine GO.norm (fun z24 r25 hn26 => ?_)
  refine GO.iload_n dX6_comes_35 rfl rfl ?_
  refine GO.iconst dX6_comes_36 ?_
  refine GO.ixor dX6_comes_37 ?_
  refine GO.iand dX6_comes_38 ?_
  refine GO.name (fun z27 hz28 => ?_)
  have r29 : ir z27 := hz28 ▸ wand_ir
  refine GO.istore (ls1 := [some (.ref x), some (ti p0), some (ti p1), some (ti p2), some (ti X17), some (ti z27), none, none, none, none]) dX6_comes_39 rfl rfl ?_
  refine GO.aload_n dX6_comes_41 rfl rfl ?_
  refine GO.getA (n := 2048) h_x fl_RX6_36 rfl rfl rfl rfl dX6_comes_42 (fun hv31 h30 => ?_)
  refine GO.iload dX6_comes_45 rfl ?_
  refine GO.bipush dX6_comes_47 rfl ?_
  refine GO.imul dX6_comes_49 ?_
  refine GO.norm (fun z32 r33 hn34 => ?_)
  refine GO.iload_n dX6_comes_50 rfl rfl ?_
  refine GO.iadd dX6_comes_51 ?_
  refine GO.norm (fun z35 r36 hn37 => ?_)
  refine GO.callS (N := mX4_get) dX6_comes_52 gS_RX6_75 (t_X4_get rfl h30 r36) rfl [] rfl rfl (Nat.le_of_ble_eq_true rfl) rfl (k_ip fun X38 r39 h40 => ?_)
  have raw_get := h40.2
  have rw52 := h40.2
  refine GO.istore (ls1 := [some (.ref x), some (ti p0), some (ti p1), some (ti p2), some (ti X17), some (ti z27), some (ti X38), none, none, none]) dX6_comes_55 rfl rfl ?_
  refine GO.iconst dX6_comes_57 ?_
  refine GO.istore (ls1 := [some (.ref x), some (ti p0), some (ti p1), some (ti p2), some (ti X17), some (ti z27), some (ti X38), some (ti 0), none, none]) dX6_comes_58 rfl rfl ?_
  refine GO.loop1 (fun i41 W => 0 ≤ i41 ∧ i41 ≤ 3 ∧ True) (fun i41 => [some (.ref x), some (ti p0), some (ti p1), some (ti p2), some (ti X17), some (ti z27), some (ti X38), some (ti i41), none, none]) (fun i41 W => (2147483647 - i41).toNat) 0 ⟨by omega, by omega, trivial⟩ rfl (fun i41 Wi41 hp306 ih305 => ?_)
  obtain ⟨l_i41, u_i41, -⟩ := hp306
  have r_i41 : ir i41 := ⟨by omega, by omega⟩
  show GO mX6_comes K V (IS K (fun X V1 => (X = 0 ∨ X = 1) ∧ (X ≠ 0 → True) ∧ (X = 0 → True))) K Wi41 0 0 60 [some (.ref x), some (ti p0), some (ti p1), some (ti p2), some (ti X17), some (ti z27), some (ti X38), some (ti i41), none, none] []
  refine GO.iload dX6_comes_60 rfl ?_
  refine GO.iconst dX6_comes_62 ?_
  refine GO.icmp_ge (tgt := 180) dX6_comes_63 (by decide) r_i41 (ir_c rfl) (fun c307 => ?_) (fun c307 => ?_)
  ·
    refine GO.iconst dX6_comes_180 ?_
    exact GO.retz rfl rfl dX6_comes_181 (Or.inr rfl) ⟨rfl, _, rfl, (ir_c rfl), ⟨Or.inr rfl, fun _ => trivial, fun _ => trivial⟩⟩
  ·
    refine GO.iload_n dX6_comes_66 rfl rfl ?_
    have hj327 : ∀ (z326 : Int), ∀ (l328 : (-2147483648) ≤ z326), ∀ (u329 : z326 ≤ 2147483647), GO mX6_comes K V (IS K (fun X V1 => (X = 0 ∨ X = 1) ∧ (X ≠ 0 → True) ∧ (X = 0 → True))) K Wi41 0 0 95 [some (.ref x), some (ti p0), some (ti p1), some (ti p2), some (ti X17), some (ti z27), some (ti X38), some (ti i41), none, none] [ti z326] := by
      intro z326 l328 u329
      have r330 : ir z326 := ⟨by omega, by omega⟩
      refine GO.istore (ls1 := [some (.ref x), some (ti p0), some (ti p1), some (ti p2), some (ti X17), some (ti z27), some (ti X38), some (ti i41), some (ti z326), none]) dX6_comes_95 rfl rfl ?_
      refine GO.iload dX6_comes_97 rfl ?_
      refine GO.aload_n dX6_comes_99 rfl rfl ?_
      refine GO.getA (n := 24) h_x fl_RX6_20 rfl rfl rfl rfl dX6_comes_100 (fun hv332 h331 => ?_)
      refine GO.iload dX6_comes_103 rfl ?_
      refine GO.bipush dX6_comes_105 rfl ?_
      refine GO.imul dX6_comes_107 ?_
      refine GO.iload_n dX6_comes_108 rfl rfl ?_
      refine GO.iadd dX6_comes_109 ?_
      refine GO.norm (fun z333 r334 hn335 => ?_)
      refine GO.callS (N := mX4_get) dX6_comes_110 gS_RX6_75 (t_X4_get rfl h331 r334) rfl [ti z326] rfl rfl (Nat.le_of_ble_eq_true rfl) rfl (k_ip fun X336 r337 h338 => ?_)
      have raw_get := h338.2
      have rw110 := h338.2
      refine GO.callS (N := mJ9_max_7cf53) dX6_comes_113 gS_RX6_83 (t_J9_max_7cf53 r330 r337) rfl [] rfl rfl (Nat.le_of_ble_eq_true rfl) rfl (k_ip fun X339 r340 h341 => ?_)
      have q342 : -2147483648 ≤ X339 ∧ X339 ≤ 2147483647 := r340
      refine GO.istore (ls1 := [some (.ref x), some (ti p0), some (ti p1), some (ti p2), some (ti X17), some (ti z27), some (ti X38), some (ti i41), some (ti z326), some (ti X339)]) dX6_comes_116 rfl rfl ?_
      refine GO.iload dX6_comes_118 rfl ?_
      refine GO.aload_n dX6_comes_120 rfl rfl ?_
      refine GO.getA (n := 24) h_x fl_RX6_24 rfl rfl rfl rfl dX6_comes_121 (fun hv344 h343 => ?_)
      refine GO.iload dX6_comes_124 rfl ?_
      refine GO.bipush dX6_comes_126 rfl ?_
      refine GO.imul dX6_comes_128 ?_
      refine GO.iload_n dX6_comes_129 rfl rfl ?_
      refine GO.iadd dX6_comes_130 ?_
      refine GO.norm (fun z345 r346 hn347 => ?_)
      refine GO.callS (N := mX4_get) dX6_comes_131 gS_RX6_75 (t_X4_get rfl h343 r346) rfl [ti z326] rfl rfl (Nat.le_of_ble_eq_true rfl) rfl (k_ip fun X348 r349 h350 => ?_)
      have raw_get := h350.2
      have rw131 := h350.2
      refine GO.icmp_gt (tgt := 157) dX6_comes_134 (by decide) r330 r349 (fun c351 => ?_) (fun c351 => ?_)
      ·
        refine GO.iconst dX6_comes_157 ?_
        exact GO.retz rfl rfl dX6_comes_158 (Or.inl rfl) ⟨rfl, _, rfl, (ir_c rfl), ⟨Or.inl rfl, fun _ => trivial, fun _ => trivial⟩⟩
      ·
        refine GO.aload_n dX6_comes_137 rfl rfl ?_
        refine GO.getI h_x fl_RX6_46 rfl rfl dX6_comes_138 (fun _ _ => ?_)
        refine GO.iconst dX6_comes_141 ?_
        refine GO.icmp_eq (tgt := 159) dX6_comes_142 (by decide) vi_ir (ir_c rfl) (fun c352 => ?_) (fun c352 => ?_)
        ·
          refine GO.aload_n dX6_comes_159 rfl rfl ?_
          refine GO.getA (n := 24) h_x fl_RX6_30 rfl rfl rfl rfl dX6_comes_160 (fun hv354 h353 => ?_)
          refine GO.iload_n dX6_comes_163 rfl rfl ?_
          refine GO.iconst dX6_comes_164 ?_
          refine GO.imul dX6_comes_165 ?_
          refine GO.norm (fun z355 r356 hn357 => ?_)
          refine GO.iload dX6_comes_166 rfl ?_
          refine GO.iadd dX6_comes_168 ?_
          refine GO.norm (fun z358 r359 hn360 => ?_)
          refine GO.iload dX6_comes_169 rfl ?_
          refine GO.callS (N := mX4_put_t140) dX6_comes_171 gS_RX6_71 (t_X4_put_t140 h353 r359 r340) rfl [] rfl rfl (Nat.le_of_ble_eq_true rfl) rfl (k_vs fun V363 h362 hF361 => ?_)
          have raw_put := h362.2
          have rw171 := h362.2
          refine GO.iinc (X := i41) (n := 1) (Y := i41 + 1) (ls1 := [some (.ref x), some (ti p0), some (ti p1), some (ti p2), some (ti X17), some (ti z27), some (ti X38), some (ti (i41 + 1)), some (ti z326), some (ti X339)]) dX6_comes_174 rfl rfl rfl rfl ?_
          refine GO.goto (tgt := 60) dX6_comes_177 (by decide) ?_
          refine GO.drop [true, true, true, true, true, true, true, true, false, false] rfl ?_
          exact ih305 (i41 + 1) V363 ⟨by omega, by omega, trivial⟩ (by show (2147483647 - (i41 + 1)).toNat < (2147483647 - i41).toNat; omega)
        ·
          refine GO.iload dX6_comes_145 rfl ?_
          refine GO.iload dX6_comes_147 rfl ?_
          refine GO.iadd dX6_comes_149 ?_
          refine GO.norm (fun z364 r365 hn366 => ?_)
          refine GO.aload_n dX6_comes_150 rfl rfl ?_
          refine GO.getI h_x fl_RX6_46 rfl rfl dX6_comes_151 (fun _ _ => ?_)
          refine GO.icmp_lt (tgt := 159) dX6_comes_154 (by decide) r365 vi_ir (fun c367 => ?_) (fun c367 => ?_)
          ·
            refine GO.aload_n dX6_comes_159 rfl rfl ?_
            refine GO.getA (n := 24) h_x fl_RX6_30 rfl rfl rfl rfl dX6_comes_160 (fun hv369 h368 => ?_)
            refine GO.iload_n dX6_comes_163 rfl rfl ?_
            refine GO.iconst dX6_comes_164 ?_
            refine GO.imul dX6_comes_165 ?_
            refine GO.norm (fun z370 r371 hn372 => ?_)
            refine GO.iload dX6_comes_166 rfl ?_
            refine GO.iadd dX6_comes_168 ?_
            refine GO.norm (fun z373 r374 hn375 => ?_)
            refine GO.iload dX6_comes_169 rfl ?_
            refine GO.callS (N := mX4_put_t140) dX6_comes_171 gS_RX6_71 (t_X4_put_t140 h368 r374 r340) rfl [] rfl rfl (Nat.le_of_ble_eq_true rfl) rfl (k_vs fun V378 h377 hF376 => ?_)
            have raw_put := h377.2
            have rw171 := h377.2
            refine GO.iinc (X := i41) (n := 1) (Y := i41 + 1) (ls1 := [some (.ref x), some (ti p0), some (ti p1), some (ti p2), some (ti X17), some (ti z27), some (ti X38), some (ti (i41 + 1)), some (ti z326), some (ti X339)]) dX6_comes_174 rfl rfl rfl rfl ?_
            refine GO.goto (tgt := 60) dX6_comes_177 (by decide) ?_
            refine GO.drop [true, true, true, true, true, true, true, true, false, false] rfl ?_
            exact ih305 (i41 + 1) V378 ⟨by omega, by omega, trivial⟩ (by show (2147483647 - (i41 + 1)).toNat < (2147483647 - i41).toNat; omega)
          ·
            refine GO.iconst dX6_comes_157 ?_
            exact GO.retz rfl rfl dX6_comes_158 (Or.inl rfl) ⟨rfl, _, rfl, (ir_c rfl), ⟨Or.inl rfl, fun _ => trivial, fun _ => trivial⟩⟩
    refine GO.if_ne (tgt := 77) dX6_comes_67 (by decide) r_p0 (fun c379 => ?_) (fun c379 => ?_)
    ·
      refine GO.aload_n dX6_comes_77 rfl rfl ?_
      refine GO.getA (n := 24) h_x fl_RX6_30 rfl rfl rfl rfl dX6_comes_78 (fun hv381 h380 => ?_)
      refine GO.iload_n dX6_comes_81 rfl rfl ?_
      refine GO.iconst dX6_comes_82 ?_
      refine GO.isub dX6_comes_83 ?_
      refine GO.norm (fun z382 r383 hn384 => ?_)
      refine GO.iconst dX6_comes_84 ?_
      refine GO.imul dX6_comes_85 ?_
      refine GO.norm (fun z385 r386 hn387 => ?_)
      refine GO.iload dX6_comes_86 rfl ?_
      refine GO.iadd dX6_comes_88 ?_
      refine GO.norm (fun z388 r389 hn390 => ?_)
      refine GO.callS (N := mX4_get) dX6_comes_89 gS_RX6_75 (t_X4_get rfl h380 r389) rfl [] rfl rfl (Nat.le_of_ble_eq_true rfl) rfl (k_ip fun X391 r392 h393 => ?_)
      have raw_get := h393.2
      have rw89 := h393.2
      refine GO.iload dX6_comes_92 rfl ?_
      refine GO.iadd dX6_comes_94 ?_
      refine GO.norm (fun z394 r395 hn396 => ?_)
      have q397 : -2147483648 ≤ z394 ∧ z394 ≤ 2147483647 := r395
      exact hj327 z394 (by omega) (by omega)
    ·
      refine GO.aload_n dX6_comes_70 rfl rfl ?_
      refine GO.getI h_x fl_RX6_42 rfl rfl dX6_comes_71 (fun _ _ => ?_)
      refine GO.goto (tgt := 95) dX6_comes_74 (by decide) ?_
      have q398 : -2147483648 ≤ vi Wi41 x 8 ∧ vi Wi41 x 8 ≤ 2147483647 := vi_ir
      exact hj327 (vi Wi41 x 8) (by omega) (by omega)

set_option maxHeartbeats 1000000 in
theorem t_X4_put_t143 {K : Kmap} {V : Vmap} {p0 n_p0 : Nat} {p1 : Int} {p2 : Int} (h_p0 : K p0 = some (144, n_p0)) (r_p1 : ir p1) (r_p2 : ir p2) : MC mX4_put_t143 K V [.ref p0, ti p1, ti p2] (VS K (fun V1 => (True) ∧ (V1 = rpv V p0 n_p0 p1 p2))) := by
  refine MC.start 0 (by decide +kernel) rfl rfl rfl (ls0 := [some (.ref p0), some (ti p1), some (ti p2)]) rfl ?_
  refine GO.aload_n dX4_put_0 rfl rfl ?_
  refine GO.ifnull dX4_put_1 ?_
  refine GO.iload_n dX4_put_4 rfl rfl ?_
  refine GO.if_lt (tgt := 18) dX4_put_5 (by decide) r_p1 (fun c1 => ?_) (fun c1 => ?_)
  ·
    exact GO.retv rfl rfl dX4_put_18 ⟨rfl, rfl, ⟨trivial, (by first | exact rpv_in (by assumption) (by omega) (by omega) | exact rpv_out (by omega))⟩⟩
  ·
    refine GO.iload_n dX4_put_8 rfl rfl ?_
    refine GO.aload_n dX4_put_9 rfl rfl ?_
    refine GO.alen h_p0 dX4_put_10 (fun h2 => ?_)
    refine GO.icmp_ge (tgt := 18) dX4_put_11 (by decide) r_p1 ⟨by omega, by omega⟩ (fun c3 => ?_) (fun c3 => ?_)
    ·
      exact GO.retv rfl rfl dX4_put_18 ⟨rfl, rfl, ⟨trivial, (by first | exact rpv_in (by assumption) (by omega) (by omega) | exact rpv_out (by omega))⟩⟩
    ·
      refine GO.aload_n dX4_put_14 rfl rfl ?_
      refine GO.iload_n dX4_put_15 rfl rfl ?_
      refine GO.iload_n dX4_put_16 rfl rfl ?_
      have q4 : -2147483648 ≤ p1 ∧ p1 ≤ 2147483647 := r_p1
      refine GO.iast (t := 143) rfl rfl (by decide +kernel) h_p0 r_p1 (by omega) (by omega) r_p2 (r_p2).1 (r_p2).2 dX4_put_17 (fun V6 e5 => ?_)
      exact GO.retv rfl rfl dX4_put_18 ⟨rfl, rfl, ⟨trivial, (by first | exact rpv_in (by assumption) (by omega) (by omega) | exact rpv_out (by omega))⟩⟩

set_option maxHeartbeats 1000000 in
theorem t_X6_keep {K : Kmap} {V : Vmap} {x : Nat} (h_x : K x = some (0, 5)) : MC mX6_keep K V [.ref x] (VS K (fun V1 => (True))) := by
  refine MC.start 2 (by decide +kernel) rfl rfl rfl (ls0 := [some (.ref x), none, none]) rfl ?_
  refine GO.aload_n dX6_keep_0 rfl rfl ?_
  refine GO.getR h_x fl_RX6_14 rfl rfl dX6_keep_1 (fun hv2 h1 => ?_)
  refine GO.getI h1 fl_RX6_55_k24 rfl rfl dX6_keep_4 (fun l3 u4 => ?_)
  refine GO.iconst dX6_keep_7 ?_
  refine GO.isub dX6_keep_8 ?_
  refine GO.name (fun z5 hz6 => ?_)
  refine GO.istore_n (ls1 := [some (.ref x), some (ti z5), none]) dX6_keep_9 rfl rfl rfl ?_
  refine GO.aload_n dX6_keep_10 rfl rfl ?_
  refine GO.iconst dX6_keep_11 ?_
  refine GO.putI h_x fp_RX6_46 rfl (by decide +kernel) (ir_c rfl) (by decide) (by decide) dX6_keep_12 (fun V8 e7 => ?_)
  refine GO.iconst dX6_keep_15 ?_
  refine GO.istore_n (ls1 := [some (.ref x), some (ti z5), some (ti 0)]) dX6_keep_16 rfl rfl rfl ?_
  refine GO.loop1 (fun i9 W => 0 ≤ i9 ∧ i9 ≤ 3 ∧ True) (fun i9 => [some (.ref x), some (ti z5), some (ti i9)]) (fun i9 W => (2147483647 - i9).toNat) 0 ⟨by omega, by omega, trivial⟩ rfl (fun i9 Wi9 hp143 ih142 => ?_)
  obtain ⟨l_i9, u_i9, -⟩ := hp143
  have r_i9 : ir i9 := ⟨by omega, by omega⟩
  show GO mX6_keep K V (VS K (fun V1 => (True))) K Wi9 0 0 17 [some (.ref x), some (ti z5), some (ti i9)] []
  refine GO.iload_n dX6_keep_17 rfl rfl ?_
  refine GO.iconst dX6_keep_18 ?_
  refine GO.icmp_ge (tgt := 51) dX6_keep_19 (by decide) r_i9 (ir_c rfl) (fun c144 => ?_) (fun c144 => ?_)
  ·
    refine GO.iconst dX6_keep_51 ?_
    refine GO.istore_n (ls1 := [some (.ref x), some (ti z5), some (ti 0)]) dX6_keep_52 rfl rfl rfl ?_
    refine GO.loop1 (fun i145 W => 0 ≤ i145 ∧ i145 ≤ 8 ∧ True) (fun i145 => [some (.ref x), some (ti z5), some (ti i145)]) (fun i145 W => (2147483647 - i145).toNat) 0 ⟨by omega, by omega, trivial⟩ rfl (fun i145 Wi145 hp222 ih221 => ?_)
    obtain ⟨l_i145, u_i145, -⟩ := hp222
    have r_i145 : ir i145 := ⟨by omega, by omega⟩
    show GO mX6_keep K V (VS K (fun V1 => (True))) K Wi145 0 0 53 [some (.ref x), some (ti z5), some (ti i145)] []
    refine GO.iload_n dX6_keep_53 rfl rfl ?_
    refine GO.aload_n dX6_keep_54 rfl rfl ?_
    refine GO.getR h_x fl_RX6_14 rfl rfl dX6_keep_55 (fun hv224 h223 => ?_)
    refine GO.getI h223 fl_RX6_55_k24 rfl rfl dX6_keep_58 (fun l225 u226 => ?_)
    refine GO.icmp_ge (tgt := 86) dX6_keep_61 (by decide) r_i145 vi_ir (fun c227 => ?_) (fun c227 => ?_)
    ·
      exact GO.retv rfl rfl dX6_keep_86 ⟨rfl, rfl, trivial⟩
    ·
      refine GO.aload_n dX6_keep_64 rfl rfl ?_
      refine GO.getA (n := 8) h_x fl_RX6_39 rfl rfl rfl rfl dX6_keep_65 (fun hv229 h228 => ?_)
      refine GO.iload_n dX6_keep_68 rfl rfl ?_
      refine GO.aload_n dX6_keep_69 rfl rfl ?_
      refine GO.getA (n := 8) h_x fl_RX6_33 rfl rfl rfl rfl dX6_keep_70 (fun hv231 h230 => ?_)
      refine GO.iload_n dX6_keep_73 rfl rfl ?_
      refine GO.callS (N := mX4_get) dX6_keep_74 gS_RX6_75 (t_X4_get rfl h230 r_i145) rfl [ti i145, .ref (vq Wi145 x 7)] rfl rfl (Nat.le_of_ble_eq_true rfl) rfl (k_ip fun X232 r233 h234 => ?_)
      have raw_get := h234.2
      have rw74 := h234.2
      refine GO.callS (N := mX4_put_t143) dX6_keep_77 gS_RX6_71 (t_X4_put_t143 h228 r_i145 r233) rfl [] rfl rfl (Nat.le_of_ble_eq_true rfl) rfl (k_vs fun V237 h236 hF235 => ?_)
      have raw_put := h236.2
      have rw77 := h236.2
      refine GO.iinc (X := i145) (n := 1) (Y := i145 + 1) (ls1 := [some (.ref x), some (ti z5), some (ti (i145 + 1))]) dX6_keep_80 rfl rfl rfl rfl ?_
      refine GO.goto (tgt := 53) dX6_keep_83 (by decide) ?_
      exact ih221 (i145 + 1) V237 ⟨by omega, by omega, trivial⟩ (by show (2147483647 - (i145 + 1)).toNat < (2147483647 - i145).toNat; omega)
  ·
    refine GO.aload_n dX6_keep_22 rfl rfl ?_
    refine GO.aload_n dX6_keep_23 rfl rfl ?_
    refine GO.getI h_x fl_RX6_46 rfl rfl dX6_keep_24 (fun _ _ => ?_)
    refine GO.aload_n dX6_keep_27 rfl rfl ?_
    refine GO.getA (n := 24) h_x fl_RX6_30 rfl rfl rfl rfl dX6_keep_28 (fun hv239 h238 => ?_)
    refine GO.iload_n dX6_keep_31 rfl rfl ?_
    refine GO.iconst dX6_keep_32 ?_
    refine GO.imul dX6_keep_33 ?_
    refine GO.iload_n dX6_keep_34 rfl rfl ?_
    refine GO.iadd dX6_keep_35 ?_
    refine GO.callS (N := mX4_get) dX6_keep_36 gS_RX6_75 (t_X4_get rfl h238 ⟨by omega, by omega⟩) rfl [ti (vi Wi9 x 9), .ref x] rfl rfl (Nat.le_of_ble_eq_true rfl) rfl (k_ip fun X240 r241 h242 => ?_)
    have raw_get := h242.2
    have rw36 := h242.2
    refine GO.callS (N := mJ9_max_7cf53) dX6_keep_39 gS_RX6_83 (t_J9_max_7cf53 vi_ir r241) rfl [.ref x] rfl rfl (Nat.le_of_ble_eq_true rfl) rfl (k_ip fun X243 r244 h245 => ?_)
    have q246 : -2147483648 ≤ X243 ∧ X243 ≤ 2147483647 := r244
    have q247 : -2147483648 ≤ vi Wi9 x 9 ∧ vi Wi9 x 9 ≤ 2147483647 := vi_ir
    refine GO.putI h_x fp_RX6_46 rfl (by decide +kernel) r244 (r244).1 (r244).2 dX6_keep_42 (fun V249 e248 => ?_)
    refine GO.iinc (X := i9) (n := 1) (Y := i9 + 1) (ls1 := [some (.ref x), some (ti z5), some (ti (i9 + 1))]) dX6_keep_45 rfl rfl rfl rfl ?_
    refine GO.goto (tgt := 17) dX6_keep_48 (by decide) ?_
    exact ih142 (i9 + 1) V249 ⟨by omega, by omega, trivial⟩ (by show (2147483647 - (i9 + 1)).toNat < (2147483647 - i9).toNat; omega)
