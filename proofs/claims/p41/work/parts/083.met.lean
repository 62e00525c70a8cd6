def mX4_put_t134 : MRec := (RX4, cX4_put, 3, (none : Option Jvm.ClassFile.FieldType), yX4_put, 0, 0, 0, 0, 82631996098781074868989413504096379978550585370535152410581099409300723904538918228148651304964410605948901503127919788032)
def mX4_put_t133 : MRec := (RX4, cX4_put, 3, (none : Option Jvm.ClassFile.FieldType), yX4_put, 0, 0, 0, 0, 41315998049390537434494706752048189989275292685267576205290549704650361952269459114074325652482205302974450751563959894016)
def mX8_get_k33 : MRec := (RX8, cX8_get, 5, (some .int), yX8_get, 0, 0, 0, 0, 0)
def mX1_strike_k33 : MRec := (RX1, cX1_strike, 7, (none : Option Jvm.ClassFile.FieldType), yX1_strike, 1, 24, 0, 0, 82631996098781074868989413504096379978550585370535152410581099409300723904538918228148651304964410605948901503127919788032)
def mX1_weighTexts : MRec := (RX1, cX1_weighTexts, 7, (none : Option Jvm.ClassFile.FieldType), yX1_weighTexts, 2, 50, 0, 0, 123947994148171612303484120256144569967825878055802728615871649113951085856808377342222976957446615908923352254691879682048)
def mX9_letterOf : MRec := (RX9, cX9_letterOf, 2, (some .int), yX9_letterOf, 1, 24, 0, 0, 0)
def mX1_isCounting : MRec := (RX1, cX1_isCounting, 3, (some .boolean), yX1_isCounting, 1, 21, 0, 0, 0)
def mX1_numberOf : MRec := (RX1, cX1_numberOf, 8, (some .int), yX1_numberOf, 2, 45, 0, 0, 0)
def mX1_binds : MRec := (RX1, cX1_binds, 7, (some .boolean), yX1_binds, 3, 76, 0, 0, 123947994148171612303484120256144569967825878055802728615871649113951085856808377342222976957446615908923352254691879682048)
def mX1_weigh : MRec := (RX1, cX1_weigh, 6, (none : Option Jvm.ClassFile.FieldType), yX1_weigh, 4, 102, 0, 0, 123947994148171612303484120256144569967825878055802728615871649113951085856808377342222976957446615908923352254691881254912)
set_option maxHeartbeats 1000000 in
theorem t_X4_put_t134 {K : Kmap} {V : Vmap} {p0 n_p0 : Nat} {p1 : Int} {p2 : Int} (h_p0 : K p0 = some (135, n_p0)) (r_p1 : ir p1) (r_p2 : ir p2) : MC mX4_put_t134 K V [.ref p0, ti p1, ti p2] (VS K (fun V1 => (True) ∧ (V1 = rpv V p0 n_p0 p1 p2))) := by
  refine MC.start 0 (by decide +kernel) rfl rfl rfl (ls0 := [some (.ref p0), some (ti p1), some (ti p2)]) rfl ?_
  refine GO.aload_n dX4_put_0 rfl rfl ?_
  refine GO.ifnull dX4_put_1 ?_
  refine GO.iload_n dX4_put_4 rfl rfl ?_
  refine GO.if_lt (tgt := 18) dX4_put_5 (by decide) r_p1 (fun c1 => ?_) (fun c1 => ?_)
  ·
    exact GO.retv rfl rfl dX4_put_18 ⟨rfl, rfl, ⟨trivial, (by first | exact rpv_in (by assumption) (by omega) (by omega) | exact rpv_out (by omega))⟩⟩
  ·
    refine GO.iload_n dX4_put_8 rfl rfl ?_
    refine GO.aload_n dX4_put_9 rfl rfl ?_
    refine GO.alen h_p0 dX4_put_10 (fun h2 => ?_)
    refine GO.icmp_ge (tgt := 18) dX4_put_11 (by decide) r_p1 ⟨by omega, by omega⟩ (fun c3 => ?_) (fun c3 => ?_)
    ·
      exact GO.retv rfl rfl dX4_put_18 ⟨rfl, rfl, ⟨trivial, (by first | exact rpv_in (by assumption) (by omega) (by omega) | exact rpv_out (by omega))⟩⟩
    ·
      refine GO.aload_n dX4_put_14 rfl rfl ?_
      refine GO.iload_n dX4_put_15 rfl rfl ?_
      refine GO.iload_n dX4_put_16 rfl rfl ?_
      have q4 : -2147483648 ≤ p1 ∧ p1 ≤ 2147483647 := r_p1
      refine GO.iast (t := 134) rfl rfl (by decide +kernel) h_p0 r_p1 (by omega) (by omega) r_p2 (r_p2).1 (r_p2).2 dX4_put_17 (fun V6 e5 => ?_)
      exact GO.retv rfl rfl dX4_put_18 ⟨rfl, rfl, ⟨trivial, (by first | exact rpv_in (by assumption) (by omega) (by omega) | exact rpv_out (by omega))⟩⟩

set_option maxHeartbeats 1000000 in
theorem t_X4_put_t133 {K : Kmap} {V : Vmap} {p0 n_p0 : Nat} {p1 : Int} {p2 : Int} (h_p0 : K p0 = some (134, n_p0)) (r_p1 : ir p1) (r_p2 : ir p2) : MC mX4_put_t133 K V [.ref p0, ti p1, ti p2] (VS K (fun V1 => (True) ∧ (V1 = rpv V p0 n_p0 p1 p2))) := by
  refine MC.start 0 (by decide +kernel) rfl rfl rfl (ls0 := [some (.ref p0), some (ti p1), some (ti p2)]) rfl ?_
  refine GO.aload_n dX4_put_0 rfl rfl ?_
  refine GO.ifnull dX4_put_1 ?_
  refine GO.iload_n dX4_put_4 rfl rfl ?_
  refine GO.if_lt (tgt := 18) dX4_put_5 (by decide) r_p1 (fun c1 => ?_) (fun c1 => ?_)
  ·
    exact GO.retv rfl rfl dX4_put_18 ⟨rfl, rfl, ⟨trivial, (by first | exact rpv_in (by assumption) (by omega) (by omega) | exact rpv_out (by omega))⟩⟩
  ·
    refine GO.iload_n dX4_put_8 rfl rfl ?_
    refine GO.aload_n dX4_put_9 rfl rfl ?_
    refine GO.alen h_p0 dX4_put_10 (fun h2 => ?_)
    refine GO.icmp_ge (tgt := 18) dX4_put_11 (by decide) r_p1 ⟨by omega, by omega⟩ (fun c3 => ?_) (fun c3 => ?_)
    ·
      exact GO.retv rfl rfl dX4_put_18 ⟨rfl, rfl, ⟨trivial, (by first | exact rpv_in (by assumption) (by omega) (by omega) | exact rpv_out (by omega))⟩⟩
    ·
      refine GO.aload_n dX4_put_14 rfl rfl ?_
      refine GO.iload_n dX4_put_15 rfl rfl ?_
      refine GO.iload_n dX4_put_16 rfl rfl ?_
      have q4 : -2147483648 ≤ p1 ∧ p1 ≤ 2147483647 := r_p1
      refine GO.iast (t := 133) rfl rfl (by decide +kernel) h_p0 r_p1 (by omega) (by omega) r_p2 (r_p2).1 (r_p2).2 dX4_put_17 (fun V6 e5 => ?_)
      exact GO.retv rfl rfl dX4_put_18 ⟨rfl, rfl, ⟨trivial, (by first | exact rpv_in (by assumption) (by omega) (by omega) | exact rpv_out (by omega))⟩⟩

set_option maxHeartbeats 1000000 in
theorem t_X8_get_k33 {K : Kmap} {V : Vmap} {x : Nat} {p0 : Int} {p1 : Int} (h_x : K x = some (0, 33)) (r_p0 : ir p0) (r_p1 : ir p1) : MC mX8_get_k33 K V [.ref x, ti p0, ti p1] (IP K V (fun X => (X ≥ (-2147483648) ∧ X ≤ 2147483647) ∧ (TG K V x p0 p1 X))) := by
  refine MC.start 2 (by decide +kernel) rfl rfl rfl (ls0 := [some (.ref x), some (ti p0), some (ti p1), none, none]) rfl ?_
  refine GO.iload_n dX8_get_0 rfl rfl ?_
  refine GO.aload_n dX8_get_1 rfl rfl ?_
  refine GO.getI h_x fl_RX8_15_k33 rfl rfl dX8_get_2 (fun l1 u2 => ?_)
  refine GO.imul dX8_get_5 ?_
  refine GO.norm (fun z3 r4 hn5 => ?_)
  refine GO.iload_n dX8_get_6 rfl rfl ?_
  refine GO.iadd dX8_get_7 ?_
  refine GO.norm (fun z6 r7 hn8 => ?_)
  refine GO.istore_n (ls1 := [some (.ref x), some (ti p0), some (ti p1), some (ti z6), none]) dX8_get_8 rfl rfl rfl ?_
  refine GO.iload_n dX8_get_9 rfl rfl ?_
  refine GO.if_lt (tgt := 37) dX8_get_10 (by decide) r_p0 (fun c9 => ?_) (fun c9 => ?_)
  ·
    refine GO.iconst dX8_get_37 ?_
    refine GO.istore (ls1 := [some (.ref x), some (ti p0), some (ti p1), some (ti z6), some (ti 0)]) dX8_get_38 rfl rfl ?_
    refine GO.iload dX8_get_40 rfl ?_
    refine GO.if_eq (tgt := 67) dX8_get_42 (by decide) (ir_c rfl) (fun c10 => ?_) (fun h => by exfalso; omega)
    refine GO.iconst dX8_get_67 ?_
    exact GO.reti rfl rfl dX8_get_68 ⟨rfl, rfl, _, rfl, (ir_c rfl), ⟨(by first | exact trivial | omega), (by first | exact TG.in (by assumption) (by assumption) ⟨by omega, by omega, by omega, by omega⟩ | exact TG.out (by omega) rfl | exact TG.neg (by assumption) (by assumption) ⟨by omega, by omega, by omega, by omega⟩ (by omega) | exact TG.bad (by assumption) (by assumption) ⟨by omega, by omega, by omega, by omega⟩ (by assumption) (by omega))⟩⟩
  ·
    refine GO.iload_n dX8_get_13 rfl rfl ?_
    refine GO.aload_n dX8_get_14 rfl rfl ?_
    refine GO.getI h_x fl_RX8_9_k33 rfl rfl dX8_get_15 (fun l11 u12 => ?_)
    refine GO.icmp_ge (tgt := 37) dX8_get_18 (by decide) r_p0 vi_ir (fun c13 => ?_) (fun c13 => ?_)
    ·
      refine GO.iconst dX8_get_37 ?_
      refine GO.istore (ls1 := [some (.ref x), some (ti p0), some (ti p1), some (ti z6), some (ti 0)]) dX8_get_38 rfl rfl ?_
      refine GO.iload dX8_get_40 rfl ?_
      refine GO.if_eq (tgt := 67) dX8_get_42 (by decide) (ir_c rfl) (fun c14 => ?_) (fun h => by exfalso; omega)
      refine GO.iconst dX8_get_67 ?_
      exact GO.reti rfl rfl dX8_get_68 ⟨rfl, rfl, _, rfl, (ir_c rfl), ⟨(by first | exact trivial | omega), (by first | exact TG.in (by assumption) (by assumption) ⟨by omega, by omega, by omega, by omega⟩ | exact TG.out (by omega) rfl | exact TG.neg (by assumption) (by assumption) ⟨by omega, by omega, by omega, by omega⟩ (by omega) | exact TG.bad (by assumption) (by assumption) ⟨by omega, by omega, by omega, by omega⟩ (by assumption) (by omega))⟩⟩
    ·
      refine GO.iload_n dX8_get_21 rfl rfl ?_
      refine GO.if_lt (tgt := 37) dX8_get_22 (by decide) r_p1 (fun c15 => ?_) (fun c15 => ?_)
      ·
        refine GO.iconst dX8_get_37 ?_
        refine GO.istore (ls1 := [some (.ref x), some (ti p0), some (ti p1), some (ti z6), some (ti 0)]) dX8_get_38 rfl rfl ?_
        refine GO.iload dX8_get_40 rfl ?_
        refine GO.if_eq (tgt := 67) dX8_get_42 (by decide) (ir_c rfl) (fun c16 => ?_) (fun h => by exfalso; omega)
        refine GO.iconst dX8_get_67 ?_
        exact GO.reti rfl rfl dX8_get_68 ⟨rfl, rfl, _, rfl, (ir_c rfl), ⟨(by first | exact trivial | omega), (by first | exact TG.in (by assumption) (by assumption) ⟨by omega, by omega, by omega, by omega⟩ | exact TG.out (by omega) rfl | exact TG.neg (by assumption) (by assumption) ⟨by omega, by omega, by omega, by omega⟩ (by omega) | exact TG.bad (by assumption) (by assumption) ⟨by omega, by omega, by omega, by omega⟩ (by assumption) (by omega))⟩⟩
      ·
        refine GO.iload_n dX8_get_25 rfl rfl ?_
        refine GO.aload_n dX8_get_26 rfl rfl ?_
        refine GO.getI h_x fl_RX8_15_k33 rfl rfl dX8_get_27 (fun l17 u18 => ?_)
        refine GO.icmp_ge (tgt := 37) dX8_get_30 (by decide) r_p1 vi_ir (fun c19 => ?_) (fun c19 => ?_)
        ·
          refine GO.iconst dX8_get_37 ?_
          refine GO.istore (ls1 := [some (.ref x), some (ti p0), some (ti p1), some (ti z6), some (ti 0)]) dX8_get_38 rfl rfl ?_
          refine GO.iload dX8_get_40 rfl ?_
          refine GO.if_eq (tgt := 67) dX8_get_42 (by decide) (ir_c rfl) (fun c20 => ?_) (fun h => by exfalso; omega)
          refine GO.iconst dX8_get_67 ?_
          exact GO.reti rfl rfl dX8_get_68 ⟨rfl, rfl, _, rfl, (ir_c rfl), ⟨(by first | exact trivial | omega), (by first | exact TG.in (by assumption) (by assumption) ⟨by omega, by omega, by omega, by omega⟩ | exact TG.out (by omega) rfl | exact TG.neg (by assumption) (by assumption) ⟨by omega, by omega, by omega, by omega⟩ (by omega) | exact TG.bad (by assumption) (by assumption) ⟨by omega, by omega, by omega, by omega⟩ (by assumption) (by omega))⟩⟩
        ·
          refine GO.iconst dX8_get_33 ?_
          refine GO.goto (tgt := 38) dX8_get_34 (by decide) ?_
          refine GO.istore (ls1 := [some (.ref x), some (ti p0), some (ti p1), some (ti z6), some (ti 1)]) dX8_get_38 rfl rfl ?_
          refine GO.iload dX8_get_40 rfl ?_
          refine GO.if_eq (tgt := 67) dX8_get_42 (by decide) (ir_c rfl) (fun h => by exfalso; omega) (fun c21 => ?_)
          refine GO.iload_n dX8_get_45 rfl rfl ?_
          refine GO.if_lt (tgt := 67) dX8_get_46 (by decide) r7 (fun c22 => ?_) (fun c22 => ?_)
          ·
            refine GO.iconst dX8_get_67 ?_
            exact GO.reti rfl rfl dX8_get_68 ⟨rfl, rfl, _, rfl, (ir_c rfl), ⟨(by first | exact trivial | omega), (by first | exact TG.in (by assumption) (by assumption) ⟨by omega, by omega, by omega, by omega⟩ | exact TG.out (by omega) rfl | exact TG.neg (by assumption) (by assumption) ⟨by omega, by omega, by omega, by omega⟩ (by omega) | exact TG.bad (by assumption) (by assumption) ⟨by omega, by omega, by omega, by omega⟩ (by assumption) (by omega))⟩⟩
          ·
            refine GO.iload_n dX8_get_49 rfl rfl ?_
            refine GO.aload_n dX8_get_50 rfl rfl ?_
            refine GO.getB h_x fl_RX8_27_k33 rfl rfl dX8_get_51 (fun n25 hv24 h23 b26 => ?_)
            refine GO.alen h23 dX8_get_54 (fun h27 => ?_)
            refine GO.icmp_ge (tgt := 67) dX8_get_55 (by decide) r7 ⟨by omega, by omega⟩ (fun c28 => ?_) (fun c28 => ?_)
            ·
              refine GO.iconst dX8_get_67 ?_
              exact GO.reti rfl rfl dX8_get_68 ⟨rfl, rfl, _, rfl, (ir_c rfl), ⟨(by first | exact trivial | omega), (by first | exact TG.in (by assumption) (by assumption) ⟨by omega, by omega, by omega, by omega⟩ | exact TG.out (by omega) rfl | exact TG.neg (by assumption) (by assumption) ⟨by omega, by omega, by omega, by omega⟩ (by omega) | exact TG.bad (by assumption) (by assumption) ⟨by omega, by omega, by omega, by omega⟩ (by assumption) (by omega))⟩⟩
            ·
              refine GO.aload_n dX8_get_58 rfl rfl ?_
              refine GO.getRaw h_x fl_RX8_27_k33 hv24 dX8_get_59 ?_
              refine GO.iload_n dX8_get_62 rfl rfl ?_
              have q31 : -2147483648 ≤ z6 ∧ z6 ≤ 2147483647 := r7
              refine GO.iald (t := 155) rfl rfl h23 r7 (by omega) (by omega) dX8_get_63 (fun _ _ => ?_)
              refine GO.goto (tgt := 68) dX8_get_64 (by decide) ?_
              have q32 : -2147483648 ≤ vi V (vq V x 2) (z6).toNat ∧ vi V (vq V x 2) (z6).toNat ≤ 2147483647 := vi_ir
              exact GO.reti rfl rfl dX8_get_68 ⟨rfl, rfl, _, rfl, vi_ir, ⟨(by first | exact trivial | omega), (by first | exact TG.in (by assumption) (by assumption) ⟨by omega, by omega, by omega, by omega⟩ | exact TG.out (by omega) rfl | exact TG.neg (by assumption) (by assumption) ⟨by omega, by omega, by omega, by omega⟩ (by omega) | exact TG.bad (by assumption) (by assumption) ⟨by omega, by omega, by omega, by omega⟩ (by assumption) (by omega))⟩⟩

set_option maxHeartbeats 1000000 in
theorem t_X1_strike_k33 {K : Kmap} {V : Vmap} {x : Nat} {p0 : Int} {p1 : Nat} {p2 : Int} (h_x : K x = some (0, 1)) (r_p0 : ir p0) (h_p1 : K p1 = some (0, 33)) (r_p2 : ir p2) : MC mX1_strike_k33 K V [.ref x, ti p0, .ref p1, ti p2] (VS K (fun V1 => (True) ∧ (STR K V V1 x p1 p0 p2))) := by
  refine MC.start 3 (by decide +kernel) rfl rfl rfl (ls0 := [some (.ref x), some (ti p0), some (.ref p1), some (ti p2), none, none, none]) rfl ?_
  refine GO.iconst dX1_strike_0 ?_
  refine GO.istore (ls1 := [some (.ref x), some (ti p0), some (.ref p1), some (ti p2), some (ti 0), none, none]) dX1_strike_1 rfl rfl ?_
  refine GO.loop1 (fun i1 W => 0 ≤ i1 ∧ i1 ≤ 12 ∧ (STI K V W x p1 p0 p2 i1) ∧ True) (fun i1 => [some (.ref x), some (ti p0), some (.ref p1), some (ti p2), some (ti i1), none, none]) (fun i1 W => (2147483647 - i1).toNat) 0 ⟨by omega, by omega, STI.beg, trivial⟩ rfl (fun i1 Wi1 hp255 ih254 => ?_)
  obtain ⟨l_i1, u_i1, hst, -⟩ := hp255
  have r_i1 : ir i1 := ⟨by omega, by omega⟩
  show GO mX1_strike_k33 K V (VS K (fun V1 => (True) ∧ (STR K V V1 x p1 p0 p2))) K Wi1 0 0 3 [some (.ref x), some (ti p0), some (.ref p1), some (ti p2), some (ti i1), none, none] []
  refine GO.useFR (fun hFs => ?_)
  have hTB : ∀ l, TBT K V p1 l → TBT K Wi1 p1 l := fun l h => h.fr hFs (by decide +kernel)
  refine GO.iload dX1_strike_3 rfl ?_
  refine GO.aload_n dX1_strike_5 rfl rfl ?_
  refine GO.getI h_p1 fl_RX1_105_k33 rfl rfl dX1_strike_6 (fun l256 u257 => ?_)
  refine GO.icmp_ge (tgt := 86) dX1_strike_9 (by decide) r_i1 vi_ir (fun c258 => ?_) (fun c258 => ?_)
  ·
    have cc9 := c258
    exact GO.retv rfl rfl dX1_strike_86 ⟨rfl, rfl, ⟨trivial, STI.end hst hTB (by omega)⟩⟩
  ·
    have cc9 := c258
    refine GO.aload_n dX1_strike_12 rfl rfl ?_
    refine GO.iload dX1_strike_13 rfl ?_
    refine GO.iconst dX1_strike_15 ?_
    refine GO.callV (ci := 33) (N := mX8_get_k33) dX1_strike_16 (RX8, TX8, 4) rfl gV_RX1_116 h_p1 (t_X8_get_k33 h_p1 r_i1 (ir_c rfl)) rfl [] rfl rfl (Nat.le_of_ble_eq_true rfl) rfl (k_ip fun X259 r260 h261 => ?_)
    have raw_get := h261.2
    have rw16 := h261.2
    refine GO.istore (ls1 := [some (.ref x), some (ti p0), some (.ref p1), some (ti p2), some (ti i1), some (ti X259), none]) dX1_strike_19 rfl rfl ?_
    refine GO.iload_n dX1_strike_21 rfl rfl ?_
    refine GO.iload dX1_strike_22 rfl ?_
    refine GO.ishr dX1_strike_24 ?_
    refine GO.iconst dX1_strike_25 ?_
    refine GO.iand dX1_strike_26 ?_
    refine GO.if_eq (tgt := 80) dX1_strike_27 (by decide) wand_ir (fun c262 => ?_) (fun c262 => ?_)
    ·
      have cc27 := c262
      refine GO.iinc (X := i1) (n := 1) (Y := i1 + 1) (ls1 := [some (.ref x), some (ti p0), some (.ref p1), some (ti p2), some (ti (i1 + 1)), some (ti X259), none]) dX1_strike_80 rfl rfl rfl rfl ?_
      refine GO.goto (tgt := 3) dX1_strike_83 (by decide) ?_
      refine GO.drop [true, true, true, true, true, false, true] rfl ?_
      exact ih254 (i1 + 1) Wi1 ⟨by omega, by omega, STI.n1 hst (by omega) (by omega) cc27 (by omega), trivial⟩ (by show (2147483647 - (i1 + 1)).toNat < (2147483647 - i1).toNat; omega)
    ·
      have cc27 := c262
      refine GO.aload_n dX1_strike_30 rfl rfl ?_
      refine GO.iload dX1_strike_31 rfl ?_
      refine GO.iconst dX1_strike_33 ?_
      refine GO.callV (ci := 33) (N := mX8_get_k33) dX1_strike_34 (RX8, TX8, 4) rfl gV_RX1_116 h_p1 (t_X8_get_k33 h_p1 r_i1 (ir_c rfl)) rfl [] rfl rfl (Nat.le_of_ble_eq_true rfl) rfl (k_ip fun X263 r264 h265 => ?_)
      have raw_get := h265.2
      have rw34 := h265.2
      refine GO.bipush dX1_strike_37 rfl ?_
      refine GO.icmp_ne (tgt := 80) dX1_strike_39 (by decide) r264 (ir_c rfl) (fun c266 => ?_) (fun c266 => ?_)
      ·
        have cc39 := c266
        refine GO.iinc (X := i1) (n := 1) (Y := i1 + 1) (ls1 := [some (.ref x), some (ti p0), some (.ref p1), some (ti p2), some (ti (i1 + 1)), some (ti X259), none]) dX1_strike_80 rfl rfl rfl rfl ?_
        refine GO.goto (tgt := 3) dX1_strike_83 (by decide) ?_
        refine GO.drop [true, true, true, true, true, false, true] rfl ?_
        exact ih254 (i1 + 1) Wi1 ⟨by omega, by omega, STI.n2 hst (by omega) hTB rw34 cc39 (by omega), trivial⟩ (by show (2147483647 - (i1 + 1)).toNat < (2147483647 - i1).toNat; omega)
      ·
        have cc39 := c266
        refine GO.iload dX1_strike_42 rfl ?_
        refine GO.iload_n dX1_strike_44 rfl rfl ?_
        refine GO.icmp_ge (tgt := 80) dX1_strike_45 (by decide) r260 r_p0 (fun c267 => ?_) (fun c267 => ?_)
        ·
          have cc45 := c267
          refine GO.iinc (X := i1) (n := 1) (Y := i1 + 1) (ls1 := [some (.ref x), some (ti p0), some (.ref p1), some (ti p2), some (ti (i1 + 1)), some (ti X259), none]) dX1_strike_80 rfl rfl rfl rfl ?_
          refine GO.goto (tgt := 3) dX1_strike_83 (by decide) ?_
          refine GO.drop [true, true, true, true, true, false, true] rfl ?_
          exact ih254 (i1 + 1) Wi1 ⟨by omega, by omega, STI.n3 hst (by omega) hTB rw16 cc45 (by omega), trivial⟩ (by show (2147483647 - (i1 + 1)).toNat < (2147483647 - i1).toNat; omega)
        ·
          have cc45 := c267
          refine GO.iconst dX1_strike_48 ?_
          refine GO.aload_n dX1_strike_49 rfl rfl ?_
          refine GO.iload dX1_strike_50 rfl ?_
          refine GO.iconst dX1_strike_52 ?_
          refine GO.callV (ci := 33) (N := mX8_get_k33) dX1_strike_53 (RX8, TX8, 4) rfl gV_RX1_116 h_p1 (t_X8_get_k33 h_p1 r_i1 (ir_c rfl)) rfl [ti 1] rfl rfl (Nat.le_of_ble_eq_true rfl) rfl (k_ip fun X268 r269 h270 => ?_)
          have raw_get := h270.2
          have rw53 := h270.2
          refine GO.ishl dX1_strike_56 ?_
          refine GO.name (fun z271 hz272 => ?_)
          have r273 : ir z271 := hz272 ▸ wshl_ir
          refine GO.istore (ls1 := [some (.ref x), some (ti p0), some (.ref p1), some (ti p2), some (ti i1), some (ti X259), some (ti z271)]) dX1_strike_57 rfl rfl ?_
          refine GO.aload_n dX1_strike_59 rfl rfl ?_
          refine GO.getA (n := 20) h_x fl_RX1_37 rfl rfl rfl rfl dX1_strike_60 (fun hv275 h274 => ?_)
          refine GO.iload dX1_strike_63 rfl ?_
          refine GO.aload_n dX1_strike_65 rfl rfl ?_
          refine GO.getRaw h_x fl_RX1_37 hv275 dX1_strike_66 ?_
          refine GO.iload dX1_strike_69 rfl ?_
          refine GO.callS (N := mX4_get) dX1_strike_71 gS_RX1_88 (t_X4_get rfl h274 r260) rfl [ti X259, .ref (vq Wi1 x 5)] rfl rfl (Nat.le_of_ble_eq_true rfl) rfl (k_ip fun X278 r279 h280 => ?_)
          have raw_get := h280.2
          have rw71 := h280.2
          refine GO.iload dX1_strike_74 rfl ?_
          refine GO.ior dX1_strike_76 ?_
          refine GO.callS (N := mX4_put_t134) dX1_strike_77 gS_RX1_108 (t_X4_put_t134 h274 r260 wor_ir) rfl [] rfl rfl (Nat.le_of_ble_eq_true rfl) rfl (k_vs fun V283 h282 hF281 => ?_)
          have raw_put := h282.2
          have rw77 := h282.2
          refine GO.iinc (X := i1) (n := 1) (Y := i1 + 1) (ls1 := [some (.ref x), some (ti p0), some (.ref p1), some (ti p2), some (ti (i1 + 1)), some (ti X259), some (ti z271)]) dX1_strike_80 rfl rfl rfl rfl ?_
          refine GO.goto (tgt := 3) dX1_strike_83 (by decide) ?_
          refine GO.drop [true, true, true, true, true, false, false] rfl ?_
          exact ih254 (i1 + 1) V283 ⟨by omega, by omega, STI.hit hst (by omega) hTB (by omega) rw16 rw34 cc39 rw53 cc27 cc45 (by assumption) rw71 rw77 (K_ne h_x (by assumption) (by simp)) (by omega), trivial⟩ (by show (2147483647 - (i1 + 1)).toNat < (2147483647 - i1).toNat; omega)

set_option maxHeartbeats 1000000 in
theorem t_X1_weighTexts {K : Kmap} {V : Vmap} {x : Nat} {p0 : Int} {p1 : Int} (h_x : K x = some (0, 1)) (r_p0 : ir p0) (r_p1 : ir p1) : MC mX1_weighTexts K V [.ref x, ti p0, ti p1] (VS K (fun V1 => (True) ∧ (WTC K V V1 x p0 p1))) := by
  refine MC.start 4 (by decide +kernel) rfl rfl rfl (ls0 := [some (.ref x), some (ti p0), some (ti p1), none, none, none, none]) rfl ?_
  refine GO.useWT (fun hW_0 => ?_)
  refine GO.aload_n dX1_weighTexts_0 rfl rfl ?_
  refine GO.getA (n := 20) h_x fl_RX1_33 rfl rfl rfl rfl dX1_weighTexts_1 (fun hv2 h1 => ?_)
  refine GO.iconst dX1_weighTexts_4 ?_
  refine GO.callS (N := mX4_fill_t133) dX1_weighTexts_5 gS_RX1_98 (t_X4_fill_t133 h1 (ir_c rfl)) rfl [] rfl rfl (Nat.le_of_ble_eq_true rfl) rfl (k_vs fun V5 h4 hF3 => ?_)
  have raw_fill := h4.2
  have rw5 := h4.2
  refine GO.aload_n dX1_weighTexts_8 rfl rfl ?_
  refine GO.getA (n := 20) h_x fl_RX1_37 rfl rfl rfl rfl dX1_weighTexts_9 (fun hv7 h6 => ?_)
  refine GO.iconst dX1_weighTexts_12 ?_
  refine GO.callS (N := mX4_fill_t134) dX1_weighTexts_13 gS_RX1_98 (t_X4_fill_t134 h6 (ir_c rfl)) rfl [] rfl rfl (Nat.le_of_ble_eq_true rfl) rfl (k_vs fun V10 h9 hF8 => ?_)
  have raw_fill := h9.2
  have rw13 := h9.2
  refine GO.iload_n dX1_weighTexts_16 rfl rfl ?_
  refine GO.iconst dX1_weighTexts_17 ?_
  refine GO.isub dX1_weighTexts_18 ?_
  refine GO.norm (fun z11 r12 hn13 => ?_)
  refine GO.istore_n (ls1 := [some (.ref x), some (ti p0), some (ti p1), some (ti z11), none, none, none]) dX1_weighTexts_19 rfl rfl rfl ?_
  have q48 : -2147483648 ≤ z11 ∧ z11 ≤ 2147483647 := r12
  refine GO.loop1 (fun i14 W => (-2147483648) ≤ i14 ∧ i14 ≤ 2147483647 ∧ (WTI K V W x p0 p1 i14) ∧ True) (fun i14 => [some (.ref x), some (ti p0), some (ti p1), some (ti i14), none, none, none]) (fun i14 W => (i14 + 2147483648).toNat) z11 ⟨by omega, by omega, (by first | exact WTI.beg rw5 rw13 h_x (by assumption) (by assumption) (by assumption)), trivial⟩ rfl (fun i14 Wi14 hp50 ih49 => ?_)
  obtain ⟨l_i14, u_i14, hwt, -⟩ := hp50
  have r_i14 : ir i14 := ⟨by omega, by omega⟩
  show GO mX1_weighTexts K V (VS K (fun V1 => (True) ∧ (WTC K V V1 x p0 p1))) K Wi14 0 0 20 [some (.ref x), some (ti p0), some (ti p1), some (ti i14), none, none, none] []
  refine GO.useFR (fun hFs => ?_)
  have hCT : ∀ L, CTL K V x L → CTL K Wi14 x L := fun L h => h.fr hFs h_x hW_0 (by decide +kernel)
  refine GO.useWT (fun hWh => ?_)
  have hl20 := (hWh.int h_x (j := 1) (Nat.le_of_ble_eq_true rfl) rfl).2
  refine GO.iload_n dX1_weighTexts_20 rfl rfl ?_
  refine GO.if_lt (tgt := 104) dX1_weighTexts_21 (by decide) r_i14 (fun c51 => ?_) (fun c51 => ?_)
  ·
    have cc21 := c51
    exact GO.retv rfl rfl dX1_weighTexts_104 ⟨rfl, rfl, ⟨trivial, WTI.end hwt (by omega)⟩⟩
  ·
    have cc21 := c51
    refine GO.aload_n dX1_weighTexts_24 rfl rfl ?_
    refine GO.iload_n dX1_weighTexts_25 rfl rfl ?_
    refine GO.callV (ci := 1) (N := mX1_textOf) dX1_weighTexts_26 (RX1, TX1, 13) rfl gV_RX1_75 h_x (t_X1_textOf h_x r_i14) rfl [] rfl rfl (Nat.le_of_ble_eq_true rfl) rfl (k_rp (fun h54 => ?_) (fun o52 h53 h54 => ?_))
    ·
      have rwn26 := h54.2
      have hn55 : TNL Wi14 x → i14 < 0 ∨ vi Wi14 x 1 ≤ i14 := h54.2
      refine GO.astoreN (ls1 := [some (.ref x), some (ti p0), some (ti p1), some (ti i14), some (.null), none, none]) dX1_weighTexts_29 rfl rfl ?_
      refine GO.aloadN dX1_weighTexts_31 rfl ?_
      refine GO.ifnullN (tgt := 98) dX1_weighTexts_33 (by decide) ?_
      refine GO.iinc (X := i14) (n := (-1)) (Y := i14 + (-1)) (ls1 := [some (.ref x), some (ti p0), some (ti p1), some (ti (i14 + (-1))), some (.null), none, none]) dX1_weighTexts_98 rfl rfl rfl rfl ?_
      refine GO.goto (tgt := 20) dX1_weighTexts_101 (by decide) ?_
      refine GO.drop [true, true, true, true, false, true, true] rfl ?_
      exact ih49 (i14 + (-1)) Wi14 ⟨by omega, by omega, (by first | exact WTI.beg rw5 rw13 h_x (by assumption) (by assumption) (by assumption) | exact WTI.nul hwt hCT rwn26 (by omega)), trivial⟩ (by show ((i14 + (-1)) + 2147483648).toNat < (i14 + 2147483648).toNat; omega)
    ·
      have hp56 : i14 ≥ 0 ∧ i14 < vi Wi14 x 1 := h54.1
      have rwp26 := h54.2
      have hq57 : o52 = vq Wi14 (vq Wi14 x 0) (i14).toNat := h54.2
      refine GO.astore (ls1 := [some (.ref x), some (ti p0), some (ti p1), some (ti i14), some (.ref o52), none, none]) dX1_weighTexts_29 rfl rfl ?_
      refine GO.aload dX1_weighTexts_31 rfl ?_
      refine GO.ifnull dX1_weighTexts_33 ?_
      refine GO.iload_n dX1_weighTexts_36 rfl rfl ?_
      refine GO.iload_n dX1_weighTexts_37 rfl rfl ?_
      refine GO.ishr dX1_weighTexts_38 ?_
      refine GO.iconst dX1_weighTexts_39 ?_
      refine GO.iand dX1_weighTexts_40 ?_
      refine GO.if_ne (tgt := 47) dX1_weighTexts_41 (by decide) wand_ir (fun c58 => ?_) (fun c58 => ?_)
      ·
        have cc41 := c58
        refine GO.iconst dX1_weighTexts_47 ?_
        refine GO.aload dX1_weighTexts_48 rfl ?_
        refine GO.getR h53 fl_RX1_102 rfl rfl dX1_weighTexts_50 (fun hv60 h59 => ?_)
        refine GO.getI h59 fl_RX1_105_k33 rfl rfl dX1_weighTexts_53 (fun l61 u62 => ?_)
        refine GO.ishl dX1_weighTexts_56 ?_
        refine GO.iconst dX1_weighTexts_57 ?_
        refine GO.isub dX1_weighTexts_58 ?_
        refine GO.norm (fun z63 r64 hn65 => ?_)
        refine GO.istore (ls1 := [some (.ref x), some (ti p0), some (ti p1), some (ti i14), some (.ref o52), some (ti z63), none]) dX1_weighTexts_59 rfl rfl ?_
        refine GO.iload dX1_weighTexts_61 rfl ?_
        refine GO.aload_n dX1_weighTexts_63 rfl rfl ?_
        refine GO.getA (n := 20) h_x fl_RX1_37 rfl rfl rfl rfl dX1_weighTexts_64 (fun hv67 h66 => ?_)
        refine GO.iload_n dX1_weighTexts_67 rfl rfl ?_
        refine GO.callS (N := mX4_get) dX1_weighTexts_68 gS_RX1_88 (t_X4_get rfl h66 r_i14) rfl [ti z63] rfl rfl (Nat.le_of_ble_eq_true rfl) rfl (k_ip fun X68 r69 h70 => ?_)
        have raw_get := h70.2
        have rw68 := h70.2
        refine GO.iconst dX1_weighTexts_71 ?_
        refine GO.ixor dX1_weighTexts_72 ?_
        refine GO.iand dX1_weighTexts_73 ?_
        refine GO.name (fun z71 hz72 => ?_)
        have r73 : ir z71 := hz72 ▸ wand_ir
        refine GO.istore (ls1 := [some (.ref x), some (ti p0), some (ti p1), some (ti i14), some (.ref o52), some (ti z63), some (ti z71)]) dX1_weighTexts_74 rfl rfl ?_
        refine GO.aload_n dX1_weighTexts_76 rfl rfl ?_
        refine GO.getA (n := 20) h_x fl_RX1_33 rfl rfl rfl rfl dX1_weighTexts_77 (fun hv75 h74 => ?_)
        refine GO.iload_n dX1_weighTexts_80 rfl rfl ?_
        refine GO.iload dX1_weighTexts_81 rfl ?_
        refine GO.callS (N := mX4_put_t133) dX1_weighTexts_83 gS_RX1_108 (t_X4_put_t133 h74 r_i14 r73) rfl [] rfl rfl (Nat.le_of_ble_eq_true rfl) rfl (k_vs fun V78 h77 hF76 => ?_)
        have raw_put := h77.2
        have rw83 := h77.2
        refine GO.aload_n dX1_weighTexts_86 rfl rfl ?_
        refine GO.iload_n dX1_weighTexts_87 rfl rfl ?_
        refine GO.aload dX1_weighTexts_88 rfl ?_
        refine GO.getR h53 fl_RX1_102 rfl rfl dX1_weighTexts_90 (fun hv80 h79 => ?_)
        refine GO.iload dX1_weighTexts_93 rfl ?_
        refine GO.callV (ci := 1) (N := mX1_strike_k33) dX1_weighTexts_95 (RX1, TX1, 13) rfl gV_RX1_112 h_x (t_X1_strike_k33 h_x r_i14 h79 r73) rfl [] rfl rfl (Nat.le_of_ble_eq_true rfl) rfl (k_vs fun V83 h82 hF81 => ?_)
        have raw_strike := h82.2
        have rw95 := h82.2
        refine GO.iinc (X := i14) (n := (-1)) (Y := i14 + (-1)) (ls1 := [some (.ref x), some (ti p0), some (ti p1), some (ti (i14 + (-1))), some (.ref o52), some (ti z63), some (ti z71)]) dX1_weighTexts_98 rfl rfl rfl rfl ?_
        refine GO.goto (tgt := 20) dX1_weighTexts_101 (by decide) ?_
        refine GO.drop [true, true, true, true, false, false, false] rfl ?_
        have q84 : -2147483648 ≤ vi Wi14 x 1 ∧ vi Wi14 x 1 ≤ 2147483647 := vi_ir
        exact ih49 (i14 + (-1)) V83 ⟨by omega, by omega, (by first | exact WTI.beg rw5 rw13 h_x (by assumption) (by assumption) (by assumption) | exact WTI.off hwt hCT (by omega) (by omega) cc41 (by omega) | exact WTI.on hwt hCT h_x hWh (by omega) (by omega) cc41 rwp26 (by assumption) rw68 (by assumption) rw83 rw95 hF81 (by decide +kernel) (by omega)), trivial⟩ (by show ((i14 + (-1)) + 2147483648).toNat < (i14 + 2147483648).toNat; omega)
      ·
        have cc41 := c58
        refine GO.goto (tgt := 98) dX1_weighTexts_44 (by decide) ?_
        refine GO.iinc (X := i14) (n := (-1)) (Y := i14 + (-1)) (ls1 := [some (.ref x), some (ti p0), some (ti p1), some (ti (i14 + (-1))), some (.ref o52), none, none]) dX1_weighTexts_98 rfl rfl rfl rfl ?_
        refine GO.goto (tgt := 20) dX1_weighTexts_101 (by decide) ?_
        refine GO.drop [true, true, true, true, false, true, true] rfl ?_
        have q85 : -2147483648 ≤ vi Wi14 x 1 ∧ vi Wi14 x 1 ≤ 2147483647 := vi_ir
        exact ih49 (i14 + (-1)) Wi14 ⟨by omega, by omega, (by first | exact WTI.beg rw5 rw13 h_x (by assumption) (by assumption) (by assumption) | exact WTI.off hwt hCT (by omega) (by omega) cc41 (by omega)), trivial⟩ (by show ((i14 + (-1)) + 2147483648).toNat < (i14 + 2147483648).toNat; omega)

set_option maxHeartbeats 1000000 in
theorem t_X9_letterOf {K : Kmap} {V : Vmap} {x : Nat} {p0 : Int} (h_x : K x = some (0, 8)) (r_p0 : ir p0) : MC mX9_letterOf K V [.ref x, ti p0] (IP K V (fun X => (X ≥ (-2147483648) ∧ X ≤ 2147483647) ∧ (TG K V (vq V x 2) p0 0 X))) := by
  refine MC.start 0 (by decide +kernel) rfl rfl rfl (ls0 := [some (.ref x), some (ti p0)]) rfl ?_
  refine GO.aload_n dX9_letterOf_0 rfl rfl ?_
  refine GO.getR h_x fl_RX9_26 rfl rfl dX9_letterOf_1 (fun hv2 h1 => ?_)
  refine GO.iload_n dX9_letterOf_4 rfl rfl ?_
  refine GO.iconst dX9_letterOf_5 ?_
  refine GO.callV (ci := 33) (N := mX8_get_k33) dX9_letterOf_6 (RX8, TX8, 4) rfl gV_RX9_40 h1 (t_X8_get_k33 h1 r_p0 (ir_c rfl)) rfl [] rfl rfl (Nat.le_of_ble_eq_true rfl) rfl (k_ip fun X3 r4 h5 => ?_)
  have raw_get := h5.2
  have rw6 := h5.2
  exact GO.reti rfl rfl dX9_letterOf_9 ⟨rfl, rfl, _, rfl, r4, ⟨(by first | exact trivial | omega), rw6⟩⟩

set_option maxHeartbeats 1000000 in
theorem t_X1_isCounting {K : Kmap} {V : Vmap} {x : Nat} {p0 : Int} {p1 : Int} (h_x : K x = some (0, 1)) (r_p0 : ir p0) (r_p1 : ir p1) : MC mX1_isCounting K V [.ref x, ti p0, ti p1] (IP K V (fun X => (X = 0 ∨ X = 1) ∧ (X ≠ 0 → True) ∧ (X = 0 → True) ∧ (ISK V x p0 p1 X))) := by
  refine MC.start 0 (by decide +kernel) rfl rfl rfl (ls0 := [some (.ref x), some (ti p0), some (ti p1)]) rfl ?_
  refine GO.aload_n dX1_isCounting_0 rfl rfl ?_
  refine GO.getA (n := 20) h_x fl_RX1_33 rfl rfl rfl rfl dX1_isCounting_1 (fun hv2 h1 => ?_)
  refine GO.iload_n dX1_isCounting_4 rfl rfl ?_
  refine GO.callS (N := mX4_get) dX1_isCounting_5 gS_RX1_88 (t_X4_get rfl h1 r_p0) rfl [] rfl rfl (Nat.le_of_ble_eq_true rfl) rfl (k_ip fun X3 r4 h5 => ?_)
  have raw_get := h5.2
  have rw5 := h5.2
  refine GO.iload_n dX1_isCounting_8 rfl rfl ?_
  refine GO.ishr dX1_isCounting_9 ?_
  refine GO.iconst dX1_isCounting_10 ?_
  refine GO.iand dX1_isCounting_11 ?_
  refine GO.if_eq (tgt := 19) dX1_isCounting_12 (by decide) wand_ir (fun c6 => ?_) (fun c6 => ?_)
  ·
    refine GO.iconst dX1_isCounting_19 ?_
    exact GO.retz rfl rfl dX1_isCounting_20 (Or.inl rfl) ⟨rfl, rfl, _, rfl, (ir_c rfl), ⟨Or.inl rfl, fun _ => trivial, fun _ => trivial, ISK.mk rw5 (by constructor <;> intro _ <;> omega)⟩⟩
  ·
    refine GO.iconst dX1_isCounting_15 ?_
    refine GO.goto (tgt := 20) dX1_isCounting_16 (by decide) ?_
    exact GO.retz rfl rfl dX1_isCounting_20 (Or.inr rfl) ⟨rfl, rfl, _, rfl, (ir_c rfl), ⟨Or.inr rfl, fun _ => trivial, fun _ => trivial, ISK.mk rw5 (by constructor <;> intro _ <;> omega)⟩⟩

set_option maxHeartbeats 1000000 in
theorem t_X1_numberOf {K : Kmap} {V : Vmap} {x : Nat} {p0 : Int} {p1 : Int} {p2 : Int} (h_x : K x = some (0, 1)) (r_p0 : ir p0) (r_p1 : ir p1) (r_p2 : ir p2) : MC mX1_numberOf K V [.ref x, ti p0, ti p1, ti p2] (IP K V (fun X => (X ≥ (-2147483648) ∧ X ≤ 2147483647) ∧ (NMO K V x p0 p1 p2 X))) := by
  refine MC.start 4 (by decide +kernel) rfl rfl rfl (ls0 := [some (.ref x), some (ti p0), some (ti p1), some (ti p2), none, none, none, none]) rfl ?_
  refine GO.aload_n dX1_numberOf_0 rfl rfl ?_
  refine GO.getI h_x fl_RX1_17 rfl rfl dX1_numberOf_1 (fun l1 u2 => ?_)
  refine GO.iconst dX1_numberOf_4 ?_
  refine GO.isub dX1_numberOf_5 ?_
  refine GO.name (fun z3 hz4 => ?_)
  refine GO.istore (ls1 := [some (.ref x), some (ti p0), some (ti p1), some (ti p2), some (ti z3), none, none, none]) dX1_numberOf_6 rfl rfl ?_
  refine GO.loop1 (fun i5 W => (-1) ≤ i5 ∧ i5 ≤ 19 ∧ (NOI K V x p0 p1 p2 i5) ∧ V = W) (fun i5 => [some (.ref x), some (ti p0), some (ti p1), some (ti p2), some (ti i5), none, none, none]) (fun i5 W => (i5 + 2147483648).toNat) z3 ⟨by omega, by omega, (by first | exact NOI.beg (by assumption)), rfl⟩ rfl (fun i5 V133 hp135 ih134 => ?_)
  obtain ⟨l_i5, u_i5, hno, rfl⟩ := hp135
  have r_i5 : ir i5 := ⟨by omega, by omega⟩
  show GO mX1_numberOf K V (IP K V (fun X => (X ≥ (-2147483648) ∧ X ≤ 2147483647) ∧ (NMO K V x p0 p1 p2 X))) K V 0 0 8 [some (.ref x), some (ti p0), some (ti p1), some (ti p2), some (ti i5), none, none, none] []
  refine GO.iload dX1_numberOf_8 rfl ?_
  refine GO.if_lt (tgt := 152) dX1_numberOf_10 (by decide) r_i5 (fun c136 => ?_) (fun c136 => ?_)
  ·
    refine GO.iconst dX1_numberOf_152 ?_
    exact GO.reti rfl rfl dX1_numberOf_153 ⟨rfl, rfl, _, rfl, (ir_c rfl), ⟨(by first | exact trivial | omega), (by first | exact NMO.none hno (by omega) rfl)⟩⟩
  ·
    refine GO.aload_n dX1_numberOf_13 rfl rfl ?_
    refine GO.iload dX1_numberOf_14 rfl ?_
    refine GO.callV (ci := 1) (N := mX1_textOf) dX1_numberOf_16 (RX1, TX1, 13) rfl gV_RX1_75 h_x (t_X1_textOf h_x r_i5) rfl [] rfl rfl (Nat.le_of_ble_eq_true rfl) rfl (k_rp (fun h139 => ?_) (fun o137 h138 h139 => ?_))
    ·
      have rwn16 := h139.2
      have hn140 : TNL V x → i5 < 0 ∨ vi V x 1 ≤ i5 := h139.2
      refine GO.astoreN (ls1 := [some (.ref x), some (ti p0), some (ti p1), some (ti p2), some (ti i5), some (.null), none, none]) dX1_numberOf_19 rfl rfl ?_
      refine GO.aloadN dX1_numberOf_21 rfl ?_
      refine GO.ifnullN (tgt := 146) dX1_numberOf_23 (by decide) ?_
      refine GO.iinc (X := i5) (n := (-1)) (Y := i5 + (-1)) (ls1 := [some (.ref x), some (ti p0), some (ti p1), some (ti p2), some (ti (i5 + (-1))), some (.null), none, none]) dX1_numberOf_146 rfl rfl rfl rfl ?_
      refine GO.goto (tgt := 8) dX1_numberOf_149 (by decide) ?_
      refine GO.drop [true, true, true, true, true, false, true, true] rfl ?_
      exact ih134 (i5 + (-1)) V ⟨by omega, by omega, (by first | exact NOI.beg (by assumption) | exact NOI.nul hno rwn16 (by omega) (by omega)), rfl⟩ (by show ((i5 + (-1)) + 2147483648).toNat < (i5 + 2147483648).toNat; omega)
    ·
      have hp141 : i5 ≥ 0 ∧ i5 < vi V x 1 := h139.1
      have rwp16 := h139.2
      have hq142 : o137 = vq V (vq V x 0) (i5).toNat := h139.2
      refine GO.astore (ls1 := [some (.ref x), some (ti p0), some (ti p1), some (ti p2), some (ti i5), some (.ref o137), none, none]) dX1_numberOf_19 rfl rfl ?_
      refine GO.aload dX1_numberOf_21 rfl ?_
      refine GO.ifnull dX1_numberOf_23 ?_
      refine GO.aload_n dX1_numberOf_26 rfl rfl ?_
      refine GO.getA (n := 20) h_x fl_RX1_33 rfl rfl rfl rfl dX1_numberOf_27 (fun hv144 h143 => ?_)
      refine GO.iload dX1_numberOf_30 rfl ?_
      refine GO.callS (N := mX4_get) dX1_numberOf_32 gS_RX1_88 (t_X4_get rfl h143 r_i5) rfl [] rfl rfl (Nat.le_of_ble_eq_true rfl) rfl (k_ip fun X145 r146 h147 => ?_)
      have raw_get := h147.2
      have rw32 := h147.2
      refine GO.if_ne (tgt := 41) dX1_numberOf_35 (by decide) r146 (fun c148 => ?_) (fun c148 => ?_)
      ·
        refine GO.aload dX1_numberOf_41 rfl ?_
        refine GO.getR h138 fl_RX1_102 rfl rfl dX1_numberOf_43 (fun hv150 h149 => ?_)
        refine GO.getI h149 fl_RX1_105_k33 rfl rfl dX1_numberOf_46 (fun l151 u152 => ?_)
        refine GO.iconst dX1_numberOf_49 ?_
        refine GO.isub dX1_numberOf_50 ?_
        refine GO.name (fun z153 hz154 => ?_)
        refine GO.istore (ls1 := [some (.ref x), some (ti p0), some (ti p1), some (ti p2), some (ti i5), some (.ref o137), some (ti z153), none]) dX1_numberOf_51 rfl rfl ?_
        refine GO.loop1 (fun i155 W => (-1) ≤ i155 ∧ i155 ≤ 11 ∧ (NII K V x p0 p1 p2 i5 i155) ∧ V = W) (fun i155 => [some (.ref x), some (ti p0), some (ti p1), some (ti p2), some (ti i5), some (.ref o137), some (ti i155), none]) (fun i155 W => (i155 + 2147483648).toNat) z153 ⟨by omega, by omega, (by first | exact NII.beg (by omega) (by omega) rwp16 (by assumption)), rfl⟩ rfl (fun i155 V208 hp210 ih209 => ?_)
        obtain ⟨l_i155, u_i155, hni, rfl⟩ := hp210
        have r_i155 : ir i155 := ⟨by omega, by omega⟩
        show GO mX1_numberOf K V (IP K V (fun X => (X ≥ (-2147483648) ∧ X ≤ 2147483647) ∧ (NMO K V x p0 p1 p2 X))) K V 0 0 53 [some (.ref x), some (ti p0), some (ti p1), some (ti p2), some (ti i5), some (.ref o137), some (ti i155), none] []
        refine GO.iload dX1_numberOf_53 rfl ?_
        refine GO.if_lt (tgt := 146) dX1_numberOf_55 (by decide) r_i155 (fun c211 => ?_) (fun c211 => ?_)
        ·
          refine GO.iinc (X := i5) (n := (-1)) (Y := i5 + (-1)) (ls1 := [some (.ref x), some (ti p0), some (ti p1), some (ti p2), some (ti (i5 + (-1))), some (.ref o137), some (ti i155), none]) dX1_numberOf_146 rfl rfl rfl rfl ?_
          refine GO.goto (tgt := 8) dX1_numberOf_149 (by decide) ?_
          refine GO.drop [true, true, true, true, true, false, false, true] rfl ?_
          exact ih134 (i5 + (-1)) V ⟨by omega, by omega, (by first | exact NOI.beg (by assumption) | exact NOI.step hno hni (by omega) (by omega) (by omega) | exact NOI.skip hno (by omega) (by omega) rw32 (by omega) (by omega)), rfl⟩ (by show ((i5 + (-1)) + 2147483648).toNat < (i5 + 2147483648).toNat; omega)
        ·
          refine GO.iload_n dX1_numberOf_58 rfl rfl ?_
          refine GO.bipush dX1_numberOf_59 rfl ?_
          refine GO.icmp_ne (tgt := 98) dX1_numberOf_61 (by decide) r_p0 (ir_c rfl) (fun c212 => ?_) (fun c212 => ?_)
          ·
            refine GO.iconst dX1_numberOf_98 ?_
            refine GO.istore (ls1 := [some (.ref x), some (ti p0), some (ti p1), some (ti p2), some (ti i5), some (.ref o137), some (ti i155), some (ti 0)]) dX1_numberOf_99 rfl rfl ?_
            refine GO.aload dX1_numberOf_101 rfl ?_
            refine GO.iload dX1_numberOf_103 rfl ?_
            refine GO.callV (ci := 8) (N := mX9_letterOf) dX1_numberOf_105 (RX9, TX9, 5) rfl gV_RX1_119 h138 (t_X9_letterOf h138 r_i155) rfl [] rfl rfl (Nat.le_of_ble_eq_true rfl) rfl (k_ip fun X213 r214 h215 => ?_)
            have raw_letterOf := h215.2
            have rw105 := h215.2
            refine GO.iload_n dX1_numberOf_108 rfl rfl ?_
            refine GO.icmp_ne (tgt := 140) dX1_numberOf_109 (by decide) r214 r_p0 (fun c216 => ?_) (fun c216 => ?_)
            ·
              refine GO.iinc (X := i155) (n := (-1)) (Y := i155 + (-1)) (ls1 := [some (.ref x), some (ti p0), some (ti p1), some (ti p2), some (ti i5), some (.ref o137), some (ti (i155 + (-1))), some (ti 0)]) dX1_numberOf_140 rfl rfl rfl rfl ?_
              refine GO.goto (tgt := 53) dX1_numberOf_143 (by decide) ?_
              refine GO.drop [true, true, true, true, true, true, true, false] rfl ?_
              exact ih209 (i155 + (-1)) V ⟨by omega, by omega, (by first | exact NII.beg (by omega) (by omega) rwp16 (by assumption) | exact NII.n0 hni (by omega) (by omega) (by omega) rwp16 rw105 (by omega) (by omega)), rfl⟩ (by show ((i155 + (-1)) + 2147483648).toNat < (i155 + 2147483648).toNat; omega)
            ·
              refine GO.iload dX1_numberOf_112 rfl ?_
              refine GO.if_ne (tgt := 140) dX1_numberOf_114 (by decide) (ir_c rfl) (fun h => by exfalso; omega) (fun c217 => ?_)
              refine GO.aload_n dX1_numberOf_117 rfl rfl ?_
              refine GO.iload dX1_numberOf_118 rfl ?_
              refine GO.iload dX1_numberOf_120 rfl ?_
              refine GO.callV (ci := 1) (N := mX1_isCounting) dX1_numberOf_122 (RX1, TX1, 13) rfl gV_RX1_123 h_x (t_X1_isCounting h_x r_i5 r_i155) rfl [] rfl rfl (Nat.le_of_ble_eq_true rfl) rfl (k_ip fun X218 r219 h220 => ?_)
              have raw_isCounting := h220.2.2.2
              have rw122 := h220.2.2.2
              refine GO.if_eq (tgt := 140) dX1_numberOf_125 (by decide) r219 (fun c221 => ?_) (fun c221 => ?_)
              ·
                refine GO.iinc (X := i155) (n := (-1)) (Y := i155 + (-1)) (ls1 := [some (.ref x), some (ti p0), some (ti p1), some (ti p2), some (ti i5), some (.ref o137), some (ti (i155 + (-1))), some (ti 0)]) dX1_numberOf_140 rfl rfl rfl rfl ?_
                refine GO.goto (tgt := 53) dX1_numberOf_143 (by decide) ?_
                refine GO.drop [true, true, true, true, true, true, true, false] rfl ?_
                exact ih209 (i155 + (-1)) V ⟨by omega, by omega, (by first | exact NII.beg (by omega) (by omega) rwp16 (by assumption) | exact NII.n0 hni (by omega) (by omega) (by omega) rwp16 rw105 (by omega) (by omega) | exact NII.nc hni (by omega) (by omega) (by omega) rwp16 (by omega) (by omega) rw122 (by omega) (by omega)), rfl⟩ (by show ((i155 + (-1)) + 2147483648).toNat < (i155 + 2147483648).toNat; omega)
              ·
                refine GO.aload dX1_numberOf_128 rfl ?_
                refine GO.getRaw h138 fl_RX1_102 hv150 dX1_numberOf_130 ?_
                refine GO.iload dX1_numberOf_133 rfl ?_
                refine GO.iconst dX1_numberOf_135 ?_
                refine GO.callV (ci := 33) (N := mX8_get_k33) dX1_numberOf_136 (RX8, TX8, 4) rfl gV_RX1_116 h149 (t_X8_get_k33 h149 r_i155 (ir_c rfl)) rfl [] rfl rfl (Nat.le_of_ble_eq_true rfl) rfl (k_ip fun X224 r225 h226 => ?_)
                have raw_get := h226.2
                have rw136 := h226.2
                exact GO.reti rfl rfl dX1_numberOf_139 ⟨rfl, rfl, _, rfl, r225, ⟨(by first | exact trivial | omega), (by first | exact NMO.none hno (by omega) rfl | exact NMO.hit hno hni (by omega) (by omega) (by omega) rwp16 (by omega) (by omega) rw105 (by omega) (by first | exact Or.inl (by omega)) rw122 (by omega) rw136)⟩⟩
          ·
            refine GO.aload dX1_numberOf_64 rfl ?_
            refine GO.getRaw h138 fl_RX1_102 hv150 dX1_numberOf_66 ?_
            refine GO.iload dX1_numberOf_69 rfl ?_
            refine GO.iconst dX1_numberOf_71 ?_
            refine GO.callV (ci := 33) (N := mX8_get_k33) dX1_numberOf_72 (RX8, TX8, 4) rfl gV_RX1_116 h149 (t_X8_get_k33 h149 r_i155 (ir_c rfl)) rfl [] rfl rfl (Nat.le_of_ble_eq_true rfl) rfl (k_ip fun X229 r230 h231 => ?_)
            have raw_get := h231.2
            have rw72 := h231.2
            refine GO.iload_n dX1_numberOf_75 rfl rfl ?_
            refine GO.icmp_ne (tgt := 94) dX1_numberOf_76 (by decide) r230 r_p1 (fun c232 => ?_) (fun c232 => ?_)
            ·
              refine GO.iconst dX1_numberOf_94 ?_
              refine GO.goto (tgt := 99) dX1_numberOf_95 (by decide) ?_
              refine GO.istore (ls1 := [some (.ref x), some (ti p0), some (ti p1), some (ti p2), some (ti i5), some (.ref o137), some (ti i155), some (ti 1)]) dX1_numberOf_99 rfl rfl ?_
              refine GO.aload dX1_numberOf_101 rfl ?_
              refine GO.iload dX1_numberOf_103 rfl ?_
              refine GO.callV (ci := 8) (N := mX9_letterOf) dX1_numberOf_105 (RX9, TX9, 5) rfl gV_RX1_119 h138 (t_X9_letterOf h138 r_i155) rfl [] rfl rfl (Nat.le_of_ble_eq_true rfl) rfl (k_ip fun X233 r234 h235 => ?_)
              have raw_letterOf := h235.2
              have rw105 := h235.2
              refine GO.iload_n dX1_numberOf_108 rfl rfl ?_
              refine GO.icmp_ne (tgt := 140) dX1_numberOf_109 (by decide) r234 r_p0 (fun c236 => ?_) (fun c236 => ?_)
              ·
                refine GO.iinc (X := i155) (n := (-1)) (Y := i155 + (-1)) (ls1 := [some (.ref x), some (ti p0), some (ti p1), some (ti p2), some (ti i5), some (.ref o137), some (ti (i155 + (-1))), some (ti 1)]) dX1_numberOf_140 rfl rfl rfl rfl ?_
                refine GO.goto (tgt := 53) dX1_numberOf_143 (by decide) ?_
                refine GO.drop [true, true, true, true, true, true, true, false] rfl ?_
                exact ih209 (i155 + (-1)) V ⟨by omega, by omega, (by first | exact NII.beg (by omega) (by omega) rwp16 (by assumption) | exact NII.n0 hni (by omega) (by omega) (by omega) rwp16 rw105 (by omega) (by omega) | exact NII.n2 hni (by omega) (by omega) (by omega) rwp16 rw72 (by omega) (by omega) (by omega)), rfl⟩ (by show ((i155 + (-1)) + 2147483648).toNat < (i155 + 2147483648).toNat; omega)
              ·
                refine GO.iload dX1_numberOf_112 rfl ?_
                refine GO.if_ne (tgt := 140) dX1_numberOf_114 (by decide) (ir_c rfl) (fun c237 => ?_) (fun h => by exfalso; omega)
                refine GO.iinc (X := i155) (n := (-1)) (Y := i155 + (-1)) (ls1 := [some (.ref x), some (ti p0), some (ti p1), some (ti p2), some (ti i5), some (.ref o137), some (ti (i155 + (-1))), some (ti 1)]) dX1_numberOf_140 rfl rfl rfl rfl ?_
                refine GO.goto (tgt := 53) dX1_numberOf_143 (by decide) ?_
                refine GO.drop [true, true, true, true, true, true, true, false] rfl ?_
                exact ih209 (i155 + (-1)) V ⟨by omega, by omega, (by first | exact NII.beg (by omega) (by omega) rwp16 (by assumption) | exact NII.n0 hni (by omega) (by omega) (by omega) rwp16 rw105 (by omega) (by omega) | exact NII.n2 hni (by omega) (by omega) (by omega) rwp16 rw72 (by omega) (by omega) (by omega)), rfl⟩ (by show ((i155 + (-1)) + 2147483648).toNat < (i155 + 2147483648).toNat; omega)
            ·
              refine GO.aload dX1_numberOf_79 rfl ?_
              refine GO.getRaw h138 fl_RX1_102 hv150 dX1_numberOf_81 ?_
              refine GO.iload dX1_numberOf_84 rfl ?_
              refine GO.iconst dX1_numberOf_86 ?_
              refine GO.callV (ci := 33) (N := mX8_get_k33) dX1_numberOf_87 (RX8, TX8, 4) rfl gV_RX1_116 h149 (t_X8_get_k33 h149 r_i155 (ir_c rfl)) rfl [] rfl rfl (Nat.le_of_ble_eq_true rfl) rfl (k_ip fun X240 r241 h242 => ?_)
              have raw_get := h242.2
              have rw87 := h242.2
              refine GO.iload_n dX1_numberOf_90 rfl rfl ?_
              refine GO.icmp_eq (tgt := 98) dX1_numberOf_91 (by decide) r241 r_p2 (fun c243 => ?_) (fun c243 => ?_)
              ·
                refine GO.iconst dX1_numberOf_98 ?_
                refine GO.istore (ls1 := [some (.ref x), some (ti p0), some (ti p1), some (ti p2), some (ti i5), some (.ref o137), some (ti i155), some (ti 0)]) dX1_numberOf_99 rfl rfl ?_
                refine GO.aload dX1_numberOf_101 rfl ?_
                refine GO.iload dX1_numberOf_103 rfl ?_
                refine GO.callV (ci := 8) (N := mX9_letterOf) dX1_numberOf_105 (RX9, TX9, 5) rfl gV_RX1_119 h138 (t_X9_letterOf h138 r_i155) rfl [] rfl rfl (Nat.le_of_ble_eq_true rfl) rfl (k_ip fun X244 r245 h246 => ?_)
                have raw_letterOf := h246.2
                have rw105 := h246.2
                refine GO.iload_n dX1_numberOf_108 rfl rfl ?_
                refine GO.icmp_ne (tgt := 140) dX1_numberOf_109 (by decide) r245 r_p0 (fun c247 => ?_) (fun c247 => ?_)
                ·
                  refine GO.iinc (X := i155) (n := (-1)) (Y := i155 + (-1)) (ls1 := [some (.ref x), some (ti p0), some (ti p1), some (ti p2), some (ti i5), some (.ref o137), some (ti (i155 + (-1))), some (ti 0)]) dX1_numberOf_140 rfl rfl rfl rfl ?_
                  refine GO.goto (tgt := 53) dX1_numberOf_143 (by decide) ?_
                  refine GO.drop [true, true, true, true, true, true, true, false] rfl ?_
                  exact ih209 (i155 + (-1)) V ⟨by omega, by omega, (by first | exact NII.beg (by omega) (by omega) rwp16 (by assumption) | exact NII.n0 hni (by omega) (by omega) (by omega) rwp16 rw105 (by omega) (by omega) | exact NII.n2 hni (by omega) (by omega) (by omega) rwp16 rw72 (by omega) (by omega) (by omega) | exact NII.n3 hni (by omega) (by omega) (by omega) rwp16 rw87 (by omega) (by omega) (by omega)), rfl⟩ (by show ((i155 + (-1)) + 2147483648).toNat < (i155 + 2147483648).toNat; omega)
                ·
                  refine GO.iload dX1_numberOf_112 rfl ?_
                  refine GO.if_ne (tgt := 140) dX1_numberOf_114 (by decide) (ir_c rfl) (fun h => by exfalso; omega) (fun c248 => ?_)
                  refine GO.aload_n dX1_numberOf_117 rfl rfl ?_
                  refine GO.iload dX1_numberOf_118 rfl ?_
                  refine GO.iload dX1_numberOf_120 rfl ?_
                  refine GO.callV (ci := 1) (N := mX1_isCounting) dX1_numberOf_122 (RX1, TX1, 13) rfl gV_RX1_123 h_x (t_X1_isCounting h_x r_i5 r_i155) rfl [] rfl rfl (Nat.le_of_ble_eq_true rfl) rfl (k_ip fun X249 r250 h251 => ?_)
                  have raw_isCounting := h251.2.2.2
                  have rw122 := h251.2.2.2
                  refine GO.if_eq (tgt := 140) dX1_numberOf_125 (by decide) r250 (fun c252 => ?_) (fun c252 => ?_)
                  ·
                    refine GO.iinc (X := i155) (n := (-1)) (Y := i155 + (-1)) (ls1 := [some (.ref x), some (ti p0), some (ti p1), some (ti p2), some (ti i5), some (.ref o137), some (ti (i155 + (-1))), some (ti 0)]) dX1_numberOf_140 rfl rfl rfl rfl ?_
                    refine GO.goto (tgt := 53) dX1_numberOf_143 (by decide) ?_
                    refine GO.drop [true, true, true, true, true, true, true, false] rfl ?_
                    exact ih209 (i155 + (-1)) V ⟨by omega, by omega, (by first | exact NII.beg (by omega) (by omega) rwp16 (by assumption) | exact NII.n0 hni (by omega) (by omega) (by omega) rwp16 rw105 (by omega) (by omega) | exact NII.n2 hni (by omega) (by omega) (by omega) rwp16 rw72 (by omega) (by omega) (by omega) | exact NII.n3 hni (by omega) (by omega) (by omega) rwp16 rw87 (by omega) (by omega) (by omega) | exact NII.nc hni (by omega) (by omega) (by omega) rwp16 (by omega) (by omega) rw122 (by omega) (by omega)), rfl⟩ (by show ((i155 + (-1)) + 2147483648).toNat < (i155 + 2147483648).toNat; omega)
                  ·
                    refine GO.aload dX1_numberOf_128 rfl ?_
                    refine GO.getRaw h138 fl_RX1_102 hv150 dX1_numberOf_130 ?_
                    refine GO.iload dX1_numberOf_133 rfl ?_
                    refine GO.iconst dX1_numberOf_135 ?_
                    refine GO.callV (ci := 33) (N := mX8_get_k33) dX1_numberOf_136 (RX8, TX8, 4) rfl gV_RX1_116 h149 (t_X8_get_k33 h149 r_i155 (ir_c rfl)) rfl [] rfl rfl (Nat.le_of_ble_eq_true rfl) rfl (k_ip fun X255 r256 h257 => ?_)
                    have raw_get := h257.2
                    have rw136 := h257.2
                    exact GO.reti rfl rfl dX1_numberOf_139 ⟨rfl, rfl, _, rfl, r256, ⟨(by first | exact trivial | omega), (by first | exact NMO.none hno (by omega) rfl | exact NMO.hit hno hni (by omega) (by omega) (by omega) rwp16 (by omega) (by omega) rw105 (by omega) (by first | exact Or.inl (by omega) | exact Or.inr ⟨_, _, by omega, by omega, rw72, rw87⟩) rw122 (by omega) rw136)⟩⟩
              ·
                refine GO.iconst dX1_numberOf_94 ?_
                refine GO.goto (tgt := 99) dX1_numberOf_95 (by decide) ?_
                refine GO.istore (ls1 := [some (.ref x), some (ti p0), some (ti p1), some (ti p2), some (ti i5), some (.ref o137), some (ti i155), some (ti 1)]) dX1_numberOf_99 rfl rfl ?_
                refine GO.aload dX1_numberOf_101 rfl ?_
                refine GO.iload dX1_numberOf_103 rfl ?_
                refine GO.callV (ci := 8) (N := mX9_letterOf) dX1_numberOf_105 (RX9, TX9, 5) rfl gV_RX1_119 h138 (t_X9_letterOf h138 r_i155) rfl [] rfl rfl (Nat.le_of_ble_eq_true rfl) rfl (k_ip fun X258 r259 h260 => ?_)
                have raw_letterOf := h260.2
                have rw105 := h260.2
                refine GO.iload_n dX1_numberOf_108 rfl rfl ?_
                refine GO.icmp_ne (tgt := 140) dX1_numberOf_109 (by decide) r259 r_p0 (fun c261 => ?_) (fun c261 => ?_)
                ·
                  refine GO.iinc (X := i155) (n := (-1)) (Y := i155 + (-1)) (ls1 := [some (.ref x), some (ti p0), some (ti p1), some (ti p2), some (ti i5), some (.ref o137), some (ti (i155 + (-1))), some (ti 1)]) dX1_numberOf_140 rfl rfl rfl rfl ?_
                  refine GO.goto (tgt := 53) dX1_numberOf_143 (by decide) ?_
                  refine GO.drop [true, true, true, true, true, true, true, false] rfl ?_
                  exact ih209 (i155 + (-1)) V ⟨by omega, by omega, (by first | exact NII.beg (by omega) (by omega) rwp16 (by assumption) | exact NII.n0 hni (by omega) (by omega) (by omega) rwp16 rw105 (by omega) (by omega) | exact NII.n2 hni (by omega) (by omega) (by omega) rwp16 rw72 (by omega) (by omega) (by omega) | exact NII.n3 hni (by omega) (by omega) (by omega) rwp16 rw87 (by omega) (by omega) (by omega)), rfl⟩ (by show ((i155 + (-1)) + 2147483648).toNat < (i155 + 2147483648).toNat; omega)
                ·
                  refine GO.iload dX1_numberOf_112 rfl ?_
                  refine GO.if_ne (tgt := 140) dX1_numberOf_114 (by decide) (ir_c rfl) (fun c262 => ?_) (fun h => by exfalso; omega)
                  refine GO.iinc (X := i155) (n := (-1)) (Y := i155 + (-1)) (ls1 := [some (.ref x), some (ti p0), some (ti p1), some (ti p2), some (ti i5), some (.ref o137), some (ti (i155 + (-1))), some (ti 1)]) dX1_numberOf_140 rfl rfl rfl rfl ?_
                  refine GO.goto (tgt := 53) dX1_numberOf_143 (by decide) ?_
                  refine GO.drop [true, true, true, true, true, true, true, false] rfl ?_
                  exact ih209 (i155 + (-1)) V ⟨by omega, by omega, (by first | exact NII.beg (by omega) (by omega) rwp16 (by assumption) | exact NII.n0 hni (by omega) (by omega) (by omega) rwp16 rw105 (by omega) (by omega) | exact NII.n2 hni (by omega) (by omega) (by omega) rwp16 rw72 (by omega) (by omega) (by omega) | exact NII.n3 hni (by omega) (by omega) (by omega) rwp16 rw87 (by omega) (by omega) (by omega)), rfl⟩ (by show ((i155 + (-1)) + 2147483648).toNat < (i155 + 2147483648).toNat; omega)
      ·
        refine GO.goto (tgt := 146) dX1_numberOf_38 (by decide) ?_
        refine GO.iinc (X := i5) (n := (-1)) (Y := i5 + (-1)) (ls1 := [some (.ref x), some (ti p0), some (ti p1), some (ti p2), some (ti (i5 + (-1))), some (.ref o137), none, none]) dX1_numberOf_146 rfl rfl rfl rfl ?_
        refine GO.goto (tgt := 8) dX1_numberOf_149 (by decide) ?_
        refine GO.drop [true, true, true, true, true, false, true, true] rfl ?_
        exact ih134 (i5 + (-1)) V ⟨by omega, by omega, (by first | exact NOI.beg (by assumption) | exact NOI.skip hno (by omega) (by omega) rw32 (by omega) (by omega)), rfl⟩ (by show ((i5 + (-1)) + 2147483648).toNat < (i5 + 2147483648).toNat; omega)

set_option maxHeartbeats 1000000 in
theorem t_X1_binds {K : Kmap} {V : Vmap} {x : Nat} {p0 : Int} {p1 : Nat} {p2 : Int} {p3 : Int} (h_x : K x = some (0, 1)) (r_p0 : ir p0) (h_p1 : K p1 = some (0, 2)) (r_p2 : ir p2) (r_p3 : ir p3) : MC mX1_binds K V [.ref x, ti p0, .ref p1, ti p2, ti p3] (IS K (fun X V1 => (X = 0 ∨ X = 1) ∧ (X ≠ 0 → True) ∧ (X = 0 → True) ∧ (BDC K V x p1 p0 p2 p3 X))) := by
  refine MC.start 2 (by decide +kernel) rfl rfl rfl (ls0 := [some (.ref x), some (ti p0), some (.ref p1), some (ti p2), some (ti p3), none, none]) rfl ?_
  refine GO.useWT (fun hW_0 => ?_)
  have hl20 := (hW_0.int h_x (j := 1) (Nat.le_of_ble_eq_true rfl) rfl).2
  refine GO.aload_n dX1_binds_0 rfl rfl ?_
  refine GO.iload_n dX1_binds_1 rfl rfl ?_
  refine GO.callV (ci := 1) (N := mX1_textOf) dX1_binds_2 (RX1, TX1, 13) rfl gV_RX1_75 h_x (t_X1_textOf h_x r_p0) rfl [] rfl rfl (Nat.le_of_ble_eq_true rfl) rfl (k_rp (fun h3 => ?_) (fun o1 h2 h3 => ?_))
  ·
    have rwn2 := h3.2
    have hn4 : TNL V x → p0 < 0 ∨ vi V x 1 ≤ p0 := h3.2
    refine GO.astoreN (ls1 := [some (.ref x), some (ti p0), some (.ref p1), some (ti p2), some (ti p3), some (.null), none]) dX1_binds_5 rfl rfl ?_
    refine GO.aloadN dX1_binds_7 rfl ?_
    refine GO.ifnullN (tgt := 21) dX1_binds_9 (by decide) ?_
    refine GO.iconst dX1_binds_21 ?_
    exact GO.retz rfl rfl dX1_binds_22 (Or.inl rfl) ⟨rfl, _, rfl, (ir_c rfl), ⟨Or.inl rfl, fun _ => trivial, fun _ => trivial, (by first | exact BDC.nt rwn2 rfl)⟩⟩
  ·
    have hp5 : p0 ≥ 0 ∧ p0 < vi V x 1 := h3.1
    have rwp2 := h3.2
    have hq6 : o1 = vq V (vq V x 0) (p0).toNat := h3.2
    refine GO.astore (ls1 := [some (.ref x), some (ti p0), some (.ref p1), some (ti p2), some (ti p3), some (.ref o1), none]) dX1_binds_5 rfl rfl ?_
    refine GO.aload dX1_binds_7 rfl ?_
    refine GO.ifnull dX1_binds_9 ?_
    refine GO.aload dX1_binds_12 rfl ?_
    refine GO.iload_n dX1_binds_14 rfl rfl ?_
    refine GO.callV (ci := 8) (N := mX9_isInForce) dX1_binds_15 (RX9, TX9, 5) rfl gV_RX1_79 h2 (t_X9_isInForce h2 r_p2) rfl [] rfl rfl (Nat.le_of_ble_eq_true rfl) rfl (k_ip fun X7 r8 h9 => ?_)
    refine GO.if_ne (tgt := 23) dX1_binds_18 (by decide) r8 (fun c10 => ?_) (fun c10 => ?_)
    ·
      have q11 := h9.2.1 (by omega)
      refine GO.iload_n dX1_binds_23 rfl rfl ?_
      refine GO.if_ne (tgt := 29) dX1_binds_24 (by decide) r_p0 (fun c12 => ?_) (fun c12 => ?_)
      ·
        refine GO.aload_n dX1_binds_29 rfl rfl ?_
        refine GO.getA (n := 20) h_p1 fl_RX1_83 rfl rfl rfl rfl dX1_binds_30 (fun hv14 h13 => ?_)
        refine GO.iload_n dX1_binds_33 rfl rfl ?_
        refine GO.callS (N := mX4_get) dX1_binds_34 gS_RX1_88 (t_X4_get rfl h13 r_p0) rfl [] rfl rfl (Nat.le_of_ble_eq_true rfl) rfl (k_ip fun X15 r16 h17 => ?_)
        have raw_get := h17.2
        have rw34 := h17.2
        have hyb := ybd hW_0 h_p1 rw34 (by omega) (by omega)
        refine GO.istore (ls1 := [some (.ref x), some (ti p0), some (.ref p1), some (ti p2), some (ti p3), some (.ref o1), some (ti X15)]) dX1_binds_37 rfl rfl ?_
        refine GO.iload dX1_binds_39 rfl ?_
        refine GO.iconst dX1_binds_41 ?_
        refine GO.icmp_eq (tgt := 51) dX1_binds_42 (by decide) r16 (ir_c rfl) (fun c18 => ?_) (fun c18 => ?_)
        ·
          refine GO.iconst dX1_binds_51 ?_
          exact GO.retz rfl rfl dX1_binds_52 (Or.inl rfl) ⟨rfl, _, rfl, (ir_c rfl), ⟨Or.inl rfl, fun _ => trivial, fun _ => trivial, (by first | exact BDC.nf (by omega) rwp2 (by omega) rfl | exact BDC.zz (by omega) rwp2 ⟨by omega, by omega⟩ (by omega) (by decide) | exact BDC.ny rw34 (by omega) (by omega) (by omega) rfl)⟩⟩
        ·
          refine GO.iload dX1_binds_45 rfl ?_
          refine GO.iload_n dX1_binds_47 rfl rfl ?_
          refine GO.icmp_le (tgt := 53) dX1_binds_48 (by decide) r16 r_p2 (fun c19 => ?_) (fun c19 => ?_)
          ·
            refine GO.aload_n dX1_binds_53 rfl rfl ?_
            refine GO.iload_n dX1_binds_54 rfl rfl ?_
            refine GO.iload dX1_binds_55 rfl ?_
            refine GO.callV (ci := 1) (N := mX1_weighTexts) dX1_binds_57 (RX1, TX1, 13) rfl gV_RX1_72 h_x (t_X1_weighTexts h_x r_p0 r_p3) rfl [] rfl rfl (Nat.le_of_ble_eq_true rfl) rfl (k_vs fun V22 h21 hF20 => ?_)
            have raw_weighTexts := h21.2
            have rw57 := h21.2
            have hCT : ∀ L, CTL K V x L → CTL K V22 x L := fun L h => h.fr hF20 h_x hW_0 (by decide +kernel)
            refine GO.iload_n dX1_binds_60 rfl rfl ?_
            refine GO.iload dX1_binds_61 rfl ?_
            refine GO.isub dX1_binds_63 ?_
            refine GO.norm (fun z23 r24 hn25 => ?_)
            refine GO.aload_n dX1_binds_64 rfl rfl ?_
            refine GO.bipush dX1_binds_65 rfl ?_
            refine GO.iconst dX1_binds_67 ?_
            refine GO.iconst dX1_binds_68 ?_
            refine GO.callV (ci := 1) (N := mX1_numberOf) dX1_binds_69 (RX1, TX1, 13) rfl gV_RX1_94 h_x (t_X1_numberOf h_x (ir_c rfl) (ir_c rfl) (ir_c rfl)) rfl [ti z23] rfl rfl (Nat.le_of_ble_eq_true rfl) rfl (k_ip fun X26 r27 h28 => ?_)
            have raw_numberOf := h28.2
            have rw69 := h28.2
            refine GO.icmp_lt (tgt := 79) dX1_binds_72 (by decide) r24 r27 (fun c29 => ?_) (fun c29 => ?_)
            ·
              refine GO.iconst dX1_binds_79 ?_
              exact GO.retz rfl rfl dX1_binds_80 (Or.inl rfl) ⟨rfl, _, rfl, (ir_c rfl), ⟨Or.inl rfl, fun _ => trivial, fun _ => trivial, (by first | exact BDC.nf (by omega) rwp2 (by omega) rfl | exact BDC.zz (by omega) rwp2 ⟨by omega, by omega⟩ (by omega) (by decide) | exact BDC.ny rw34 (by omega) (by omega) (by omega) rfl | exact BDC.g (by omega) rwp2 ⟨by omega, by omega⟩ rw34 (by omega) (by omega) (by omega) (by omega) hyb.1 r_p2 rw57 hCT (by assumption) rw69 (by constructor <;> intro _ <;> omega))⟩⟩
            ·
              refine GO.iconst dX1_binds_75 ?_
              refine GO.goto (tgt := 80) dX1_binds_76 (by decide) ?_
              exact GO.retz rfl rfl dX1_binds_80 (Or.inr rfl) ⟨rfl, _, rfl, (ir_c rfl), ⟨Or.inr rfl, fun _ => trivial, fun _ => trivial, (by first | exact BDC.nf (by omega) rwp2 (by omega) rfl | exact BDC.zz (by omega) rwp2 ⟨by omega, by omega⟩ (by omega) (by decide) | exact BDC.ny rw34 (by omega) (by omega) (by omega) rfl | exact BDC.g (by omega) rwp2 ⟨by omega, by omega⟩ rw34 (by omega) (by omega) (by omega) (by omega) hyb.1 r_p2 rw57 hCT (by assumption) rw69 (by constructor <;> intro _ <;> omega))⟩⟩
          ·
            refine GO.iconst dX1_binds_51 ?_
            exact GO.retz rfl rfl dX1_binds_52 (Or.inl rfl) ⟨rfl, _, rfl, (ir_c rfl), ⟨Or.inl rfl, fun _ => trivial, fun _ => trivial, (by first | exact BDC.nf (by omega) rwp2 (by omega) rfl | exact BDC.zz (by omega) rwp2 ⟨by omega, by omega⟩ (by omega) (by decide) | exact BDC.ny rw34 (by omega) (by omega) (by omega) rfl)⟩⟩
      ·
        refine GO.iconst dX1_binds_27 ?_
        exact GO.retz rfl rfl dX1_binds_28 (Or.inr rfl) ⟨rfl, _, rfl, (ir_c rfl), ⟨Or.inr rfl, fun _ => trivial, fun _ => trivial, (by first | exact BDC.nf (by omega) rwp2 (by omega) rfl | exact BDC.zz (by omega) rwp2 ⟨by omega, by omega⟩ (by omega) (by decide))⟩⟩
    ·
      have q30 := h9.2.2 (by omega)
      refine GO.iconst dX1_binds_21 ?_
      exact GO.retz rfl rfl dX1_binds_22 (Or.inl rfl) ⟨rfl, _, rfl, (ir_c rfl), ⟨Or.inl rfl, fun _ => trivial, fun _ => trivial, (by first | exact BDC.nf (by omega) rwp2 (by omega) rfl | exact BDC.zz (by omega) rwp2 ⟨by omega, by omega⟩ (by omega) (by decide))⟩⟩

set_option maxHeartbeats 1000000 in
theorem t_X1_weigh {K : Kmap} {V : Vmap} {x : Nat} {p0 : Int} {p1 : Nat} {p2 : Int} (h_x : K x = some (0, 1)) (r_p0 : ir p0) (h_p1 : K p1 = some (0, 2)) (r_p2 : ir p2) : MC mX1_weigh K V [.ref x, ti p0, .ref p1, ti p2] (VS K (fun V1 => (True) ∧ (WGH K V V1 x p1 p0 p2))) := by
  refine MC.start 2 (by decide +kernel) rfl rfl rfl (ls0 := [some (.ref x), some (ti p0), some (.ref p1), some (ti p2), none, none]) rfl ?_
  refine GO.useWT (fun hW_0 => ?_)
  refine GO.aload_n dX1_weigh_0 rfl rfl ?_
  refine GO.getI h_x fl_RX1_40 rfl rfl dX1_weigh_1 (fun _ _ => ?_)
  refine GO.iload_n dX1_weigh_4 rfl rfl ?_
  refine GO.icmp_ne (tgt := 17) dX1_weigh_5 (by decide) vi_ir r_p0 (fun c1 => ?_) (fun c1 => ?_)
  ·
    refine GO.iconst dX1_weigh_17 ?_
    refine GO.istore (ls1 := [some (.ref x), some (ti p0), some (.ref p1), some (ti p2), some (ti 0), none]) dX1_weigh_18 rfl rfl ?_
    refine GO.iconst dX1_weigh_20 ?_
    refine GO.istore (ls1 := [some (.ref x), some (ti p0), some (.ref p1), some (ti p2), some (ti 0), some (ti 0)]) dX1_weigh_21 rfl rfl ?_
    refine GO.loop2 (fun i2 i3 W => (-2147483648) ≤ i2 ∧ i2 ≤ 2147483647 ∧ 0 ≤ i3 ∧ i3 ≤ 20 ∧ (WGI K V x p1 p2 i2 i3) ∧ True) (fun i2 i3 => [some (.ref x), some (ti p0), some (.ref p1), some (ti p2), some (ti i2), some (ti i3)]) (fun i2 i3 W => (2147483647 - i3).toNat) 0 0 ⟨by omega, by omega, by omega, by omega, (by first | exact WGI.beg), trivial⟩ rfl (fun i2 i3 Wi2 hp656 ih655 => ?_)
    obtain ⟨l_i2, u_i2, l_i3, u_i3, hwg, -⟩ := hp656
    have r_i2 : ir i2 := ⟨by omega, by omega⟩
    have r_i3 : ir i3 := ⟨by omega, by omega⟩
    show GO mX1_weigh K V (VS K (fun V1 => (True) ∧ (WGH K V V1 x p1 p0 p2))) K Wi2 0 0 23 [some (.ref x), some (ti p0), some (.ref p1), some (ti p2), some (ti i2), some (ti i3)] []
    refine GO.useFR (fun hFs => ?_)
    have hCT : ∀ L, CTL K V x L → CTL K Wi2 x L := fun L h => h.fr hFs h_x hW_0 (by decide +kernel)
    have hyy : ∀ j, vi Wi2 (vq Wi2 p1 3) j = vi V (vq V p1 3) j := fun j => yrfr hFs h_p1 hW_0 (by decide +kernel) (by decide +kernel) j
    refine GO.iload dX1_weigh_23 rfl ?_
    refine GO.aload_n dX1_weigh_25 rfl rfl ?_
    refine GO.getI h_x fl_RX1_17 rfl rfl dX1_weigh_26 (fun l657 u658 => ?_)
    refine GO.icmp_ge (tgt := 60) dX1_weigh_29 (by decide) r_i3 vi_ir (fun c659 => ?_) (fun c659 => ?_)
    ·
      refine GO.aload_n dX1_weigh_60 rfl rfl ?_
      refine GO.aload_n dX1_weigh_61 rfl rfl ?_
      refine GO.getI h_x fl_RX1_17 rfl rfl dX1_weigh_62 (fun l660 u661 => ?_)
      refine GO.iload dX1_weigh_65 rfl ?_
      refine GO.callV (ci := 1) (N := mX1_weighTexts) dX1_weigh_67 (RX1, TX1, 13) rfl gV_RX1_72 h_x (t_X1_weighTexts h_x vi_ir r_i2) rfl [] rfl rfl (Nat.le_of_ble_eq_true rfl) rfl (k_vs fun V664 h663 hF662 => ?_)
      have raw_weighTexts := h663.2
      have rw67 := h663.2
      refine GO.useWT (fun hWw => ?_)
      refine GO.aload_n dX1_weigh_70 rfl rfl ?_
      refine GO.iload_n dX1_weigh_71 rfl rfl ?_
      refine GO.putI h_x fp_RX1_40 rfl (by decide +kernel) r_p0 (r_p0).1 (r_p0).2 dX1_weigh_72 (fun V666 e665 => ?_)
      refine GO.aload_n dX1_weigh_75 rfl rfl ?_
      refine GO.iload_n dX1_weigh_76 rfl rfl ?_
      refine GO.putI h_x fp_RX1_43 rfl (by decide +kernel) r_p2 (r_p2).1 (r_p2).2 dX1_weigh_77 (fun V668 e667 => ?_)
      exact GO.retv rfl rfl dX1_weigh_80 ⟨rfl, rfl, ⟨trivial, (by first | exact WGH.old (by omega) (by omega) | exact WGH.new hwg hCT (by omega) rw67 h_x hWw (by assumption) r_p0 (by assumption) r_p2)⟩⟩
    ·
      refine GO.aload_n dX1_weigh_32 rfl rfl ?_
      refine GO.iload dX1_weigh_33 rfl ?_
      refine GO.aload_n dX1_weigh_35 rfl rfl ?_
      refine GO.iload_n dX1_weigh_36 rfl rfl ?_
      refine GO.iload dX1_weigh_37 rfl ?_
      refine GO.callV (ci := 1) (N := mX1_binds) dX1_weigh_39 (RX1, TX1, 13) rfl gV_RX1_68 h_x (t_X1_binds h_x r_i3 h_p1 r_p2 r_i2) rfl [] rfl rfl (Nat.le_of_ble_eq_true rfl) rfl (k_is fun X669 V673 r670 h671 hF672 => ?_)
      have raw_binds := h671.2.2.2
      have rw39 := h671.2.2.2
      refine GO.if_eq (tgt := 54) dX1_weigh_42 (by decide) r670 (fun c674 => ?_) (fun c674 => ?_)
      ·
        refine GO.iinc (X := i3) (n := 1) (Y := i3 + 1) (ls1 := [some (.ref x), some (ti p0), some (.ref p1), some (ti p2), some (ti i2), some (ti (i3 + 1))]) dX1_weigh_54 rfl rfl rfl rfl ?_
        refine GO.goto (tgt := 23) dX1_weigh_57 (by decide) ?_
        exact ih655 i2 (i3 + 1) V673 ⟨by omega, by omega, by omega, by omega, (by first | exact WGI.beg | exact WGI.no hwg (by omega) (by omega) hCT hyy rw39 (by omega) (by omega) | exact WGI.yes hwg (by omega) (by omega) hCT hyy rw39 (by omega) (by assumption) (by omega)), trivial⟩ (by show (2147483647 - (i3 + 1)).toNat < (2147483647 - i3).toNat; omega)
      ·
        refine GO.iload dX1_weigh_45 rfl ?_
        refine GO.iconst dX1_weigh_47 ?_
        refine GO.iload dX1_weigh_48 rfl ?_
        refine GO.ishl dX1_weigh_50 ?_
        refine GO.ior dX1_weigh_51 ?_
        refine GO.name (fun z675 hz676 => ?_)
        have r677 : ir z675 := hz676 ▸ wor_ir
        refine GO.istore (ls1 := [some (.ref x), some (ti p0), some (.ref p1), some (ti p2), some (ti z675), some (ti i3)]) dX1_weigh_52 rfl rfl ?_
        refine GO.iinc (X := i3) (n := 1) (Y := i3 + 1) (ls1 := [some (.ref x), some (ti p0), some (.ref p1), some (ti p2), some (ti z675), some (ti (i3 + 1))]) dX1_weigh_54 rfl rfl rfl rfl ?_
        refine GO.goto (tgt := 23) dX1_weigh_57 (by decide) ?_
        have q678 : -2147483648 ≤ z675 ∧ z675 ≤ 2147483647 := r677
        have q679 : -2147483648 ≤ wor i2 (wshl 1 i3) ∧ wor i2 (wshl 1 i3) ≤ 2147483647 := wor_ir
        exact ih655 z675 (i3 + 1) V673 ⟨by omega, by omega, by omega, by omega, (by first | exact WGI.beg | exact WGI.no hwg (by omega) (by omega) hCT hyy rw39 (by omega) (by omega) | exact WGI.yes hwg (by omega) (by omega) hCT hyy rw39 (by omega) (by assumption) (by omega)), trivial⟩ (by show (2147483647 - (i3 + 1)).toNat < (2147483647 - i3).toNat; omega)
  ·
    refine GO.aload_n dX1_weigh_8 rfl rfl ?_
    refine GO.getI h_x fl_RX1_43 rfl rfl dX1_weigh_9 (fun _ _ => ?_)
    refine GO.iload_n dX1_weigh_12 rfl rfl ?_
    refine GO.icmp_ne (tgt := 17) dX1_weigh_13 (by decide) vi_ir r_p2 (fun c680 => ?_) (fun c680 => ?_)
    ·
      refine GO.iconst dX1_weigh_17 ?_
      refine GO.istore (ls1 := [some (.ref x), some (ti p0), some (.ref p1), some (ti p2), some (ti 0), none]) dX1_weigh_18 rfl rfl ?_
      refine GO.iconst dX1_weigh_20 ?_
      refine GO.istore (ls1 := [some (.ref x), some (ti p0), some (.ref p1), some (ti p2), some (ti 0), some (ti 0)]) dX1_weigh_21 rfl rfl ?_
      refine GO.loop2 (fun i681 i682 W => (-2147483648) ≤ i681 ∧ i681 ≤ 2147483647 ∧ 0 ≤ i682 ∧ i682 ≤ 20 ∧ (WGI K V x p1 p2 i681 i682) ∧ True) (fun i681 i682 => [some (.ref x), some (ti p0), some (.ref p1), some (ti p2), some (ti i681), some (ti i682)]) (fun i681 i682 W => (2147483647 - i682).toNat) 0 0 ⟨by omega, by omega, by omega, by omega, (by first | exact WGI.beg), trivial⟩ rfl (fun i681 i682 Wi681 hp1335 ih1334 => ?_)
      obtain ⟨l_i681, u_i681, l_i682, u_i682, hwg, -⟩ := hp1335
      have r_i681 : ir i681 := ⟨by omega, by omega⟩
      have r_i682 : ir i682 := ⟨by omega, by omega⟩
      show GO mX1_weigh K V (VS K (fun V1 => (True) ∧ (WGH K V V1 x p1 p0 p2))) K Wi681 0 0 23 [some (.ref x), some (ti p0), some (.ref p1), some (ti p2), some (ti i681), some (ti i682)] []
      refine GO.useFR (fun hFs => ?_)
      have hCT : ∀ L, CTL K V x L → CTL K Wi681 x L := fun L h => h.fr hFs h_x hW_0 (by decide +kernel)
      have hyy : ∀ j, vi Wi681 (vq Wi681 p1 3) j = vi V (vq V p1 3) j := fun j => yrfr hFs h_p1 hW_0 (by decide +kernel) (by decide +kernel) j
      refine GO.iload dX1_weigh_23 rfl ?_
      refine GO.aload_n dX1_weigh_25 rfl rfl ?_
      refine GO.getI h_x fl_RX1_17 rfl rfl dX1_weigh_26 (fun l1336 u1337 => ?_)
      refine GO.icmp_ge (tgt := 60) dX1_weigh_29 (by decide) r_i682 vi_ir (fun c1338 => ?_) (fun c1338 => ?_)
      ·
        refine GO.aload_n dX1_weigh_60 rfl rfl ?_
        refine GO.aload_n dX1_weigh_61 rfl rfl ?_
        refine GO.getI h_x fl_RX1_17 rfl rfl dX1_weigh_62 (fun l1339 u1340 => ?_)
        refine GO.iload dX1_weigh_65 rfl ?_
        refine GO.callV (ci := 1) (N := mX1_weighTexts) dX1_weigh_67 (RX1, TX1, 13) rfl gV_RX1_72 h_x (t_X1_weighTexts h_x vi_ir r_i681) rfl [] rfl rfl (Nat.le_of_ble_eq_true rfl) rfl (k_vs fun V1343 h1342 hF1341 => ?_)
        have raw_weighTexts := h1342.2
        have rw67 := h1342.2
        refine GO.useWT (fun hWw => ?_)
        refine GO.aload_n dX1_weigh_70 rfl rfl ?_
        refine GO.iload_n dX1_weigh_71 rfl rfl ?_
        refine GO.putI h_x fp_RX1_40 rfl (by decide +kernel) r_p0 (r_p0).1 (r_p0).2 dX1_weigh_72 (fun V1345 e1344 => ?_)
        refine GO.aload_n dX1_weigh_75 rfl rfl ?_
        refine GO.iload_n dX1_weigh_76 rfl rfl ?_
        refine GO.putI h_x fp_RX1_43 rfl (by decide +kernel) r_p2 (r_p2).1 (r_p2).2 dX1_weigh_77 (fun V1347 e1346 => ?_)
        exact GO.retv rfl rfl dX1_weigh_80 ⟨rfl, rfl, ⟨trivial, (by first | exact WGH.old (by omega) (by omega) | exact WGH.new hwg hCT (by omega) rw67 h_x hWw (by assumption) r_p0 (by assumption) r_p2)⟩⟩
      ·
        refine GO.aload_n dX1_weigh_32 rfl rfl ?_
        refine GO.iload dX1_weigh_33 rfl ?_
        refine GO.aload_n dX1_weigh_35 rfl rfl ?_
        refine GO.iload_n dX1_weigh_36 rfl rfl ?_
        refine GO.iload dX1_weigh_37 rfl ?_
        refine GO.callV (ci := 1) (N := mX1_binds) dX1_weigh_39 (RX1, TX1, 13) rfl gV_RX1_68 h_x (t_X1_binds h_x r_i682 h_p1 r_p2 r_i681) rfl [] rfl rfl (Nat.le_of_ble_eq_true rfl) rfl (k_is fun X1348 V1352 r1349 h1350 hF1351 => ?_)
        have raw_binds := h1350.2.2.2
        have rw39 := h1350.2.2.2
        refine GO.if_eq (tgt := 54) dX1_weigh_42 (by decide) r1349 (fun c1353 => ?_) (fun c1353 => ?_)
        ·
          refine GO.iinc (X := i682) (n := 1) (Y := i682 + 1) (ls1 := [some (.ref x), some (ti p0), some (.ref p1), some (ti p2), some (ti i681), some (ti (i682 + 1))]) dX1_weigh_54 rfl rfl rfl rfl ?_
          refine GO.goto (tgt := 23) dX1_weigh_57 (by decide) ?_
          exact ih1334 i681 (i682 + 1) V1352 ⟨by omega, by omega, by omega, by omega, (by first | exact WGI.beg | exact WGI.no hwg (by omega) (by omega) hCT hyy rw39 (by omega) (by omega) | exact WGI.yes hwg (by omega) (by omega) hCT hyy rw39 (by omega) (by assumption) (by omega)), trivial⟩ (by show (2147483647 - (i682 + 1)).toNat < (2147483647 - i682).toNat; omega)
        ·
          refine GO.iload dX1_weigh_45 rfl ?_
          refine GO.iconst dX1_weigh_47 ?_
          refine GO.iload dX1_weigh_48 rfl ?_
          refine GO.ishl dX1_weigh_50 ?_
          refine GO.ior dX1_weigh_51 ?_
          refine GO.name (fun z1354 hz1355 => ?_)
          have r1356 : ir z1354 := hz1355 ▸ wor_ir
          refine GO.istore (ls1 := [some (.ref x), some (ti p0), some (.ref p1), some (ti p2), some (ti z1354), some (ti i682)]) dX1_weigh_52 rfl rfl ?_
          refine GO.iinc (X := i682) (n := 1) (Y := i682 + 1) (ls1 := [some (.ref x), some (ti p0), some (.ref p1), some (ti p2), some (ti z1354), some (ti (i682 + 1))]) dX1_weigh_54 rfl rfl rfl rfl ?_
          refine GO.goto (tgt := 23) dX1_weigh_57 (by decide) ?_
          have q1357 : -2147483648 ≤ z1354 ∧ z1354 ≤ 2147483647 := r1356
          have q1358 : -2147483648 ≤ wor i681 (wshl 1 i682) ∧ wor i681 (wshl 1 i682) ≤ 2147483647 := wor_ir
          exact ih1334 z1354 (i682 + 1) V1352 ⟨by omega, by omega, by omega, by omega, (by first | exact WGI.beg | exact WGI.no hwg (by omega) (by omega) hCT hyy rw39 (by omega) (by omega) | exact WGI.yes hwg (by omega) (by omega) hCT hyy rw39 (by omega) (by assumption) (by omega)), trivial⟩ (by show (2147483647 - (i682 + 1)).toNat < (2147483647 - i682).toNat; omega)
    ·
      exact GO.retv rfl rfl dX1_weigh_16 ⟨rfl, rfl, ⟨trivial, (by first | exact WGH.old (by omega) (by omega))⟩⟩
