def mX4_put : MRec := (RX4, cX4_put, 3, (none : Option Jvm.ClassFile.FieldType), yX4_put, 0, 0, 0, 0, 3794275180128377091639574036764685364535950857523710002444946112771297432041422848)
def mX4_add : MRec := (RX4, cX4_add, 3, (none : Option Jvm.ClassFile.FieldType), yX4_add, 1, 22, 0, 0, 3794275180128377091639574036764685364535950857523710002444946112771297432041422848)
def mX5_faultAnswer : MRec := (RX5, cX5_faultAnswer, 1, (some .int), yX5_faultAnswer, 0, 0, 0, 0, 0)
def mX5_next : MRec := (RX5, cX5_next, 2, (some .int), yX5_next, 0, 0, 0, 0, 0)
def mX5_isClauseLetter : MRec := (RX5, cX5_isClauseLetter, 1, (some .boolean), yX5_isClauseLetter, 0, 0, 0, 0, 0)
def mX8_isFull_k33 : MRec := (RX8, cX8_isFull, 1, (some .boolean), yX8_isFull, 0, 0, 0, 0, 0)
def mX8_put_k33 : MRec := (RX8, cX8_put, 6, (none : Option Jvm.ClassFile.FieldType), yX8_put, 0, 0, 0, 0, 173291855882550928723650886508942731464777317210988535948154973788413831737851601439998400381508723631086950685087723239310884864)
def mX8_append_k33 : MRec := (RX8, cX8_append, 7, (some .int), yX8_append, 1, 25, 0, 0, 2508228255056559327717299405517639477515382672702395372151508761915556027554247017610461397038871342244590268670728224941903634681856417161330287177423753648575934980623877706991217145293929961318044925952)
def mX5_set : MRec := (RX5, cX5_set, 3, (none : Option Jvm.ClassFile.FieldType), yX5_set, 1, 25, 0, 0, 173291855882550928723650886508942731464777317210988535948154973788413831737851601439998400381508723631086950685087723239310884864)
def mX5_refuse : MRec := (RX5, cX5_refuse, 3, (none : Option Jvm.ClassFile.FieldType), yX5_refuse, 0, 0, 0, 0, 13510798882111488)
def mX5_deepen : MRec := (RX5, cX5_deepen, 2, (none : Option Jvm.ClassFile.FieldType), yX5_deepen, 1, 22, 0, 0, 16888498602639360)
def mX5_isDigit : MRec := (RX5, cX5_isDigit, 1, (some .boolean), yX5_isDigit, 0, 0, 0, 0, 0)
def mX5_digits : MRec := (RX5, cX5_digits, 5, (some .int), yX5_digits, 1, 22, 0, 0, 14636698788954112)
def mX4_put_t144 : MRec := (RX4, cX4_put, 3, (none : Option Jvm.ClassFile.FieldType), yX4_put, 0, 0, 0, 0, 84615164005151820665845159428194693098035799419427996068435045795123941278247852265624218936283556460491675139202989862944768)
def mX9_addStep : MRec := (RX9, cX9_addStep, 4, (some .int), yX9_addStep, 1, 22, 0, 0, 84615164005151820665845159428194693098035799419427996068435045795123941278247852265624218936283556470163081696120023260594176)
set_option maxHeartbeats 1000000 in
theorem t_X4_put {K : Kmap} {V : Vmap} {p0 n_p0 : Nat} {p1 : Int} {p2 : Int} (h_p0 : K p0 = some (1, n_p0)) (r_p1 : ir p1) (r_p2 : ir p2) : MC mX4_put K V [.ref p0, ti p1, ti p2] (VS K (fun V1 => (True) ∧ (V1 = rpv V p0 n_p0 p1 p2))) := by
  refine MC.start 0 (by decide +kernel) rfl rfl rfl (ls0 := [some (.ref p0), some (ti p1), some (ti p2)]) rfl ?_
  refine GO.aload_n dX4_put_0 rfl rfl ?_
  refine GO.ifnull dX4_put_1 ?_
  refine GO.iload_n dX4_put_4 rfl rfl ?_
  refine GO.if_lt (tgt := 18) dX4_put_5 (by decide) r_p1 (fun c1 => ?_) (fun c1 => ?_)
  ·
    exact GO.retv rfl rfl dX4_put_18 ⟨rfl, rfl, ⟨trivial, (by first | exact rpv_in (by assumption) (by omega) (by omega) | exact rpv_out (by omega))⟩⟩
  ·
    refine GO.iload_n dX4_put_8 rfl rfl ?_
    refine GO.aload_n dX4_put_9 rfl rfl ?_
    refine GO.alen h_p0 dX4_put_10 (fun h2 => ?_)
    refine GO.icmp_ge (tgt := 18) dX4_put_11 (by decide) r_p1 ⟨by omega, by omega⟩ (fun c3 => ?_) (fun c3 => ?_)
    ·
      exact GO.retv rfl rfl dX4_put_18 ⟨rfl, rfl, ⟨trivial, (by first | exact rpv_in (by assumption) (by omega) (by omega) | exact rpv_out (by omega))⟩⟩
    ·
      refine GO.aload_n dX4_put_14 rfl rfl ?_
      refine GO.iload_n dX4_put_15 rfl rfl ?_
      refine GO.iload_n dX4_put_16 rfl rfl ?_
      have q4 : -2147483648 ≤ p1 ∧ p1 ≤ 2147483647 := r_p1
      refine GO.iast (t := 0) rfl rfl (by decide +kernel) h_p0 r_p1 (by omega) (by omega) r_p2 (r_p2).1 (r_p2).2 dX4_put_17 (fun V6 e5 => ?_)
      exact GO.retv rfl rfl dX4_put_18 ⟨rfl, rfl, ⟨trivial, (by first | exact rpv_in (by assumption) (by omega) (by omega) | exact rpv_out (by omega))⟩⟩

set_option maxHeartbeats 1000000 in
theorem t_X4_add {K : Kmap} {V : Vmap} {p0 n_p0 : Nat} {p1 : Int} {p2 : Int} (h_p0 : K p0 = some (1, n_p0)) (r_p1 : ir p1) (r_p2 : ir p2) : MC mX4_add K V [.ref p0, ti p1, ti p2] (VS K (fun V1 => (True))) := by
  refine MC.start 0 (by decide +kernel) rfl rfl rfl (ls0 := [some (.ref p0), some (ti p1), some (ti p2)]) rfl ?_
  refine GO.aload_n dX4_add_0 rfl rfl ?_
  refine GO.iload_n dX4_add_1 rfl rfl ?_
  refine GO.aload_n dX4_add_2 rfl rfl ?_
  refine GO.iload_n dX4_add_3 rfl rfl ?_
  refine GO.callS (N := mX4_get) dX4_add_4 gS_RX4_7 (t_X4_get rfl h_p0 r_p1) rfl [ti p1, .ref p0] rfl rfl (Nat.le_of_ble_eq_true rfl) rfl (k_ip fun X1 r2 h3 => ?_)
  have raw_get := h3.2
  have rw4 := h3.2
  refine GO.iload_n dX4_add_7 rfl rfl ?_
  refine GO.iadd dX4_add_8 ?_
  refine GO.norm (fun z4 r5 hn6 => ?_)
  refine GO.callS (N := mX4_put) dX4_add_9 gS_RX4_13 (t_X4_put h_p0 r_p1 r5) rfl [] rfl rfl (Nat.le_of_ble_eq_true rfl) rfl (k_vs fun V9 h8 hF7 => ?_)
  have raw_put := h8.2
  have rw9 := h8.2
  exact GO.retv rfl rfl dX4_add_12 ⟨rfl, rfl, trivial⟩

set_option maxHeartbeats 1000000 in
theorem t_X5_faultAnswer {K : Kmap} {V : Vmap} {x : Nat} (h_x : K x = some (0, 4)) : MC mX5_faultAnswer K V [.ref x] (IP K V (fun X => (X ≥ (-2147483648) ∧ X ≤ 2147483647) ∧ (FAN V x X))) := by
  refine MC.start 0 (by decide +kernel) rfl rfl rfl (ls0 := [some (.ref x)]) rfl ?_
  refine GO.sipush dX5_faultAnswer_0 rfl ?_
  refine GO.aload_n dX5_faultAnswer_3 rfl rfl ?_
  refine GO.getI h_x fl_RX5_18 rfl rfl dX5_faultAnswer_4 (fun _ _ => ?_)
  refine GO.imul dX5_faultAnswer_7 ?_
  refine GO.norm (fun z1 r2 hn3 => ?_)
  refine GO.aload_n dX5_faultAnswer_8 rfl rfl ?_
  refine GO.getI h_x fl_RX5_21 rfl rfl dX5_faultAnswer_9 (fun _ _ => ?_)
  refine GO.isub dX5_faultAnswer_12 ?_
  refine GO.norm (fun z4 r5 hn6 => ?_)
  have q7 : -2147483648 ≤ z4 ∧ z4 ≤ 2147483647 := r5
  exact GO.reti rfl rfl dX5_faultAnswer_13 ⟨rfl, rfl, _, rfl, r5, ⟨(by first | exact trivial | omega), FAN.mk (by assumption) (by assumption)⟩⟩

set_option maxHeartbeats 1000000 in
theorem t_X5_next {K : Kmap} {V : Vmap} {x : Nat} (h_x : K x = some (0, 4)) : MC mX5_next K V [.ref x] (IP K V (fun X => X ≥ (-1) ∧ X ≤ 255 ∧ X = sgC V x)) := by
  refine MC.start 1 (by decide +kernel) rfl rfl rfl (ls0 := [some (.ref x), none]) rfl ?_
  refine GO.aload_n dX5_next_0 rfl rfl ?_
  refine GO.getA (n := 400) h_x fl_RX5_24 rfl rfl rfl rfl dX5_next_1 (fun hv2 h1 => ?_)
  refine GO.ifnull dX5_next_4 ?_
  refine GO.aload_n dX5_next_7 rfl rfl ?_
  refine GO.getI h_x fl_RX5_9 rfl rfl dX5_next_8 (fun _ _ => ?_)
  refine GO.if_lt (tgt := 41) dX5_next_11 (by decide) vi_ir (fun c3 => ?_) (fun c3 => ?_)
  ·
    refine GO.iconst dX5_next_41 ?_
    refine GO.istore_n (ls1 := [some (.ref x), some (ti 0)]) dX5_next_42 rfl rfl rfl ?_
    refine GO.iload_n dX5_next_43 rfl rfl ?_
    refine GO.if_eq (tgt := 59) dX5_next_44 (by decide) (ir_c rfl) (fun c4 => ?_) (fun h => by exfalso; omega)
    have hs := sgC_no (V := V) (x := x) (by omega)
    refine GO.iconst dX5_next_59 ?_
    exact GO.reti rfl rfl dX5_next_60 ⟨rfl, rfl, _, rfl, (ir_c rfl), by omega⟩
  ·
    refine GO.aload_n dX5_next_14 rfl rfl ?_
    refine GO.getI h_x fl_RX5_9 rfl rfl dX5_next_15 (fun _ _ => ?_)
    refine GO.aload_n dX5_next_18 rfl rfl ?_
    refine GO.getI h_x fl_RX5_28 rfl rfl dX5_next_19 (fun _ _ => ?_)
    refine GO.icmp_ge (tgt := 41) dX5_next_22 (by decide) vi_ir vi_ir (fun c5 => ?_) (fun c5 => ?_)
    ·
      refine GO.iconst dX5_next_41 ?_
      refine GO.istore_n (ls1 := [some (.ref x), some (ti 0)]) dX5_next_42 rfl rfl rfl ?_
      refine GO.iload_n dX5_next_43 rfl rfl ?_
      refine GO.if_eq (tgt := 59) dX5_next_44 (by decide) (ir_c rfl) (fun c6 => ?_) (fun h => by exfalso; omega)
      have hs := sgC_no (V := V) (x := x) (by omega)
      refine GO.iconst dX5_next_59 ?_
      exact GO.reti rfl rfl dX5_next_60 ⟨rfl, rfl, _, rfl, (ir_c rfl), by omega⟩
    ·
      refine GO.aload_n dX5_next_25 rfl rfl ?_
      refine GO.getI h_x fl_RX5_9 rfl rfl dX5_next_26 (fun _ _ => ?_)
      refine GO.aload_n dX5_next_29 rfl rfl ?_
      refine GO.getRaw h_x fl_RX5_24 hv2 dX5_next_30 ?_
      refine GO.alen h1 dX5_next_33 (fun h9 => ?_)
      refine GO.icmp_ge (tgt := 41) dX5_next_34 (by decide) vi_ir ⟨by omega, by omega⟩ (fun c10 => ?_) (fun c10 => ?_)
      ·
        refine GO.iconst dX5_next_41 ?_
        refine GO.istore_n (ls1 := [some (.ref x), some (ti 0)]) dX5_next_42 rfl rfl rfl ?_
        refine GO.iload_n dX5_next_43 rfl rfl ?_
        refine GO.if_eq (tgt := 59) dX5_next_44 (by decide) (ir_c rfl) (fun c11 => ?_) (fun h => by exfalso; omega)
        have hs := sgC_no (V := V) (x := x) (by omega)
        refine GO.iconst dX5_next_59 ?_
        exact GO.reti rfl rfl dX5_next_60 ⟨rfl, rfl, _, rfl, (ir_c rfl), by omega⟩
      ·
        refine GO.iconst dX5_next_37 ?_
        refine GO.goto (tgt := 42) dX5_next_38 (by decide) ?_
        refine GO.istore_n (ls1 := [some (.ref x), some (ti 1)]) dX5_next_42 rfl rfl rfl ?_
        refine GO.iload_n dX5_next_43 rfl rfl ?_
        refine GO.if_eq (tgt := 59) dX5_next_44 (by decide) (ir_c rfl) (fun h => by exfalso; omega) (fun c12 => ?_)
        refine GO.aload_n dX5_next_47 rfl rfl ?_
        refine GO.getRaw h_x fl_RX5_24 hv2 dX5_next_48 ?_
        refine GO.aload_n dX5_next_51 rfl rfl ?_
        refine GO.getI h_x fl_RX5_9 rfl rfl dX5_next_52 (fun _ _ => ?_)
        have q15 : -2147483648 ≤ vi V x 3 ∧ vi V x 3 ≤ 2147483647 := vi_ir
        have q16 : -2147483648 ≤ vi V x 1 ∧ vi V x 1 ≤ 2147483647 := vi_ir
        refine GO.iald (t := 153) rfl rfl h1 vi_ir (by omega) (by omega) dX5_next_55 (fun l17 u18 => ?_)
        have hs := sgC_yes (V := V) (x := x) rfl (by omega)
        refine GO.goto (tgt := 60) dX5_next_56 (by decide) ?_
        exact GO.reti rfl rfl dX5_next_60 ⟨rfl, rfl, _, rfl, vi_ir, by omega⟩

set_option maxHeartbeats 1000000 in
theorem t_X5_isClauseLetter {K : Kmap} {V : Vmap} {p0 : Int} (r_p0 : ir p0) : MC mX5_isClauseLetter K V [ti p0] (IP K V (fun X => (X = 0 ∨ X = 1) ∧ (X ≠ 0 → (p0 = 97 ∨ p0 = 99 ∨ p0 = 102 ∨ p0 = 103 ∨ p0 = 107 ∨ p0 = 108 ∨ p0 = 110 ∨ p0 = 113 ∨ p0 = 115 ∨ p0 = 120 ∨ p0 = 122)) ∧ (X = 0 → p0 ≠ 97 ∧ p0 ≠ 99 ∧ p0 ≠ 102 ∧ p0 ≠ 103 ∧ p0 ≠ 107 ∧ p0 ≠ 108 ∧ p0 ≠ 110 ∧ p0 ≠ 113 ∧ p0 ≠ 115 ∧ p0 ≠ 120 ∧ p0 ≠ 122))) := by
  refine MC.start 0 (by decide +kernel) rfl rfl rfl (ls0 := [some (ti p0)]) rfl ?_
  refine GO.iload_n dX5_isClauseLetter_0 rfl rfl ?_
  have q1 : -2147483648 ≤ p0 ∧ p0 ≤ 2147483647 := r_p0
  rcases (show (p0 < 97 ∨ 122 < p0) ∨ p0 = 97 ∨ p0 = 98 ∨ p0 = 99 ∨ p0 = 100 ∨ p0 = 101 ∨ p0 = 102 ∨ p0 = 103 ∨ p0 = 104 ∨ p0 = 105 ∨ p0 = 106 ∨ p0 = 107 ∨ p0 = 108 ∨ p0 = 109 ∨ p0 = 110 ∨ p0 = 111 ∨ p0 = 112 ∨ p0 = 113 ∨ p0 = 114 ∨ p0 = 115 ∨ p0 = 116 ∨ p0 = 117 ∨ p0 = 118 ∨ p0 = 119 ∨ p0 = 120 ∨ p0 = 121 ∨ p0 = 122 by omega) with c2 | c2 | c2 | c2 | c2 | c2 | c2 | c2 | c2 | c2 | c2 | c2 | c2 | c2 | c2 | c2 | c2 | c2 | c2 | c2 | c2 | c2 | c2 | c2 | c2 | c2 | c2
  ·
    refine GO.tableOut (tgt := 122) dX5_isClauseLetter_1 r_p0 c2 (by decide) ?_
    refine GO.iconst dX5_isClauseLetter_122 ?_
    exact GO.retz rfl rfl dX5_isClauseLetter_123 (by omega) ⟨rfl, rfl, _, rfl, (ir_c rfl), ⟨by omega, fun h => by omega, fun h => by omega⟩⟩
  ·
    refine GO.tableAt (n := 97) (tgt := 120) dX5_isClauseLetter_1 (ir_c rfl) c2 (by decide) (by decide) rfl (by decide) ?_
    refine GO.iconst dX5_isClauseLetter_120 ?_
    exact GO.retz rfl rfl dX5_isClauseLetter_121 (by omega) ⟨rfl, rfl, _, rfl, (ir_c rfl), ⟨by omega, fun h => by omega, fun h => by omega⟩⟩
  ·
    refine GO.tableAt (n := 98) (tgt := 122) dX5_isClauseLetter_1 (ir_c rfl) c2 (by decide) (by decide) rfl (by decide) ?_
    refine GO.iconst dX5_isClauseLetter_122 ?_
    exact GO.retz rfl rfl dX5_isClauseLetter_123 (by omega) ⟨rfl, rfl, _, rfl, (ir_c rfl), ⟨by omega, fun h => by omega, fun h => by omega⟩⟩
  ·
    refine GO.tableAt (n := 99) (tgt := 120) dX5_isClauseLetter_1 (ir_c rfl) c2 (by decide) (by decide) rfl (by decide) ?_
    refine GO.iconst dX5_isClauseLetter_120 ?_
    exact GO.retz rfl rfl dX5_isClauseLetter_121 (by omega) ⟨rfl, rfl, _, rfl, (ir_c rfl), ⟨by omega, fun h => by omega, fun h => by omega⟩⟩
  ·
    refine GO.tableAt (n := 100) (tgt := 122) dX5_isClauseLetter_1 (ir_c rfl) c2 (by decide) (by decide) rfl (by decide) ?_
    refine GO.iconst dX5_isClauseLetter_122 ?_
    exact GO.retz rfl rfl dX5_isClauseLetter_123 (by omega) ⟨rfl, rfl, _, rfl, (ir_c rfl), ⟨by omega, fun h => by omega, fun h => by omega⟩⟩
  ·
    refine GO.tableAt (n := 101) (tgt := 122) dX5_isClauseLetter_1 (ir_c rfl) c2 (by decide) (by decide) rfl (by decide) ?_
    refine GO.iconst dX5_isClauseLetter_122 ?_
    exact GO.retz rfl rfl dX5_isClauseLetter_123 (by omega) ⟨rfl, rfl, _, rfl, (ir_c rfl), ⟨by omega, fun h => by omega, fun h => by omega⟩⟩
  ·
    refine GO.tableAt (n := 102) (tgt := 120) dX5_isClauseLetter_1 (ir_c rfl) c2 (by decide) (by decide) rfl (by decide) ?_
    refine GO.iconst dX5_isClauseLetter_120 ?_
    exact GO.retz rfl rfl dX5_isClauseLetter_121 (by omega) ⟨rfl, rfl, _, rfl, (ir_c rfl), ⟨by omega, fun h => by omega, fun h => by omega⟩⟩
  ·
    refine GO.tableAt (n := 103) (tgt := 120) dX5_isClauseLetter_1 (ir_c rfl) c2 (by decide) (by decide) rfl (by decide) ?_
    refine GO.iconst dX5_isClauseLetter_120 ?_
    exact GO.retz rfl rfl dX5_isClauseLetter_121 (by omega) ⟨rfl, rfl, _, rfl, (ir_c rfl), ⟨by omega, fun h => by omega, fun h => by omega⟩⟩
  ·
    refine GO.tableAt (n := 104) (tgt := 122) dX5_isClauseLetter_1 (ir_c rfl) c2 (by decide) (by decide) rfl (by decide) ?_
    refine GO.iconst dX5_isClauseLetter_122 ?_
    exact GO.retz rfl rfl dX5_isClauseLetter_123 (by omega) ⟨rfl, rfl, _, rfl, (ir_c rfl), ⟨by omega, fun h => by omega, fun h => by omega⟩⟩
  ·
    refine GO.tableAt (n := 105) (tgt := 122) dX5_isClauseLetter_1 (ir_c rfl) c2 (by decide) (by decide) rfl (by decide) ?_
    refine GO.iconst dX5_isClauseLetter_122 ?_
    exact GO.retz rfl rfl dX5_isClauseLetter_123 (by omega) ⟨rfl, rfl, _, rfl, (ir_c rfl), ⟨by omega, fun h => by omega, fun h => by omega⟩⟩
  ·
    refine GO.tableAt (n := 106) (tgt := 122) dX5_isClauseLetter_1 (ir_c rfl) c2 (by decide) (by decide) rfl (by decide) ?_
    refine GO.iconst dX5_isClauseLetter_122 ?_
    exact GO.retz rfl rfl dX5_isClauseLetter_123 (by omega) ⟨rfl, rfl, _, rfl, (ir_c rfl), ⟨by omega, fun h => by omega, fun h => by omega⟩⟩
  ·
    refine GO.tableAt (n := 107) (tgt := 120) dX5_isClauseLetter_1 (ir_c rfl) c2 (by decide) (by decide) rfl (by decide) ?_
    refine GO.iconst dX5_isClauseLetter_120 ?_
    exact GO.retz rfl rfl dX5_isClauseLetter_121 (by omega) ⟨rfl, rfl, _, rfl, (ir_c rfl), ⟨by omega, fun h => by omega, fun h => by omega⟩⟩
  ·
    refine GO.tableAt (n := 108) (tgt := 120) dX5_isClauseLetter_1 (ir_c rfl) c2 (by decide) (by decide) rfl (by decide) ?_
    refine GO.iconst dX5_isClauseLetter_120 ?_
    exact GO.retz rfl rfl dX5_isClauseLetter_121 (by omega) ⟨rfl, rfl, _, rfl, (ir_c rfl), ⟨by omega, fun h => by omega, fun h => by omega⟩⟩
  ·
    refine GO.tableAt (n := 109) (tgt := 122) dX5_isClauseLetter_1 (ir_c rfl) c2 (by decide) (by decide) rfl (by decide) ?_
    refine GO.iconst dX5_isClauseLetter_122 ?_
    exact GO.retz rfl rfl dX5_isClauseLetter_123 (by omega) ⟨rfl, rfl, _, rfl, (ir_c rfl), ⟨by omega, fun h => by omega, fun h => by omega⟩⟩
  ·
    refine GO.tableAt (n := 110) (tgt := 120) dX5_isClauseLetter_1 (ir_c rfl) c2 (by decide) (by decide) rfl (by decide) ?_
    refine GO.iconst dX5_isClauseLetter_120 ?_
    exact GO.retz rfl rfl dX5_isClauseLetter_121 (by omega) ⟨rfl, rfl, _, rfl, (ir_c rfl), ⟨by omega, fun h => by omega, fun h => by omega⟩⟩
  ·
    refine GO.tableAt (n := 111) (tgt := 122) dX5_isClauseLetter_1 (ir_c rfl) c2 (by decide) (by decide) rfl (by decide) ?_
    refine GO.iconst dX5_isClauseLetter_122 ?_
    exact GO.retz rfl rfl dX5_isClauseLetter_123 (by omega) ⟨rfl, rfl, _, rfl, (ir_c rfl), ⟨by omega, fun h => by omega, fun h => by omega⟩⟩
  ·
    refine GO.tableAt (n := 112) (tgt := 122) dX5_isClauseLetter_1 (ir_c rfl) c2 (by decide) (by decide) rfl (by decide) ?_
    refine GO.iconst dX5_isClauseLetter_122 ?_
    exact GO.retz rfl rfl dX5_isClauseLetter_123 (by omega) ⟨rfl, rfl, _, rfl, (ir_c rfl), ⟨by omega, fun h => by omega, fun h => by omega⟩⟩
  ·
    refine GO.tableAt (n := 113) (tgt := 120) dX5_isClauseLetter_1 (ir_c rfl) c2 (by decide) (by decide) rfl (by decide) ?_
    refine GO.iconst dX5_isClauseLetter_120 ?_
    exact GO.retz rfl rfl dX5_isClauseLetter_121 (by omega) ⟨rfl, rfl, _, rfl, (ir_c rfl), ⟨by omega, fun h => by omega, fun h => by omega⟩⟩
  ·
    refine GO.tableAt (n := 114) (tgt := 122) dX5_isClauseLetter_1 (ir_c rfl) c2 (by decide) (by decide) rfl (by decide) ?_
    refine GO.iconst dX5_isClauseLetter_122 ?_
    exact GO.retz rfl rfl dX5_isClauseLetter_123 (by omega) ⟨rfl, rfl, _, rfl, (ir_c rfl), ⟨by omega, fun h => by omega, fun h => by omega⟩⟩
  ·
    refine GO.tableAt (n := 115) (tgt := 120) dX5_isClauseLetter_1 (ir_c rfl) c2 (by decide) (by decide) rfl (by decide) ?_
    refine GO.iconst dX5_isClauseLetter_120 ?_
    exact GO.retz rfl rfl dX5_isClauseLetter_121 (by omega) ⟨rfl, rfl, _, rfl, (ir_c rfl), ⟨by omega, fun h => by omega, fun h => by omega⟩⟩
  ·
    refine GO.tableAt (n := 116) (tgt := 122) dX5_isClauseLetter_1 (ir_c rfl) c2 (by decide) (by decide) rfl (by decide) ?_
    refine GO.iconst dX5_isClauseLetter_122 ?_
    exact GO.retz rfl rfl dX5_isClauseLetter_123 (by omega) ⟨rfl, rfl, _, rfl, (ir_c rfl), ⟨by omega, fun h => by omega, fun h => by omega⟩⟩
  ·
    refine GO.tableAt (n := 117) (tgt := 122) dX5_isClauseLetter_1 (ir_c rfl) c2 (by decide) (by decide) rfl (by decide) ?_
    refine GO.iconst dX5_isClauseLetter_122 ?_
    exact GO.retz rfl rfl dX5_isClauseLetter_123 (by omega) ⟨rfl, rfl, _, rfl, (ir_c rfl), ⟨by omega, fun h => by omega, fun h => by omega⟩⟩
  ·
    refine GO.tableAt (n := 118) (tgt := 122) dX5_isClauseLetter_1 (ir_c rfl) c2 (by decide) (by decide) rfl (by decide) ?_
    refine GO.iconst dX5_isClauseLetter_122 ?_
    exact GO.retz rfl rfl dX5_isClauseLetter_123 (by omega) ⟨rfl, rfl, _, rfl, (ir_c rfl), ⟨by omega, fun h => by omega, fun h => by omega⟩⟩
  ·
    refine GO.tableAt (n := 119) (tgt := 122) dX5_isClauseLetter_1 (ir_c rfl) c2 (by decide) (by decide) rfl (by decide) ?_
    refine GO.iconst dX5_isClauseLetter_122 ?_
    exact GO.retz rfl rfl dX5_isClauseLetter_123 (by omega) ⟨rfl, rfl, _, rfl, (ir_c rfl), ⟨by omega, fun h => by omega, fun h => by omega⟩⟩
  ·
    refine GO.tableAt (n := 120) (tgt := 120) dX5_isClauseLetter_1 (ir_c rfl) c2 (by decide) (by decide) rfl (by decide) ?_
    refine GO.iconst dX5_isClauseLetter_120 ?_
    exact GO.retz rfl rfl dX5_isClauseLetter_121 (by omega) ⟨rfl, rfl, _, rfl, (ir_c rfl), ⟨by omega, fun h => by omega, fun h => by omega⟩⟩
  ·
    refine GO.tableAt (n := 121) (tgt := 122) dX5_isClauseLetter_1 (ir_c rfl) c2 (by decide) (by decide) rfl (by decide) ?_
    refine GO.iconst dX5_isClauseLetter_122 ?_
    exact GO.retz rfl rfl dX5_isClauseLetter_123 (by omega) ⟨rfl, rfl, _, rfl, (ir_c rfl), ⟨by omega, fun h => by omega, fun h => by omega⟩⟩
  ·
    refine GO.tableAt (n := 122) (tgt := 120) dX5_isClauseLetter_1 (ir_c rfl) c2 (by decide) (by decide) rfl (by decide) ?_
    refine GO.iconst dX5_isClauseLetter_120 ?_
    exact GO.retz rfl rfl dX5_isClauseLetter_121 (by omega) ⟨rfl, rfl, _, rfl, (ir_c rfl), ⟨by omega, fun h => by omega, fun h => by omega⟩⟩

set_option maxHeartbeats 1000000 in
theorem t_X8_isFull_k33 {K : Kmap} {V : Vmap} {x : Nat} (h_x : K x = some (0, 33)) : MC mX8_isFull_k33 K V [.ref x] (IP K V (fun X => (X = 0 ∨ X = 1) ∧ (X ≠ 0 → vi V x 3 ≥ vi V x 1) ∧ (X = 0 → vi V x 3 < vi V x 1 ∧ vi V x 3 ≤ 11))) := by
  refine MC.start 0 (by decide +kernel) rfl rfl rfl (ls0 := [some (.ref x)]) rfl ?_
  refine GO.aload_n dX8_isFull_0 rfl rfl ?_
  refine GO.getI h_x fl_RX8_9_k33 rfl rfl dX8_isFull_1 (fun l1 u2 => ?_)
  refine GO.aload_n dX8_isFull_4 rfl rfl ?_
  refine GO.getI h_x fl_RX8_18_k33 rfl rfl dX8_isFull_5 (fun l3 u4 => ?_)
  refine GO.icmp_lt (tgt := 15) dX8_isFull_8 (by decide) vi_ir vi_ir (fun c5 => ?_) (fun c5 => ?_)
  ·
    refine GO.iconst dX8_isFull_15 ?_
    exact GO.retz rfl rfl dX8_isFull_16 (by omega) ⟨rfl, rfl, _, rfl, (ir_c rfl), ⟨by omega, fun h => by omega, fun h => by omega⟩⟩
  ·
    refine GO.iconst dX8_isFull_11 ?_
    refine GO.goto (tgt := 16) dX8_isFull_12 (by decide) ?_
    exact GO.retz rfl rfl dX8_isFull_16 (by omega) ⟨rfl, rfl, _, rfl, (ir_c rfl), ⟨by omega, fun h => by omega, fun h => by omega⟩⟩

set_option maxHeartbeats 1000000 in
theorem t_X8_put_k33 {K : Kmap} {V : Vmap} {x : Nat} {p0 : Int} {p1 : Int} {p2 : Int} (h_x : K x = some (0, 33)) (r_p0 : ir p0) (r_p1 : ir p1) (r_p2 : ir p2) : MC mX8_put_k33 K V [.ref x, ti p0, ti p1, ti p2] (VS K (fun V1 => (True) ∧ (TPU K V V1 x p0 p1 p2))) := by
  refine MC.start 2 (by decide +kernel) rfl rfl rfl (ls0 := [some (.ref x), some (ti p0), some (ti p1), some (ti p2), none, none]) rfl ?_
  refine GO.iload_n dX8_put_0 rfl rfl ?_
  refine GO.aload_n dX8_put_1 rfl rfl ?_
  refine GO.getI h_x fl_RX8_15_k33 rfl rfl dX8_put_2 (fun l1 u2 => ?_)
  refine GO.imul dX8_put_5 ?_
  refine GO.norm (fun z3 r4 hn5 => ?_)
  refine GO.iload_n dX8_put_6 rfl rfl ?_
  refine GO.iadd dX8_put_7 ?_
  refine GO.norm (fun z6 r7 hn8 => ?_)
  refine GO.istore (ls1 := [some (.ref x), some (ti p0), some (ti p1), some (ti p2), some (ti z6), none]) dX8_put_8 rfl rfl ?_
  refine GO.iload_n dX8_put_10 rfl rfl ?_
  refine GO.if_lt (tgt := 38) dX8_put_11 (by decide) r_p0 (fun c9 => ?_) (fun c9 => ?_)
  ·
    refine GO.iconst dX8_put_38 ?_
    refine GO.istore (ls1 := [some (.ref x), some (ti p0), some (ti p1), some (ti p2), some (ti z6), some (ti 0)]) dX8_put_39 rfl rfl ?_
    refine GO.iload dX8_put_41 rfl ?_
    refine GO.if_eq (tgt := 69) dX8_put_43 (by decide) (ir_c rfl) (fun c10 => ?_) (fun h => by exfalso; omega)
    exact GO.retv rfl rfl dX8_put_69 ⟨rfl, rfl, ⟨trivial, (by first | exact TPU.in (by assumption) (by assumption) ⟨by omega, by omega, by omega, by omega⟩ (by assumption) | exact TPU.out (by omega) | exact TPU.neg (by assumption) (by assumption) ⟨by omega, by omega, by omega, by omega⟩ (by omega) | exact TPU.bad (by assumption) (by assumption) ⟨by omega, by omega, by omega, by omega⟩ (by assumption) (by omega))⟩⟩
  ·
    refine GO.iload_n dX8_put_14 rfl rfl ?_
    refine GO.aload_n dX8_put_15 rfl rfl ?_
    refine GO.getI h_x fl_RX8_9_k33 rfl rfl dX8_put_16 (fun l11 u12 => ?_)
    refine GO.icmp_ge (tgt := 38) dX8_put_19 (by decide) r_p0 vi_ir (fun c13 => ?_) (fun c13 => ?_)
    ·
      refine GO.iconst dX8_put_38 ?_
      refine GO.istore (ls1 := [some (.ref x), some (ti p0), some (ti p1), some (ti p2), some (ti z6), some (ti 0)]) dX8_put_39 rfl rfl ?_
      refine GO.iload dX8_put_41 rfl ?_
      refine GO.if_eq (tgt := 69) dX8_put_43 (by decide) (ir_c rfl) (fun c14 => ?_) (fun h => by exfalso; omega)
      exact GO.retv rfl rfl dX8_put_69 ⟨rfl, rfl, ⟨trivial, (by first | exact TPU.in (by assumption) (by assumption) ⟨by omega, by omega, by omega, by omega⟩ (by assumption) | exact TPU.out (by omega) | exact TPU.neg (by assumption) (by assumption) ⟨by omega, by omega, by omega, by omega⟩ (by omega) | exact TPU.bad (by assumption) (by assumption) ⟨by omega, by omega, by omega, by omega⟩ (by assumption) (by omega))⟩⟩
    ·
      refine GO.iload_n dX8_put_22 rfl rfl ?_
      refine GO.if_lt (tgt := 38) dX8_put_23 (by decide) r_p1 (fun c15 => ?_) (fun c15 => ?_)
      ·
        refine GO.iconst dX8_put_38 ?_
        refine GO.istore (ls1 := [some (.ref x), some (ti p0), some (ti p1), some (ti p2), some (ti z6), some (ti 0)]) dX8_put_39 rfl rfl ?_
        refine GO.iload dX8_put_41 rfl ?_
        refine GO.if_eq (tgt := 69) dX8_put_43 (by decide) (ir_c rfl) (fun c16 => ?_) (fun h => by exfalso; omega)
        exact GO.retv rfl rfl dX8_put_69 ⟨rfl, rfl, ⟨trivial, (by first | exact TPU.in (by assumption) (by assumption) ⟨by omega, by omega, by omega, by omega⟩ (by assumption) | exact TPU.out (by omega) | exact TPU.neg (by assumption) (by assumption) ⟨by omega, by omega, by omega, by omega⟩ (by omega) | exact TPU.bad (by assumption) (by assumption) ⟨by omega, by omega, by omega, by omega⟩ (by assumption) (by omega))⟩⟩
      ·
        refine GO.iload_n dX8_put_26 rfl rfl ?_
        refine GO.aload_n dX8_put_27 rfl rfl ?_
        refine GO.getI h_x fl_RX8_15_k33 rfl rfl dX8_put_28 (fun l17 u18 => ?_)
        refine GO.icmp_ge (tgt := 38) dX8_put_31 (by decide) r_p1 vi_ir (fun c19 => ?_) (fun c19 => ?_)
        ·
          refine GO.iconst dX8_put_38 ?_
          refine GO.istore (ls1 := [some (.ref x), some (ti p0), some (ti p1), some (ti p2), some (ti z6), some (ti 0)]) dX8_put_39 rfl rfl ?_
          refine GO.iload dX8_put_41 rfl ?_
          refine GO.if_eq (tgt := 69) dX8_put_43 (by decide) (ir_c rfl) (fun c20 => ?_) (fun h => by exfalso; omega)
          exact GO.retv rfl rfl dX8_put_69 ⟨rfl, rfl, ⟨trivial, (by first | exact TPU.in (by assumption) (by assumption) ⟨by omega, by omega, by omega, by omega⟩ (by assumption) | exact TPU.out (by omega) | exact TPU.neg (by assumption) (by assumption) ⟨by omega, by omega, by omega, by omega⟩ (by omega) | exact TPU.bad (by assumption) (by assumption) ⟨by omega, by omega, by omega, by omega⟩ (by assumption) (by omega))⟩⟩
        ·
          refine GO.iconst dX8_put_34 ?_
          refine GO.goto (tgt := 39) dX8_put_35 (by decide) ?_
          refine GO.istore (ls1 := [some (.ref x), some (ti p0), some (ti p1), some (ti p2), some (ti z6), some (ti 1)]) dX8_put_39 rfl rfl ?_
          refine GO.iload dX8_put_41 rfl ?_
          refine GO.if_eq (tgt := 69) dX8_put_43 (by decide) (ir_c rfl) (fun h => by exfalso; omega) (fun c21 => ?_)
          refine GO.iload dX8_put_46 rfl ?_
          refine GO.if_lt (tgt := 69) dX8_put_48 (by decide) r7 (fun c22 => ?_) (fun c22 => ?_)
          ·
            exact GO.retv rfl rfl dX8_put_69 ⟨rfl, rfl, ⟨trivial, (by first | exact TPU.in (by assumption) (by assumption) ⟨by omega, by omega, by omega, by omega⟩ (by assumption) | exact TPU.out (by omega) | exact TPU.neg (by assumption) (by assumption) ⟨by omega, by omega, by omega, by omega⟩ (by omega) | exact TPU.bad (by assumption) (by assumption) ⟨by omega, by omega, by omega, by omega⟩ (by assumption) (by omega))⟩⟩
          ·
            refine GO.iload dX8_put_51 rfl ?_
            refine GO.aload_n dX8_put_53 rfl rfl ?_
            refine GO.getB h_x fl_RX8_27_k33 rfl rfl dX8_put_54 (fun n25 hv24 h23 b26 => ?_)
            refine GO.alen h23 dX8_put_57 (fun h27 => ?_)
            refine GO.icmp_ge (tgt := 69) dX8_put_58 (by decide) r7 ⟨by omega, by omega⟩ (fun c28 => ?_) (fun c28 => ?_)
            ·
              exact GO.retv rfl rfl dX8_put_69 ⟨rfl, rfl, ⟨trivial, (by first | exact TPU.in (by assumption) (by assumption) ⟨by omega, by omega, by omega, by omega⟩ (by assumption) | exact TPU.out (by omega) | exact TPU.neg (by assumption) (by assumption) ⟨by omega, by omega, by omega, by omega⟩ (by omega) | exact TPU.bad (by assumption) (by assumption) ⟨by omega, by omega, by omega, by omega⟩ (by assumption) (by omega))⟩⟩
            ·
              refine GO.aload_n dX8_put_61 rfl rfl ?_
              refine GO.getRaw h_x fl_RX8_27_k33 hv24 dX8_put_62 ?_
              refine GO.iload dX8_put_65 rfl ?_
              refine GO.iload_n dX8_put_67 rfl rfl ?_
              have q31 : -2147483648 ≤ z6 ∧ z6 ≤ 2147483647 := r7
              refine GO.iast (t := 155) rfl rfl (by decide +kernel) h23 r7 (by omega) (by omega) r_p2 (r_p2).1 (r_p2).2 dX8_put_68 (fun V33 e32 => ?_)
              exact GO.retv rfl rfl dX8_put_69 ⟨rfl, rfl, ⟨trivial, (by first | exact TPU.in (by assumption) (by assumption) ⟨by omega, by omega, by omega, by omega⟩ (by assumption) | exact TPU.out (by omega) | exact TPU.neg (by assumption) (by assumption) ⟨by omega, by omega, by omega, by omega⟩ (by omega) | exact TPU.bad (by assumption) (by assumption) ⟨by omega, by omega, by omega, by omega⟩ (by assumption) (by omega))⟩⟩

set_option maxHeartbeats 1000000 in
theorem t_X8_append_k33 {K : Kmap} {V : Vmap} {x : Nat} {p0 : Int} {p1 : Int} {p2 : Int} {p3 : Int} {p4 : Int} (h_x : K x = some (0, 33)) (r_p0 : ir p0) (r_p1 : ir p1) (r_p2 : ir p2) (r_p3 : ir p3) (r_p4 : ir p4) : MC mX8_append_k33 K V [.ref x, ti p0, ti p1, ti p2, ti p3, ti p4] (IS K (fun X V1 => (X ≥ (-2147483648) ∧ X ≤ 2147483647) ∧ (APP K V V1 x p0 p1 p2 p3 p4 X))) := by
  refine MC.start 1 (by decide +kernel) rfl rfl rfl (ls0 := [some (.ref x), some (ti p0), some (ti p1), some (ti p2), some (ti p3), some (ti p4), none]) rfl ?_
  refine GO.aload_n dX8_append_0 rfl rfl ?_
  refine GO.callV (ci := 33) (N := mX8_isFull_k33) dX8_append_1 (RX8, TX8, 4) rfl gV_RX8_31 h_x (t_X8_isFull_k33 h_x) rfl [] rfl rfl (Nat.le_of_ble_eq_true rfl) rfl (k_ip fun X1 r2 h3 => ?_)
  refine GO.if_eq (tgt := 9) dX8_append_4 (by decide) r2 (fun c4 => ?_) (fun c4 => ?_)
  ·
    have q5 := h3.2.2 (by omega)
    refine GO.aload_n dX8_append_9 rfl rfl ?_
    refine GO.getI h_x fl_RX8_9_k33 rfl rfl dX8_append_10 (fun l6 u7 => ?_)
    refine GO.name (fun z8 hz9 => ?_)
    have r10 : ir z8 := hz9 ▸ vi_ir
    refine GO.istore (ls1 := [some (.ref x), some (ti p0), some (ti p1), some (ti p2), some (ti p3), some (ti p4), some (ti z8)]) dX8_append_13 rfl rfl ?_
    refine GO.aload_n dX8_append_15 rfl rfl ?_
    refine GO.dup dX8_append_16 rfl ?_
    refine GO.getI h_x fl_RX8_9_k33 rfl rfl dX8_append_17 (fun l11 u12 => ?_)
    refine GO.iconst dX8_append_20 ?_
    refine GO.iadd dX8_append_21 ?_
    have q14 : -2147483648 ≤ vi V x 3 ∧ vi V x 3 ≤ 2147483647 := vi_ir
    have q15 : -2147483648 ≤ z8 ∧ z8 ≤ 2147483647 := r10
    have q16 : -2147483648 ≤ vi V x 1 ∧ vi V x 1 ≤ 2147483647 := vi_ir
    refine GO.putI h_x fp_RX8_9_k33 rfl (by decide +kernel) ⟨by omega, by omega⟩ (by omega) (by omega) dX8_append_22 (fun V17 e13 => ?_)
    refine GO.aload_n dX8_append_25 rfl rfl ?_
    refine GO.iload dX8_append_26 rfl ?_
    refine GO.iconst dX8_append_28 ?_
    refine GO.iload_n dX8_append_29 rfl rfl ?_
    refine GO.callV (ci := 33) (N := mX8_put_k33) dX8_append_30 (RX8, TX8, 4) rfl gV_RX8_35 h_x (t_X8_put_k33 h_x r10 (ir_c rfl) r_p0) rfl [] rfl rfl (Nat.le_of_ble_eq_true rfl) rfl (k_vs fun V20 h19 hF18 => ?_)
    have raw_put := h19.2
    have rw30 := h19.2
    refine GO.aload_n dX8_append_33 rfl rfl ?_
    refine GO.iload dX8_append_34 rfl ?_
    refine GO.iconst dX8_append_36 ?_
    refine GO.iload_n dX8_append_37 rfl rfl ?_
    refine GO.callV (ci := 33) (N := mX8_put_k33) dX8_append_38 (RX8, TX8, 4) rfl gV_RX8_35 h_x (t_X8_put_k33 h_x r10 (ir_c rfl) r_p1) rfl [] rfl rfl (Nat.le_of_ble_eq_true rfl) rfl (k_vs fun V23 h22 hF21 => ?_)
    have raw_put := h22.2
    have rw38 := h22.2
    refine GO.aload_n dX8_append_41 rfl rfl ?_
    refine GO.iload dX8_append_42 rfl ?_
    refine GO.iconst dX8_append_44 ?_
    refine GO.iload_n dX8_append_45 rfl rfl ?_
    refine GO.callV (ci := 33) (N := mX8_put_k33) dX8_append_46 (RX8, TX8, 4) rfl gV_RX8_35 h_x (t_X8_put_k33 h_x r10 (ir_c rfl) r_p2) rfl [] rfl rfl (Nat.le_of_ble_eq_true rfl) rfl (k_vs fun V26 h25 hF24 => ?_)
    have raw_put := h25.2
    have rw46 := h25.2
    refine GO.aload_n dX8_append_49 rfl rfl ?_
    refine GO.iload dX8_append_50 rfl ?_
    refine GO.iconst dX8_append_52 ?_
    refine GO.iload dX8_append_53 rfl ?_
    refine GO.callV (ci := 33) (N := mX8_put_k33) dX8_append_55 (RX8, TX8, 4) rfl gV_RX8_35 h_x (t_X8_put_k33 h_x r10 (ir_c rfl) r_p3) rfl [] rfl rfl (Nat.le_of_ble_eq_true rfl) rfl (k_vs fun V29 h28 hF27 => ?_)
    have raw_put := h28.2
    have rw55 := h28.2
    refine GO.aload_n dX8_append_58 rfl rfl ?_
    refine GO.iload dX8_append_59 rfl ?_
    refine GO.iconst dX8_append_61 ?_
    refine GO.iload dX8_append_62 rfl ?_
    refine GO.callV (ci := 33) (N := mX8_put_k33) dX8_append_64 (RX8, TX8, 4) rfl gV_RX8_35 h_x (t_X8_put_k33 h_x r10 (ir_c rfl) r_p4) rfl [] rfl rfl (Nat.le_of_ble_eq_true rfl) rfl (k_vs fun V32 h31 hF30 => ?_)
    have raw_put := h31.2
    have rw64 := h31.2
    refine GO.iload dX8_append_67 rfl ?_
    exact GO.reti rfl rfl dX8_append_69 ⟨rfl, _, rfl, r10, ⟨(by first | exact trivial | omega), (by first | exact APP.no (by omega) rfl | exact APP.yes h_x (by omega) (by omega) (by assumption) rfl ⟨by omega, by omega⟩ rw30 rw38 rw46 rw55 rw64)⟩⟩
  ·
    have q33 := h3.2.1 (by omega)
    refine GO.iconst dX8_append_7 ?_
    exact GO.reti rfl rfl dX8_append_8 ⟨rfl, _, rfl, (ir_c rfl), ⟨(by first | exact trivial | omega), (by first | exact APP.no (by omega) rfl | exact APP.yes h_x (by omega) (by omega) (by assumption) rfl ⟨by omega, by omega⟩ rw30 rw38 rw46 rw55 rw64)⟩⟩

set_option maxHeartbeats 1000000 in
theorem t_X5_set {K : Kmap} {V : Vmap} {x : Nat} {p0 : Int} {p1 : Int} (h_x : K x = some (0, 4)) (r_p0 : ir p0) (r_p1 : ir p1) : MC mX5_set K V [.ref x, ti p0, ti p1] (VS K (fun V1 => (True) ∧ (STT K V V1 x p0 p1))) := by
  refine MC.start 0 (by decide +kernel) rfl rfl rfl (ls0 := [some (.ref x), some (ti p0), some (ti p1)]) rfl ?_
  refine GO.aload_n dX5_set_0 rfl rfl ?_
  refine GO.getR h_x fl_RX5_31 rfl rfl dX5_set_1 (fun hv2 h1 => ?_)
  refine GO.getR h1 fl_RX5_42 rfl rfl dX5_set_4 (fun hv4 h3 => ?_)
  refine GO.aload_n dX5_set_7 rfl rfl ?_
  refine GO.getRaw h_x fl_RX5_31 hv2 dX5_set_8 ?_
  refine GO.getRaw h1 fl_RX5_42 hv4 dX5_set_11 ?_
  refine GO.getI h3 fl_RX5_127_k33 rfl rfl dX5_set_14 (fun l9 u10 => ?_)
  refine GO.iconst dX5_set_17 ?_
  refine GO.isub dX5_set_18 ?_
  refine GO.iload_n dX5_set_19 rfl rfl ?_
  refine GO.iload_n dX5_set_20 rfl rfl ?_
  refine GO.callV (ci := 33) (N := mX8_put_k33) dX5_set_21 (RX8, TX8, 4) rfl gV_RX5_130 h3 (t_X8_put_k33 h3 ⟨by omega, by omega⟩ r_p0 r_p1) rfl [] rfl rfl (Nat.le_of_ble_eq_true rfl) rfl (k_vs fun V13 h12 hF11 => ?_)
  have raw_put := h12.2
  have rw21 := h12.2
  exact GO.retv rfl rfl dX5_set_24 ⟨rfl, rfl, ⟨trivial, rw21⟩⟩

set_option maxHeartbeats 1000000 in
theorem t_X5_refuse {K : Kmap} {V : Vmap} {x : Nat} {p0 : Int} {p1 : Int} (h_x : K x = some (0, 4)) (r_p0 : ir p0) (r_p1 : ir p1) (q_0 : p0 ≥ 1) : MC mX5_refuse K V [.ref x, ti p0, ti p1] (VS K (fun V1 => (vi V1 x 5 ≠ 0) ∧ (RFS V V1 x p0 p1))) := by
  refine MC.start 0 (by decide +kernel) rfl rfl rfl (ls0 := [some (.ref x), some (ti p0), some (ti p1)]) rfl ?_
  refine GO.useWT (fun hW_0 => ?_)
  refine GO.aload_n dX5_refuse_0 rfl rfl ?_
  refine GO.getI h_x fl_RX5_18 rfl rfl dX5_refuse_1 (fun _ _ => ?_)
  refine GO.if_ne (tgt := 17) dX5_refuse_4 (by decide) vi_ir (fun c1 => ?_) (fun c1 => ?_)
  ·
    have q2 : -2147483648 ≤ vi V x 5 ∧ vi V x 5 ≤ 2147483647 := vi_ir
    exact GO.retv rfl rfl dX5_refuse_17 ⟨rfl, rfl, ⟨by omega, (by first | exact Or.inl ⟨by omega, rfl⟩ | exact Or.inr ⟨by omega, _, by assumption, by assumption⟩)⟩⟩
  ·
    refine GO.aload_n dX5_refuse_7 rfl rfl ?_
    refine GO.iload_n dX5_refuse_8 rfl rfl ?_
    refine GO.putI h_x fp_RX5_18 rfl (by decide +kernel) r_p0 (r_p0).1 (r_p0).2 dX5_refuse_9 (fun V4 e3 => ?_)
    refine GO.aload_n dX5_refuse_12 rfl rfl ?_
    refine GO.iload_n dX5_refuse_13 rfl rfl ?_
    refine GO.putI h_x fp_RX5_21 rfl (by decide +kernel) r_p1 (r_p1).1 (r_p1).2 dX5_refuse_14 (fun V6 e5 => ?_)
    have e8 : vi V4 x 5 = p0 := upd2_int e3 r_p0
    have e7 : vi V6 x 5 = vi V4 x 5 := vi_up e5 (Or.inr (by decide))
    have q9 : -2147483648 ≤ p0 ∧ p0 ≤ 2147483647 := r_p0
    exact GO.retv rfl rfl dX5_refuse_17 ⟨rfl, rfl, ⟨by omega, (by first | exact Or.inl ⟨by omega, rfl⟩ | exact Or.inr ⟨by omega, _, by assumption, by assumption⟩)⟩⟩

set_option maxHeartbeats 1000000 in
theorem t_X5_deepen {K : Kmap} {V : Vmap} {x : Nat} {p0 : Int} (h_x : K x = some (0, 4)) (r_p0 : ir p0) (q_0 : vi V x 4 ≥ 0) (q_1 : vi V x 4 ≤ 8) (q_2 : p0 ≥ 0) : MC mX5_deepen K V [.ref x, ti p0] (VS K (fun V1 => ((vi V x 5 ≠ 0 → vi V1 x 5 ≠ 0) ∧ vi V1 x 4 = (vi V x 4 + 1) ∧ (vi V1 x 5 = 0 → vi V x 4 ≤ 7)) ∧ (CRg K V V1 x 0 1 0 (depS p0 (vi V x 4).toNat)))) := by
  refine MC.start 0 (by decide +kernel) rfl rfl rfl (ls0 := [some (.ref x), some (ti p0)]) rfl ?_
  refine GO.useWT (fun hW_0 => ?_)
  refine GO.aload_n dX5_deepen_0 rfl rfl ?_
  refine GO.callV (ci := 4) (N := mX5_next) dX5_deepen_1 (RX5, TX5, 7) rfl gV_RX5_61 h_x (t_X5_next h_x) rfl [] rfl rfl (Nat.le_of_ble_eq_true rfl) rfl (k_ip fun X1 r2 h3 => ?_)
  refine GO.iload_n dX5_deepen_4 rfl rfl ?_
  refine GO.icmp_eq (tgt := 20) dX5_deepen_5 (by decide) r2 r_p0 (fun c4 => ?_) (fun c4 => ?_)
  ·
    refine GO.aload_n dX5_deepen_20 rfl rfl ?_
    refine GO.getI h_x fl_RX5_15 rfl rfl dX5_deepen_21 (fun _ _ => ?_)
    refine GO.bipush dX5_deepen_24 rfl ?_
    refine GO.icmp_lt (tgt := 41) dX5_deepen_26 (by decide) vi_ir (ir_c rfl) (fun c5 => ?_) (fun c5 => ?_)
    ·
      refine GO.aload_n dX5_deepen_41 rfl rfl ?_
      refine GO.dup dX5_deepen_42 rfl ?_
      refine GO.getI h_x fl_RX5_9 rfl rfl dX5_deepen_43 (fun _ _ => ?_)
      refine GO.iconst dX5_deepen_46 ?_
      refine GO.iadd dX5_deepen_47 ?_
      refine GO.norm (fun z6 r7 hn8 => ?_)
      refine GO.putI h_x fp_RX5_9 rfl (by decide +kernel) r7 (r7).1 (r7).2 dX5_deepen_48 (fun V10 e9 => ?_)
      refine GO.useWT (fun hWd => ?_)
      refine GO.aload_n dX5_deepen_51 rfl rfl ?_
      refine GO.dup dX5_deepen_52 rfl ?_
      refine GO.getI h_x fl_RX5_15 rfl rfl dX5_deepen_53 (fun _ _ => ?_)
      have e11 : vi V10 x 4 = vi V x 4 := vi_up e9 (Or.inr (by decide))
      refine GO.iconst dX5_deepen_56 ?_
      refine GO.iadd dX5_deepen_57 ?_
      have q13 : -2147483648 ≤ vi V10 x 4 ∧ vi V10 x 4 ≤ 2147483647 := vi_ir
      have q14 : -2147483648 ≤ vi V x 4 ∧ vi V x 4 ≤ 2147483647 := vi_ir
      refine GO.putI h_x fp_RX5_15 rfl (by decide +kernel) ⟨by omega, by omega⟩ (by omega) (by omega) dX5_deepen_58 (fun V15 e12 => ?_)
      have q16 : -2147483648 ≤ vi V x 5 ∧ vi V x 5 ≤ 2147483647 := vi_ir
      have e18 : vi V10 x 5 = vi V x 5 := vi_up e9 (Or.inr (by decide))
      have e17 : vi V15 x 5 = vi V10 x 5 := vi_up e12 (Or.inr (by decide))
      have e19 : vi V15 x 4 = (vi V10 x 4) + 1 := upd2_int e12 ⟨by omega, by omega⟩
      exact GO.retv rfl rfl dX5_deepen_61 ⟨rfl, rfl, ⟨by omega, (by first | exact DEP.yes (by omega) (by omega) (by omega) h_x hW_0 hWd (by assumption) (by assumption) (by assumption) (by assumption) | exact DEP.deep (by omega) (by omega) rw35 h_x hW_0 hWd vi_ir rfl (by assumption) | exact DEP.no (by omega) rw14 h_x hW_0 hWd vi_ir rfl (by assumption))⟩⟩
    ·
      refine GO.aload_n dX5_deepen_29 rfl rfl ?_
      refine GO.iconst dX5_deepen_30 ?_
      refine GO.aload_n dX5_deepen_31 rfl rfl ?_
      refine GO.getI h_x fl_RX5_9 rfl rfl dX5_deepen_32 (fun _ _ => ?_)
      refine GO.callV (ci := 4) (N := mX5_refuse) dX5_deepen_35 (RX5, TX5, 7) rfl gV_RX5_57 h_x (t_X5_refuse h_x (ir_c rfl) vi_ir (by omega)) rfl [] rfl rfl (Nat.le_of_ble_eq_true rfl) rfl (k_vs fun V22 h21 hF20 => ?_)
      have raw_refuse := h21.2
      have rw35 := h21.2
      refine GO.goto (tgt := 51) dX5_deepen_38 (by decide) ?_
      refine GO.useWT (fun hWd => ?_)
      refine GO.aload_n dX5_deepen_51 rfl rfl ?_
      refine GO.dup dX5_deepen_52 rfl ?_
      refine GO.getI h_x fl_RX5_15 rfl rfl dX5_deepen_53 (fun _ _ => ?_)
      have e24 : vi V22 x 4 = vi V x 4 := vi_fr hF20 h_x h_x (by decide +kernel)
      refine GO.iconst dX5_deepen_56 ?_
      refine GO.iadd dX5_deepen_57 ?_
      have q26 : -2147483648 ≤ vi V22 x 4 ∧ vi V22 x 4 ≤ 2147483647 := vi_ir
      have q27 : -2147483648 ≤ vi V x 4 ∧ vi V x 4 ≤ 2147483647 := vi_ir
      refine GO.putI h_x fp_RX5_15 rfl (by decide +kernel) ⟨by omega, by omega⟩ (by omega) (by omega) dX5_deepen_58 (fun V28 e25 => ?_)
      have q29 : -2147483648 ≤ vi V x 5 ∧ vi V x 5 ≤ 2147483647 := vi_ir
      have e30 : vi V28 x 5 = vi V22 x 5 := vi_up e25 (Or.inr (by decide))
      have q31 : -2147483648 ≤ vi V22 x 5 ∧ vi V22 x 5 ≤ 2147483647 := vi_ir
      have e32 : vi V28 x 4 = (vi V22 x 4) + 1 := upd2_int e25 ⟨by omega, by omega⟩
      exact GO.retv rfl rfl dX5_deepen_61 ⟨rfl, rfl, ⟨by omega, (by first | exact DEP.yes (by omega) (by omega) (by omega) h_x hW_0 hWd (by assumption) (by assumption) (by assumption) (by assumption) | exact DEP.deep (by omega) (by omega) rw35 h_x hW_0 hWd vi_ir rfl (by assumption) | exact DEP.no (by omega) rw14 h_x hW_0 hWd vi_ir rfl (by assumption))⟩⟩
  ·
    refine GO.aload_n dX5_deepen_8 rfl rfl ?_
    refine GO.iconst dX5_deepen_9 ?_
    refine GO.aload_n dX5_deepen_10 rfl rfl ?_
    refine GO.getI h_x fl_RX5_9 rfl rfl dX5_deepen_11 (fun _ _ => ?_)
    refine GO.callV (ci := 4) (N := mX5_refuse) dX5_deepen_14 (RX5, TX5, 7) rfl gV_RX5_57 h_x (t_X5_refuse h_x (ir_c rfl) vi_ir (by omega)) rfl [] rfl rfl (Nat.le_of_ble_eq_true rfl) rfl (k_vs fun V35 h34 hF33 => ?_)
    have raw_refuse := h34.2
    have rw14 := h34.2
    refine GO.goto (tgt := 51) dX5_deepen_17 (by decide) ?_
    refine GO.useWT (fun hWd => ?_)
    refine GO.aload_n dX5_deepen_51 rfl rfl ?_
    refine GO.dup dX5_deepen_52 rfl ?_
    refine GO.getI h_x fl_RX5_15 rfl rfl dX5_deepen_53 (fun _ _ => ?_)
    have e37 : vi V35 x 4 = vi V x 4 := vi_fr hF33 h_x h_x (by decide +kernel)
    refine GO.iconst dX5_deepen_56 ?_
    refine GO.iadd dX5_deepen_57 ?_
    have q39 : -2147483648 ≤ vi V35 x 4 ∧ vi V35 x 4 ≤ 2147483647 := vi_ir
    have q40 : -2147483648 ≤ vi V x 4 ∧ vi V x 4 ≤ 2147483647 := vi_ir
    refine GO.putI h_x fp_RX5_15 rfl (by decide +kernel) ⟨by omega, by omega⟩ (by omega) (by omega) dX5_deepen_58 (fun V41 e38 => ?_)
    have q42 : -2147483648 ≤ vi V x 5 ∧ vi V x 5 ≤ 2147483647 := vi_ir
    have e43 : vi V41 x 5 = vi V35 x 5 := vi_up e38 (Or.inr (by decide))
    have q44 : -2147483648 ≤ vi V35 x 5 ∧ vi V35 x 5 ≤ 2147483647 := vi_ir
    have e45 : vi V41 x 4 = (vi V35 x 4) + 1 := upd2_int e38 ⟨by omega, by omega⟩
    exact GO.retv rfl rfl dX5_deepen_61 ⟨rfl, rfl, ⟨by omega, (by first | exact DEP.yes (by omega) (by omega) (by omega) h_x hW_0 hWd (by assumption) (by assumption) (by assumption) (by assumption) | exact DEP.deep (by omega) (by omega) rw35 h_x hW_0 hWd vi_ir rfl (by assumption) | exact DEP.no (by omega) rw14 h_x hW_0 hWd vi_ir rfl (by assumption))⟩⟩

set_option maxHeartbeats 1000000 in
theorem t_X5_isDigit {K : Kmap} {V : Vmap} {p0 : Int} (r_p0 : ir p0) : MC mX5_isDigit K V [ti p0] (IP K V (fun X => (X = 0 ∨ X = 1) ∧ (X ≠ 0 → p0 ≥ 48 ∧ p0 ≤ 57) ∧ (X = 0 → (p0 < 48 ∨ p0 > 57)))) := by
  refine MC.start 0 (by decide +kernel) rfl rfl rfl (ls0 := [some (ti p0)]) rfl ?_
  refine GO.iload_n dX5_isDigit_0 rfl rfl ?_
  refine GO.bipush dX5_isDigit_1 rfl ?_
  refine GO.icmp_lt (tgt := 16) dX5_isDigit_3 (by decide) r_p0 (ir_c rfl) (fun c1 => ?_) (fun c1 => ?_)
  ·
    refine GO.iconst dX5_isDigit_16 ?_
    exact GO.retz rfl rfl dX5_isDigit_17 (by omega) ⟨rfl, rfl, _, rfl, (ir_c rfl), ⟨by omega, fun h => by omega, fun h => by omega⟩⟩
  ·
    refine GO.iload_n dX5_isDigit_6 rfl rfl ?_
    refine GO.bipush dX5_isDigit_7 rfl ?_
    refine GO.icmp_gt (tgt := 16) dX5_isDigit_9 (by decide) r_p0 (ir_c rfl) (fun c2 => ?_) (fun c2 => ?_)
    ·
      refine GO.iconst dX5_isDigit_16 ?_
      exact GO.retz rfl rfl dX5_isDigit_17 (by omega) ⟨rfl, rfl, _, rfl, (ir_c rfl), ⟨by omega, fun h => by omega, fun h => by omega⟩⟩
    ·
      refine GO.iconst dX5_isDigit_12 ?_
      refine GO.goto (tgt := 17) dX5_isDigit_13 (by decide) ?_
      exact GO.retz rfl rfl dX5_isDigit_17 (by omega) ⟨rfl, rfl, _, rfl, (ir_c rfl), ⟨by omega, fun h => by omega, fun h => by omega⟩⟩

set_option maxHeartbeats 1000000 in
theorem t_X5_digits {K : Kmap} {V : Vmap} {x : Nat} {p0 : Int} (h_x : K x = some (0, 4)) (r_p0 : ir p0) : MC mX5_digits K V [.ref x, ti p0] (IS K (fun X V1 => (X ≥ 0 ∧ X ≤ 999999 ∧ (vi V x 5 ≠ 0 → vi V1 x 5 ≠ 0)) ∧ (DGT K V V1 x p0 X))) := by
  refine MC.start 3 (by decide +kernel) rfl rfl rfl (ls0 := [some (.ref x), some (ti p0), none, none, none]) rfl ?_
  refine GO.useWT (fun hW_0 => ?_)
  refine GO.aload_n dX5_digits_0 rfl rfl ?_
  refine GO.getI h_x fl_RX5_9 rfl rfl dX5_digits_1 (fun _ _ => ?_)
  refine GO.name (fun z1 hz2 => ?_)
  have r3 : ir z1 := hz2 ▸ vi_ir
  refine GO.istore_n (ls1 := [some (.ref x), some (ti p0), some (ti z1), none, none]) dX5_digits_4 rfl rfl rfl ?_
  refine GO.iconst dX5_digits_5 ?_
  refine GO.istore_n (ls1 := [some (.ref x), some (ti p0), some (ti z1), some (ti 0), none]) dX5_digits_6 rfl rfl rfl ?_
  refine GO.iconst dX5_digits_7 ?_
  refine GO.istore (ls1 := [some (.ref x), some (ti p0), some (ti z1), some (ti 0), some (ti 0)]) dX5_digits_8 rfl rfl ?_
  have q6 : -2147483648 ≤ vi V x 5 ∧ vi V x 5 ≤ 2147483647 := vi_ir
  refine GO.loop2 (fun i4 i5 W => 0 ≤ i4 ∧ i4 ≤ 999999 ∧ 0 ≤ i5 ∧ i5 ≤ 6 ∧ ((vi V x 5 ≠ 0 → vi W x 5 ≠ 0) ∧ i4 ≥ 0 ∧ i4 ≤ 999999 ∧ (i5 < 6 → i4 ≤ 99999) ∧ (i5 = 0 → i4 ≤ 0) ∧ (i5 = 1 → i4 ≤ 9) ∧ (i5 = 2 → i4 ≤ 99) ∧ (i5 = 3 → i4 ≤ 999) ∧ (i5 = 4 → i4 ≤ 9999) ∧ (i5 = 5 → i4 ≤ 99999) ∧ (i5 = 6 → i4 ≤ 999999)) ∧ (DGI K V W x i4 i5) ∧ True) (fun i4 i5 => [some (.ref x), some (ti p0), some (ti z1), some (ti i4), some (ti i5)]) (fun i4 i5 W => (2147483647 - i5).toNat) 0 0 ⟨by omega, by omega, by omega, by omega, by omega, (by first | exact DGI.nil | exact DGI.step hdg h_x hWh (by omega) (by omega) (by omega) (by omega) (by omega) (by assumption) (by assumption) (by assumption)), trivial⟩ rfl (fun i4 i5 Wi4 hp365 ih364 => ?_)
  obtain ⟨l_i4, u_i4, l_i5, u_i5, n_i4, hdg, -⟩ := hp365
  have r_i4 : ir i4 := ⟨by omega, by omega⟩
  have r_i5 : ir i5 := ⟨by omega, by omega⟩
  show GO mX5_digits K V (IS K (fun X V1 => (X ≥ 0 ∧ X ≤ 999999 ∧ (vi V x 5 ≠ 0 → vi V1 x 5 ≠ 0)) ∧ (DGT K V V1 x p0 X))) K Wi4 0 0 10 [some (.ref x), some (ti p0), some (ti z1), some (ti i4), some (ti i5)] []
  refine GO.useWT (fun hWh => ?_)
  refine GO.iload dX5_digits_10 rfl ?_
  refine GO.bipush dX5_digits_12 rfl ?_
  refine GO.icmp_gt (tgt := 81) dX5_digits_14 (by decide) r_i5 (ir_c rfl) (fun h => by exfalso; omega) (fun c366 => ?_)
  refine GO.aload_n dX5_digits_17 rfl rfl ?_
  refine GO.getI h_x fl_RX5_18 rfl rfl dX5_digits_18 (fun _ _ => ?_)
  refine GO.if_ne (tgt := 81) dX5_digits_21 (by decide) vi_ir (fun c367 => ?_) (fun c367 => ?_)
  ·
    refine GO.aload_n dX5_digits_81 rfl rfl ?_
    refine GO.getI h_x fl_RX5_9 rfl rfl dX5_digits_82 (fun _ _ => ?_)
    refine GO.iload_n dX5_digits_85 rfl rfl ?_
    refine GO.icmp_ne (tgt := 101) dX5_digits_86 (by decide) vi_ir r3 (fun c368 => ?_) (fun c368 => ?_)
    ·
      refine GO.iload_n dX5_digits_101 rfl rfl ?_
      refine GO.iload_n dX5_digits_102 rfl rfl ?_
      refine GO.icmp_le (tgt := 112) dX5_digits_103 (by decide) r_i4 r_p0 (fun c369 => ?_) (fun c369 => ?_)
      ·
        refine GO.iload_n dX5_digits_112 rfl rfl ?_
        have q370 : -2147483648 ≤ p0 ∧ p0 ≤ 2147483647 := r_p0
        have q371 : -2147483648 ≤ vi Wi4 x 5 ∧ vi Wi4 x 5 ≤ 2147483647 := vi_ir
        exact GO.reti rfl rfl dX5_digits_113 ⟨rfl, _, rfl, r_i4, ⟨(by first | exact trivial | omega), (by first | exact DGT.long hdg (by omega) (by omega) (by omega) rw47 h_x hWh vi_ir rfl | exact DGT.end hdg (by omega) h_x hWh (by omega) (Or.inl ⟨by omega, _, vi_ir, rfl, rw95⟩) | exact DGT.end hdg (by omega) h_x hWh (by omega) (Or.inr (Or.inl ⟨by omega, by omega, _, by assumption, by omega, rw109⟩)) | exact DGT.end hdg (by omega) h_x hWh (by omega) (Or.inr (Or.inr ⟨by omega, by omega, rfl, rfl⟩)))⟩⟩
      ·
        refine GO.aload_n dX5_digits_106 rfl rfl ?_
        refine GO.iconst dX5_digits_107 ?_
        refine GO.iload_n dX5_digits_108 rfl rfl ?_
        refine GO.callV (ci := 4) (N := mX5_refuse) dX5_digits_109 (RX5, TX5, 7) rfl gV_RX5_57 h_x (t_X5_refuse h_x (ir_c rfl) r3 (by omega)) rfl [] rfl rfl (Nat.le_of_ble_eq_true rfl) rfl (k_vs fun V374 h373 hF372 => ?_)
        have raw_refuse := h373.2
        have rw109 := h373.2
        refine GO.iload_n dX5_digits_112 rfl rfl ?_
        have q376 : -2147483648 ≤ p0 ∧ p0 ≤ 2147483647 := r_p0
        have q377 : -2147483648 ≤ vi V374 x 5 ∧ vi V374 x 5 ≤ 2147483647 := vi_ir
        exact GO.reti rfl rfl dX5_digits_113 ⟨rfl, _, rfl, r_i4, ⟨(by first | exact trivial | omega), (by first | exact DGT.long hdg (by omega) (by omega) (by omega) rw47 h_x hWh vi_ir rfl | exact DGT.end hdg (by omega) h_x hWh (by omega) (Or.inl ⟨by omega, _, vi_ir, rfl, rw95⟩) | exact DGT.end hdg (by omega) h_x hWh (by omega) (Or.inr (Or.inl ⟨by omega, by omega, _, by assumption, by omega, rw109⟩)) | exact DGT.end hdg (by omega) h_x hWh (by omega) (Or.inr (Or.inr ⟨by omega, by omega, rfl, rfl⟩)))⟩⟩
    ·
      refine GO.aload_n dX5_digits_89 rfl rfl ?_
      refine GO.iconst dX5_digits_90 ?_
      refine GO.aload_n dX5_digits_91 rfl rfl ?_
      refine GO.getI h_x fl_RX5_9 rfl rfl dX5_digits_92 (fun _ _ => ?_)
      refine GO.callV (ci := 4) (N := mX5_refuse) dX5_digits_95 (RX5, TX5, 7) rfl gV_RX5_57 h_x (t_X5_refuse h_x (ir_c rfl) vi_ir (by omega)) rfl [] rfl rfl (Nat.le_of_ble_eq_true rfl) rfl (k_vs fun V380 h379 hF378 => ?_)
      have raw_refuse := h379.2
      have rw95 := h379.2
      refine GO.goto (tgt := 112) dX5_digits_98 (by decide) ?_
      refine GO.iload_n dX5_digits_112 rfl rfl ?_
      have q382 : -2147483648 ≤ vi V380 x 5 ∧ vi V380 x 5 ≤ 2147483647 := vi_ir
      exact GO.reti rfl rfl dX5_digits_113 ⟨rfl, _, rfl, r_i4, ⟨(by first | exact trivial | omega), (by first | exact DGT.long hdg (by omega) (by omega) (by omega) rw47 h_x hWh vi_ir rfl | exact DGT.end hdg (by omega) h_x hWh (by omega) (Or.inl ⟨by omega, _, vi_ir, rfl, rw95⟩) | exact DGT.end hdg (by omega) h_x hWh (by omega) (Or.inr (Or.inl ⟨by omega, by omega, _, by assumption, by omega, rw109⟩)) | exact DGT.end hdg (by omega) h_x hWh (by omega) (Or.inr (Or.inr ⟨by omega, by omega, rfl, rfl⟩)))⟩⟩
  ·
    refine GO.aload_n dX5_digits_24 rfl rfl ?_
    refine GO.callV (ci := 4) (N := mX5_next) dX5_digits_25 (RX5, TX5, 7) rfl gV_RX5_61 h_x (t_X5_next h_x) rfl [] rfl rfl (Nat.le_of_ble_eq_true rfl) rfl (k_ip fun X383 r384 h385 => ?_)
    refine GO.callS (N := mX5_isDigit) dX5_digits_28 gS_RX5_124 (t_X5_isDigit r384) rfl [] rfl rfl (Nat.le_of_ble_eq_true rfl) rfl (k_ip fun X386 r387 h388 => ?_)
    refine GO.if_eq (tgt := 81) dX5_digits_31 (by decide) r387 (fun c389 => ?_) (fun c389 => ?_)
    ·
      have q390 := h388.2.2 (by omega)
      refine GO.aload_n dX5_digits_81 rfl rfl ?_
      refine GO.getI h_x fl_RX5_9 rfl rfl dX5_digits_82 (fun _ _ => ?_)
      refine GO.iload_n dX5_digits_85 rfl rfl ?_
      refine GO.icmp_ne (tgt := 101) dX5_digits_86 (by decide) vi_ir r3 (fun c391 => ?_) (fun c391 => ?_)
      ·
        refine GO.iload_n dX5_digits_101 rfl rfl ?_
        refine GO.iload_n dX5_digits_102 rfl rfl ?_
        refine GO.icmp_le (tgt := 112) dX5_digits_103 (by decide) r_i4 r_p0 (fun c392 => ?_) (fun c392 => ?_)
        ·
          refine GO.iload_n dX5_digits_112 rfl rfl ?_
          have q393 : -2147483648 ≤ p0 ∧ p0 ≤ 2147483647 := r_p0
          have q394 : -2147483648 ≤ vi Wi4 x 5 ∧ vi Wi4 x 5 ≤ 2147483647 := vi_ir
          exact GO.reti rfl rfl dX5_digits_113 ⟨rfl, _, rfl, r_i4, ⟨(by first | exact trivial | omega), (by first | exact DGT.long hdg (by omega) (by omega) (by omega) rw47 h_x hWh vi_ir rfl | exact DGT.end hdg (by omega) h_x hWh (by omega) (Or.inl ⟨by omega, _, vi_ir, rfl, rw95⟩) | exact DGT.end hdg (by omega) h_x hWh (by omega) (Or.inr (Or.inl ⟨by omega, by omega, _, by assumption, by omega, rw109⟩)) | exact DGT.end hdg (by omega) h_x hWh (by omega) (Or.inr (Or.inr ⟨by omega, by omega, rfl, rfl⟩)))⟩⟩
        ·
          refine GO.aload_n dX5_digits_106 rfl rfl ?_
          refine GO.iconst dX5_digits_107 ?_
          refine GO.iload_n dX5_digits_108 rfl rfl ?_
          refine GO.callV (ci := 4) (N := mX5_refuse) dX5_digits_109 (RX5, TX5, 7) rfl gV_RX5_57 h_x (t_X5_refuse h_x (ir_c rfl) r3 (by omega)) rfl [] rfl rfl (Nat.le_of_ble_eq_true rfl) rfl (k_vs fun V397 h396 hF395 => ?_)
          have raw_refuse := h396.2
          have rw109 := h396.2
          refine GO.iload_n dX5_digits_112 rfl rfl ?_
          have q399 : -2147483648 ≤ p0 ∧ p0 ≤ 2147483647 := r_p0
          have q400 : -2147483648 ≤ vi V397 x 5 ∧ vi V397 x 5 ≤ 2147483647 := vi_ir
          exact GO.reti rfl rfl dX5_digits_113 ⟨rfl, _, rfl, r_i4, ⟨(by first | exact trivial | omega), (by first | exact DGT.long hdg (by omega) (by omega) (by omega) rw47 h_x hWh vi_ir rfl | exact DGT.end hdg (by omega) h_x hWh (by omega) (Or.inl ⟨by omega, _, vi_ir, rfl, rw95⟩) | exact DGT.end hdg (by omega) h_x hWh (by omega) (Or.inr (Or.inl ⟨by omega, by omega, _, by assumption, by omega, rw109⟩)) | exact DGT.end hdg (by omega) h_x hWh (by omega) (Or.inr (Or.inr ⟨by omega, by omega, rfl, rfl⟩)))⟩⟩
      ·
        refine GO.aload_n dX5_digits_89 rfl rfl ?_
        refine GO.iconst dX5_digits_90 ?_
        refine GO.aload_n dX5_digits_91 rfl rfl ?_
        refine GO.getI h_x fl_RX5_9 rfl rfl dX5_digits_92 (fun _ _ => ?_)
        refine GO.callV (ci := 4) (N := mX5_refuse) dX5_digits_95 (RX5, TX5, 7) rfl gV_RX5_57 h_x (t_X5_refuse h_x (ir_c rfl) vi_ir (by omega)) rfl [] rfl rfl (Nat.le_of_ble_eq_true rfl) rfl (k_vs fun V403 h402 hF401 => ?_)
        have raw_refuse := h402.2
        have rw95 := h402.2
        refine GO.goto (tgt := 112) dX5_digits_98 (by decide) ?_
        refine GO.iload_n dX5_digits_112 rfl rfl ?_
        have q405 : -2147483648 ≤ vi V403 x 5 ∧ vi V403 x 5 ≤ 2147483647 := vi_ir
        exact GO.reti rfl rfl dX5_digits_113 ⟨rfl, _, rfl, r_i4, ⟨(by first | exact trivial | omega), (by first | exact DGT.long hdg (by omega) (by omega) (by omega) rw47 h_x hWh vi_ir rfl | exact DGT.end hdg (by omega) h_x hWh (by omega) (Or.inl ⟨by omega, _, vi_ir, rfl, rw95⟩) | exact DGT.end hdg (by omega) h_x hWh (by omega) (Or.inr (Or.inl ⟨by omega, by omega, _, by assumption, by omega, rw109⟩)) | exact DGT.end hdg (by omega) h_x hWh (by omega) (Or.inr (Or.inr ⟨by omega, by omega, rfl, rfl⟩)))⟩⟩
    ·
      have q406 := h388.2.1 (by omega)
      refine GO.iload dX5_digits_34 rfl ?_
      refine GO.bipush dX5_digits_36 rfl ?_
      refine GO.icmp_ne (tgt := 52) dX5_digits_38 (by decide) r_i5 (ir_c rfl) (fun c407 => ?_) (fun c407 => ?_)
      ·
        refine GO.bipush dX5_digits_52 rfl ?_
        refine GO.iload_n dX5_digits_54 rfl rfl ?_
        refine GO.imul dX5_digits_55 ?_
        refine GO.aload_n dX5_digits_56 rfl rfl ?_
        refine GO.callV (ci := 4) (N := mX5_next) dX5_digits_57 (RX5, TX5, 7) rfl gV_RX5_61 h_x (t_X5_next h_x) rfl [ti (10 * i4)] rfl rfl (Nat.le_of_ble_eq_true rfl) rfl (k_ip fun X408 r409 h410 => ?_)
        refine GO.iadd dX5_digits_60 ?_
        refine GO.bipush dX5_digits_61 rfl ?_
        refine GO.isub dX5_digits_63 ?_
        refine GO.name (fun z411 hz412 => ?_)
        refine GO.istore_n (ls1 := [some (.ref x), some (ti p0), some (ti z1), some (ti z411), some (ti i5)]) dX5_digits_64 rfl rfl rfl ?_
        refine GO.aload_n dX5_digits_65 rfl rfl ?_
        refine GO.dup dX5_digits_66 rfl ?_
        refine GO.getI h_x fl_RX5_9 rfl rfl dX5_digits_67 (fun _ _ => ?_)
        refine GO.iconst dX5_digits_70 ?_
        refine GO.iadd dX5_digits_71 ?_
        refine GO.norm (fun z413 r414 hn415 => ?_)
        refine GO.putI h_x fp_RX5_9 rfl (by decide +kernel) r414 (r414).1 (r414).2 dX5_digits_72 (fun V417 e416 => ?_)
        refine GO.iinc (X := i5) (n := 1) (Y := i5 + 1) (ls1 := [some (.ref x), some (ti p0), some (ti z1), some (ti z411), some (ti (i5 + 1))]) dX5_digits_75 rfl rfl rfl rfl ?_
        refine GO.goto (tgt := 10) dX5_digits_78 (by decide) ?_
        have e418 : vi V417 x 5 = vi Wi4 x 5 := vi_up e416 (Or.inr (by decide))
        have q419 : -2147483648 ≤ vi Wi4 x 5 ∧ vi Wi4 x 5 ≤ 2147483647 := vi_ir
        exact ih364 z411 (i5 + 1) V417 ⟨by omega, by omega, by omega, by omega, by omega, (by first | exact DGI.nil | exact DGI.step hdg h_x hWh (by omega) (by omega) (by omega) (by omega) (by omega) (by assumption) (by assumption) (by assumption)), trivial⟩ (by show (2147483647 - (i5 + 1)).toNat < (2147483647 - i5).toNat; omega)
      ·
        refine GO.aload_n dX5_digits_41 rfl rfl ?_
        refine GO.iconst dX5_digits_42 ?_
        refine GO.aload_n dX5_digits_43 rfl rfl ?_
        refine GO.getI h_x fl_RX5_9 rfl rfl dX5_digits_44 (fun _ _ => ?_)
        refine GO.callV (ci := 4) (N := mX5_refuse) dX5_digits_47 (RX5, TX5, 7) rfl gV_RX5_57 h_x (t_X5_refuse h_x (ir_c rfl) vi_ir (by omega)) rfl [] rfl rfl (Nat.le_of_ble_eq_true rfl) rfl (k_vs fun V422 h421 hF420 => ?_)
        have raw_refuse := h421.2
        have rw47 := h421.2
        refine GO.iconst dX5_digits_50 ?_
        have q424 : -2147483648 ≤ vi V422 x 5 ∧ vi V422 x 5 ≤ 2147483647 := vi_ir
        exact GO.reti rfl rfl dX5_digits_51 ⟨rfl, _, rfl, (ir_c rfl), ⟨(by first | exact trivial | omega), (by first | exact DGT.long hdg (by omega) (by omega) (by omega) rw47 h_x hWh vi_ir rfl | exact DGT.end hdg (by omega) h_x hWh (by omega) (Or.inl ⟨by omega, _, vi_ir, rfl, rw95⟩) | exact DGT.end hdg (by omega) h_x hWh (by omega) (Or.inr (Or.inl ⟨by omega, by omega, _, by assumption, by omega, rw109⟩)) | exact DGT.end hdg (by omega) h_x hWh (by omega) (Or.inr (Or.inr ⟨by omega, by omega, rfl, rfl⟩)))⟩⟩

set_option maxHeartbeats 1000000 in
theorem t_X4_put_t144 {K : Kmap} {V : Vmap} {p0 n_p0 : Nat} {p1 : Int} {p2 : Int} (h_p0 : K p0 = some (145, n_p0)) (r_p1 : ir p1) (r_p2 : ir p2) : MC mX4_put_t144 K V [.ref p0, ti p1, ti p2] (VS K (fun V1 => (True) ∧ (V1 = rpv V p0 n_p0 p1 p2))) := by
  refine MC.start 0 (by decide +kernel) rfl rfl rfl (ls0 := [some (.ref p0), some (ti p1), some (ti p2)]) rfl ?_
  refine GO.aload_n dX4_put_0 rfl rfl ?_
  refine GO.ifnull dX4_put_1 ?_
  refine GO.iload_n dX4_put_4 rfl rfl ?_
  refine GO.if_lt (tgt := 18) dX4_put_5 (by decide) r_p1 (fun c1 => ?_) (fun c1 => ?_)
  ·
    exact GO.retv rfl rfl dX4_put_18 ⟨rfl, rfl, ⟨trivial, (by first | exact rpv_in (by assumption) (by omega) (by omega) | exact rpv_out (by omega))⟩⟩
  ·
    refine GO.iload_n dX4_put_8 rfl rfl ?_
    refine GO.aload_n dX4_put_9 rfl rfl ?_
    refine GO.alen h_p0 dX4_put_10 (fun h2 => ?_)
    refine GO.icmp_ge (tgt := 18) dX4_put_11 (by decide) r_p1 ⟨by omega, by omega⟩ (fun c3 => ?_) (fun c3 => ?_)
    ·
      exact GO.retv rfl rfl dX4_put_18 ⟨rfl, rfl, ⟨trivial, (by first | exact rpv_in (by assumption) (by omega) (by omega) | exact rpv_out (by omega))⟩⟩
    ·
      refine GO.aload_n dX4_put_14 rfl rfl ?_
      refine GO.iload_n dX4_put_15 rfl rfl ?_
      refine GO.iload_n dX4_put_16 rfl rfl ?_
      have q4 : -2147483648 ≤ p1 ∧ p1 ≤ 2147483647 := r_p1
      refine GO.iast (t := 144) rfl rfl (by decide +kernel) h_p0 r_p1 (by omega) (by omega) r_p2 (r_p2).1 (r_p2).2 dX4_put_17 (fun V6 e5 => ?_)
      exact GO.retv rfl rfl dX4_put_18 ⟨rfl, rfl, ⟨trivial, (by first | exact rpv_in (by assumption) (by omega) (by omega) | exact rpv_out (by omega))⟩⟩

set_option maxHeartbeats 1000000 in
theorem t_X9_addStep {K : Kmap} {V : Vmap} {x : Nat} {p0 : Int} {p1 : Int} (h_x : K x = some (0, 8)) (r_p0 : ir p0) (r_p1 : ir p1) : MC mX9_addStep K V [.ref x, ti p0, ti p1] (IS K (fun X V1 => (X ≥ (-2147483648) ∧ X ≤ 2147483647) ∧ (ADD K V V1 x p0 p1 X))) := by
  refine MC.start 1 (by decide +kernel) rfl rfl rfl (ls0 := [some (.ref x), some (ti p0), some (ti p1), none]) rfl ?_
  refine GO.aload_n dX9_addStep_0 rfl rfl ?_
  refine GO.getI h_x fl_RX9_9 rfl rfl dX9_addStep_1 (fun _ _ => ?_)
  refine GO.name (fun z1 hz2 => ?_)
  have r3 : ir z1 := hz2 ▸ vi_ir
  refine GO.istore_n (ls1 := [some (.ref x), some (ti p0), some (ti p1), some (ti z1)]) dX9_addStep_4 rfl rfl rfl ?_
  refine GO.aload_n dX9_addStep_5 rfl rfl ?_
  refine GO.getB h_x fl_RX9_36 rfl rfl dX9_addStep_6 (fun n6 hv5 h4 b7 => ?_)
  refine GO.iload_n dX9_addStep_9 rfl rfl ?_
  refine GO.iload_n dX9_addStep_10 rfl rfl ?_
  refine GO.iconst dX9_addStep_11 ?_
  refine GO.ishl dX9_addStep_12 ?_
  refine GO.iload_n dX9_addStep_13 rfl rfl ?_
  refine GO.ior dX9_addStep_14 ?_
  refine GO.callS (N := mX4_put_t144) dX9_addStep_15 gS_RX9_47 (t_X4_put_t144 h4 r3 wor_ir) rfl [] rfl rfl (Nat.le_of_ble_eq_true rfl) rfl (k_vs fun V10 h9 hF8 => ?_)
  have raw_put := h9.2
  have rw15 := h9.2
  refine GO.aload_n dX9_addStep_18 rfl rfl ?_
  refine GO.dup dX9_addStep_19 rfl ?_
  refine GO.getI h_x fl_RX9_9 rfl rfl dX9_addStep_20 (fun _ _ => ?_)
  have e11 : vi V10 x 4 = vi V x 4 := vi_fr hF8 h_x h_x (by decide +kernel)
  refine GO.iconst dX9_addStep_23 ?_
  refine GO.iadd dX9_addStep_24 ?_
  refine GO.norm (fun z12 r13 hn14 => ?_)
  refine GO.putI h_x fp_RX9_9 rfl (by decide +kernel) r13 (r13).1 (r13).2 dX9_addStep_25 (fun V16 e15 => ?_)
  refine GO.iload_n dX9_addStep_28 rfl rfl ?_
  have q17 : -2147483648 ≤ z1 ∧ z1 ≤ 2147483647 := r3
  have q18 : -2147483648 ≤ vi V x 4 ∧ vi V x 4 ≤ 2147483647 := vi_ir
  have q19 : -2147483648 ≤ vi V10 x 4 ∧ vi V10 x 4 ≤ 2147483647 := vi_ir
  exact GO.reti rfl rfl dX9_addStep_29 ⟨rfl, _, rfl, r3, ⟨(by first | exact trivial | omega), ADD.mk (by omega) (by assumption) rw15 (by omega) (by assumption) (by assumption) (by assumption)⟩⟩
