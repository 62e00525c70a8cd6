def mX6_extend_4 : MRec := (RX6, cX6_extend, 4, (none : Option Jvm.ClassFile.FieldType), yX6_extend, 9, 201, 0, 0, 3794275180128377091639574036764685364535950857523710002444946121994669468896198656)
def mX6_goOn_4 : MRec := (RX6, cX6_goOn, 3, (none : Option Jvm.ClassFile.FieldType), yX6_goOn, 10, 224, 0, 0, 3794275180128377091639574036764685364535950857523710002444946121994669468896198656)
def mX6_extend_5 : MRec := (RX6, cX6_extend, 4, (none : Option Jvm.ClassFile.FieldType), yX6_extend, 11, 246, 0, 0, 3794275180128377091639574036764685364535950857523710002444946121994669468896198656)
def mX6_goOn_5 : MRec := (RX6, cX6_goOn, 3, (none : Option Jvm.ClassFile.FieldType), yX6_goOn, 12, 269, 0, 0, 3794275180128377091639574036764685364535950857523710002444946121994669468896198656)
def mX6_extend_6 : MRec := (RX6, cX6_extend, 4, (none : Option Jvm.ClassFile.FieldType), yX6_extend, 13, 291, 0, 0, 3794275180128377091639574036764685364535950857523710002444946121994669468896198656)
def mX6_goOn_6 : MRec := (RX6, cX6_goOn, 3, (none : Option Jvm.ClassFile.FieldType), yX6_goOn, 14, 314, 0, 0, 3794275180128377091639574036764685364535950857523710002444946121994669468896198656)
def mX6_extend_7 : MRec := (RX6, cX6_extend, 4, (none : Option Jvm.ClassFile.FieldType), yX6_extend, 15, 336, 0, 0, 3794275180128377091639574036764685364535950857523710002444946121994669468896198656)
def mX6_goOn_7 : MRec := (RX6, cX6_goOn, 3, (none : Option Jvm.ClassFile.FieldType), yX6_goOn, 16, 359, 0, 0, 3794275180128377091639574036764685364535950857523710002444946121994669468896198656)
def mX6_extend_8 : MRec := (RX6, cX6_extend, 4, (none : Option Jvm.ClassFile.FieldType), yX6_extend, 17, 381, 0, 0, 3794275180128377091639574036764685364535950857523710002444946121994669468896198656)
def mX6_seek : MRec := (RX6, cX6_seek, 2, (none : Option Jvm.ClassFile.FieldType), yX6_seek, 18, 404, 0, 0, 3794275180128377091639574036764685364535950857523710002444946126606355487323586560)
def mX7_init : MRec := (RX7, cX7_init, 4, (none : Option Jvm.ClassFile.FieldType), yX7_init, 1, 12, 0, 0, 165263992197562149737978827008192759957101170741070304821162198818601447809077836456297302609928821211897803006255839576064)
def mX7_leave : MRec := (RX7, cX7_leave, 6, (none : Option Jvm.ClassFile.FieldType), yX7_leave, 0, 0, 0, 0, 35270174668932662689792)
def mX7_turnBack : MRec := (RX7, cX7_turnBack, 2, (none : Option Jvm.ClassFile.FieldType), yX7_turnBack, 0, 0, 0, 0, 4869940435459321626624)
def mX9_init : MRec := (RX9, cX9_init, 5, (none : Option Jvm.ClassFile.FieldType), yX9_init, 2, 43, 3, 2604, 991583953185372898427872962049156559742607024446421828926973192911608686854467018737783815659572927271386818037535037456384)
def mX10_init : MRec := (RX10, cX10_init, 6, (none : Option Jvm.ClassFile.FieldType), yX10_init, 1, 12, 0, 0, 1322111937580497197903830616065542079656809365928562438569297590548811582472622691650378420879430569695182424050046716608512)
def mX11_between : MRec := (RX11, cX11_between, 3, (some .boolean), yX11_between, 0, 0, 0, 0, 0)
def mX11_ice : MRec := (RX11, cX11_ice, 3, (some .boolean), yX11_ice, 2, 44, 0, 0, 3794275180128377091639574036764685364535950857523710002444946112771297432041422872)
set_option maxHeartbeats 1000000 in
theorem t_X6_extend_4_G {K : Kmap} {V : Vmap} {x : Nat} {p0 : Int} {p1 : Int} (h_x : K x = some (0, 5)) (r_p0 : ir p0) (r_p1 : ir p1) (q_0 : p0 ≥ 4) (q_1 : p0 ≤ 7) : MC mX6_extend_4 K V [.ref x, ti p0, ti p1] (VS K (fun V1 => (True))) := by
  refine MC.start 1 (by decide +kernel) rfl rfl rfl (ls0 := [some (.ref x), some (ti p0), some (ti p1), none]) rfl ?_
  refine GO.iconst dX6_extend_0 ?_
  refine GO.istore_n (ls1 := [some (.ref x), some (ti p0), some (ti p1), some (ti 0)]) dX6_extend_1 rfl rfl rfl ?_
  refine GO.loop1 (fun i1 W => 0 ≤ i1 ∧ i1 ≤ 8 ∧ True) (fun i1 => [some (.ref x), some (ti p0), some (ti p1), some (ti i1)]) (fun i1 W => (2147483647 - i1).toNat) 0 ⟨by omega, by omega, trivial⟩ rfl (fun i1 Wi1 hp118 ih117 => ?_)
  obtain ⟨l_i1, u_i1, -⟩ := hp118
  have r_i1 : ir i1 := ⟨by omega, by omega⟩
  show GO mX6_extend_4 K V (VS K (fun V1 => (True))) K Wi1 0 0 2 [some (.ref x), some (ti p0), some (ti p1), some (ti i1)] []
  refine GO.iload_n dX6_extend_2 rfl rfl ?_
  refine GO.aload_n dX6_extend_3 rfl rfl ?_
  refine GO.getR h_x fl_RX6_14 rfl rfl dX6_extend_4 (fun hv120 h119 => ?_)
  refine GO.getI h119 fl_RX6_55_k24 rfl rfl dX6_extend_7 (fun l121 u122 => ?_)
  refine GO.icmp_ge (tgt := 62) dX6_extend_10 (by decide) r_i1 vi_ir (fun c123 => ?_) (fun c123 => ?_)
  ·
    exact GO.retv rfl rfl dX6_extend_62 ⟨rfl, rfl, trivial⟩
  ·
    refine GO.iload_n dX6_extend_13 rfl rfl ?_
    refine GO.iload_n dX6_extend_14 rfl rfl ?_
    refine GO.ishr dX6_extend_15 ?_
    refine GO.iconst dX6_extend_16 ?_
    refine GO.iand dX6_extend_17 ?_
    refine GO.if_ne (tgt := 56) dX6_extend_18 (by decide) wand_ir (fun c124 => ?_) (fun c124 => ?_)
    ·
      refine GO.iinc (X := i1) (n := 1) (Y := i1 + 1) (ls1 := [some (.ref x), some (ti p0), some (ti p1), some (ti (i1 + 1))]) dX6_extend_56 rfl rfl rfl rfl ?_
      refine GO.goto (tgt := 2) dX6_extend_59 (by decide) ?_
      exact ih117 (i1 + 1) Wi1 ⟨by omega, by omega, trivial⟩ (by show (2147483647 - (i1 + 1)).toNat < (2147483647 - i1).toNat; omega)
    ·
      refine GO.aload_n dX6_extend_21 rfl rfl ?_
      refine GO.iload_n dX6_extend_22 rfl rfl ?_
      refine GO.iload_n dX6_extend_23 rfl rfl ?_
      refine GO.iload_n dX6_extend_24 rfl rfl ?_
      refine GO.iconst dX6_extend_25 ?_
      refine GO.iload_n dX6_extend_26 rfl rfl ?_
      refine GO.ishl dX6_extend_27 ?_
      refine GO.ior dX6_extend_28 ?_
      refine GO.callV (ci := 5) (N := mX6_comes) dX6_extend_29 (RX6, TX6, 10) rfl gV_RX6_86 h_x (t_X6_comes h_x r_p0 r_i1 wor_ir) rfl [] rfl rfl (Nat.le_of_ble_eq_true rfl) rfl (k_is fun X125 V129 r126 h127 hF128 => ?_)
      refine GO.if_eq (tgt := 56) dX6_extend_32 (by decide) r126 (fun c130 => ?_) (fun c130 => ?_)
      ·
        refine GO.iinc (X := i1) (n := 1) (Y := i1 + 1) (ls1 := [some (.ref x), some (ti p0), some (ti p1), some (ti (i1 + 1))]) dX6_extend_56 rfl rfl rfl rfl ?_
        refine GO.goto (tgt := 2) dX6_extend_59 (by decide) ?_
        exact ih117 (i1 + 1) V129 ⟨by omega, by omega, trivial⟩ (by show (2147483647 - (i1 + 1)).toNat < (2147483647 - i1).toNat; omega)
      ·
        refine GO.aload_n dX6_extend_35 rfl rfl ?_
        refine GO.getB h_x fl_RX6_33 rfl rfl dX6_extend_36 (fun n133 hv132 h131 b134 => ?_)
        refine GO.iload_n dX6_extend_39 rfl rfl ?_
        refine GO.iload_n dX6_extend_40 rfl rfl ?_
        refine GO.callS (N := mX4_put) dX6_extend_41 gS_RX6_71 (t_X4_put h131 r_p0 r_i1) rfl [] rfl rfl (Nat.le_of_ble_eq_true rfl) rfl (k_vs fun V137 h136 hF135 => ?_)
        refine GO.aload_n dX6_extend_44 rfl rfl ?_
        refine GO.iload_n dX6_extend_45 rfl rfl ?_
        refine GO.iconst dX6_extend_46 ?_
        refine GO.iadd dX6_extend_47 ?_
        refine GO.iload_n dX6_extend_48 rfl rfl ?_
        refine GO.iconst dX6_extend_49 ?_
        refine GO.iload_n dX6_extend_50 rfl rfl ?_
        refine GO.ishl dX6_extend_51 ?_
        refine GO.ior dX6_extend_52 ?_
        have q138 : -2147483648 ≤ p0 ∧ p0 ≤ 2147483647 := r_p0
        refine GO.callV (ci := 5) (N := mX6_goOn_3) dX6_extend_53 (RX6, TX6, 10) rfl gV_RX6_90 h_x (t_X6_goOn_3 h_x ⟨by omega, by omega⟩ wor_ir (by omega)) rfl [] rfl rfl (Nat.le_of_ble_eq_true rfl) rfl (k_vs fun V141 h140 hF139 => ?_)
        refine GO.iinc (X := i1) (n := 1) (Y := i1 + 1) (ls1 := [some (.ref x), some (ti p0), some (ti p1), some (ti (i1 + 1))]) dX6_extend_56 rfl rfl rfl rfl ?_
        refine GO.goto (tgt := 2) dX6_extend_59 (by decide) ?_
        exact ih117 (i1 + 1) V141 ⟨by omega, by omega, trivial⟩ (by show (2147483647 - (i1 + 1)).toNat < (2147483647 - i1).toNat; omega)

theorem t_X6_extend_4 {K : Kmap} {V : Vmap} {x : Nat} {p0 : Int} {p1 : Int} (h_x : K x = some (0, 5)) (r_p0 : ir p0) (r_p1 : ir p1) (q_0 : ((p0 ≥ 4 ∧ p0 ≤ 7))) : MC mX6_extend_4 K V [.ref x, ti p0, ti p1] (VS K (fun V1 => (True))) := by
  exact t_X6_extend_4_G h_x r_p0 r_p1 (by omega) (by omega)

set_option maxHeartbeats 1000000 in
theorem t_X6_goOn_4_G {K : Kmap} {V : Vmap} {x : Nat} {p0 : Int} {p1 : Int} (h_x : K x = some (0, 5)) (r_p0 : ir p0) (r_p1 : ir p1) (q_0 : p0 ≥ 4) (q_1 : p0 ≤ 8) : MC mX6_goOn_4 K V [.ref x, ti p0, ti p1] (VS K (fun V1 => (True))) := by
  refine MC.start 0 (by decide +kernel) rfl rfl rfl (ls0 := [some (.ref x), some (ti p0), some (ti p1)]) rfl ?_
  refine GO.iload_n dX6_goOn_0 rfl rfl ?_
  refine GO.aload_n dX6_goOn_1 rfl rfl ?_
  refine GO.getR h_x fl_RX6_14 rfl rfl dX6_goOn_2 (fun hv2 h1 => ?_)
  refine GO.getI h1 fl_RX6_55_k24 rfl rfl dX6_goOn_5 (fun l3 u4 => ?_)
  refine GO.icmp_ge (tgt := 20) dX6_goOn_8 (by decide) r_p0 vi_ir (fun c5 => ?_) (fun c5 => ?_)
  ·
    refine GO.aload_n dX6_goOn_20 rfl rfl ?_
    refine GO.callV (ci := 5) (N := mX6_keep) dX6_goOn_21 (RX6, TX6, 10) rfl gV_RX6_93 h_x (t_X6_keep h_x) rfl [] rfl rfl (Nat.le_of_ble_eq_true rfl) rfl (k_vs fun V8 h7 hF6 => ?_)
    exact GO.retv rfl rfl dX6_goOn_24 ⟨rfl, rfl, trivial⟩
  ·
    refine GO.aload_n dX6_goOn_11 rfl rfl ?_
    refine GO.iload_n dX6_goOn_12 rfl rfl ?_
    refine GO.iload_n dX6_goOn_13 rfl rfl ?_
    have q9 : -2147483648 ≤ p0 ∧ p0 ≤ 2147483647 := r_p0
    refine GO.callV (ci := 5) (N := mX6_extend_4) dX6_goOn_14 (RX6, TX6, 10) rfl gV_RX6_65 h_x (t_X6_extend_4 h_x r_p0 r_p1 (by omega)) rfl [] rfl rfl (Nat.le_of_ble_eq_true rfl) rfl (k_vs fun V12 h11 hF10 => ?_)
    refine GO.goto (tgt := 24) dX6_goOn_17 (by decide) ?_
    exact GO.retv rfl rfl dX6_goOn_24 ⟨rfl, rfl, trivial⟩

theorem t_X6_goOn_4 {K : Kmap} {V : Vmap} {x : Nat} {p0 : Int} {p1 : Int} (h_x : K x = some (0, 5)) (r_p0 : ir p0) (r_p1 : ir p1) (q_0 : ((p0 ≥ 4 ∧ p0 ≤ 8))) : MC mX6_goOn_4 K V [.ref x, ti p0, ti p1] (VS K (fun V1 => (True))) := by
  exact t_X6_goOn_4_G h_x r_p0 r_p1 (by omega) (by omega)

set_option maxHeartbeats 1000000 in
theorem t_X6_extend_5_G {K : Kmap} {V : Vmap} {x : Nat} {p0 : Int} {p1 : Int} (h_x : K x = some (0, 5)) (r_p0 : ir p0) (r_p1 : ir p1) (q_0 : p0 ≥ 3) (q_1 : p0 ≤ 7) : MC mX6_extend_5 K V [.ref x, ti p0, ti p1] (VS K (fun V1 => (True))) := by
  refine MC.start 1 (by decide +kernel) rfl rfl rfl (ls0 := [some (.ref x), some (ti p0), some (ti p1), none]) rfl ?_
  refine GO.iconst dX6_extend_0 ?_
  refine GO.istore_n (ls1 := [some (.ref x), some (ti p0), some (ti p1), some (ti 0)]) dX6_extend_1 rfl rfl rfl ?_
  refine GO.loop1 (fun i1 W => 0 ≤ i1 ∧ i1 ≤ 8 ∧ True) (fun i1 => [some (.ref x), some (ti p0), some (ti p1), some (ti i1)]) (fun i1 W => (2147483647 - i1).toNat) 0 ⟨by omega, by omega, trivial⟩ rfl (fun i1 Wi1 hp118 ih117 => ?_)
  obtain ⟨l_i1, u_i1, -⟩ := hp118
  have r_i1 : ir i1 := ⟨by omega, by omega⟩
  show GO mX6_extend_5 K V (VS K (fun V1 => (True))) K Wi1 0 0 2 [some (.ref x), some (ti p0), some (ti p1), some (ti i1)] []
  refine GO.iload_n dX6_extend_2 rfl rfl ?_
  refine GO.aload_n dX6_extend_3 rfl rfl ?_
  refine GO.getR h_x fl_RX6_14 rfl rfl dX6_extend_4 (fun hv120 h119 => ?_)
  refine GO.getI h119 fl_RX6_55_k24 rfl rfl dX6_extend_7 (fun l121 u122 => ?_)
  refine GO.icmp_ge (tgt := 62) dX6_extend_10 (by decide) r_i1 vi_ir (fun c123 => ?_) (fun c123 => ?_)
  ·
    exact GO.retv rfl rfl dX6_extend_62 ⟨rfl, rfl, trivial⟩
  ·
    refine GO.iload_n dX6_extend_13 rfl rfl ?_
    refine GO.iload_n dX6_extend_14 rfl rfl ?_
    refine GO.ishr dX6_extend_15 ?_
    refine GO.iconst dX6_extend_16 ?_
    refine GO.iand dX6_extend_17 ?_
    refine GO.if_ne (tgt := 56) dX6_extend_18 (by decide) wand_ir (fun c124 => ?_) (fun c124 => ?_)
    ·
      refine GO.iinc (X := i1) (n := 1) (Y := i1 + 1) (ls1 := [some (.ref x), some (ti p0), some (ti p1), some (ti (i1 + 1))]) dX6_extend_56 rfl rfl rfl rfl ?_
      refine GO.goto (tgt := 2) dX6_extend_59 (by decide) ?_
      exact ih117 (i1 + 1) Wi1 ⟨by omega, by omega, trivial⟩ (by show (2147483647 - (i1 + 1)).toNat < (2147483647 - i1).toNat; omega)
    ·
      refine GO.aload_n dX6_extend_21 rfl rfl ?_
      refine GO.iload_n dX6_extend_22 rfl rfl ?_
      refine GO.iload_n dX6_extend_23 rfl rfl ?_
      refine GO.iload_n dX6_extend_24 rfl rfl ?_
      refine GO.iconst dX6_extend_25 ?_
      refine GO.iload_n dX6_extend_26 rfl rfl ?_
      refine GO.ishl dX6_extend_27 ?_
      refine GO.ior dX6_extend_28 ?_
      refine GO.callV (ci := 5) (N := mX6_comes) dX6_extend_29 (RX6, TX6, 10) rfl gV_RX6_86 h_x (t_X6_comes h_x r_p0 r_i1 wor_ir) rfl [] rfl rfl (Nat.le_of_ble_eq_true rfl) rfl (k_is fun X125 V129 r126 h127 hF128 => ?_)
      refine GO.if_eq (tgt := 56) dX6_extend_32 (by decide) r126 (fun c130 => ?_) (fun c130 => ?_)
      ·
        refine GO.iinc (X := i1) (n := 1) (Y := i1 + 1) (ls1 := [some (.ref x), some (ti p0), some (ti p1), some (ti (i1 + 1))]) dX6_extend_56 rfl rfl rfl rfl ?_
        refine GO.goto (tgt := 2) dX6_extend_59 (by decide) ?_
        exact ih117 (i1 + 1) V129 ⟨by omega, by omega, trivial⟩ (by show (2147483647 - (i1 + 1)).toNat < (2147483647 - i1).toNat; omega)
      ·
        refine GO.aload_n dX6_extend_35 rfl rfl ?_
        refine GO.getB h_x fl_RX6_33 rfl rfl dX6_extend_36 (fun n133 hv132 h131 b134 => ?_)
        refine GO.iload_n dX6_extend_39 rfl rfl ?_
        refine GO.iload_n dX6_extend_40 rfl rfl ?_
        refine GO.callS (N := mX4_put) dX6_extend_41 gS_RX6_71 (t_X4_put h131 r_p0 r_i1) rfl [] rfl rfl (Nat.le_of_ble_eq_true rfl) rfl (k_vs fun V137 h136 hF135 => ?_)
        refine GO.aload_n dX6_extend_44 rfl rfl ?_
        refine GO.iload_n dX6_extend_45 rfl rfl ?_
        refine GO.iconst dX6_extend_46 ?_
        refine GO.iadd dX6_extend_47 ?_
        refine GO.iload_n dX6_extend_48 rfl rfl ?_
        refine GO.iconst dX6_extend_49 ?_
        refine GO.iload_n dX6_extend_50 rfl rfl ?_
        refine GO.ishl dX6_extend_51 ?_
        refine GO.ior dX6_extend_52 ?_
        have q138 : -2147483648 ≤ p0 ∧ p0 ≤ 2147483647 := r_p0
        refine GO.callV (ci := 5) (N := mX6_goOn_4) dX6_extend_53 (RX6, TX6, 10) rfl gV_RX6_90 h_x (t_X6_goOn_4 h_x ⟨by omega, by omega⟩ wor_ir (by omega)) rfl [] rfl rfl (Nat.le_of_ble_eq_true rfl) rfl (k_vs fun V141 h140 hF139 => ?_)
        refine GO.iinc (X := i1) (n := 1) (Y := i1 + 1) (ls1 := [some (.ref x), some (ti p0), some (ti p1), some (ti (i1 + 1))]) dX6_extend_56 rfl rfl rfl rfl ?_
        refine GO.goto (tgt := 2) dX6_extend_59 (by decide) ?_
        exact ih117 (i1 + 1) V141 ⟨by omega, by omega, trivial⟩ (by show (2147483647 - (i1 + 1)).toNat < (2147483647 - i1).toNat; omega)

theorem t_X6_extend_5 {K : Kmap} {V : Vmap} {x : Nat} {p0 : Int} {p1 : Int} (h_x : K x = some (0, 5)) (r_p0 : ir p0) (r_p1 : ir p1) (q_0 : ((p0 ≥ 3 ∧ p0 ≤ 7))) : MC mX6_extend_5 K V [.ref x, ti p0, ti p1] (VS K (fun V1 => (True))) := by
  exact t_X6_extend_5_G h_x r_p0 r_p1 (by omega) (by omega)

set_option maxHeartbeats 1000000 in
theorem t_X6_goOn_5_G {K : Kmap} {V : Vmap} {x : Nat} {p0 : Int} {p1 : Int} (h_x : K x = some (0, 5)) (r_p0 : ir p0) (r_p1 : ir p1) (q_0 : p0 ≥ 3) (q_1 : p0 ≤ 8) : MC mX6_goOn_5 K V [.ref x, ti p0, ti p1] (VS K (fun V1 => (True))) := by
  refine MC.start 0 (by decide +kernel) rfl rfl rfl (ls0 := [some (.ref x), some (ti p0), some (ti p1)]) rfl ?_
  refine GO.iload_n dX6_goOn_0 rfl rfl ?_
  refine GO.aload_n dX6_goOn_1 rfl rfl ?_
  refine GO.getR h_x fl_RX6_14 rfl rfl dX6_goOn_2 (fun hv2 h1 => ?_)
  refine GO.getI h1 fl_RX6_55_k24 rfl rfl dX6_goOn_5 (fun l3 u4 => ?_)
  refine GO.icmp_ge (tgt := 20) dX6_goOn_8 (by decide) r_p0 vi_ir (fun c5 => ?_) (fun c5 => ?_)
  ·
    refine GO.aload_n dX6_goOn_20 rfl rfl ?_
    refine GO.callV (ci := 5) (N := mX6_keep) dX6_goOn_21 (RX6, TX6, 10) rfl gV_RX6_93 h_x (t_X6_keep h_x) rfl [] rfl rfl (Nat.le_of_ble_eq_true rfl) rfl (k_vs fun V8 h7 hF6 => ?_)
    exact GO.retv rfl rfl dX6_goOn_24 ⟨rfl, rfl, trivial⟩
  ·
    refine GO.aload_n dX6_goOn_11 rfl rfl ?_
    refine GO.iload_n dX6_goOn_12 rfl rfl ?_
    refine GO.iload_n dX6_goOn_13 rfl rfl ?_
    have q9 : -2147483648 ≤ p0 ∧ p0 ≤ 2147483647 := r_p0
    refine GO.callV (ci := 5) (N := mX6_extend_5) dX6_goOn_14 (RX6, TX6, 10) rfl gV_RX6_65 h_x (t_X6_extend_5 h_x r_p0 r_p1 (by omega)) rfl [] rfl rfl (Nat.le_of_ble_eq_true rfl) rfl (k_vs fun V12 h11 hF10 => ?_)
    refine GO.goto (tgt := 24) dX6_goOn_17 (by decide) ?_
    exact GO.retv rfl rfl dX6_goOn_24 ⟨rfl, rfl, trivial⟩

theorem t_X6_goOn_5 {K : Kmap} {V : Vmap} {x : Nat} {p0 : Int} {p1 : Int} (h_x : K x = some (0, 5)) (r_p0 : ir p0) (r_p1 : ir p1) (q_0 : ((p0 ≥ 3 ∧ p0 ≤ 8))) : MC mX6_goOn_5 K V [.ref x, ti p0, ti p1] (VS K (fun V1 => (True))) := by
  exact t_X6_goOn_5_G h_x r_p0 r_p1 (by omega) (by omega)

set_option maxHeartbeats 1000000 in
theorem t_X6_extend_6_G {K : Kmap} {V : Vmap} {x : Nat} {p0 : Int} {p1 : Int} (h_x : K x = some (0, 5)) (r_p0 : ir p0) (r_p1 : ir p1) (q_0 : p0 ≥ 2) (q_1 : p0 ≤ 7) : MC mX6_extend_6 K V [.ref x, ti p0, ti p1] (VS K (fun V1 => (True))) := by
  refine MC.start 1 (by decide +kernel) rfl rfl rfl (ls0 := [some (.ref x), some (ti p0), some (ti p1), none]) rfl ?_
  refine GO.iconst dX6_extend_0 ?_
  refine GO.istore_n (ls1 := [some (.ref x), some (ti p0), some (ti p1), some (ti 0)]) dX6_extend_1 rfl rfl rfl ?_
  refine GO.loop1 (fun i1 W => 0 ≤ i1 ∧ i1 ≤ 8 ∧ True) (fun i1 => [some (.ref x), some (ti p0), some (ti p1), some (ti i1)]) (fun i1 W => (2147483647 - i1).toNat) 0 ⟨by omega, by omega, trivial⟩ rfl (fun i1 Wi1 hp118 ih117 => ?_)
  obtain ⟨l_i1, u_i1, -⟩ := hp118
  have r_i1 : ir i1 := ⟨by omega, by omega⟩
  show GO mX6_extend_6 K V (VS K (fun V1 => (True))) K Wi1 0 0 2 [some (.ref x), some (ti p0), some (ti p1), some (ti i1)] []
  refine GO.iload_n dX6_extend_2 rfl rfl ?_
  refine GO.aload_n dX6_extend_3 rfl rfl ?_
  refine GO.getR h_x fl_RX6_14 rfl rfl dX6_extend_4 (fun hv120 h119 => ?_)
  refine GO.getI h119 fl_RX6_55_k24 rfl rfl dX6_extend_7 (fun l121 u122 => ?_)
  refine GO.icmp_ge (tgt := 62) dX6_extend_10 (by decide) r_i1 vi_ir (fun c123 => ?_) (fun c123 => ?_)
  ·
    exact GO.retv rfl rfl dX6_extend_62 ⟨rfl, rfl, trivial⟩
  ·
    refine GO.iload_n dX6_extend_13 rfl rfl ?_
    refine GO.iload_n dX6_extend_14 rfl rfl ?_
    refine GO.ishr dX6_extend_15 ?_
    refine GO.iconst dX6_extend_16 ?_
    refine GO.iand dX6_extend_17 ?_
    refine GO.if_ne (tgt := 56) dX6_extend_18 (by decide) wand_ir (fun c124 => ?_) (fun c124 => ?_)
    ·
      refine GO.iinc (X := i1) (n := 1) (Y := i1 + 1) (ls1 := [some (.ref x), some (ti p0), some (ti p1), some (ti (i1 + 1))]) dX6_extend_56 rfl rfl rfl rfl ?_
      refine GO.goto (tgt := 2) dX6_extend_59 (by decide) ?_
      exact ih117 (i1 + 1) Wi1 ⟨by omega, by omega, trivial⟩ (by show (2147483647 - (i1 + 1)).toNat < (2147483647 - i1).toNat; omega)
    ·
      refine GO.aload_n dX6_extend_21 rfl rfl ?_
      refine GO.iload_n dX6_extend_22 rfl rfl ?_
      refine GO.iload_n dX6_extend_23 rfl rfl ?_
      refine GO.iload_n dX6_extend_24 rfl rfl ?_
      refine GO.iconst dX6_extend_25 ?_
      refine GO.iload_n dX6_extend_26 rfl rfl ?_
      refine GO.ishl dX6_extend_27 ?_
      refine GO.ior dX6_extend_28 ?_
      refine GO.callV (ci := 5) (N := mX6_comes) dX6_extend_29 (RX6, TX6, 10) rfl gV_RX6_86 h_x (t_X6_comes h_x r_p0 r_i1 wor_ir) rfl [] rfl rfl (Nat.le_of_ble_eq_true rfl) rfl (k_is fun X125 V129 r126 h127 hF128 => ?_)
      refine GO.if_eq (tgt := 56) dX6_extend_32 (by decide) r126 (fun c130 => ?_) (fun c130 => ?_)
      ·
        refine GO.iinc (X := i1) (n := 1) (Y := i1 + 1) (ls1 := [some (.ref x), some (ti p0), some (ti p1), some (ti (i1 + 1))]) dX6_extend_56 rfl rfl rfl rfl ?_
        refine GO.goto (tgt := 2) dX6_extend_59 (by decide) ?_
        exact ih117 (i1 + 1) V129 ⟨by omega, by omega, trivial⟩ (by show (2147483647 - (i1 + 1)).toNat < (2147483647 - i1).toNat; omega)
      ·
        refine GO.aload_n dX6_extend_35 rfl rfl ?_
        refine GO.getB h_x fl_RX6_33 rfl rfl dX6_extend_36 (fun n133 hv132 h131 b134 => ?_)
        refine GO.iload_n dX6_extend_39 rfl rfl ?_
        refine GO.iload_n dX6_extend_40 rfl rfl ?_
        refine GO.callS (N := mX4_put) dX6_extend_41 gS_RX6_71 (t_X4_put h131 r_p0 r_i1) rfl [] rfl rfl (Nat.le_of_ble_eq_true rfl) rfl (k_vs fun V137 h136 hF135 => ?_)
        refine GO.aload_n dX6_extend_44 rfl rfl ?_
        refine GO.iload_n dX6_extend_45 rfl rfl ?_
        refine GO.iconst dX6_extend_46 ?_
        refine GO.iadd dX6_extend_47 ?_
        refine GO.iload_n dX6_extend_48 rfl rfl ?_
        refine GO.iconst dX6_extend_49 ?_
        refine GO.iload_n dX6_extend_50 rfl rfl ?_
        refine GO.ishl dX6_extend_51 ?_
        refine GO.ior dX6_extend_52 ?_
        have q138 : -2147483648 ≤ p0 ∧ p0 ≤ 2147483647 := r_p0
        refine GO.callV (ci := 5) (N := mX6_goOn_5) dX6_extend_53 (RX6, TX6, 10) rfl gV_RX6_90 h_x (t_X6_goOn_5 h_x ⟨by omega, by omega⟩ wor_ir (by omega)) rfl [] rfl rfl (Nat.le_of_ble_eq_true rfl) rfl (k_vs fun V141 h140 hF139 => ?_)
        refine GO.iinc (X := i1) (n := 1) (Y := i1 + 1) (ls1 := [some (.ref x), some (ti p0), some (ti p1), some (ti (i1 + 1))]) dX6_extend_56 rfl rfl rfl rfl ?_
        refine GO.goto (tgt := 2) dX6_extend_59 (by decide) ?_
        exact ih117 (i1 + 1) V141 ⟨by omega, by omega, trivial⟩ (by show (2147483647 - (i1 + 1)).toNat < (2147483647 - i1).toNat; omega)

theorem t_X6_extend_6 {K : Kmap} {V : Vmap} {x : Nat} {p0 : Int} {p1 : Int} (h_x : K x = some (0, 5)) (r_p0 : ir p0) (r_p1 : ir p1) (q_0 : ((p0 ≥ 2 ∧ p0 ≤ 7))) : MC mX6_extend_6 K V [.ref x, ti p0, ti p1] (VS K (fun V1 => (True))) := by
  exact t_X6_extend_6_G h_x r_p0 r_p1 (by omega) (by omega)

set_option maxHeartbeats 1000000 in
theorem t_X6_goOn_6_G {K : Kmap} {V : Vmap} {x : Nat} {p0 : Int} {p1 : Int} (h_x : K x = some (0, 5)) (r_p0 : ir p0) (r_p1 : ir p1) (q_0 : p0 ≥ 2) (q_1 : p0 ≤ 8) : MC mX6_goOn_6 K V [.ref x, ti p0, ti p1] (VS K (fun V1 => (True))) := by
  refine MC.start 0 (by decide +kernel) rfl rfl rfl (ls0 := [some (.ref x), some (ti p0), some (ti p1)]) rfl ?_
  refine GO.iload_n dX6_goOn_0 rfl rfl ?_
  refine GO.aload_n dX6_goOn_1 rfl rfl ?_
  refine GO.getR h_x fl_RX6_14 rfl rfl dX6_goOn_2 (fun hv2 h1 => ?_)
  refine GO.getI h1 fl_RX6_55_k24 rfl rfl dX6_goOn_5 (fun l3 u4 => ?_)
  refine GO.icmp_ge (tgt := 20) dX6_goOn_8 (by decide) r_p0 vi_ir (fun c5 => ?_) (fun c5 => ?_)
  ·
    refine GO.aload_n dX6_goOn_20 rfl rfl ?_
    refine GO.callV (ci := 5) (N := mX6_keep) dX6_goOn_21 (RX6, TX6, 10) rfl gV_RX6_93 h_x (t_X6_keep h_x) rfl [] rfl rfl (Nat.le_of_ble_eq_true rfl) rfl (k_vs fun V8 h7 hF6 => ?_)
    exact GO.retv rfl rfl dX6_goOn_24 ⟨rfl, rfl, trivial⟩
  ·
    refine GO.aload_n dX6_goOn_11 rfl rfl ?_
    refine GO.iload_n dX6_goOn_12 rfl rfl ?_
    refine GO.iload_n dX6_goOn_13 rfl rfl ?_
    have q9 : -2147483648 ≤ p0 ∧ p0 ≤ 2147483647 := r_p0
    refine GO.callV (ci := 5) (N := mX6_extend_6) dX6_goOn_14 (RX6, TX6, 10) rfl gV_RX6_65 h_x (t_X6_extend_6 h_x r_p0 r_p1 (by omega)) rfl [] rfl rfl (Nat.le_of_ble_eq_true rfl) rfl (k_vs fun V12 h11 hF10 => ?_)
    refine GO.goto (tgt := 24) dX6_goOn_17 (by decide) ?_
    exact GO.retv rfl rfl dX6_goOn_24 ⟨rfl, rfl, trivial⟩

theorem t_X6_goOn_6 {K : Kmap} {V : Vmap} {x : Nat} {p0 : Int} {p1 : Int} (h_x : K x = some (0, 5)) (r_p0 : ir p0) (r_p1 : ir p1) (q_0 : ((p0 ≥ 2 ∧ p0 ≤ 8))) : MC mX6_goOn_6 K V [.ref x, ti p0, ti p1] (VS K (fun V1 => (True))) := by
  exact t_X6_goOn_6_G h_x r_p0 r_p1 (by omega) (by omega)

set_option maxHeartbeats 1000000 in
theorem t_X6_extend_7_G {K : Kmap} {V : Vmap} {x : Nat} {p0 : Int} {p1 : Int} (h_x : K x = some (0, 5)) (r_p0 : ir p0) (r_p1 : ir p1) (q_0 : p0 ≥ 1) (q_1 : p0 ≤ 7) : MC mX6_extend_7 K V [.ref x, ti p0, ti p1] (VS K (fun V1 => (True))) := by
  refine MC.start 1 (by decide +kernel) rfl rfl rfl (ls0 := [some (.ref x), some (ti p0), some (ti p1), none]) rfl ?_
  refine GO.iconst dX6_extend_0 ?_
  refine GO.istore_n (ls1 := [some (.ref x), some (ti p0), some (ti p1), some (ti 0)]) dX6_extend_1 rfl rfl rfl ?_
  refine GO.loop1 (fun i1 W => 0 ≤ i1 ∧ i1 ≤ 8 ∧ True) (fun i1 => [some (.ref x), some (ti p0), some (ti p1), some (ti i1)]) (fun i1 W => (2147483647 - i1).toNat) 0 ⟨by omega, by omega, trivial⟩ rfl (fun i1 Wi1 hp118 ih117 => ?_)
  obtain ⟨l_i1, u_i1, -⟩ := hp118
  have r_i1 : ir i1 := ⟨by omega, by omega⟩
  show GO mX6_extend_7 K V (VS K (fun V1 => (True))) K Wi1 0 0 2 [some (.ref x), some (ti p0), some (ti p1), some (ti i1)] []
  refine GO.iload_n dX6_extend_2 rfl rfl ?_
  refine GO.aload_n dX6_extend_3 rfl rfl ?_
  refine GO.getR h_x fl_RX6_14 rfl rfl dX6_extend_4 (fun hv120 h119 => ?_)
  refine GO.getI h119 fl_RX6_55_k24 rfl rfl dX6_extend_7 (fun l121 u122 => ?_)
  refine GO.icmp_ge (tgt := 62) dX6_extend_10 (by decide) r_i1 vi_ir (fun c123 => ?_) (fun c123 => ?_)
  ·
    exact GO.retv rfl rfl dX6_extend_62 ⟨rfl, rfl, trivial⟩
  ·
    refine GO.iload_n dX6_extend_13 rfl rfl ?_
    refine GO.iload_n dX6_extend_14 rfl rfl ?_
    refine GO.ishr dX6_extend_15 ?_
    refine GO.iconst dX6_extend_16 ?_
    refine GO.iand dX6_extend_17 ?_
    refine GO.if_ne (tgt := 56) dX6_extend_18 (by decide) wand_ir (fun c124 => ?_) (fun c124 => ?_)
    ·
      refine GO.iinc (X := i1) (n := 1) (Y := i1 + 1) (ls1 := [some (.ref x), some (ti p0), some (ti p1), some (ti (i1 + 1))]) dX6_extend_56 rfl rfl rfl rfl ?_
      refine GO.goto (tgt := 2) dX6_extend_59 (by decide) ?_
      exact ih117 (i1 + 1) Wi1 ⟨by omega, by omega, trivial⟩ (by show (2147483647 - (i1 + 1)).toNat < (2147483647 - i1).toNat; omega)
    ·
      refine GO.aload_n dX6_extend_21 rfl rfl ?_
      refine GO.iload_n dX6_extend_22 rfl rfl ?_
      refine GO.iload_n dX6_extend_23 rfl rfl ?_
      refine GO.iload_n dX6_extend_24 rfl rfl ?_
      refine GO.iconst dX6_extend_25 ?_
      refine GO.iload_n dX6_extend_26 rfl rfl ?_
      refine GO.ishl dX6_extend_27 ?_
      refine GO.ior dX6_extend_28 ?_
      refine GO.callV (ci := 5) (N := mX6_comes) dX6_extend_29 (RX6, TX6, 10) rfl gV_RX6_86 h_x (t_X6_comes h_x r_p0 r_i1 wor_ir) rfl [] rfl rfl (Nat.le_of_ble_eq_true rfl) rfl (k_is fun X125 V129 r126 h127 hF128 => ?_)
      refine GO.if_eq (tgt := 56) dX6_extend_32 (by decide) r126 (fun c130 => ?_) (fun c130 => ?_)
      ·
        refine GO.iinc (X := i1) (n := 1) (Y := i1 + 1) (ls1 := [some (.ref x), some (ti p0), some (ti p1), some (ti (i1 + 1))]) dX6_extend_56 rfl rfl rfl rfl ?_
        refine GO.goto (tgt := 2) dX6_extend_59 (by decide) ?_
        exact ih117 (i1 + 1) V129 ⟨by omega, by omega, trivial⟩ (by show (2147483647 - (i1 + 1)).toNat < (2147483647 - i1).toNat; omega)
      ·
        refine GO.aload_n dX6_extend_35 rfl rfl ?_
        refine GO.getB h_x fl_RX6_33 rfl rfl dX6_extend_36 (fun n133 hv132 h131 b134 => ?_)
        refine GO.iload_n dX6_extend_39 rfl rfl ?_
        refine GO.iload_n dX6_extend_40 rfl rfl ?_
        refine GO.callS (N := mX4_put) dX6_extend_41 gS_RX6_71 (t_X4_put h131 r_p0 r_i1) rfl [] rfl rfl (Nat.le_of_ble_eq_true rfl) rfl (k_vs fun V137 h136 hF135 => ?_)
        refine GO.aload_n dX6_extend_44 rfl rfl ?_
        refine GO.iload_n dX6_extend_45 rfl rfl ?_
        refine GO.iconst dX6_extend_46 ?_
        refine GO.iadd dX6_extend_47 ?_
        refine GO.iload_n dX6_extend_48 rfl rfl ?_
        refine GO.iconst dX6_extend_49 ?_
        refine GO.iload_n dX6_extend_50 rfl rfl ?_
        refine GO.ishl dX6_extend_51 ?_
        refine GO.ior dX6_extend_52 ?_
        have q138 : -2147483648 ≤ p0 ∧ p0 ≤ 2147483647 := r_p0
        refine GO.callV (ci := 5) (N := mX6_goOn_6) dX6_extend_53 (RX6, TX6, 10) rfl gV_RX6_90 h_x (t_X6_goOn_6 h_x ⟨by omega, by omega⟩ wor_ir (by omega)) rfl [] rfl rfl (Nat.le_of_ble_eq_true rfl) rfl (k_vs fun V141 h140 hF139 => ?_)
        refine GO.iinc (X := i1) (n := 1) (Y := i1 + 1) (ls1 := [some (.ref x), some (ti p0), some (ti p1), some (ti (i1 + 1))]) dX6_extend_56 rfl rfl rfl rfl ?_
        refine GO.goto (tgt := 2) dX6_extend_59 (by decide) ?_
        exact ih117 (i1 + 1) V141 ⟨by omega, by omega, trivial⟩ (by show (2147483647 - (i1 + 1)).toNat < (2147483647 - i1).toNat; omega)

theorem t_X6_extend_7 {K : Kmap} {V : Vmap} {x : Nat} {p0 : Int} {p1 : Int} (h_x : K x = some (0, 5)) (r_p0 : ir p0) (r_p1 : ir p1) (q_0 : ((p0 ≥ 1 ∧ p0 ≤ 7))) : MC mX6_extend_7 K V [.ref x, ti p0, ti p1] (VS K (fun V1 => (True))) := by
  exact t_X6_extend_7_G h_x r_p0 r_p1 (by omega) (by omega)

set_option maxHeartbeats 1000000 in
theorem t_X6_goOn_7_G {K : Kmap} {V : Vmap} {x : Nat} {p0 : Int} {p1 : Int} (h_x : K x = some (0, 5)) (r_p0 : ir p0) (r_p1 : ir p1) (q_0 : p0 ≥ 1) (q_1 : p0 ≤ 8) : MC mX6_goOn_7 K V [.ref x, ti p0, ti p1] (VS K (fun V1 => (True))) := by
  refine MC.start 0 (by decide +kernel) rfl rfl rfl (ls0 := [some (.ref x), some (ti p0), some (ti p1)]) rfl ?_
  refine GO.iload_n dX6_goOn_0 rfl rfl ?_
  refine GO.aload_n dX6_goOn_1 rfl rfl ?_
  refine GO.getR h_x fl_RX6_14 rfl rfl dX6_goOn_2 (fun hv2 h1 => ?_)
  refine GO.getI h1 fl_RX6_55_k24 rfl rfl dX6_goOn_5 (fun l3 u4 => ?_)
  refine GO.icmp_ge (tgt := 20) dX6_goOn_8 (by decide) r_p0 vi_ir (fun c5 => ?_) (fun c5 => ?_)
  ·
    refine GO.aload_n dX6_goOn_20 rfl rfl ?_
    refine GO.callV (ci := 5) (N := mX6_keep) dX6_goOn_21 (RX6, TX6, 10) rfl gV_RX6_93 h_x (t_X6_keep h_x) rfl [] rfl rfl (Nat.le_of_ble_eq_true rfl) rfl (k_vs fun V8 h7 hF6 => ?_)
    exact GO.retv rfl rfl dX6_goOn_24 ⟨rfl, rfl, trivial⟩
  ·
    refine GO.aload_n dX6_goOn_11 rfl rfl ?_
    refine GO.iload_n dX6_goOn_12 rfl rfl ?_
    refine GO.iload_n dX6_goOn_13 rfl rfl ?_
    have q9 : -2147483648 ≤ p0 ∧ p0 ≤ 2147483647 := r_p0
    refine GO.callV (ci := 5) (N := mX6_extend_7) dX6_goOn_14 (RX6, TX6, 10) rfl gV_RX6_65 h_x (t_X6_extend_7 h_x r_p0 r_p1 (by omega)) rfl [] rfl rfl (Nat.le_of_ble_eq_true rfl) rfl (k_vs fun V12 h11 hF10 => ?_)
    refine GO.goto (tgt := 24) dX6_goOn_17 (by decide) ?_
    exact GO.retv rfl rfl dX6_goOn_24 ⟨rfl, rfl, trivial⟩

theorem t_X6_goOn_7 {K : Kmap} {V : Vmap} {x : Nat} {p0 : Int} {p1 : Int} (h_x : K x = some (0, 5)) (r_p0 : ir p0) (r_p1 : ir p1) (q_0 : ((p0 ≥ 1 ∧ p0 ≤ 8))) : MC mX6_goOn_7 K V [.ref x, ti p0, ti p1] (VS K (fun V1 => (True))) := by
  exact t_X6_goOn_7_G h_x r_p0 r_p1 (by omega) (by omega)

set_option maxHeartbeats 1000000 in
theorem t_X6_extend_8_G {K : Kmap} {V : Vmap} {x : Nat} {p0 : Int} {p1 : Int} (h_x : K x = some (0, 5)) (r_p0 : ir p0) (r_p1 : ir p1) (q_0 : p0 ≥ 0) (q_1 : p0 ≤ 7) : MC mX6_extend_8 K V [.ref x, ti p0, ti p1] (VS K (fun V1 => (True))) := by
  refine MC.start 1 (by decide +kernel) rfl rfl rfl (ls0 := [some (.ref x), some (ti p0), some (ti p1), none]) rfl ?_
  refine GO.iconst dX6_extend_0 ?_
  refine GO.istore_n (ls1 := [some (.ref x), some (ti p0), some (ti p1), some (ti 0)]) dX6_extend_1 rfl rfl rfl ?_
  refine GO.loop1 (fun i1 W => 0 ≤ i1 ∧ i1 ≤ 8 ∧ True) (fun i1 => [some (.ref x), some (ti p0), some (ti p1), some (ti i1)]) (fun i1 W => (2147483647 - i1).toNat) 0 ⟨by omega, by omega, trivial⟩ rfl (fun i1 Wi1 hp118 ih117 => ?_)
  obtain ⟨l_i1, u_i1, -⟩ := hp118
  have r_i1 : ir i1 := ⟨by omega, by omega⟩
  show GO mX6_extend_8 K V (VS K (fun V1 => (True))) K Wi1 0 0 2 [some (.ref x), some (ti p0), some (ti p1), some (ti i1)] []
  refine GO.iload_n dX6_extend_2 rfl rfl ?_
  refine GO.aload_n dX6_extend_3 rfl rfl ?_
  refine GO.getR h_x fl_RX6_14 rfl rfl dX6_extend_4 (fun hv120 h119 => ?_)
  refine GO.getI h119 fl_RX6_55_k24 rfl rfl dX6_extend_7 (fun l121 u122 => ?_)
  refine GO.icmp_ge (tgt := 62) dX6_extend_10 (by decide) r_i1 vi_ir (fun c123 => ?_) (fun c123 => ?_)
  ·
    exact GO.retv rfl rfl dX6_extend_62 ⟨rfl, rfl, trivial⟩
  ·
    refine GO.iload_n dX6_extend_13 rfl rfl ?_
    refine GO.iload_n dX6_extend_14 rfl rfl ?_
    refine GO.ishr dX6_extend_15 ?_
    refine GO.iconst dX6_extend_16 ?_
    refine GO.iand dX6_extend_17 ?_
    refine GO.if_ne (tgt := 56) dX6_extend_18 (by decide) wand_ir (fun c124 => ?_) (fun c124 => ?_)
    ·
      refine GO.iinc (X := i1) (n := 1) (Y := i1 + 1) (ls1 := [some (.ref x), some (ti p0), some (ti p1), some (ti (i1 + 1))]) dX6_extend_56 rfl rfl rfl rfl ?_
      refine GO.goto (tgt := 2) dX6_extend_59 (by decide) ?_
      exact ih117 (i1 + 1) Wi1 ⟨by omega, by omega, trivial⟩ (by show (2147483647 - (i1 + 1)).toNat < (2147483647 - i1).toNat; omega)
    ·
      refine GO.aload_n dX6_extend_21 rfl rfl ?_
      refine GO.iload_n dX6_extend_22 rfl rfl ?_
      refine GO.iload_n dX6_extend_23 rfl rfl ?_
      refine GO.iload_n dX6_extend_24 rfl rfl ?_
      refine GO.iconst dX6_extend_25 ?_
      refine GO.iload_n dX6_extend_26 rfl rfl ?_
      refine GO.ishl dX6_extend_27 ?_
      refine GO.ior dX6_extend_28 ?_
      refine GO.callV (ci := 5) (N := mX6_comes) dX6_extend_29 (RX6, TX6, 10) rfl gV_RX6_86 h_x (t_X6_comes h_x r_p0 r_i1 wor_ir) rfl [] rfl rfl (Nat.le_of_ble_eq_true rfl) rfl (k_is fun X125 V129 r126 h127 hF128 => ?_)
      refine GO.if_eq (tgt := 56) dX6_extend_32 (by decide) r126 (fun c130 => ?_) (fun c130 => ?_)
      ·
        refine GO.iinc (X := i1) (n := 1) (Y := i1 + 1) (ls1 := [some (.ref x), some (ti p0), some (ti p1), some (ti (i1 + 1))]) dX6_extend_56 rfl rfl rfl rfl ?_
        refine GO.goto (tgt := 2) dX6_extend_59 (by decide) ?_
        exact ih117 (i1 + 1) V129 ⟨by omega, by omega, trivial⟩ (by show (2147483647 - (i1 + 1)).toNat < (2147483647 - i1).toNat; omega)
      ·
        refine GO.aload_n dX6_extend_35 rfl rfl ?_
        refine GO.getB h_x fl_RX6_33 rfl rfl dX6_extend_36 (fun n133 hv132 h131 b134 => ?_)
        refine GO.iload_n dX6_extend_39 rfl rfl ?_
        refine GO.iload_n dX6_extend_40 rfl rfl ?_
        refine GO.callS (N := mX4_put) dX6_extend_41 gS_RX6_71 (t_X4_put h131 r_p0 r_i1) rfl [] rfl rfl (Nat.le_of_ble_eq_true rfl) rfl (k_vs fun V137 h136 hF135 => ?_)
        refine GO.aload_n dX6_extend_44 rfl rfl ?_
        refine GO.iload_n dX6_extend_45 rfl rfl ?_
        refine GO.iconst dX6_extend_46 ?_
        refine GO.iadd dX6_extend_47 ?_
        refine GO.iload_n dX6_extend_48 rfl rfl ?_
        refine GO.iconst dX6_extend_49 ?_
        refine GO.iload_n dX6_extend_50 rfl rfl ?_
        refine GO.ishl dX6_extend_51 ?_
        refine GO.ior dX6_extend_52 ?_
        have q138 : -2147483648 ≤ p0 ∧ p0 ≤ 2147483647 := r_p0
        refine GO.callV (ci := 5) (N := mX6_goOn_7) dX6_extend_53 (RX6, TX6, 10) rfl gV_RX6_90 h_x (t_X6_goOn_7 h_x ⟨by omega, by omega⟩ wor_ir (by omega)) rfl [] rfl rfl (Nat.le_of_ble_eq_true rfl) rfl (k_vs fun V141 h140 hF139 => ?_)
        refine GO.iinc (X := i1) (n := 1) (Y := i1 + 1) (ls1 := [some (.ref x), some (ti p0), some (ti p1), some (ti (i1 + 1))]) dX6_extend_56 rfl rfl rfl rfl ?_
        refine GO.goto (tgt := 2) dX6_extend_59 (by decide) ?_
        exact ih117 (i1 + 1) V141 ⟨by omega, by omega, trivial⟩ (by show (2147483647 - (i1 + 1)).toNat < (2147483647 - i1).toNat; omega)

theorem t_X6_extend_8 {K : Kmap} {V : Vmap} {x : Nat} {p0 : Int} {p1 : Int} (h_x : K x = some (0, 5)) (r_p0 : ir p0) (r_p1 : ir p1) (q_0 : ((p0 ≥ 0 ∧ p0 ≤ 7))) : MC mX6_extend_8 K V [.ref x, ti p0, ti p1] (VS K (fun V1 => (True))) := by
  exact t_X6_extend_8_G h_x r_p0 r_p1 (by omega) (by omega)

set_option maxHeartbeats 1000000 in
theorem t_X6_seek {K : Kmap} {V : Vmap} {x : Nat} {p0 : Int} (h_x : K x = some (0, 5)) (r_p0 : ir p0) : MC mX6_seek K V [.ref x, ti p0] (VS K (fun V1 => (True))) := by
  refine MC.start 0 (by decide +kernel) rfl rfl rfl (ls0 := [some (.ref x), some (ti p0)]) rfl ?_
  refine GO.aload_n dX6_seek_0 rfl rfl ?_
  refine GO.iload_n dX6_seek_1 rfl rfl ?_
  refine GO.putI h_x fp_RX6_42 rfl (by decide +kernel) r_p0 (r_p0).1 (r_p0).2 dX6_seek_2 (fun V2 e1 => ?_)
  refine GO.aload_n dX6_seek_5 rfl rfl ?_
  refine GO.iconst dX6_seek_6 ?_
  refine GO.putI h_x fp_RX6_46 rfl (by decide +kernel) (ir_c rfl) (by decide) (by decide) dX6_seek_7 (fun V4 e3 => ?_)
  refine GO.aload_n dX6_seek_10 rfl rfl ?_
  refine GO.callV (ci := 5) (N := mX6_lookAhead) dX6_seek_11 (RX6, TX6, 10) rfl gV_RX6_62 h_x (t_X6_lookAhead h_x) rfl [] rfl rfl (Nat.le_of_ble_eq_true rfl) rfl (k_vs fun V7 h6 hF5 => ?_)
  refine GO.aload_n dX6_seek_14 rfl rfl ?_
  refine GO.iconst dX6_seek_15 ?_
  refine GO.iconst dX6_seek_16 ?_
  refine GO.callV (ci := 5) (N := mX6_extend_8) dX6_seek_17 (RX6, TX6, 10) rfl gV_RX6_65 h_x (t_X6_extend_8 h_x (ir_c rfl) (ir_c rfl) (by omega)) rfl [] rfl rfl (Nat.le_of_ble_eq_true rfl) rfl (k_vs fun V10 h9 hF8 => ?_)
  exact GO.retv rfl rfl dX6_seek_20 ⟨rfl, rfl, trivial⟩

set_option maxHeartbeats 1000000 in
theorem t_X7_init {K : Kmap} {V : Vmap} {x : Nat} {p0 : Int} {p1 : Int} {p2 : Int} (h_x : K x = some (0, 18)) (r_p0 : ir p0) (r_p1 : ir p1) (r_p2 : ir p2) : MC mX7_init K V [.ref x, ti p0, ti p1, ti p2] (VX (fun K1 _ => K1 x = some (0, 6) ∧ KE K K1 x)) := by
  refine MC.start 0 (by decide +kernel) rfl rfl rfl (ls0 := [some (.ref x), some (ti p0), some (ti p1), some (ti p2)]) rfl ?_
  refine GO.aload_n dX7_init_0 rfl rfl ?_
  refine GO.objInit dX7_init_1 gw_1049 gw_27 gw_28 rfl rfl ?_
  refine GO.aload_n dX7_init_4 rfl rfl ?_
  refine GO.iconst dX7_init_5 ?_
  refine GO.putRW rfl (by decide +kernel) h_x fp_raw_fp_RX7_9 rfl rfl dX7_init_6 (fun V2 e1 => ?_)
  refine GO.aload_n dX7_init_9 rfl rfl ?_
  refine GO.iconst dX7_init_10 ?_
  refine GO.putRW rfl (by decide +kernel) h_x fp_raw_fp_RX7_15 rfl rfl dX7_init_11 (fun V4 e3 => ?_)
  refine GO.aload_n dX7_init_14 rfl rfl ?_
  refine GO.iconst dX7_init_15 ?_
  refine GO.putRW rfl (by decide +kernel) h_x fp_raw_fp_RX7_18 rfl rfl dX7_init_16 (fun V6 e5 => ?_)
  refine GO.aload_n dX7_init_19 rfl rfl ?_
  refine GO.iconst dX7_init_20 ?_
  refine GO.putRW rfl (by decide +kernel) h_x fp_raw_fp_RX7_21 rfl rfl dX7_init_21 (fun V8 e7 => ?_)
  refine GO.aload_n dX7_init_24 rfl rfl ?_
  refine GO.iconst dX7_init_25 ?_
  refine GO.putRW rfl (by decide +kernel) h_x fp_raw_fp_RX7_24 rfl rfl dX7_init_26 (fun V10 e9 => ?_)
  refine GO.aload_n dX7_init_29 rfl rfl ?_
  refine GO.iconst dX7_init_30 ?_
  refine GO.putRW rfl (by decide +kernel) h_x fp_raw_fp_RX7_27 rfl rfl dX7_init_31 (fun V12 e11 => ?_)
  refine GO.aload_n dX7_init_34 rfl rfl ?_
  refine GO.iconst dX7_init_35 ?_
  refine GO.putRW rfl (by decide +kernel) h_x fp_raw_fp_RX7_30 rfl rfl dX7_init_36 (fun V14 e13 => ?_)
  refine GO.aload_n dX7_init_39 rfl rfl ?_
  refine GO.iconst dX7_init_40 ?_
  refine GO.putRW rfl (by decide +kernel) h_x fp_raw_fp_RX7_33 rfl rfl dX7_init_41 (fun V16 e15 => ?_)
  refine GO.aload_n dX7_init_44 rfl rfl ?_
  refine GO.iload_n dX7_init_45 rfl rfl ?_
  refine GO.putRF rfl rfl (by decide +kernel) h_x fp_raw_fp_RX7_36 rfl rfl dX7_init_46 (fun V18 e17 => ?_)
  refine GO.aload_n dX7_init_49 rfl rfl ?_
  refine GO.iload_n dX7_init_50 rfl rfl ?_
  refine GO.putRF rfl rfl (by decide +kernel) h_x fp_raw_fp_RX7_39 rfl rfl dX7_init_51 (fun V20 e19 => ?_)
  refine GO.aload_n dX7_init_54 rfl rfl ?_
  refine GO.iload_n dX7_init_55 rfl rfl ?_
  refine GO.putRF rfl rfl (by decide +kernel) h_x fp_raw_fp_RX7_42 rfl rfl dX7_init_56 (fun V22 e21 => ?_)
  refine GO.promote (ci := 6) rfl h_x (fun j hj => ?_) (fun K23 e24 hE25 h26 => ?_)
  ·
    have hj : j < 11 := hj
    match j, hj with
    | 0, _ => exact okv_any (Eq.trans (uq_ne e21 (Or.inr (by decide))) (Eq.trans (uq_ne e19 (Or.inr (by decide))) (uq_at e17)))
    | 1, _ => exact okv_any (Eq.trans (uq_ne e21 (Or.inr (by decide))) (uq_at e19))
    | 2, _ => exact okv_any (uq_at e21)
    | 3, _ => exact okv_any (Eq.trans (uq_ne e21 (Or.inr (by decide))) (Eq.trans (uq_ne e19 (Or.inr (by decide))) (Eq.trans (uq_ne e17 (Or.inr (by decide))) (Eq.trans (uq_ne e15 (Or.inr (by decide))) (Eq.trans (uq_ne e13 (Or.inr (by decide))) (Eq.trans (uq_ne e11 (Or.inr (by decide))) (Eq.trans (uq_ne e9 (Or.inr (by decide))) (Eq.trans (uq_ne e7 (Or.inr (by decide))) (Eq.trans (uq_ne e5 (Or.inr (by decide))) (Eq.trans (uq_ne e3 (Or.inr (by decide))) (uq_at e1)))))))))))
    | 4, _ => exact okv_any (Eq.trans (uq_ne e21 (Or.inr (by decide))) (Eq.trans (uq_ne e19 (Or.inr (by decide))) (Eq.trans (uq_ne e17 (Or.inr (by decide))) (Eq.trans (uq_ne e15 (Or.inr (by decide))) (Eq.trans (uq_ne e13 (Or.inr (by decide))) (Eq.trans (uq_ne e11 (Or.inr (by decide))) (Eq.trans (uq_ne e9 (Or.inr (by decide))) (Eq.trans (uq_ne e7 (Or.inr (by decide))) (Eq.trans (uq_ne e5 (Or.inr (by decide))) (uq_at e3))))))))))
    | 5, _ => exact okv_any (Eq.trans (uq_ne e21 (Or.inr (by decide))) (Eq.trans (uq_ne e19 (Or.inr (by decide))) (Eq.trans (uq_ne e17 (Or.inr (by decide))) (Eq.trans (uq_ne e15 (Or.inr (by decide))) (Eq.trans (uq_ne e13 (Or.inr (by decide))) (Eq.trans (uq_ne e11 (Or.inr (by decide))) (Eq.trans (uq_ne e9 (Or.inr (by decide))) (Eq.trans (uq_ne e7 (Or.inr (by decide))) (uq_at e5)))))))))
    | 6, _ => exact okv_any (Eq.trans (uq_ne e21 (Or.inr (by decide))) (Eq.trans (uq_ne e19 (Or.inr (by decide))) (Eq.trans (uq_ne e17 (Or.inr (by decide))) (Eq.trans (uq_ne e15 (Or.inr (by decide))) (Eq.trans (uq_ne e13 (Or.inr (by decide))) (Eq.trans (uq_ne e11 (Or.inr (by decide))) (Eq.trans (uq_ne e9 (Or.inr (by decide))) (uq_at e7))))))))
    | 7, _ => exact okv_any (Eq.trans (uq_ne e21 (Or.inr (by decide))) (Eq.trans (uq_ne e19 (Or.inr (by decide))) (Eq.trans (uq_ne e17 (Or.inr (by decide))) (Eq.trans (uq_ne e15 (Or.inr (by decide))) (Eq.trans (uq_ne e13 (Or.inr (by decide))) (Eq.trans (uq_ne e11 (Or.inr (by decide))) (uq_at e9)))))))
    | 8, _ => exact okv_any (Eq.trans (uq_ne e21 (Or.inr (by decide))) (Eq.trans (uq_ne e19 (Or.inr (by decide))) (Eq.trans (uq_ne e17 (Or.inr (by decide))) (Eq.trans (uq_ne e15 (Or.inr (by decide))) (Eq.trans (uq_ne e13 (Or.inr (by decide))) (uq_at e11))))))
    | 9, _ => exact okv_any (Eq.trans (uq_ne e21 (Or.inr (by decide))) (Eq.trans (uq_ne e19 (Or.inr (by decide))) (Eq.trans (uq_ne e17 (Or.inr (by decide))) (Eq.trans (uq_ne e15 (Or.inr (by decide))) (uq_at e13)))))
    | 10, _ => exact okv_any (Eq.trans (uq_ne e21 (Or.inr (by decide))) (Eq.trans (uq_ne e19 (Or.inr (by decide))) (Eq.trans (uq_ne e17 (Or.inr (by decide))) (uq_at e15))))
    | j + 11, hj => exact absurd hj (by omega)
  exact GO.retv rfl rfl dX7_init_59 ⟨rfl, h26, KE.promote KE.rf e24⟩

set_option maxHeartbeats 1000000 in
theorem t_X7_leave {K : Kmap} {V : Vmap} {x : Nat} {p0 : Int} {p1 : Int} {p2 : Int} {p3 : Int} {p4 : Int} (h_x : K x = some (0, 6)) (r_p0 : ir p0) (r_p1 : ir p1) (r_p2 : ir p2) (r_p3 : ir p3) (r_p4 : ir p4) : MC mX7_leave K V [.ref x, ti p0, ti p1, ti p2, ti p3, ti p4] (VS K (fun V1 => (True))) := by
  refine MC.start 0 (by decide +kernel) rfl rfl rfl (ls0 := [some (.ref x), some (ti p0), some (ti p1), some (ti p2), some (ti p3), some (ti p4)]) rfl ?_
  refine GO.aload_n dX7_leave_0 rfl rfl ?_
  refine GO.iconst dX7_leave_1 ?_
  refine GO.putI h_x fp_RX7_9 rfl (by decide +kernel) (ir_c rfl) (by decide) (by decide) dX7_leave_2 (fun V2 e1 => ?_)
  refine GO.aload_n dX7_leave_5 rfl rfl ?_
  refine GO.iload_n dX7_leave_6 rfl rfl ?_
  refine GO.putI h_x fp_RX7_15 rfl (by decide +kernel) r_p0 (r_p0).1 (r_p0).2 dX7_leave_7 (fun V4 e3 => ?_)
  refine GO.aload_n dX7_leave_10 rfl rfl ?_
  refine GO.iload_n dX7_leave_11 rfl rfl ?_
  refine GO.putI h_x fp_RX7_18 rfl (by decide +kernel) r_p1 (r_p1).1 (r_p1).2 dX7_leave_12 (fun V6 e5 => ?_)
  refine GO.aload_n dX7_leave_15 rfl rfl ?_
  refine GO.iload_n dX7_leave_16 rfl rfl ?_
  refine GO.putI h_x fp_RX7_21 rfl (by decide +kernel) r_p2 (r_p2).1 (r_p2).2 dX7_leave_17 (fun V8 e7 => ?_)
  refine GO.aload_n dX7_leave_20 rfl rfl ?_
  refine GO.iload dX7_leave_21 rfl ?_
  refine GO.putI h_x fp_RX7_33 rfl (by decide +kernel) r_p4 (r_p4).1 (r_p4).2 dX7_leave_23 (fun V10 e9 => ?_)
  refine GO.aload_n dX7_leave_26 rfl rfl ?_
  refine GO.iload dX7_leave_27 rfl ?_
  refine GO.iload dX7_leave_29 rfl ?_
  refine GO.iadd dX7_leave_31 ?_
  refine GO.norm (fun z11 r12 _ => ?_)
  refine GO.putI h_x fp_RX7_27 rfl (by decide +kernel) r12 (r12).1 (r12).2 dX7_leave_32 (fun V14 e13 => ?_)
  refine GO.aload_n dX7_leave_35 rfl rfl ?_
  refine GO.iconst dX7_leave_36 ?_
  refine GO.putI h_x fp_RX7_30 rfl (by decide +kernel) (ir_c rfl) (by decide) (by decide) dX7_leave_37 (fun V16 e15 => ?_)
  exact GO.retv rfl rfl dX7_leave_40 ⟨rfl, rfl, trivial⟩

set_option maxHeartbeats 1000000 in
theorem t_X7_turnBack {K : Kmap} {V : Vmap} {x : Nat} {p0 : Int} (h_x : K x = some (0, 6)) (r_p0 : ir p0) : MC mX7_turnBack K V [.ref x, ti p0] (VS K (fun V1 => (True))) := by
  refine MC.start 0 (by decide +kernel) rfl rfl rfl (ls0 := [some (.ref x), some (ti p0)]) rfl ?_
  refine GO.aload_n dX7_turnBack_0 rfl rfl ?_
  refine GO.iconst dX7_turnBack_1 ?_
  refine GO.putI h_x fp_RX7_9 rfl (by decide +kernel) (ir_c rfl) (by decide) (by decide) dX7_turnBack_2 (fun V2 e1 => ?_)
  refine GO.aload_n dX7_turnBack_5 rfl rfl ?_
  refine GO.iload_n dX7_turnBack_6 rfl rfl ?_
  refine GO.aload_n dX7_turnBack_7 rfl rfl ?_
  refine GO.getI h_x fl_RX7_33 rfl rfl dX7_turnBack_8 (fun _ _ => ?_)
  refine GO.iadd dX7_turnBack_11 ?_
  refine GO.norm (fun z4 r5 _ => ?_)
  refine GO.putI h_x fp_RX7_27 rfl (by decide +kernel) r5 (r5).1 (r5).2 dX7_turnBack_12 (fun V7 e6 => ?_)
  exact GO.retv rfl rfl dX7_turnBack_15 ⟨rfl, rfl, trivial⟩

set_option maxHeartbeats 1000000 in
theorem t_X9_init {K : Kmap} {V : Vmap} {x : Nat} {p0 : Int} {p1 : Int} {p2 : Int} {p3 : Int} (h_x : K x = some (0, 20)) (r_p0 : ir p0) (r_p1 : ir p1) (r_p2 : ir p2) (r_p3 : ir p3) (q_0 : p2 ≥ 0) (q_1 : p2 ≤ 200) (q_2 : p3 ≥ 0) (q_3 : p3 ≤ 12) : MC mX9_init K V [.ref x, ti p0, ti p1, ti p2, ti p3] (VX (fun K1 _ => K1 x = some (0, 8) ∧ KE K K1 x)) := by
  refine MC.start 0 (by decide +kernel) rfl rfl rfl (ls0 := [some (.ref x), some (ti p0), some (ti p1), some (ti p2), some (ti p3)]) rfl ?_
  refine GO.aload_n dX9_init_0 rfl rfl ?_
  refine GO.objInit dX9_init_1 gw_575 gw_27 gw_28 rfl rfl ?_
  refine GO.aload_n dX9_init_4 rfl rfl ?_
  refine GO.iconst dX9_init_5 ?_
  refine GO.putRW rfl (by decide +kernel) h_x fp_raw_fp_RX9_9 rfl rfl dX9_init_6 (fun V2 e1 => ?_)
  refine GO.aload_n dX9_init_9 rfl rfl ?_
  refine GO.iload_n dX9_init_10 rfl rfl ?_
  refine GO.putRF rfl rfl (by decide +kernel) h_x fp_raw_fp_RX9_15 rfl rfl dX9_init_11 (fun V4 e3 => ?_)
  refine GO.aload_n dX9_init_14 rfl rfl ?_
  refine GO.iload_n dX9_init_15 rfl rfl ?_
  refine GO.putRF rfl rfl (by decide +kernel) h_x fp_raw_fp_RX9_18 rfl rfl dX9_init_16 (fun V6 e5 => ?_)
  refine GO.aload_n dX9_init_19 rfl rfl ?_
  refine GO.new (ci := 19) (RX8, TX8, 4) tyX8 rfl rfl lays_7 tyX8_ok gw_576 gw_99 gw_5 rfl rfl dX9_init_20 (fun o7 K8 V14 hq9 hK10 hE11 h12 _ hV13 => ?_)
  have h15 := (by rw [hK10, updK_ne (K_old h_x hq9)]; exact h_x : K8 x = some (0, 20))
  have h16 := KE.nw KE.rf h_x hq9
  refine GO.dup dX9_init_23 rfl ?_
  refine GO.bipush dX9_init_24 rfl ?_
  refine GO.iload dX9_init_26 rfl ?_
  have q17 : -2147483648 ≤ p3 ∧ p3 ≤ 2147483647 := r_p3
  refine GO.callI (N := mX8_init) dX9_init_28 gI_RX9_23 rfl (t_X8_init h12 (ir_c rfl) r_p3 (by omega) (by omega) (by omega) (by omega)) rfl [.ref o7, .ref x] rfl rfl (Nat.le_of_ble_eq_true rfl) rfl (k_vx fun K20 V22 h21 hE19 hF18 => ?_)
  have h23 := h21.2 _ _ (K_ne h15 h12 (by decide)) h15
  have h24 := h21.1
  refine GO.putRF rfl rfl (by decide +kernel) h23 fp_raw_fp_RX9_26 rfl rfl dX9_init_31 (fun V26 e25 => ?_)
  refine GO.aload_n dX9_init_34 rfl rfl ?_
  refine GO.iconst dX9_init_35 ?_
  refine GO.iload_n dX9_init_36 rfl rfl ?_
  refine GO.callS (N := mJ9_max_7cf53) dX9_init_37 gS_RX9_30 (t_J9_max_7cf53 (ir_c rfl) r_p2) rfl [.ref x] rfl rfl (Nat.le_of_ble_eq_true rfl) rfl (k_ip fun X27 r28 h29 => ?_)
  have q30 : -2147483648 ≤ p2 ∧ p2 ≤ 2147483647 := r_p2
  have q31 : -2147483648 ≤ X27 ∧ X27 ≤ 2147483647 := r28
  refine GO.newI gw_89 r28 (by omega) 200 (by omega) rfl rfl rfl dX9_init_40 (fun o32 K33 V39 hq34 hK35 hE36 h37 _ hV38 => ?_)
  have h40 := (by rw [hK35, updK_ne (K_old h23 hq34)]; exact h23 : K33 x = some (0, 20))
  have h41 := hE36.obj (by decide) h24
  have h42 := KE.nw (KE.call (KE.new KE.rf hq9 hK10) h21.2 h16) h23 hq34
  refine GO.putRF rfl rfl (by decide +kernel) h40 fp_raw_fp_RX9_36 rfl rfl dX9_init_42 (fun V44 e43 => ?_)
  refine GO.promote (ci := 8) rfl h40 (fun j hj => ?_) (fun K45 e46 hE47 h48 => ?_)
  ·
    have hj : j < 5 := hj
    match j, hj with
    | 0, _ => exact okv_any (Eq.trans (uq_ne e43 (Or.inr (by decide))) (Eq.trans (congrFun (hV38 _ (K_old h23 hq34)) _) (Eq.trans (uq_ne e25 (Or.inr (by decide))) (Eq.trans (hF18 _ _ _ h15 h23 (by decide +kernel)) (Eq.trans (congrFun (hV13 _ (K_old h_x hq9)) _) (Eq.trans (uq_ne e5 (Or.inr (by decide))) (uq_at e3)))))))
    | 1, _ => exact okv_any (Eq.trans (uq_ne e43 (Or.inr (by decide))) (Eq.trans (congrFun (hV38 _ (K_old h23 hq34)) _) (Eq.trans (uq_ne e25 (Or.inr (by decide))) (Eq.trans (hF18 _ _ _ h15 h23 (by decide +kernel)) (Eq.trans (congrFun (hV13 _ (K_old h_x hq9)) _) (uq_at e5))))))
    | 2, _ => exact ⟨_, (Eq.trans (uq_ne e43 (Or.inr (by decide))) (Eq.trans (congrFun (hV38 _ (K_old h23 hq34)) _) (uq_at e25))), h41⟩
    | 3, _ => exact ⟨_, (uq_at e43), ⟨_, h37⟩⟩
    | 4, _ => exact okv_any (Eq.trans (uq_ne e43 (Or.inr (by decide))) (Eq.trans (congrFun (hV38 _ (K_old h23 hq34)) _) (Eq.trans (uq_ne e25 (Or.inr (by decide))) (Eq.trans (hF18 _ _ _ h15 h23 (by decide +kernel)) (Eq.trans (congrFun (hV13 _ (K_old h_x hq9)) _) (Eq.trans (uq_ne e5 (Or.inr (by decide))) (Eq.trans (uq_ne e3 (Or.inr (by decide))) (uq_at e1))))))))
    | j + 5, hj => exact absurd hj (by omega)
  exact GO.retv rfl rfl dX9_init_45 ⟨rfl, h48, KE.promote (KE.new (KE.call (KE.new KE.rf hq9 hK10) h21.2 h16) hq34 hK35) e46⟩

set_option maxHeartbeats 1000000 in
theorem t_X10_init {K : Kmap} {V : Vmap} {x : Nat} {p0 : Int} {p1 : Int} {p2 : Int} {p3 : Int} {p4 : Int} (h_x : K x = some (0, 21)) (r_p0 : ir p0) (r_p1 : ir p1) (r_p2 : ir p2) (r_p3 : ir p3) (r_p4 : ir p4) : MC mX10_init K V [.ref x, ti p0, ti p1, ti p2, ti p3, ti p4] (VX (fun K1 _ => K1 x = some (0, 9) ∧ KE K K1 x)) := by
  refine MC.start 0 (by decide +kernel) rfl rfl rfl (ls0 := [some (.ref x), some (ti p0), some (ti p1), some (ti p2), some (ti p3), some (ti p4)]) rfl ?_
  refine GO.aload_n dX10_init_0 rfl rfl ?_
  refine GO.objInit dX10_init_1 gw_879 gw_27 gw_28 rfl rfl ?_
  refine GO.aload_n dX10_init_4 rfl rfl ?_
  refine GO.iconst dX10_init_5 ?_
  refine GO.putRW rfl (by decide +kernel) h_x fp_raw_fp_RX10_9 rfl rfl dX10_init_6 (fun V2 e1 => ?_)
  refine GO.aload_n dX10_init_9 rfl rfl ?_
  refine GO.iconst dX10_init_10 ?_
  refine GO.putRW rfl (by decide +kernel) h_x fp_raw_fp_RX10_15 rfl rfl dX10_init_11 (fun V4 e3 => ?_)
  refine GO.aload_n dX10_init_14 rfl rfl ?_
  refine GO.iconst dX10_init_15 ?_
  refine GO.putRW rfl (by decide +kernel) h_x fp_raw_fp_RX10_18 rfl rfl dX10_init_16 (fun V6 e5 => ?_)
  refine GO.aload_n dX10_init_19 rfl rfl ?_
  refine GO.iconst dX10_init_20 ?_
  refine GO.putRW rfl (by decide +kernel) h_x fp_raw_fp_RX10_21 rfl rfl dX10_init_21 (fun V8 e7 => ?_)
  refine GO.aload_n dX10_init_24 rfl rfl ?_
  refine GO.iconst dX10_init_25 ?_
  refine GO.putRW rfl (by decide +kernel) h_x fp_raw_fp_RX10_24 rfl rfl dX10_init_26 (fun V10 e9 => ?_)
  refine GO.aload_n dX10_init_29 rfl rfl ?_
  refine GO.iconst dX10_init_30 ?_
  refine GO.putRW rfl (by decide +kernel) h_x fp_raw_fp_RX10_27 rfl rfl dX10_init_31 (fun V12 e11 => ?_)
  refine GO.aload_n dX10_init_34 rfl rfl ?_
  refine GO.iconst dX10_init_35 ?_
  refine GO.putRW rfl (by decide +kernel) h_x fp_raw_fp_RX10_30 rfl rfl dX10_init_36 (fun V14 e13 => ?_)
  refine GO.aload_n dX10_init_39 rfl rfl ?_
  refine GO.iconst dX10_init_40 ?_
  refine GO.putRW rfl (by decide +kernel) h_x fp_raw_fp_RX10_33 rfl rfl dX10_init_41 (fun V16 e15 => ?_)
  refine GO.aload_n dX10_init_44 rfl rfl ?_
  refine GO.iconst dX10_init_45 ?_
  refine GO.putRW rfl (by decide +kernel) h_x fp_raw_fp_RX10_36 rfl rfl dX10_init_46 (fun V18 e17 => ?_)
  refine GO.aload_n dX10_init_49 rfl rfl ?_
  refine GO.iconst dX10_init_50 ?_
  refine GO.putRW rfl (by decide +kernel) h_x fp_raw_fp_RX10_39 rfl rfl dX10_init_51 (fun V20 e19 => ?_)
  refine GO.aload_n dX10_init_54 rfl rfl ?_
  refine GO.iload_n dX10_init_55 rfl rfl ?_
  refine GO.putRF rfl rfl (by decide +kernel) h_x fp_raw_fp_RX10_42 rfl rfl dX10_init_56 (fun V22 e21 => ?_)
  refine GO.aload_n dX10_init_59 rfl rfl ?_
  refine GO.iload_n dX10_init_60 rfl rfl ?_
  refine GO.putRF rfl rfl (by decide +kernel) h_x fp_raw_fp_RX10_45 rfl rfl dX10_init_61 (fun V24 e23 => ?_)
  refine GO.aload_n dX10_init_64 rfl rfl ?_
  refine GO.iload_n dX10_init_65 rfl rfl ?_
  refine GO.putRF rfl rfl (by decide +kernel) h_x fp_raw_fp_RX10_48 rfl rfl dX10_init_66 (fun V26 e25 => ?_)
  refine GO.aload_n dX10_init_69 rfl rfl ?_
  refine GO.iload dX10_init_70 rfl ?_
  refine GO.putRF rfl rfl (by decide +kernel) h_x fp_raw_fp_RX10_51 rfl rfl dX10_init_72 (fun V28 e27 => ?_)
  refine GO.aload_n dX10_init_75 rfl rfl ?_
  refine GO.iload dX10_init_76 rfl ?_
  refine GO.putRF rfl rfl (by decide +kernel) h_x fp_raw_fp_RX10_54 rfl rfl dX10_init_78 (fun V30 e29 => ?_)
  refine GO.promote (ci := 9) rfl h_x (fun j hj => ?_) (fun K31 e32 hE33 h34 => ?_)
  ·
    have hj : j < 15 := hj
    match j, hj with
    | 0, _ => exact okv_any (Eq.trans (uq_ne e29 (Or.inr (by decide))) (Eq.trans (uq_ne e27 (Or.inr (by decide))) (Eq.trans (uq_ne e25 (Or.inr (by decide))) (Eq.trans (uq_ne e23 (Or.inr (by decide))) (uq_at e21)))))
    | 1, _ => exact okv_any (Eq.trans (uq_ne e29 (Or.inr (by decide))) (Eq.trans (uq_ne e27 (Or.inr (by decide))) (Eq.trans (uq_ne e25 (Or.inr (by decide))) (uq_at e23))))
    | 2, _ => exact okv_any (Eq.trans (uq_ne e29 (Or.inr (by decide))) (Eq.trans (uq_ne e27 (Or.inr (by decide))) (uq_at e25)))
    | 3, _ => exact okv_any (Eq.trans (uq_ne e29 (Or.inr (by decide))) (uq_at e27))
    | 4, _ => exact okv_any (uq_at e29)
    | 5, _ => exact okv_any (Eq.trans (uq_ne e29 (Or.inr (by decide))) (Eq.trans (uq_ne e27 (Or.inr (by decide))) (Eq.trans (uq_ne e25 (Or.inr (by decide))) (Eq.trans (uq_ne e23 (Or.inr (by decide))) (Eq.trans (uq_ne e21 (Or.inr (by decide))) (Eq.trans (uq_ne e19 (Or.inr (by decide))) (Eq.trans (uq_ne e17 (Or.inr (by decide))) (Eq.trans (uq_ne e15 (Or.inr (by decide))) (Eq.trans (uq_ne e13 (Or.inr (by decide))) (Eq.trans (uq_ne e11 (Or.inr (by decide))) (Eq.trans (uq_ne e9 (Or.inr (by decide))) (Eq.trans (uq_ne e7 (Or.inr (by decide))) (Eq.trans (uq_ne e5 (Or.inr (by decide))) (Eq.trans (uq_ne e3 (Or.inr (by decide))) (uq_at e1)))))))))))))))
    | 6, _ => exact okv_any (Eq.trans (uq_ne e29 (Or.inr (by decide))) (Eq.trans (uq_ne e27 (Or.inr (by decide))) (Eq.trans (uq_ne e25 (Or.inr (by decide))) (Eq.trans (uq_ne e23 (Or.inr (by decide))) (Eq.trans (uq_ne e21 (Or.inr (by decide))) (Eq.trans (uq_ne e19 (Or.inr (by decide))) (Eq.trans (uq_ne e17 (Or.inr (by decide))) (Eq.trans (uq_ne e15 (Or.inr (by decide))) (Eq.trans (uq_ne e13 (Or.inr (by decide))) (Eq.trans (uq_ne e11 (Or.inr (by decide))) (Eq.trans (uq_ne e9 (Or.inr (by decide))) (Eq.trans (uq_ne e7 (Or.inr (by decide))) (Eq.trans (uq_ne e5 (Or.inr (by decide))) (uq_at e3))))))))))))))
    | 7, _ => exact okv_any (Eq.trans (uq_ne e29 (Or.inr (by decide))) (Eq.trans (uq_ne e27 (Or.inr (by decide))) (Eq.trans (uq_ne e25 (Or.inr (by decide))) (Eq.trans (uq_ne e23 (Or.inr (by decide))) (Eq.trans (uq_ne e21 (Or.inr (by decide))) (Eq.trans (uq_ne e19 (Or.inr (by decide))) (Eq.trans (uq_ne e17 (Or.inr (by decide))) (Eq.trans (uq_ne e15 (Or.inr (by decide))) (Eq.trans (uq_ne e13 (Or.inr (by decide))) (Eq.trans (uq_ne e11 (Or.inr (by decide))) (Eq.trans (uq_ne e9 (Or.inr (by decide))) (Eq.trans (uq_ne e7 (Or.inr (by decide))) (uq_at e5)))))))))))))
    | 8, _ => exact okv_any (Eq.trans (uq_ne e29 (Or.inr (by decide))) (Eq.trans (uq_ne e27 (Or.inr (by decide))) (Eq.trans (uq_ne e25 (Or.inr (by decide))) (Eq.trans (uq_ne e23 (Or.inr (by decide))) (Eq.trans (uq_ne e21 (Or.inr (by decide))) (Eq.trans (uq_ne e19 (Or.inr (by decide))) (Eq.trans (uq_ne e17 (Or.inr (by decide))) (Eq.trans (uq_ne e15 (Or.inr (by decide))) (Eq.trans (uq_ne e13 (Or.inr (by decide))) (Eq.trans (uq_ne e11 (Or.inr (by decide))) (Eq.trans (uq_ne e9 (Or.inr (by decide))) (uq_at e7))))))))))))
    | 9, _ => exact okv_any (Eq.trans (uq_ne e29 (Or.inr (by decide))) (Eq.trans (uq_ne e27 (Or.inr (by decide))) (Eq.trans (uq_ne e25 (Or.inr (by decide))) (Eq.trans (uq_ne e23 (Or.inr (by decide))) (Eq.trans (uq_ne e21 (Or.inr (by decide))) (Eq.trans (uq_ne e19 (Or.inr (by decide))) (Eq.trans (uq_ne e17 (Or.inr (by decide))) (Eq.trans (uq_ne e15 (Or.inr (by decide))) (Eq.trans (uq_ne e13 (Or.inr (by decide))) (Eq.trans (uq_ne e11 (Or.inr (by decide))) (uq_at e9)))))))))))
    | 10, _ => exact okv_any (Eq.trans (uq_ne e29 (Or.inr (by decide))) (Eq.trans (uq_ne e27 (Or.inr (by decide))) (Eq.trans (uq_ne e25 (Or.inr (by decide))) (Eq.trans (uq_ne e23 (Or.inr (by decide))) (Eq.trans (uq_ne e21 (Or.inr (by decide))) (Eq.trans (uq_ne e19 (Or.inr (by decide))) (Eq.trans (uq_ne e17 (Or.inr (by decide))) (Eq.trans (uq_ne e15 (Or.inr (by decide))) (Eq.trans (uq_ne e13 (Or.inr (by decide))) (uq_at e11))))))))))
    | 11, _ => exact okv_any (Eq.trans (uq_ne e29 (Or.inr (by decide))) (Eq.trans (uq_ne e27 (Or.inr (by decide))) (Eq.trans (uq_ne e25 (Or.inr (by decide))) (Eq.trans (uq_ne e23 (Or.inr (by decide))) (Eq.trans (uq_ne e21 (Or.inr (by decide))) (Eq.trans (uq_ne e19 (Or.inr (by decide))) (Eq.trans (uq_ne e17 (Or.inr (by decide))) (Eq.trans (uq_ne e15 (Or.inr (by decide))) (uq_at e13)))))))))
    | 12, _ => exact okv_any (Eq.trans (uq_ne e29 (Or.inr (by decide))) (Eq.trans (uq_ne e27 (Or.inr (by decide))) (Eq.trans (uq_ne e25 (Or.inr (by decide))) (Eq.trans (uq_ne e23 (Or.inr (by decide))) (Eq.trans (uq_ne e21 (Or.inr (by decide))) (Eq.trans (uq_ne e19 (Or.inr (by decide))) (Eq.trans (uq_ne e17 (Or.inr (by decide))) (uq_at e15))))))))
    | 13, _ => exact okv_any (Eq.trans (uq_ne e29 (Or.inr (by decide))) (Eq.trans (uq_ne e27 (Or.inr (by decide))) (Eq.trans (uq_ne e25 (Or.inr (by decide))) (Eq.trans (uq_ne e23 (Or.inr (by decide))) (Eq.trans (uq_ne e21 (Or.inr (by decide))) (Eq.trans (uq_ne e19 (Or.inr (by decide))) (uq_at e17)))))))
    | 14, _ => exact okv_any (Eq.trans (uq_ne e29 (Or.inr (by decide))) (Eq.trans (uq_ne e27 (Or.inr (by decide))) (Eq.trans (uq_ne e25 (Or.inr (by decide))) (Eq.trans (uq_ne e23 (Or.inr (by decide))) (Eq.trans (uq_ne e21 (Or.inr (by decide))) (uq_at e19))))))
    | j + 15, hj => exact absurd hj (by omega)
  exact GO.retv rfl rfl dX10_init_81 ⟨rfl, h34, KE.promote KE.rf e32⟩

set_option maxHeartbeats 1000000 in
theorem t_X11_between {K : Kmap} {V : Vmap} {p0 : Int} {p1 : Int} {p2 : Int} (r_p0 : ir p0) (r_p1 : ir p1) (r_p2 : ir p2) : MC mX11_between K V [ti p0, ti p1, ti p2] (IP K V (fun X => (X = 0 ∨ X = 1) ∧ (X ≠ 0 → p0 ≥ p1 ∧ p0 ≤ p2) ∧ (X = 0 → (p0 < p1 ∨ p0 > p2)))) := by
  refine MC.start 0 (by decide +kernel) rfl rfl rfl (ls0 := [some (ti p0), some (ti p1), some (ti p2)]) rfl ?_
  refine GO.iload_n dX11_between_0 rfl rfl ?_
  refine GO.iload_n dX11_between_1 rfl rfl ?_
  refine GO.icmp_lt (tgt := 14) dX11_between_2 (by decide) r_p0 r_p1 (fun c1 => ?_) (fun c1 => ?_)
  ·
    refine GO.iconst dX11_between_14 ?_
    exact GO.retz rfl rfl dX11_between_15 (Or.inl rfl) ⟨rfl, rfl, _, rfl, (ir_c rfl), ⟨Or.inl rfl, fun h => absurd rfl h, fun h => by omega⟩⟩
  ·
    refine GO.iload_n dX11_between_5 rfl rfl ?_
    refine GO.iload_n dX11_between_6 rfl rfl ?_
    refine GO.icmp_gt (tgt := 14) dX11_between_7 (by decide) r_p0 r_p2 (fun c2 => ?_) (fun c2 => ?_)
    ·
      refine GO.iconst dX11_between_14 ?_
      exact GO.retz rfl rfl dX11_between_15 (Or.inl rfl) ⟨rfl, rfl, _, rfl, (ir_c rfl), ⟨Or.inl rfl, fun h => absurd rfl h, fun h => by omega⟩⟩
    ·
      refine GO.iconst dX11_between_10 ?_
      refine GO.goto (tgt := 15) dX11_between_11 (by decide) ?_
      exact GO.retz rfl rfl dX11_between_15 (Or.inr rfl) ⟨rfl, rfl, _, rfl, (ir_c rfl), ⟨Or.inr rfl, fun h => by omega, fun h => absurd h (by decide)⟩⟩

set_option maxHeartbeats 1000000 in
theorem t_X11_ice {K : Kmap} {V : Vmap} {x : Nat} {p0 : Int} {p1 : Int} (h_x : K x = some (0, 10)) (r_p0 : ir p0) (r_p1 : ir p1) : MC mX11_ice K V [.ref x, ti p0, ti p1] (IS K (fun X V1 => (X = 0 ∨ X = 1) ∧ (X ≠ 0 → True) ∧ (X = 0 → True))) := by
  refine MC.start 0 (by decide +kernel) rfl rfl rfl (ls0 := [some (.ref x), some (ti p0), some (ti p1)]) rfl ?_
  refine GO.iload_n dX11_ice_0 rfl rfl ?_
  refine GO.iconst dX11_ice_1 ?_
  refine GO.bipush dX11_ice_2 rfl ?_
  refine GO.callS (N := mX11_between) dX11_ice_4 gS_RX11_112 (t_X11_between r_p0 (ir_c rfl) (ir_c rfl)) rfl [] rfl rfl (Nat.le_of_ble_eq_true rfl) rfl (k_ip fun X1 r2 h3 => ?_)
  refine GO.if_eq (tgt := 34) dX11_ice_7 (by decide) r2 (fun c4 => ?_) (fun c4 => ?_)
  ·
    have q5 := h3.2.2 (by omega)
    refine GO.iconst dX11_ice_34 ?_
    exact GO.retz rfl rfl dX11_ice_35 (Or.inl rfl) ⟨rfl, _, rfl, (ir_c rfl), ⟨Or.inl rfl, fun _ => trivial, fun _ => trivial⟩⟩
  ·
    have q6 := h3.2.1 (by omega)
    refine GO.iload_n dX11_ice_10 rfl rfl ?_
    refine GO.iconst dX11_ice_11 ?_
    refine GO.bipush dX11_ice_12 rfl ?_
    refine GO.callS (N := mX11_between) dX11_ice_14 gS_RX11_112 (t_X11_between r_p1 (ir_c rfl) (ir_c rfl)) rfl [] rfl rfl (Nat.le_of_ble_eq_true rfl) rfl (k_ip fun X7 r8 h9 => ?_)
    refine GO.if_eq (tgt := 34) dX11_ice_17 (by decide) r8 (fun c10 => ?_) (fun c10 => ?_)
    ·
      have q11 := h9.2.2 (by omega)
      refine GO.iconst dX11_ice_34 ?_
      exact GO.retz rfl rfl dX11_ice_35 (Or.inl rfl) ⟨rfl, _, rfl, (ir_c rfl), ⟨Or.inl rfl, fun _ => trivial, fun _ => trivial⟩⟩
    ·
      have q12 := h9.2.1 (by omega)
      refine GO.aload_n dX11_ice_20 rfl rfl ?_
      refine GO.getI h_x fl_RX11_46 rfl rfl dX11_ice_21 (fun l13 u14 => ?_)
      refine GO.if_gt (tgt := 34) dX11_ice_24 (by decide) vi_ir (fun c15 => ?_) (fun c15 => ?_)
      ·
        refine GO.iconst dX11_ice_34 ?_
        exact GO.retz rfl rfl dX11_ice_35 (Or.inl rfl) ⟨rfl, _, rfl, (ir_c rfl), ⟨Or.inl rfl, fun _ => trivial, fun _ => trivial⟩⟩
      ·
        refine GO.aload_n dX11_ice_27 rfl rfl ?_
        refine GO.getI h_x fl_RX11_55 rfl rfl dX11_ice_28 (fun l16 u17 => ?_)
        refine GO.if_le (tgt := 36) dX11_ice_31 (by decide) vi_ir (fun c18 => ?_) (fun c18 => ?_)
        ·
          refine GO.aload_n dX11_ice_36 rfl rfl ?_
          refine GO.getR h_x fl_RX11_12 rfl rfl dX11_ice_37 (fun hv20 h19 => ?_)
          refine GO.iload_n dX11_ice_40 rfl rfl ?_
          refine GO.iload_n dX11_ice_41 rfl rfl ?_
          refine GO.callV (ci := 0) (N := mX0_lay) dX11_ice_42 (RX0, TX0, 13) rfl gV_RX11_116 h19 (t_X0_lay h19 r_p0 r_p1) rfl [] rfl rfl (Nat.le_of_ble_eq_true rfl) rfl (k_vs fun V23 h22 hF21 => ?_)
          refine GO.iconst dX11_ice_45 ?_
          exact GO.retz rfl rfl dX11_ice_46 (Or.inr rfl) ⟨rfl, _, rfl, (ir_c rfl), ⟨Or.inr rfl, fun _ => trivial, fun _ => trivial⟩⟩
        ·
          refine GO.iconst dX11_ice_34 ?_
          exact GO.retz rfl rfl dX11_ice_35 (Or.inl rfl) ⟨rfl, _, rfl, (ir_c rfl), ⟨Or.inl rfl, fun _ => trivial, fun _ => trivial⟩⟩
