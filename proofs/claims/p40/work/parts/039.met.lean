def mX5_comparison : MRec := (RX5, cX5_comparison, 2, (some .int), yX5_comparison, 1, 22, 0, 0, 13510798882111488)
def mX5_piece_0 : MRec := (RX5, cX5_piece, 3, (none : Option Jvm.ClassFile.FieldType), yX5_piece, 0, 0, 0, 0, 0)
def mX9_lead : MRec := (RX9, cX9_lead, 2, (none : Option Jvm.ClassFile.FieldType), yX9_lead, 1, 22, 0, 0, 3794275180128377091639574036764685364535950857523710002444946112771297432041422848)
def mX5_part_0 : MRec := (RX5, cX5_part, 3, (none : Option Jvm.ClassFile.FieldType), yX5_part, 2, 43, 0, 0, 3794275180128377091639574036764685364535950857523710002444946112771297432041422848)
def mX5_parts_0 : MRec := (RX5, cX5_parts, 3, (none : Option Jvm.ClassFile.FieldType), yX5_parts, 3, 65, 0, 0, 3794275180128377091639574036764685364535950857523710002444946112771297432041422848)
def mX5_negation_1 : MRec := (RX5, cX5_negation, 1, (none : Option Jvm.ClassFile.FieldType), yX5_negation, 2, 45, 0, 0, 3794275180128377091639574036764685364535950857523710002454617519345102964041711616)
def mX5_piece_1 : MRec := (RX5, cX5_piece, 3, (none : Option Jvm.ClassFile.FieldType), yX5_piece, 9, 266, 0, 0, 3794275180128377091639574036764685364535950857523710002454617519345102964041711616)
def mX5_part_1 : MRec := (RX5, cX5_part, 3, (none : Option Jvm.ClassFile.FieldType), yX5_part, 10, 288, 0, 0, 3794275180128377091639574036764685364535950857523710002454617519345102964041711616)
def mX5_parts_1 : MRec := (RX5, cX5_parts, 3, (none : Option Jvm.ClassFile.FieldType), yX5_parts, 11, 310, 0, 0, 3794275180128377091639574036764685364535950857523710002454617519345102964041711616)
def mX5_negation_2 : MRec := (RX5, cX5_negation, 1, (none : Option Jvm.ClassFile.FieldType), yX5_negation, 10, 288, 0, 0, 3794275180128377091639574036764685364535950857523710002454617519345102964041711616)
def mX5_piece_2 : MRec := (RX5, cX5_piece, 3, (none : Option Jvm.ClassFile.FieldType), yX5_piece, 12, 332, 0, 0, 3794275180128377091639574036764685364535950857523710002454617519345102964041711616)
set_option maxHeartbeats 1000000 in
theorem t_X5_comparison {K : Kmap} {V : Vmap} {x : Nat} {p0 : Int} (h_x : K x = some (0, 4)) (r_p0 : ir p0) : MC mX5_comparison K V [.ref x, ti p0] (IS K (fun X V1 => (vi V x 5 ≠ 0 → vi V1 x 5 ≠ 0))) := by
  refine MC.start 0 (by decide +kernel) rfl rfl rfl (ls0 := [some (.ref x), some (ti p0)]) rfl ?_
  refine GO.iload_n dX5_comparison_0 rfl rfl ?_
  refine GO.bipush dX5_comparison_1 rfl ?_
  refine GO.icmp_eq (tgt := 27) dX5_comparison_3 (by decide) r_p0 (ir_c rfl) (fun c1 => ?_) (fun c1 => ?_)
  ·
    refine GO.iload_n dX5_comparison_27 rfl rfl ?_
    refine GO.bipush dX5_comparison_28 rfl ?_
    have q3 : -2147483648 ≤ p0 ∧ p0 ≤ 2147483647 := r_p0
    refine GO.icmp_ne (tgt := 38) dX5_comparison_30 (by decide) r_p0 (ir_c rfl) (fun h => by exfalso; omega) (fun c2 => ?_)
    refine GO.bipush dX5_comparison_33 rfl ?_
    refine GO.goto (tgt := 51) dX5_comparison_35 (by decide) ?_
    have q4 : -2147483648 ≤ vi V x 5 ∧ vi V x 5 ≤ 2147483647 := vi_ir
    exact GO.reti rfl rfl dX5_comparison_51 ⟨rfl, _, rfl, (ir_c rfl), by omega⟩
  ·
    refine GO.iload_n dX5_comparison_6 rfl rfl ?_
    refine GO.bipush dX5_comparison_7 rfl ?_
    refine GO.icmp_eq (tgt := 27) dX5_comparison_9 (by decide) r_p0 (ir_c rfl) (fun c5 => ?_) (fun c5 => ?_)
    ·
      refine GO.iload_n dX5_comparison_27 rfl rfl ?_
      refine GO.bipush dX5_comparison_28 rfl ?_
      have q7 : -2147483648 ≤ p0 ∧ p0 ≤ 2147483647 := r_p0
      refine GO.icmp_ne (tgt := 38) dX5_comparison_30 (by decide) r_p0 (ir_c rfl) (fun c6 => ?_) (fun h => by exfalso; omega)
      refine GO.iload_n dX5_comparison_38 rfl rfl ?_
      refine GO.bipush dX5_comparison_39 rfl ?_
      refine GO.icmp_ne (tgt := 49) dX5_comparison_41 (by decide) r_p0 (ir_c rfl) (fun h => by exfalso; omega) (fun c8 => ?_)
      refine GO.bipush dX5_comparison_44 rfl ?_
      refine GO.goto (tgt := 51) dX5_comparison_46 (by decide) ?_
      have q9 : -2147483648 ≤ vi V x 5 ∧ vi V x 5 ≤ 2147483647 := vi_ir
      exact GO.reti rfl rfl dX5_comparison_51 ⟨rfl, _, rfl, (ir_c rfl), by omega⟩
    ·
      refine GO.iload_n dX5_comparison_12 rfl rfl ?_
      refine GO.bipush dX5_comparison_13 rfl ?_
      refine GO.icmp_eq (tgt := 27) dX5_comparison_15 (by decide) r_p0 (ir_c rfl) (fun c10 => ?_) (fun c10 => ?_)
      ·
        refine GO.iload_n dX5_comparison_27 rfl rfl ?_
        refine GO.bipush dX5_comparison_28 rfl ?_
        have q12 : -2147483648 ≤ p0 ∧ p0 ≤ 2147483647 := r_p0
        refine GO.icmp_ne (tgt := 38) dX5_comparison_30 (by decide) r_p0 (ir_c rfl) (fun c11 => ?_) (fun h => by exfalso; omega)
        refine GO.iload_n dX5_comparison_38 rfl rfl ?_
        refine GO.bipush dX5_comparison_39 rfl ?_
        refine GO.icmp_ne (tgt := 49) dX5_comparison_41 (by decide) r_p0 (ir_c rfl) (fun c13 => ?_) (fun h => by exfalso; omega)
        refine GO.bipush dX5_comparison_49 rfl ?_
        have q14 : -2147483648 ≤ vi V x 5 ∧ vi V x 5 ≤ 2147483647 := vi_ir
        exact GO.reti rfl rfl dX5_comparison_51 ⟨rfl, _, rfl, (ir_c rfl), by omega⟩
      ·
        refine GO.aload_n dX5_comparison_18 rfl rfl ?_
        refine GO.iconst dX5_comparison_19 ?_
        refine GO.aload_n dX5_comparison_20 rfl rfl ?_
        refine GO.getI h_x fl_RX5_9 rfl rfl dX5_comparison_21 (fun _ _ => ?_)
        refine GO.callV (ci := 4) (N := mX5_refuse) dX5_comparison_24 (RX5, TX5, 7) rfl gV_RX5_57 h_x (t_X5_refuse h_x (ir_c rfl) vi_ir (by omega)) rfl [] rfl rfl (Nat.le_of_ble_eq_true rfl) rfl (k_vs fun V17 h16 hF15 => ?_)
        refine GO.iload_n dX5_comparison_27 rfl rfl ?_
        refine GO.bipush dX5_comparison_28 rfl ?_
        have q20 : -2147483648 ≤ p0 ∧ p0 ≤ 2147483647 := r_p0
        refine GO.icmp_ne (tgt := 38) dX5_comparison_30 (by decide) r_p0 (ir_c rfl) (fun c19 => ?_) (fun h => by exfalso; omega)
        refine GO.iload_n dX5_comparison_38 rfl rfl ?_
        refine GO.bipush dX5_comparison_39 rfl ?_
        refine GO.icmp_ne (tgt := 49) dX5_comparison_41 (by decide) r_p0 (ir_c rfl) (fun c21 => ?_) (fun h => by exfalso; omega)
        refine GO.bipush dX5_comparison_49 rfl ?_
        have q22 : -2147483648 ≤ vi V x 5 ∧ vi V x 5 ≤ 2147483647 := vi_ir
        have q23 : -2147483648 ≤ vi V17 x 5 ∧ vi V17 x 5 ≤ 2147483647 := vi_ir
        exact GO.reti rfl rfl dX5_comparison_51 ⟨rfl, _, rfl, (ir_c rfl), by omega⟩

set_option maxHeartbeats 1000000 in
theorem t_X5_piece_0_F {K : Kmap} {V : Vmap} {x : Nat} (h_x : K x = some (0, 4)) (q_0 : vi V x 5 ≠ 0) : MC mX5_piece_0 K V [.ref x] (VS K (fun V1 => (vi V1 x 4 = vi V x 4 ∧ (vi V x 5 ≠ 0 → vi V1 x 5 ≠ 0)))) := by
  refine MC.start 2 (by decide +kernel) rfl rfl rfl (ls0 := [some (.ref x), none, none]) rfl ?_
  refine GO.aload_n dX5_piece_0 rfl rfl ?_
  refine GO.getI h_x fl_RX5_18 rfl rfl dX5_piece_1 (fun _ _ => ?_)
  have q2 : -2147483648 ≤ vi V x 5 ∧ vi V x 5 ≤ 2147483647 := vi_ir
  refine GO.if_eq (tgt := 8) dX5_piece_4 (by decide) vi_ir (fun h => by exfalso; omega) (fun c1 => ?_)
  have q3 : -2147483648 ≤ vi V x 4 ∧ vi V x 4 ≤ 2147483647 := vi_ir
  exact GO.retv rfl rfl dX5_piece_7 ⟨rfl, rfl, by omega⟩

theorem t_X5_piece_0 {K : Kmap} {V : Vmap} {x : Nat} (h_x : K x = some (0, 4)) (q_0 : vi V x 5 ≠ 0) : MC mX5_piece_0 K V [.ref x] (VS K (fun V1 => (vi V1 x 4 = vi V x 4 ∧ (vi V x 5 ≠ 0 → vi V1 x 5 ≠ 0)))) := by
  exact t_X5_piece_0_F h_x (by omega)

set_option maxHeartbeats 1000000 in
theorem t_X9_lead {K : Kmap} {V : Vmap} {x : Nat} {p0 : Int} (h_x : K x = some (0, 8)) (r_p0 : ir p0) : MC mX9_lead K V [.ref x, ti p0] (VS K (fun V1 => (True))) := by
  refine MC.start 0 (by decide +kernel) rfl rfl rfl (ls0 := [some (.ref x), some (ti p0)]) rfl ?_
  refine GO.iload_n dX9_lead_0 rfl rfl ?_
  refine GO.iconst dX9_lead_1 ?_
  refine GO.icmp_eq (tgt := 31) dX9_lead_2 (by decide) r_p0 (ir_c rfl) (fun c1 => ?_) (fun c1 => ?_)
  ·
    exact GO.retv rfl rfl dX9_lead_31 ⟨rfl, rfl, trivial⟩
  ·
    refine GO.aload_n dX9_lead_5 rfl rfl ?_
    refine GO.getB h_x fl_RX9_36 rfl rfl dX9_lead_6 (fun n4 hv3 h2 b5 => ?_)
    refine GO.iload_n dX9_lead_9 rfl rfl ?_
    refine GO.aload_n dX9_lead_10 rfl rfl ?_
    refine GO.getI h_x fl_RX9_9 rfl rfl dX9_lead_11 (fun _ _ => ?_)
    refine GO.iconst dX9_lead_14 ?_
    refine GO.ishl dX9_lead_15 ?_
    refine GO.aload_n dX9_lead_16 rfl rfl ?_
    refine GO.getRaw h_x fl_RX9_36 hv3 dX9_lead_17 ?_
    refine GO.iload_n dX9_lead_20 rfl rfl ?_
    refine GO.callS (N := mX4_get) dX9_lead_21 gS_RX9_53 (t_X4_get rfl h2 r_p0) rfl [ti (wshl (vi V x 4) 5), ti p0, .ref (vq V x 3)] rfl rfl (Nat.le_of_ble_eq_true rfl) rfl (k_ip fun X8 r9 h10 => ?_)
    refine GO.bipush dX9_lead_24 rfl ?_
    refine GO.iand dX9_lead_26 ?_
    refine GO.ior dX9_lead_27 ?_
    refine GO.callS (N := mX4_put) dX9_lead_28 gS_RX9_47 (t_X4_put h2 r_p0 wor_ir) rfl [] rfl rfl (Nat.le_of_ble_eq_true rfl) rfl (k_vs fun V13 h12 hF11 => ?_)
    exact GO.retv rfl rfl dX9_lead_31 ⟨rfl, rfl, trivial⟩

set_option maxHeartbeats 1000000 in
theorem t_X5_part_0_F {K : Kmap} {V : Vmap} {x : Nat} (h_x : K x = some (0, 4)) (q_0 : vi V x 5 ≠ 0) : MC mX5_part_0 K V [.ref x] (VS K (fun V1 => (vi V1 x 4 = vi V x 4 ∧ (vi V x 5 ≠ 0 → vi V1 x 5 ≠ 0)))) := by
  refine MC.start 2 (by decide +kernel) rfl rfl rfl (ls0 := [some (.ref x), none, none]) rfl ?_
  refine GO.iconst dX5_part_0 ?_
  refine GO.istore_n (ls1 := [some (.ref x), some (ti (-1)), none]) dX5_part_1 rfl rfl rfl ?_
  refine GO.aload_n dX5_part_2 rfl rfl ?_
  have q1 : -2147483648 ≤ vi V x 5 ∧ vi V x 5 ≤ 2147483647 := vi_ir
  refine GO.callV (ci := 4) (N := mX5_piece_0) dX5_part_3 (RX5, TX5, 7) rfl gV_RX5_96 h_x (t_X5_piece_0 h_x (by omega)) rfl [] rfl rfl (Nat.le_of_ble_eq_true rfl) rfl (k_vs fun V4 h3 hF2 => ?_)
  have e5 : vi V4 x 4 = vi V x 4 := vi_fr hF2 h_x h_x (by decide +kernel)
  have e6 : vi V4 x 5 = vi V x 5 := vi_fr hF2 h_x h_x (by decide +kernel)
  refine GO.iconst dX5_part_6 ?_
  refine GO.istore_n (ls1 := [some (.ref x), some (ti (-1)), some (ti 0)]) dX5_part_7 rfl rfl rfl ?_
  have q9 : -2147483648 ≤ vi V x 4 ∧ vi V x 4 ≤ 2147483647 := vi_ir
  refine GO.loop2 (fun i7 i8 W => (-1) ≤ i7 ∧ i7 ≤ (-1) ∧ 0 ≤ i8 ∧ i8 ≤ 0 ∧ (vi W x 4 = vi V4 x 4 ∧ (vi V4 x 5 ≠ 0 → vi W x 5 ≠ 0)) ∧ True) (fun i7 i8 => [some (.ref x), some (ti i7), some (ti i8)]) (fun i7 i8 W => (2147483647 - i7).toNat) (-1) 0 ⟨by omega, by omega, by omega, by omega, by omega, trivial⟩ rfl (fun i7 i8 Wi7 hp22 ih21 => ?_)
  obtain ⟨l_i7, u_i7, l_i8, u_i8, n_i7, -⟩ := hp22
  have r_i7 : ir i7 := ⟨by omega, by omega⟩
  have r_i8 : ir i8 := ⟨by omega, by omega⟩
  show GO mX5_part_0 K V (VS K (fun V1 => (vi V1 x 4 = vi V x 4 ∧ (vi V x 5 ≠ 0 → vi V1 x 5 ≠ 0)))) K Wi7 0 0 8 [some (.ref x), some (ti i7), some (ti i8)] []
  refine GO.iload_n dX5_part_8 rfl rfl ?_
  refine GO.sipush dX5_part_9 rfl ?_
  refine GO.icmp_ge (tgt := 69) dX5_part_12 (by decide) r_i8 (ir_c rfl) (fun h => by exfalso; omega) (fun c23 => ?_)
  refine GO.aload_n dX5_part_15 rfl rfl ?_
  refine GO.getI h_x fl_RX5_18 rfl rfl dX5_part_16 (fun _ _ => ?_)
  have q25 : -2147483648 ≤ vi Wi7 x 5 ∧ vi Wi7 x 5 ≤ 2147483647 := vi_ir
  refine GO.if_ne (tgt := 69) dX5_part_19 (by decide) vi_ir (fun c24 => ?_) (fun h => by exfalso; omega)
  refine GO.aload_n dX5_part_69 rfl rfl ?_
  refine GO.getR h_x fl_RX5_31 rfl rfl dX5_part_70 (fun hv27 h26 => ?_)
  refine GO.iload_n dX5_part_73 rfl rfl ?_
  refine GO.callV (ci := 8) (N := mX9_lead) dX5_part_74 (RX9, TX9, 5) rfl gV_RX5_89 h26 (t_X9_lead h26 r_i7) rfl [] rfl rfl (Nat.le_of_ble_eq_true rfl) rfl (k_vs fun V30 h29 hF28 => ?_)
  have e31 : vi V30 x 4 = vi Wi7 x 4 := vi_fr hF28 h_x h_x (by decide +kernel)
  have q32 : -2147483648 ≤ vi Wi7 x 4 ∧ vi Wi7 x 4 ≤ 2147483647 := vi_ir
  have e33 : vi V30 x 5 = vi Wi7 x 5 := vi_fr hF28 h_x h_x (by decide +kernel)
  exact GO.retv rfl rfl dX5_part_77 ⟨rfl, rfl, by omega⟩

theorem t_X5_part_0 {K : Kmap} {V : Vmap} {x : Nat} (h_x : K x = some (0, 4)) (q_0 : vi V x 5 ≠ 0) : MC mX5_part_0 K V [.ref x] (VS K (fun V1 => (vi V1 x 4 = vi V x 4 ∧ (vi V x 5 ≠ 0 → vi V1 x 5 ≠ 0)))) := by
  exact t_X5_part_0_F h_x (by omega)

set_option maxHeartbeats 1000000 in
theorem t_X5_parts_0_F {K : Kmap} {V : Vmap} {x : Nat} (h_x : K x = some (0, 4)) (q_0 : vi V x 5 ≠ 0) : MC mX5_parts_0 K V [.ref x] (VS K (fun V1 => (vi V1 x 4 = vi V x 4 ∧ (vi V x 5 ≠ 0 → vi V1 x 5 ≠ 0)))) := by
  refine MC.start 2 (by decide +kernel) rfl rfl rfl (ls0 := [some (.ref x), none, none]) rfl ?_
  refine GO.iconst dX5_parts_0 ?_
  refine GO.istore_n (ls1 := [some (.ref x), some (ti (-1)), none]) dX5_parts_1 rfl rfl rfl ?_
  refine GO.aload_n dX5_parts_2 rfl rfl ?_
  have q1 : -2147483648 ≤ vi V x 5 ∧ vi V x 5 ≤ 2147483647 := vi_ir
  refine GO.callV (ci := 4) (N := mX5_part_0) dX5_parts_3 (RX5, TX5, 7) rfl gV_RX5_86 h_x (t_X5_part_0 h_x (by omega)) rfl [] rfl rfl (Nat.le_of_ble_eq_true rfl) rfl (k_vs fun V4 h3 hF2 => ?_)
  have e5 : vi V4 x 4 = vi V x 4 := vi_fr hF2 h_x h_x (by decide +kernel)
  have e6 : vi V4 x 5 = vi V x 5 := vi_fr hF2 h_x h_x (by decide +kernel)
  refine GO.iconst dX5_parts_6 ?_
  refine GO.istore_n (ls1 := [some (.ref x), some (ti (-1)), some (ti 0)]) dX5_parts_7 rfl rfl rfl ?_
  have q9 : -2147483648 ≤ vi V x 4 ∧ vi V x 4 ≤ 2147483647 := vi_ir
  refine GO.loop2 (fun i7 i8 W => (-1) ≤ i7 ∧ i7 ≤ (-1) ∧ 0 ≤ i8 ∧ i8 ≤ 0 ∧ (vi W x 4 = vi V4 x 4 ∧ (vi V4 x 5 ≠ 0 → vi W x 5 ≠ 0)) ∧ True) (fun i7 i8 => [some (.ref x), some (ti i7), some (ti i8)]) (fun i7 i8 W => (2147483647 - i7).toNat) (-1) 0 ⟨by omega, by omega, by omega, by omega, by omega, trivial⟩ rfl (fun i7 i8 Wi7 hp22 ih21 => ?_)
  obtain ⟨l_i7, u_i7, l_i8, u_i8, n_i7, -⟩ := hp22
  have r_i7 : ir i7 := ⟨by omega, by omega⟩
  have r_i8 : ir i8 := ⟨by omega, by omega⟩
  show GO mX5_parts_0 K V (VS K (fun V1 => (vi V1 x 4 = vi V x 4 ∧ (vi V x 5 ≠ 0 → vi V1 x 5 ≠ 0)))) K Wi7 0 0 8 [some (.ref x), some (ti i7), some (ti i8)] []
  refine GO.iload_n dX5_parts_8 rfl rfl ?_
  refine GO.sipush dX5_parts_9 rfl ?_
  refine GO.icmp_ge (tgt := 69) dX5_parts_12 (by decide) r_i8 (ir_c rfl) (fun h => by exfalso; omega) (fun c23 => ?_)
  refine GO.aload_n dX5_parts_15 rfl rfl ?_
  refine GO.getI h_x fl_RX5_18 rfl rfl dX5_parts_16 (fun _ _ => ?_)
  have q25 : -2147483648 ≤ vi Wi7 x 5 ∧ vi Wi7 x 5 ≤ 2147483647 := vi_ir
  refine GO.if_ne (tgt := 69) dX5_parts_19 (by decide) vi_ir (fun c24 => ?_) (fun h => by exfalso; omega)
  refine GO.aload_n dX5_parts_69 rfl rfl ?_
  refine GO.getR h_x fl_RX5_31 rfl rfl dX5_parts_70 (fun hv27 h26 => ?_)
  refine GO.iload_n dX5_parts_73 rfl rfl ?_
  refine GO.callV (ci := 8) (N := mX9_lead) dX5_parts_74 (RX9, TX9, 5) rfl gV_RX5_89 h26 (t_X9_lead h26 r_i7) rfl [] rfl rfl (Nat.le_of_ble_eq_true rfl) rfl (k_vs fun V30 h29 hF28 => ?_)
  have e31 : vi V30 x 4 = vi Wi7 x 4 := vi_fr hF28 h_x h_x (by decide +kernel)
  have q32 : -2147483648 ≤ vi Wi7 x 4 ∧ vi Wi7 x 4 ≤ 2147483647 := vi_ir
  have e33 : vi V30 x 5 = vi Wi7 x 5 := vi_fr hF28 h_x h_x (by decide +kernel)
  exact GO.retv rfl rfl dX5_parts_77 ⟨rfl, rfl, by omega⟩

theorem t_X5_parts_0 {K : Kmap} {V : Vmap} {x : Nat} (h_x : K x = some (0, 4)) (q_0 : vi V x 5 ≠ 0) : MC mX5_parts_0 K V [.ref x] (VS K (fun V1 => (vi V1 x 4 = vi V x 4 ∧ (vi V x 5 ≠ 0 → vi V1 x 5 ≠ 0)))) := by
  exact t_X5_parts_0_F h_x (by omega)

set_option maxHeartbeats 1000000 in
theorem t_X5_negation_1_G {K : Kmap} {V : Vmap} {x : Nat} (h_x : K x = some (0, 4)) (q_0 : vi V x 5 = 0) (q_1 : vi V x 4 ≥ 8) (q_2 : vi V x 4 ≤ 8) : MC mX5_negation_1 K V [.ref x] (VS K (fun V1 => (vi V1 x 4 = vi V x 4 ∧ (vi V x 5 ≠ 0 → vi V1 x 5 ≠ 0)))) := by
  refine MC.start 0 (by decide +kernel) rfl rfl rfl (ls0 := [some (.ref x)]) rfl ?_
  refine GO.aload_n dX5_negation_0 rfl rfl ?_
  refine GO.bipush dX5_negation_1 rfl ?_
  have q1 : -2147483648 ≤ vi V x 4 ∧ vi V x 4 ≤ 2147483647 := vi_ir
  refine GO.callV (ci := 4) (N := mX5_deepen) dX5_negation_3 (RX5, TX5, 7) rfl gV_RX5_80 h_x (t_X5_deepen h_x (ir_c rfl) (by omega) (by omega)) rfl [] rfl rfl (Nat.le_of_ble_eq_true rfl) rfl (k_vs fun V4 h3 hF2 => ?_)
  refine GO.aload_n dX5_negation_6 rfl rfl ?_
  have q7 : -2147483648 ≤ vi V4 x 5 ∧ vi V4 x 5 ≤ 2147483647 := vi_ir
  refine GO.callV (ci := 4) (N := mX5_piece_0) dX5_negation_7 (RX5, TX5, 7) rfl gV_RX5_96 h_x (t_X5_piece_0 h_x (by omega)) rfl [] rfl rfl (Nat.le_of_ble_eq_true rfl) rfl (k_vs fun V10 h9 hF8 => ?_)
  have e11 : vi V10 x 4 = vi V4 x 4 := vi_fr hF8 h_x h_x (by decide +kernel)
  have e12 : vi V10 x 5 = vi V4 x 5 := vi_fr hF8 h_x h_x (by decide +kernel)
  refine GO.aload_n dX5_negation_10 rfl rfl ?_
  refine GO.dup dX5_negation_11 rfl ?_
  refine GO.getI h_x fl_RX5_15 rfl rfl dX5_negation_12 (fun _ _ => ?_)
  refine GO.iconst dX5_negation_15 ?_
  refine GO.isub dX5_negation_16 ?_
  have q14 : -2147483648 ≤ vi V4 x 4 ∧ vi V4 x 4 ≤ 2147483647 := vi_ir
  refine GO.putI h_x fp_RX5_15 rfl (by decide +kernel) ⟨by omega, by omega⟩ (by omega) (by omega) dX5_negation_17 (fun V15 e13 => ?_)
  refine GO.aload_n dX5_negation_20 rfl rfl ?_
  refine GO.getR h_x fl_RX5_31 rfl rfl dX5_negation_21 (fun hv17 h16 => ?_)
  refine GO.iconst dX5_negation_24 ?_
  refine GO.iconst dX5_negation_25 ?_
  refine GO.callV (ci := 8) (N := mX9_addStep) dX5_negation_26 (RX9, TX9, 5) rfl gV_RX5_92 h16 (t_X9_addStep h16 (ir_c rfl) (ir_c rfl)) rfl [] rfl rfl (Nat.le_of_ble_eq_true rfl) rfl (k_is fun X18 V22 r19 h20 hF21 => ?_)
  refine GO.pop dX5_negation_29 rfl ?_
  have e24 : vi V15 x 4 = (vi V10 x 4) - 1 := upd2_int e13 ⟨by omega, by omega⟩
  have e23 : vi V22 x 4 = vi V15 x 4 := vi_fr hF21 h_x h_x (by decide +kernel)
  have q25 : -2147483648 ≤ vi V x 5 ∧ vi V x 5 ≤ 2147483647 := vi_ir
  have e27 : vi V15 x 5 = vi V10 x 5 := vi_up e13 (Or.inr (by decide))
  have e26 : vi V22 x 5 = vi V15 x 5 := vi_fr hF21 h_x h_x (by decide +kernel)
  exact GO.retv rfl rfl dX5_negation_30 ⟨rfl, rfl, by omega⟩

theorem t_X5_negation_1 {K : Kmap} {V : Vmap} {x : Nat} (h_x : K x = some (0, 4)) (q_0 : ((vi V x 5 = 0 ∧ vi V x 4 ≥ 8 ∧ vi V x 4 ≤ 8))) : MC mX5_negation_1 K V [.ref x] (VS K (fun V1 => (vi V1 x 4 = vi V x 4 ∧ (vi V x 5 ≠ 0 → vi V1 x 5 ≠ 0)))) := by
  exact t_X5_negation_1_G h_x (by omega) (by omega) (by omega)

set_option maxHeartbeats 1000000 in
theorem t_X5_piece_1_F {K : Kmap} {V : Vmap} {x : Nat} (h_x : K x = some (0, 4)) (q_0 : vi V x 5 ≠ 0) : MC mX5_piece_1 K V [.ref x] (VS K (fun V1 => (vi V1 x 4 = vi V x 4 ∧ (vi V x 5 ≠ 0 → vi V1 x 5 ≠ 0)))) := by
  refine MC.start 2 (by decide +kernel) rfl rfl rfl (ls0 := [some (.ref x), none, none]) rfl ?_
  refine GO.aload_n dX5_piece_0 rfl rfl ?_
  refine GO.getI h_x fl_RX5_18 rfl rfl dX5_piece_1 (fun _ _ => ?_)
  have q2 : -2147483648 ≤ vi V x 5 ∧ vi V x 5 ≤ 2147483647 := vi_ir
  refine GO.if_eq (tgt := 8) dX5_piece_4 (by decide) vi_ir (fun h => by exfalso; omega) (fun c1 => ?_)
  have q3 : -2147483648 ≤ vi V x 4 ∧ vi V x 4 ≤ 2147483647 := vi_ir
  exact GO.retv rfl rfl dX5_piece_7 ⟨rfl, rfl, by omega⟩

set_option maxHeartbeats 1000000 in
theorem t_X5_piece_1_G {K : Kmap} {V : Vmap} {x : Nat} (h_x : K x = some (0, 4)) (q_0 : vi V x 5 = 0) (q_1 : vi V x 4 ≥ 8) (q_2 : vi V x 4 ≤ 8) : MC mX5_piece_1 K V [.ref x] (VS K (fun V1 => (vi V1 x 4 = vi V x 4 ∧ (vi V x 5 ≠ 0 → vi V1 x 5 ≠ 0)))) := by
  refine MC.start 2 (by decide +kernel) rfl rfl rfl (ls0 := [some (.ref x), none, none]) rfl ?_
  refine GO.aload_n dX5_piece_0 rfl rfl ?_
  refine GO.getI h_x fl_RX5_18 rfl rfl dX5_piece_1 (fun _ _ => ?_)
  have q2 : -2147483648 ≤ vi V x 5 ∧ vi V x 5 ≤ 2147483647 := vi_ir
  refine GO.if_eq (tgt := 8) dX5_piece_4 (by decide) vi_ir (fun c1 => ?_) (fun h => by exfalso; omega)
  refine GO.aload_n dX5_piece_8 rfl rfl ?_
  refine GO.callV (ci := 4) (N := mX5_next) dX5_piece_9 (RX5, TX5, 7) rfl gV_RX5_61 h_x (t_X5_next h_x) rfl [] rfl rfl (Nat.le_of_ble_eq_true rfl) rfl (k_ip fun X3 r4 h5 => ?_)
  refine GO.istore_n (ls1 := [some (.ref x), some (ti X3), none]) dX5_piece_12 rfl rfl rfl ?_
  refine GO.iload_n dX5_piece_13 rfl rfl ?_
  refine GO.bipush dX5_piece_14 rfl ?_
  refine GO.icmp_ne (tgt := 26) dX5_piece_16 (by decide) r4 (ir_c rfl) (fun c6 => ?_) (fun c6 => ?_)
  ·
    refine GO.iload_n dX5_piece_26 rfl rfl ?_
    refine GO.bipush dX5_piece_27 rfl ?_
    refine GO.icmp_ne (tgt := 61) dX5_piece_29 (by decide) r4 (ir_c rfl) (fun c7 => ?_) (fun c7 => ?_)
    ·
      refine GO.aload_n dX5_piece_61 rfl rfl ?_
      have q8 : -2147483648 ≤ vi V x 4 ∧ vi V x 4 ≤ 2147483647 := vi_ir
      refine GO.callV (ci := 4) (N := mX5_terms_1) dX5_piece_62 (RX5, TX5, 7) rfl gV_RX5_102 h_x (t_X5_terms_1 h_x (by omega)) rfl [] rfl rfl (Nat.le_of_ble_eq_true rfl) rfl (k_vs fun V11 h10 hF9 => ?_)
      refine GO.aload_n dX5_piece_65 rfl rfl ?_
      refine GO.aload_n dX5_piece_66 rfl rfl ?_
      refine GO.callV (ci := 4) (N := mX5_next) dX5_piece_67 (RX5, TX5, 7) rfl gV_RX5_61 h_x (t_X5_next h_x) rfl [.ref x] rfl rfl (Nat.le_of_ble_eq_true rfl) rfl (k_ip fun X14 r15 h16 => ?_)
      refine GO.callV (ci := 4) (N := mX5_comparison) dX5_piece_70 (RX5, TX5, 7) rfl gV_RX5_105 h_x (t_X5_comparison h_x r15) rfl [] rfl rfl (Nat.le_of_ble_eq_true rfl) rfl (k_is fun X17 V21 r18 h19 hF20 => ?_)
      refine GO.istore_n (ls1 := [some (.ref x), some (ti X3), some (ti X17)]) dX5_piece_73 rfl rfl rfl ?_
      refine GO.aload_n dX5_piece_74 rfl rfl ?_
      refine GO.dup dX5_piece_75 rfl ?_
      refine GO.getI h_x fl_RX5_9 rfl rfl dX5_piece_76 (fun _ _ => ?_)
      refine GO.iconst dX5_piece_79 ?_
      refine GO.iadd dX5_piece_80 ?_
      refine GO.norm (fun z25 r26 _ => ?_)
      refine GO.putI h_x fp_RX5_9 rfl (by decide +kernel) r26 (r26).1 (r26).2 dX5_piece_81 (fun V28 e27 => ?_)
      refine GO.aload_n dX5_piece_84 rfl rfl ?_
      have e29 : vi V28 x 5 = vi V21 x 5 := vi_up e27 (Or.inr (by decide))
      have e31 : vi V21 x 4 = vi V11 x 4 := vi_fr hF20 h_x h_x (by decide +kernel)
      have e30 : vi V28 x 4 = vi V21 x 4 := vi_up e27 (Or.inr (by decide))
      have q32 : -2147483648 ≤ vi V11 x 4 ∧ vi V11 x 4 ≤ 2147483647 := vi_ir
      have q33 : -2147483648 ≤ vi V21 x 5 ∧ vi V21 x 5 ≤ 2147483647 := vi_ir
      refine GO.callV (ci := 4) (N := mX5_terms_1) dX5_piece_85 (RX5, TX5, 7) rfl gV_RX5_102 h_x (t_X5_terms_1 h_x (by omega)) rfl [] rfl rfl (Nat.le_of_ble_eq_true rfl) rfl (k_vs fun V36 h35 hF34 => ?_)
      refine GO.aload_n dX5_piece_88 rfl rfl ?_
      refine GO.getR h_x fl_RX5_31 rfl rfl dX5_piece_89 (fun hv40 h39 => ?_)
      refine GO.iload_n dX5_piece_92 rfl rfl ?_
      refine GO.iconst dX5_piece_93 ?_
      refine GO.callV (ci := 8) (N := mX9_addStep) dX5_piece_94 (RX9, TX9, 5) rfl gV_RX5_92 h39 (t_X9_addStep h39 r18 (ir_c rfl)) rfl [] rfl rfl (Nat.le_of_ble_eq_true rfl) rfl (k_is fun X41 V45 r42 h43 hF44 => ?_)
      refine GO.pop dX5_piece_97 rfl ?_
      have e46 : vi V45 x 4 = vi V36 x 4 := vi_fr hF44 h_x h_x (by decide +kernel)
      have q47 : -2147483648 ≤ vi V36 x 4 ∧ vi V36 x 4 ≤ 2147483647 := vi_ir
      have e48 : vi V45 x 5 = vi V36 x 5 := vi_fr hF44 h_x h_x (by decide +kernel)
      have q49 : -2147483648 ≤ vi V36 x 5 ∧ vi V36 x 5 ≤ 2147483647 := vi_ir
      exact GO.retv rfl rfl dX5_piece_98 ⟨rfl, rfl, by omega⟩
    ·
      refine GO.aload_n dX5_piece_32 rfl rfl ?_
      refine GO.bipush dX5_piece_33 rfl ?_
      have q50 : -2147483648 ≤ vi V x 4 ∧ vi V x 4 ≤ 2147483647 := vi_ir
      refine GO.callV (ci := 4) (N := mX5_deepen) dX5_piece_35 (RX5, TX5, 7) rfl gV_RX5_80 h_x (t_X5_deepen h_x (ir_c rfl) (by omega) (by omega)) rfl [] rfl rfl (Nat.le_of_ble_eq_true rfl) rfl (k_vs fun V53 h52 hF51 => ?_)
      refine GO.aload_n dX5_piece_38 rfl rfl ?_
      have q56 : -2147483648 ≤ vi V53 x 5 ∧ vi V53 x 5 ≤ 2147483647 := vi_ir
      refine GO.callV (ci := 4) (N := mX5_parts_0) dX5_piece_39 (RX5, TX5, 7) rfl gV_RX5_83 h_x (t_X5_parts_0 h_x (by omega)) rfl [] rfl rfl (Nat.le_of_ble_eq_true rfl) rfl (k_vs fun V59 h58 hF57 => ?_)
      have e60 : vi V59 x 4 = vi V53 x 4 := vi_fr hF57 h_x h_x (by decide +kernel)
      have e61 : vi V59 x 5 = vi V53 x 5 := vi_fr hF57 h_x h_x (by decide +kernel)
      refine GO.aload_n dX5_piece_42 rfl rfl ?_
      refine GO.dup dX5_piece_43 rfl ?_
      refine GO.getI h_x fl_RX5_15 rfl rfl dX5_piece_44 (fun _ _ => ?_)
      refine GO.iconst dX5_piece_47 ?_
      refine GO.isub dX5_piece_48 ?_
      have q63 : -2147483648 ≤ vi V53 x 4 ∧ vi V53 x 4 ≤ 2147483647 := vi_ir
      refine GO.putI h_x fp_RX5_15 rfl (by decide +kernel) ⟨by omega, by omega⟩ (by omega) (by omega) dX5_piece_49 (fun V64 e62 => ?_)
      refine GO.aload_n dX5_piece_52 rfl rfl ?_
      refine GO.bipush dX5_piece_53 rfl ?_
      have e65 : vi V64 x 5 = vi V59 x 5 := vi_up e62 (Or.inr (by decide))
      refine GO.callV (ci := 4) (N := mX5_take) dX5_piece_55 (RX5, TX5, 7) rfl gV_RX5_38 h_x (t_X5_take h_x (ir_c rfl)) rfl [] rfl rfl (Nat.le_of_ble_eq_true rfl) rfl (k_vs fun V68 h67 hF66 => ?_)
      refine GO.goto (tgt := 98) dX5_piece_58 (by decide) ?_
      have e71 : vi V64 x 4 = (vi V59 x 4) - 1 := upd2_int e62 ⟨by omega, by omega⟩
      have e70 : vi V68 x 4 = vi V64 x 4 := vi_fr hF66 h_x h_x (by decide +kernel)
      have q72 : -2147483648 ≤ vi V68 x 5 ∧ vi V68 x 5 ≤ 2147483647 := vi_ir
      exact GO.retv rfl rfl dX5_piece_98 ⟨rfl, rfl, by omega⟩
  ·
    refine GO.aload_n dX5_piece_19 rfl rfl ?_
    have q73 : -2147483648 ≤ vi V x 4 ∧ vi V x 4 ≤ 2147483647 := vi_ir
    refine GO.callV (ci := 4) (N := mX5_negation_1) dX5_piece_20 (RX5, TX5, 7) rfl gV_RX5_99 h_x (t_X5_negation_1 h_x (by omega)) rfl [] rfl rfl (Nat.le_of_ble_eq_true rfl) rfl (k_vs fun V76 h75 hF74 => ?_)
    refine GO.goto (tgt := 98) dX5_piece_23 (by decide) ?_
    have q79 : -2147483648 ≤ vi V76 x 4 ∧ vi V76 x 4 ≤ 2147483647 := vi_ir
    have q80 : -2147483648 ≤ vi V76 x 5 ∧ vi V76 x 5 ≤ 2147483647 := vi_ir
    exact GO.retv rfl rfl dX5_piece_98 ⟨rfl, rfl, by omega⟩

theorem t_X5_piece_1 {K : Kmap} {V : Vmap} {x : Nat} (h_x : K x = some (0, 4)) (q_0 : (vi V x 5 ≠ 0 ∨ (vi V x 5 = 0 ∧ vi V x 4 ≥ 8 ∧ vi V x 4 ≤ 8))) : MC mX5_piece_1 K V [.ref x] (VS K (fun V1 => (vi V1 x 4 = vi V x 4 ∧ (vi V x 5 ≠ 0 → vi V1 x 5 ≠ 0)))) := by
  rcases q_0 with h | h
  · exact t_X5_piece_1_F h_x (by omega)
  · exact t_X5_piece_1_G h_x (by omega) (by omega) (by omega)

set_option maxHeartbeats 1000000 in
theorem t_X5_part_1_F {K : Kmap} {V : Vmap} {x : Nat} (h_x : K x = some (0, 4)) (q_0 : vi V x 5 ≠ 0) : MC mX5_part_1 K V [.ref x] (VS K (fun V1 => (vi V1 x 4 = vi V x 4 ∧ (vi V x 5 ≠ 0 → vi V1 x 5 ≠ 0)))) := by
  refine MC.start 2 (by decide +kernel) rfl rfl rfl (ls0 := [some (.ref x), none, none]) rfl ?_
  refine GO.iconst dX5_part_0 ?_
  refine GO.istore_n (ls1 := [some (.ref x), some (ti (-1)), none]) dX5_part_1 rfl rfl rfl ?_
  refine GO.aload_n dX5_part_2 rfl rfl ?_
  have q1 : -2147483648 ≤ vi V x 4 ∧ vi V x 4 ≤ 2147483647 := vi_ir
  have q2 : -2147483648 ≤ vi V x 5 ∧ vi V x 5 ≤ 2147483647 := vi_ir
  refine GO.callV (ci := 4) (N := mX5_piece_1) dX5_part_3 (RX5, TX5, 7) rfl gV_RX5_96 h_x (t_X5_piece_1 h_x (by omega)) rfl [] rfl rfl (Nat.le_of_ble_eq_true rfl) rfl (k_vs fun V5 h4 hF3 => ?_)
  refine GO.iconst dX5_part_6 ?_
  refine GO.istore_n (ls1 := [some (.ref x), some (ti (-1)), some (ti 0)]) dX5_part_7 rfl rfl rfl ?_
  have q10 : -2147483648 ≤ vi V5 x 4 ∧ vi V5 x 4 ≤ 2147483647 := vi_ir
  have q11 : -2147483648 ≤ vi V5 x 5 ∧ vi V5 x 5 ≤ 2147483647 := vi_ir
  refine GO.loop2 (fun i8 i9 W => (-1) ≤ i8 ∧ i8 ≤ (-1) ∧ 0 ≤ i9 ∧ i9 ≤ 0 ∧ (vi W x 4 = vi V5 x 4 ∧ (vi V5 x 5 ≠ 0 → vi W x 5 ≠ 0)) ∧ True) (fun i8 i9 => [some (.ref x), some (ti i8), some (ti i9)]) (fun i8 i9 W => (2147483647 - i8).toNat) (-1) 0 ⟨by omega, by omega, by omega, by omega, by omega, trivial⟩ rfl (fun i8 i9 Wi8 hp24 ih23 => ?_)
  obtain ⟨l_i8, u_i8, l_i9, u_i9, n_i8, -⟩ := hp24
  have r_i8 : ir i8 := ⟨by omega, by omega⟩
  have r_i9 : ir i9 := ⟨by omega, by omega⟩
  show GO mX5_part_1 K V (VS K (fun V1 => (vi V1 x 4 = vi V x 4 ∧ (vi V x 5 ≠ 0 → vi V1 x 5 ≠ 0)))) K Wi8 0 0 8 [some (.ref x), some (ti i8), some (ti i9)] []
  refine GO.iload_n dX5_part_8 rfl rfl ?_
  refine GO.sipush dX5_part_9 rfl ?_
  refine GO.icmp_ge (tgt := 69) dX5_part_12 (by decide) r_i9 (ir_c rfl) (fun h => by exfalso; omega) (fun c25 => ?_)
  refine GO.aload_n dX5_part_15 rfl rfl ?_
  refine GO.getI h_x fl_RX5_18 rfl rfl dX5_part_16 (fun _ _ => ?_)
  have q27 : -2147483648 ≤ vi Wi8 x 5 ∧ vi Wi8 x 5 ≤ 2147483647 := vi_ir
  refine GO.if_ne (tgt := 69) dX5_part_19 (by decide) vi_ir (fun c26 => ?_) (fun h => by exfalso; omega)
  refine GO.aload_n dX5_part_69 rfl rfl ?_
  refine GO.getR h_x fl_RX5_31 rfl rfl dX5_part_70 (fun hv29 h28 => ?_)
  refine GO.iload_n dX5_part_73 rfl rfl ?_
  refine GO.callV (ci := 8) (N := mX9_lead) dX5_part_74 (RX9, TX9, 5) rfl gV_RX5_89 h28 (t_X9_lead h28 r_i8) rfl [] rfl rfl (Nat.le_of_ble_eq_true rfl) rfl (k_vs fun V32 h31 hF30 => ?_)
  have e33 : vi V32 x 4 = vi Wi8 x 4 := vi_fr hF30 h_x h_x (by decide +kernel)
  have q34 : -2147483648 ≤ vi Wi8 x 4 ∧ vi Wi8 x 4 ≤ 2147483647 := vi_ir
  have e35 : vi V32 x 5 = vi Wi8 x 5 := vi_fr hF30 h_x h_x (by decide +kernel)
  exact GO.retv rfl rfl dX5_part_77 ⟨rfl, rfl, by omega⟩

set_option maxHeartbeats 1000000 in
theorem t_X5_part_1_G {K : Kmap} {V : Vmap} {x : Nat} (h_x : K x = some (0, 4)) (q_0 : vi V x 5 = 0) (q_1 : vi V x 4 ≥ 8) (q_2 : vi V x 4 ≤ 8) : MC mX5_part_1 K V [.ref x] (VS K (fun V1 => (vi V1 x 4 = vi V x 4 ∧ (vi V x 5 ≠ 0 → vi V1 x 5 ≠ 0)))) := by
  refine MC.start 2 (by decide +kernel) rfl rfl rfl (ls0 := [some (.ref x), none, none]) rfl ?_
  refine GO.iconst dX5_part_0 ?_
  refine GO.istore_n (ls1 := [some (.ref x), some (ti (-1)), none]) dX5_part_1 rfl rfl rfl ?_
  refine GO.aload_n dX5_part_2 rfl rfl ?_
  have q1 : -2147483648 ≤ vi V x 4 ∧ vi V x 4 ≤ 2147483647 := vi_ir
  have q2 : -2147483648 ≤ vi V x 5 ∧ vi V x 5 ≤ 2147483647 := vi_ir
  refine GO.callV (ci := 4) (N := mX5_piece_1) dX5_part_3 (RX5, TX5, 7) rfl gV_RX5_96 h_x (t_X5_piece_1 h_x (by omega)) rfl [] rfl rfl (Nat.le_of_ble_eq_true rfl) rfl (k_vs fun V5 h4 hF3 => ?_)
  refine GO.iconst dX5_part_6 ?_
  refine GO.istore_n (ls1 := [some (.ref x), some (ti (-1)), some (ti 0)]) dX5_part_7 rfl rfl rfl ?_
  have q10 : -2147483648 ≤ vi V5 x 4 ∧ vi V5 x 4 ≤ 2147483647 := vi_ir
  have q11 : -2147483648 ≤ vi V5 x 5 ∧ vi V5 x 5 ≤ 2147483647 := vi_ir
  refine GO.loop2 (fun i8 i9 W => (-2147483648) ≤ i8 ∧ i8 ≤ 2147483647 ∧ 0 ≤ i9 ∧ i9 ≤ 200 ∧ (vi W x 4 = vi V5 x 4 ∧ (vi V5 x 5 ≠ 0 → vi W x 5 ≠ 0)) ∧ True) (fun i8 i9 => [some (.ref x), some (ti i8), some (ti i9)]) (fun i8 i9 W => (2147483647 - i9).toNat) (-1) 0 ⟨by omega, by omega, by omega, by omega, by omega, trivial⟩ rfl (fun i8 i9 Wi8 hp1810 ih1809 => ?_)
  obtain ⟨l_i8, u_i8, l_i9, u_i9, n_i8, -⟩ := hp1810
  have r_i8 : ir i8 := ⟨by omega, by omega⟩
  have r_i9 : ir i9 := ⟨by omega, by omega⟩
  show GO mX5_part_1 K V (VS K (fun V1 => (vi V1 x 4 = vi V x 4 ∧ (vi V x 5 ≠ 0 → vi V1 x 5 ≠ 0)))) K Wi8 0 0 8 [some (.ref x), some (ti i8), some (ti i9)] []
  refine GO.iload_n dX5_part_8 rfl rfl ?_
  refine GO.sipush dX5_part_9 rfl ?_
  refine GO.icmp_ge (tgt := 69) dX5_part_12 (by decide) r_i9 (ir_c rfl) (fun c1811 => ?_) (fun c1811 => ?_)
  ·
    refine GO.aload_n dX5_part_69 rfl rfl ?_
    refine GO.getR h_x fl_RX5_31 rfl rfl dX5_part_70 (fun hv1813 h1812 => ?_)
    refine GO.iload_n dX5_part_73 rfl rfl ?_
    refine GO.callV (ci := 8) (N := mX9_lead) dX5_part_74 (RX9, TX9, 5) rfl gV_RX5_89 h1812 (t_X9_lead h1812 r_i8) rfl [] rfl rfl (Nat.le_of_ble_eq_true rfl) rfl (k_vs fun V1816 h1815 hF1814 => ?_)
    have e1817 : vi V1816 x 4 = vi Wi8 x 4 := vi_fr hF1814 h_x h_x (by decide +kernel)
    have q1818 : -2147483648 ≤ vi Wi8 x 4 ∧ vi Wi8 x 4 ≤ 2147483647 := vi_ir
    have e1819 : vi V1816 x 5 = vi Wi8 x 5 := vi_fr hF1814 h_x h_x (by decide +kernel)
    have q1820 : -2147483648 ≤ vi Wi8 x 5 ∧ vi Wi8 x 5 ≤ 2147483647 := vi_ir
    exact GO.retv rfl rfl dX5_part_77 ⟨rfl, rfl, by omega⟩
  ·
    refine GO.aload_n dX5_part_15 rfl rfl ?_
    refine GO.getI h_x fl_RX5_18 rfl rfl dX5_part_16 (fun _ _ => ?_)
    refine GO.if_ne (tgt := 69) dX5_part_19 (by decide) vi_ir (fun c1821 => ?_) (fun c1821 => ?_)
    ·
      refine GO.aload_n dX5_part_69 rfl rfl ?_
      refine GO.getR h_x fl_RX5_31 rfl rfl dX5_part_70 (fun hv1823 h1822 => ?_)
      refine GO.iload_n dX5_part_73 rfl rfl ?_
      refine GO.callV (ci := 8) (N := mX9_lead) dX5_part_74 (RX9, TX9, 5) rfl gV_RX5_89 h1822 (t_X9_lead h1822 r_i8) rfl [] rfl rfl (Nat.le_of_ble_eq_true rfl) rfl (k_vs fun V1826 h1825 hF1824 => ?_)
      have e1827 : vi V1826 x 4 = vi Wi8 x 4 := vi_fr hF1824 h_x h_x (by decide +kernel)
      have q1828 : -2147483648 ≤ vi Wi8 x 4 ∧ vi Wi8 x 4 ≤ 2147483647 := vi_ir
      have e1829 : vi V1826 x 5 = vi Wi8 x 5 := vi_fr hF1824 h_x h_x (by decide +kernel)
      have q1830 : -2147483648 ≤ vi Wi8 x 5 ∧ vi Wi8 x 5 ≤ 2147483647 := vi_ir
      exact GO.retv rfl rfl dX5_part_77 ⟨rfl, rfl, by omega⟩
    ·
      refine GO.aload_n dX5_part_22 rfl rfl ?_
      refine GO.callV (ci := 4) (N := mX5_next) dX5_part_23 (RX5, TX5, 7) rfl gV_RX5_61 h_x (t_X5_next h_x) rfl [] rfl rfl (Nat.le_of_ble_eq_true rfl) rfl (k_ip fun X1831 r1832 h1833 => ?_)
      refine GO.bipush dX5_part_26 rfl ?_
      refine GO.icmp_ne (tgt := 69) dX5_part_28 (by decide) r1832 (ir_c rfl) (fun c1834 => ?_) (fun c1834 => ?_)
      ·
        refine GO.aload_n dX5_part_69 rfl rfl ?_
        refine GO.getR h_x fl_RX5_31 rfl rfl dX5_part_70 (fun hv1836 h1835 => ?_)
        refine GO.iload_n dX5_part_73 rfl rfl ?_
        refine GO.callV (ci := 8) (N := mX9_lead) dX5_part_74 (RX9, TX9, 5) rfl gV_RX5_89 h1835 (t_X9_lead h1835 r_i8) rfl [] rfl rfl (Nat.le_of_ble_eq_true rfl) rfl (k_vs fun V1839 h1838 hF1837 => ?_)
        have e1840 : vi V1839 x 4 = vi Wi8 x 4 := vi_fr hF1837 h_x h_x (by decide +kernel)
        have q1841 : -2147483648 ≤ vi Wi8 x 4 ∧ vi Wi8 x 4 ≤ 2147483647 := vi_ir
        have e1842 : vi V1839 x 5 = vi Wi8 x 5 := vi_fr hF1837 h_x h_x (by decide +kernel)
        have q1843 : -2147483648 ≤ vi Wi8 x 5 ∧ vi Wi8 x 5 ≤ 2147483647 := vi_ir
        exact GO.retv rfl rfl dX5_part_77 ⟨rfl, rfl, by omega⟩
      ·
        refine GO.aload_n dX5_part_31 rfl rfl ?_
        refine GO.dup dX5_part_32 rfl ?_
        refine GO.getI h_x fl_RX5_9 rfl rfl dX5_part_33 (fun _ _ => ?_)
        refine GO.iconst dX5_part_36 ?_
        refine GO.iadd dX5_part_37 ?_
        refine GO.norm (fun z1844 r1845 _ => ?_)
        refine GO.putI h_x fp_RX5_9 rfl (by decide +kernel) r1845 (r1845).1 (r1845).2 dX5_part_38 (fun V1847 e1846 => ?_)
        refine GO.aload_n dX5_part_41 rfl rfl ?_
        refine GO.getR h_x fl_RX5_31 rfl rfl dX5_part_42 (fun hv1849 h1848 => ?_)
        refine GO.iload_n dX5_part_45 rfl rfl ?_
        refine GO.callV (ci := 8) (N := mX9_lead) dX5_part_46 (RX9, TX9, 5) rfl gV_RX5_89 h1848 (t_X9_lead h1848 r_i8) rfl [] rfl rfl (Nat.le_of_ble_eq_true rfl) rfl (k_vs fun V1852 h1851 hF1850 => ?_)
        refine GO.aload_n dX5_part_49 rfl rfl ?_
        refine GO.getRaw h_x fl_RX5_31 (Eq.trans (hF1850 _ _ _ h_x h_x (by decide +kernel)) hv1849) dX5_part_50 ?_
        refine GO.iconst dX5_part_53 ?_
        refine GO.iconst dX5_part_54 ?_
        refine GO.callV (ci := 8) (N := mX9_addStep) dX5_part_55 (RX9, TX9, 5) rfl gV_RX5_92 h1848 (t_X9_addStep h1848 (ir_c rfl) (ir_c rfl)) rfl [] rfl rfl (Nat.le_of_ble_eq_true rfl) rfl (k_is fun X1855 V1859 r1856 h1857 hF1858 => ?_)
        refine GO.istore_n (ls1 := [some (.ref x), some (ti X1855), some (ti i9)]) dX5_part_58 rfl rfl rfl ?_
        refine GO.aload_n dX5_part_59 rfl rfl ?_
        have e1862 : vi V1847 x 5 = vi Wi8 x 5 := vi_up e1846 (Or.inr (by decide))
        have e1861 : vi V1852 x 5 = vi V1847 x 5 := vi_fr hF1850 h_x h_x (by decide +kernel)
        have e1860 : vi V1859 x 5 = vi V1852 x 5 := vi_fr hF1858 h_x h_x (by decide +kernel)
        have e1865 : vi V1847 x 4 = vi Wi8 x 4 := vi_up e1846 (Or.inr (by decide))
        have e1864 : vi V1852 x 4 = vi V1847 x 4 := vi_fr hF1850 h_x h_x (by decide +kernel)
        have e1863 : vi V1859 x 4 = vi V1852 x 4 := vi_fr hF1858 h_x h_x (by decide +kernel)
        have q1866 : -2147483648 ≤ vi Wi8 x 4 ∧ vi Wi8 x 4 ≤ 2147483647 := vi_ir
        have q1867 : -2147483648 ≤ vi Wi8 x 5 ∧ vi Wi8 x 5 ≤ 2147483647 := vi_ir
        refine GO.callV (ci := 4) (N := mX5_piece_1) dX5_part_60 (RX5, TX5, 7) rfl gV_RX5_96 h_x (t_X5_piece_1 h_x (by omega)) rfl [] rfl rfl (Nat.le_of_ble_eq_true rfl) rfl (k_vs fun V1870 h1869 hF1868 => ?_)
        refine GO.iinc (X := i9) (n := 1) (Y := i9 + 1) (ls1 := [some (.ref x), some (ti X1855), some (ti (i9 + 1))]) dX5_part_63 rfl rfl rfl rfl ?_
        refine GO.goto (tgt := 8) dX5_part_66 (by decide) ?_
        have q1873 : -2147483648 ≤ X1855 ∧ X1855 ≤ 2147483647 := r1856
        have q1874 : -2147483648 ≤ vi V1870 x 4 ∧ vi V1870 x 4 ≤ 2147483647 := vi_ir
        have q1875 : -2147483648 ≤ vi V1870 x 5 ∧ vi V1870 x 5 ≤ 2147483647 := vi_ir
        exact ih1809 X1855 (i9 + 1) V1870 ⟨by omega, by omega, by omega, by omega, by omega, trivial⟩ (by show (2147483647 - (i9 + 1)).toNat < (2147483647 - i9).toNat; omega)

theorem t_X5_part_1 {K : Kmap} {V : Vmap} {x : Nat} (h_x : K x = some (0, 4)) (q_0 : (vi V x 5 ≠ 0 ∨ (vi V x 5 = 0 ∧ vi V x 4 ≥ 8 ∧ vi V x 4 ≤ 8))) : MC mX5_part_1 K V [.ref x] (VS K (fun V1 => (vi V1 x 4 = vi V x 4 ∧ (vi V x 5 ≠ 0 → vi V1 x 5 ≠ 0)))) := by
  rcases q_0 with h | h
  · exact t_X5_part_1_F h_x (by omega)
  · exact t_X5_part_1_G h_x (by omega) (by omega) (by omega)

set_option maxHeartbeats 1000000 in
theorem t_X5_parts_1_F {K : Kmap} {V : Vmap} {x : Nat} (h_x : K x = some (0, 4)) (q_0 : vi V x 5 ≠ 0) : MC mX5_parts_1 K V [.ref x] (VS K (fun V1 => (vi V1 x 4 = vi V x 4 ∧ (vi V x 5 ≠ 0 → vi V1 x 5 ≠ 0)))) := by
  refine MC.start 2 (by decide +kernel) rfl rfl rfl (ls0 := [some (.ref x), none, none]) rfl ?_
  refine GO.iconst dX5_parts_0 ?_
  refine GO.istore_n (ls1 := [some (.ref x), some (ti (-1)), none]) dX5_parts_1 rfl rfl rfl ?_
  refine GO.aload_n dX5_parts_2 rfl rfl ?_
  have q1 : -2147483648 ≤ vi V x 4 ∧ vi V x 4 ≤ 2147483647 := vi_ir
  have q2 : -2147483648 ≤ vi V x 5 ∧ vi V x 5 ≤ 2147483647 := vi_ir
  refine GO.callV (ci := 4) (N := mX5_part_1) dX5_parts_3 (RX5, TX5, 7) rfl gV_RX5_86 h_x (t_X5_part_1 h_x (by omega)) rfl [] rfl rfl (Nat.le_of_ble_eq_true rfl) rfl (k_vs fun V5 h4 hF3 => ?_)
  refine GO.iconst dX5_parts_6 ?_
  refine GO.istore_n (ls1 := [some (.ref x), some (ti (-1)), some (ti 0)]) dX5_parts_7 rfl rfl rfl ?_
  have q10 : -2147483648 ≤ vi V5 x 4 ∧ vi V5 x 4 ≤ 2147483647 := vi_ir
  have q11 : -2147483648 ≤ vi V5 x 5 ∧ vi V5 x 5 ≤ 2147483647 := vi_ir
  refine GO.loop2 (fun i8 i9 W => (-1) ≤ i8 ∧ i8 ≤ (-1) ∧ 0 ≤ i9 ∧ i9 ≤ 0 ∧ (vi W x 4 = vi V5 x 4 ∧ (vi V5 x 5 ≠ 0 → vi W x 5 ≠ 0)) ∧ True) (fun i8 i9 => [some (.ref x), some (ti i8), some (ti i9)]) (fun i8 i9 W => (2147483647 - i8).toNat) (-1) 0 ⟨by omega, by omega, by omega, by omega, by omega, trivial⟩ rfl (fun i8 i9 Wi8 hp24 ih23 => ?_)
  obtain ⟨l_i8, u_i8, l_i9, u_i9, n_i8, -⟩ := hp24
  have r_i8 : ir i8 := ⟨by omega, by omega⟩
  have r_i9 : ir i9 := ⟨by omega, by omega⟩
  show GO mX5_parts_1 K V (VS K (fun V1 => (vi V1 x 4 = vi V x 4 ∧ (vi V x 5 ≠ 0 → vi V1 x 5 ≠ 0)))) K Wi8 0 0 8 [some (.ref x), some (ti i8), some (ti i9)] []
  refine GO.iload_n dX5_parts_8 rfl rfl ?_
  refine GO.sipush dX5_parts_9 rfl ?_
  refine GO.icmp_ge (tgt := 69) dX5_parts_12 (by decide) r_i9 (ir_c rfl) (fun h => by exfalso; omega) (fun c25 => ?_)
  refine GO.aload_n dX5_parts_15 rfl rfl ?_
  refine GO.getI h_x fl_RX5_18 rfl rfl dX5_parts_16 (fun _ _ => ?_)
  have q27 : -2147483648 ≤ vi Wi8 x 5 ∧ vi Wi8 x 5 ≤ 2147483647 := vi_ir
  refine GO.if_ne (tgt := 69) dX5_parts_19 (by decide) vi_ir (fun c26 => ?_) (fun h => by exfalso; omega)
  refine GO.aload_n dX5_parts_69 rfl rfl ?_
  refine GO.getR h_x fl_RX5_31 rfl rfl dX5_parts_70 (fun hv29 h28 => ?_)
  refine GO.iload_n dX5_parts_73 rfl rfl ?_
  refine GO.callV (ci := 8) (N := mX9_lead) dX5_parts_74 (RX9, TX9, 5) rfl gV_RX5_89 h28 (t_X9_lead h28 r_i8) rfl [] rfl rfl (Nat.le_of_ble_eq_true rfl) rfl (k_vs fun V32 h31 hF30 => ?_)
  have e33 : vi V32 x 4 = vi Wi8 x 4 := vi_fr hF30 h_x h_x (by decide +kernel)
  have q34 : -2147483648 ≤ vi Wi8 x 4 ∧ vi Wi8 x 4 ≤ 2147483647 := vi_ir
  have e35 : vi V32 x 5 = vi Wi8 x 5 := vi_fr hF30 h_x h_x (by decide +kernel)
  exact GO.retv rfl rfl dX5_parts_77 ⟨rfl, rfl, by omega⟩

set_option maxHeartbeats 1000000 in
theorem t_X5_parts_1_G {K : Kmap} {V : Vmap} {x : Nat} (h_x : K x = some (0, 4)) (q_0 : vi V x 5 = 0) (q_1 : vi V x 4 ≥ 8) (q_2 : vi V x 4 ≤ 8) : MC mX5_parts_1 K V [.ref x] (VS K (fun V1 => (vi V1 x 4 = vi V x 4 ∧ (vi V x 5 ≠ 0 → vi V1 x 5 ≠ 0)))) := by
  refine MC.start 2 (by decide +kernel) rfl rfl rfl (ls0 := [some (.ref x), none, none]) rfl ?_
  refine GO.iconst dX5_parts_0 ?_
  refine GO.istore_n (ls1 := [some (.ref x), some (ti (-1)), none]) dX5_parts_1 rfl rfl rfl ?_
  refine GO.aload_n dX5_parts_2 rfl rfl ?_
  have q1 : -2147483648 ≤ vi V x 4 ∧ vi V x 4 ≤ 2147483647 := vi_ir
  have q2 : -2147483648 ≤ vi V x 5 ∧ vi V x 5 ≤ 2147483647 := vi_ir
  refine GO.callV (ci := 4) (N := mX5_part_1) dX5_parts_3 (RX5, TX5, 7) rfl gV_RX5_86 h_x (t_X5_part_1 h_x (by omega)) rfl [] rfl rfl (Nat.le_of_ble_eq_true rfl) rfl (k_vs fun V5 h4 hF3 => ?_)
  refine GO.iconst dX5_parts_6 ?_
  refine GO.istore_n (ls1 := [some (.ref x), some (ti (-1)), some (ti 0)]) dX5_parts_7 rfl rfl rfl ?_
  have q10 : -2147483648 ≤ vi V5 x 4 ∧ vi V5 x 4 ≤ 2147483647 := vi_ir
  have q11 : -2147483648 ≤ vi V5 x 5 ∧ vi V5 x 5 ≤ 2147483647 := vi_ir
  refine GO.loop2 (fun i8 i9 W => (-2147483648) ≤ i8 ∧ i8 ≤ 2147483647 ∧ 0 ≤ i9 ∧ i9 ≤ 200 ∧ (vi W x 4 = vi V5 x 4 ∧ (vi V5 x 5 ≠ 0 → vi W x 5 ≠ 0)) ∧ True) (fun i8 i9 => [some (.ref x), some (ti i8), some (ti i9)]) (fun i8 i9 W => (2147483647 - i9).toNat) (-1) 0 ⟨by omega, by omega, by omega, by omega, by omega, trivial⟩ rfl (fun i8 i9 Wi8 hp1810 ih1809 => ?_)
  obtain ⟨l_i8, u_i8, l_i9, u_i9, n_i8, -⟩ := hp1810
  have r_i8 : ir i8 := ⟨by omega, by omega⟩
  have r_i9 : ir i9 := ⟨by omega, by omega⟩
  show GO mX5_parts_1 K V (VS K (fun V1 => (vi V1 x 4 = vi V x 4 ∧ (vi V x 5 ≠ 0 → vi V1 x 5 ≠ 0)))) K Wi8 0 0 8 [some (.ref x), some (ti i8), some (ti i9)] []
  refine GO.iload_n dX5_parts_8 rfl rfl ?_
  refine GO.sipush dX5_parts_9 rfl ?_
  refine GO.icmp_ge (tgt := 69) dX5_parts_12 (by decide) r_i9 (ir_c rfl) (fun c1811 => ?_) (fun c1811 => ?_)
  ·
    refine GO.aload_n dX5_parts_69 rfl rfl ?_
    refine GO.getR h_x fl_RX5_31 rfl rfl dX5_parts_70 (fun hv1813 h1812 => ?_)
    refine GO.iload_n dX5_parts_73 rfl rfl ?_
    refine GO.callV (ci := 8) (N := mX9_lead) dX5_parts_74 (RX9, TX9, 5) rfl gV_RX5_89 h1812 (t_X9_lead h1812 r_i8) rfl [] rfl rfl (Nat.le_of_ble_eq_true rfl) rfl (k_vs fun V1816 h1815 hF1814 => ?_)
    have e1817 : vi V1816 x 4 = vi Wi8 x 4 := vi_fr hF1814 h_x h_x (by decide +kernel)
    have q1818 : -2147483648 ≤ vi Wi8 x 4 ∧ vi Wi8 x 4 ≤ 2147483647 := vi_ir
    have e1819 : vi V1816 x 5 = vi Wi8 x 5 := vi_fr hF1814 h_x h_x (by decide +kernel)
    have q1820 : -2147483648 ≤ vi Wi8 x 5 ∧ vi Wi8 x 5 ≤ 2147483647 := vi_ir
    exact GO.retv rfl rfl dX5_parts_77 ⟨rfl, rfl, by omega⟩
  ·
    refine GO.aload_n dX5_parts_15 rfl rfl ?_
    refine GO.getI h_x fl_RX5_18 rfl rfl dX5_parts_16 (fun _ _ => ?_)
    refine GO.if_ne (tgt := 69) dX5_parts_19 (by decide) vi_ir (fun c1821 => ?_) (fun c1821 => ?_)
    ·
      refine GO.aload_n dX5_parts_69 rfl rfl ?_
      refine GO.getR h_x fl_RX5_31 rfl rfl dX5_parts_70 (fun hv1823 h1822 => ?_)
      refine GO.iload_n dX5_parts_73 rfl rfl ?_
      refine GO.callV (ci := 8) (N := mX9_lead) dX5_parts_74 (RX9, TX9, 5) rfl gV_RX5_89 h1822 (t_X9_lead h1822 r_i8) rfl [] rfl rfl (Nat.le_of_ble_eq_true rfl) rfl (k_vs fun V1826 h1825 hF1824 => ?_)
      have e1827 : vi V1826 x 4 = vi Wi8 x 4 := vi_fr hF1824 h_x h_x (by decide +kernel)
      have q1828 : -2147483648 ≤ vi Wi8 x 4 ∧ vi Wi8 x 4 ≤ 2147483647 := vi_ir
      have e1829 : vi V1826 x 5 = vi Wi8 x 5 := vi_fr hF1824 h_x h_x (by decide +kernel)
      have q1830 : -2147483648 ≤ vi Wi8 x 5 ∧ vi Wi8 x 5 ≤ 2147483647 := vi_ir
      exact GO.retv rfl rfl dX5_parts_77 ⟨rfl, rfl, by omega⟩
    ·
      refine GO.aload_n dX5_parts_22 rfl rfl ?_
      refine GO.callV (ci := 4) (N := mX5_next) dX5_parts_23 (RX5, TX5, 7) rfl gV_RX5_61 h_x (t_X5_next h_x) rfl [] rfl rfl (Nat.le_of_ble_eq_true rfl) rfl (k_ip fun X1831 r1832 h1833 => ?_)
      refine GO.bipush dX5_parts_26 rfl ?_
      refine GO.icmp_ne (tgt := 69) dX5_parts_28 (by decide) r1832 (ir_c rfl) (fun c1834 => ?_) (fun c1834 => ?_)
      ·
        refine GO.aload_n dX5_parts_69 rfl rfl ?_
        refine GO.getR h_x fl_RX5_31 rfl rfl dX5_parts_70 (fun hv1836 h1835 => ?_)
        refine GO.iload_n dX5_parts_73 rfl rfl ?_
        refine GO.callV (ci := 8) (N := mX9_lead) dX5_parts_74 (RX9, TX9, 5) rfl gV_RX5_89 h1835 (t_X9_lead h1835 r_i8) rfl [] rfl rfl (Nat.le_of_ble_eq_true rfl) rfl (k_vs fun V1839 h1838 hF1837 => ?_)
        have e1840 : vi V1839 x 4 = vi Wi8 x 4 := vi_fr hF1837 h_x h_x (by decide +kernel)
        have q1841 : -2147483648 ≤ vi Wi8 x 4 ∧ vi Wi8 x 4 ≤ 2147483647 := vi_ir
        have e1842 : vi V1839 x 5 = vi Wi8 x 5 := vi_fr hF1837 h_x h_x (by decide +kernel)
        have q1843 : -2147483648 ≤ vi Wi8 x 5 ∧ vi Wi8 x 5 ≤ 2147483647 := vi_ir
        exact GO.retv rfl rfl dX5_parts_77 ⟨rfl, rfl, by omega⟩
      ·
        refine GO.aload_n dX5_parts_31 rfl rfl ?_
        refine GO.dup dX5_parts_32 rfl ?_
        refine GO.getI h_x fl_RX5_9 rfl rfl dX5_parts_33 (fun _ _ => ?_)
        refine GO.iconst dX5_parts_36 ?_
        refine GO.iadd dX5_parts_37 ?_
        refine GO.norm (fun z1844 r1845 _ => ?_)
        refine GO.putI h_x fp_RX5_9 rfl (by decide +kernel) r1845 (r1845).1 (r1845).2 dX5_parts_38 (fun V1847 e1846 => ?_)
        refine GO.aload_n dX5_parts_41 rfl rfl ?_
        refine GO.getR h_x fl_RX5_31 rfl rfl dX5_parts_42 (fun hv1849 h1848 => ?_)
        refine GO.iload_n dX5_parts_45 rfl rfl ?_
        refine GO.callV (ci := 8) (N := mX9_lead) dX5_parts_46 (RX9, TX9, 5) rfl gV_RX5_89 h1848 (t_X9_lead h1848 r_i8) rfl [] rfl rfl (Nat.le_of_ble_eq_true rfl) rfl (k_vs fun V1852 h1851 hF1850 => ?_)
        refine GO.aload_n dX5_parts_49 rfl rfl ?_
        refine GO.getRaw h_x fl_RX5_31 (Eq.trans (hF1850 _ _ _ h_x h_x (by decide +kernel)) hv1849) dX5_parts_50 ?_
        refine GO.iconst dX5_parts_53 ?_
        refine GO.iconst dX5_parts_54 ?_
        refine GO.callV (ci := 8) (N := mX9_addStep) dX5_parts_55 (RX9, TX9, 5) rfl gV_RX5_92 h1848 (t_X9_addStep h1848 (ir_c rfl) (ir_c rfl)) rfl [] rfl rfl (Nat.le_of_ble_eq_true rfl) rfl (k_is fun X1855 V1859 r1856 h1857 hF1858 => ?_)
        refine GO.istore_n (ls1 := [some (.ref x), some (ti X1855), some (ti i9)]) dX5_parts_58 rfl rfl rfl ?_
        refine GO.aload_n dX5_parts_59 rfl rfl ?_
        have e1862 : vi V1847 x 5 = vi Wi8 x 5 := vi_up e1846 (Or.inr (by decide))
        have e1861 : vi V1852 x 5 = vi V1847 x 5 := vi_fr hF1850 h_x h_x (by decide +kernel)
        have e1860 : vi V1859 x 5 = vi V1852 x 5 := vi_fr hF1858 h_x h_x (by decide +kernel)
        have e1865 : vi V1847 x 4 = vi Wi8 x 4 := vi_up e1846 (Or.inr (by decide))
        have e1864 : vi V1852 x 4 = vi V1847 x 4 := vi_fr hF1850 h_x h_x (by decide +kernel)
        have e1863 : vi V1859 x 4 = vi V1852 x 4 := vi_fr hF1858 h_x h_x (by decide +kernel)
        have q1866 : -2147483648 ≤ vi Wi8 x 4 ∧ vi Wi8 x 4 ≤ 2147483647 := vi_ir
        have q1867 : -2147483648 ≤ vi Wi8 x 5 ∧ vi Wi8 x 5 ≤ 2147483647 := vi_ir
        refine GO.callV (ci := 4) (N := mX5_part_1) dX5_parts_60 (RX5, TX5, 7) rfl gV_RX5_86 h_x (t_X5_part_1 h_x (by omega)) rfl [] rfl rfl (Nat.le_of_ble_eq_true rfl) rfl (k_vs fun V1870 h1869 hF1868 => ?_)
        refine GO.iinc (X := i9) (n := 1) (Y := i9 + 1) (ls1 := [some (.ref x), some (ti X1855), some (ti (i9 + 1))]) dX5_parts_63 rfl rfl rfl rfl ?_
        refine GO.goto (tgt := 8) dX5_parts_66 (by decide) ?_
        have q1873 : -2147483648 ≤ X1855 ∧ X1855 ≤ 2147483647 := r1856
        have q1874 : -2147483648 ≤ vi V1870 x 4 ∧ vi V1870 x 4 ≤ 2147483647 := vi_ir
        have q1875 : -2147483648 ≤ vi V1870 x 5 ∧ vi V1870 x 5 ≤ 2147483647 := vi_ir
        exact ih1809 X1855 (i9 + 1) V1870 ⟨by omega, by omega, by omega, by omega, by omega, trivial⟩ (by show (2147483647 - (i9 + 1)).toNat < (2147483647 - i9).toNat; omega)

theorem t_X5_parts_1 {K : Kmap} {V : Vmap} {x : Nat} (h_x : K x = some (0, 4)) (q_0 : (vi V x 5 ≠ 0 ∨ (vi V x 5 = 0 ∧ vi V x 4 ≥ 8 ∧ vi V x 4 ≤ 8))) : MC mX5_parts_1 K V [.ref x] (VS K (fun V1 => (vi V1 x 4 = vi V x 4 ∧ (vi V x 5 ≠ 0 → vi V1 x 5 ≠ 0)))) := by
  rcases q_0 with h | h
  · exact t_X5_parts_1_F h_x (by omega)
  · exact t_X5_parts_1_G h_x (by omega) (by omega) (by omega)

set_option maxHeartbeats 1000000 in
theorem t_X5_negation_2_G {K : Kmap} {V : Vmap} {x : Nat} (h_x : K x = some (0, 4)) (q_0 : vi V x 5 = 0) (q_1 : vi V x 4 ≥ 7) (q_2 : vi V x 4 ≤ 8) : MC mX5_negation_2 K V [.ref x] (VS K (fun V1 => (vi V1 x 4 = vi V x 4 ∧ (vi V x 5 ≠ 0 → vi V1 x 5 ≠ 0)))) := by
  refine MC.start 0 (by decide +kernel) rfl rfl rfl (ls0 := [some (.ref x)]) rfl ?_
  refine GO.aload_n dX5_negation_0 rfl rfl ?_
  refine GO.bipush dX5_negation_1 rfl ?_
  have q1 : -2147483648 ≤ vi V x 4 ∧ vi V x 4 ≤ 2147483647 := vi_ir
  refine GO.callV (ci := 4) (N := mX5_deepen) dX5_negation_3 (RX5, TX5, 7) rfl gV_RX5_80 h_x (t_X5_deepen h_x (ir_c rfl) (by omega) (by omega)) rfl [] rfl rfl (Nat.le_of_ble_eq_true rfl) rfl (k_vs fun V4 h3 hF2 => ?_)
  refine GO.aload_n dX5_negation_6 rfl rfl ?_
  have q7 : -2147483648 ≤ vi V4 x 4 ∧ vi V4 x 4 ≤ 2147483647 := vi_ir
  have q8 : -2147483648 ≤ vi V4 x 5 ∧ vi V4 x 5 ≤ 2147483647 := vi_ir
  refine GO.callV (ci := 4) (N := mX5_piece_1) dX5_negation_7 (RX5, TX5, 7) rfl gV_RX5_96 h_x (t_X5_piece_1 h_x (by omega)) rfl [] rfl rfl (Nat.le_of_ble_eq_true rfl) rfl (k_vs fun V11 h10 hF9 => ?_)
  refine GO.aload_n dX5_negation_10 rfl rfl ?_
  refine GO.dup dX5_negation_11 rfl ?_
  refine GO.getI h_x fl_RX5_15 rfl rfl dX5_negation_12 (fun _ _ => ?_)
  refine GO.iconst dX5_negation_15 ?_
  refine GO.isub dX5_negation_16 ?_
  have q15 : -2147483648 ≤ vi V11 x 4 ∧ vi V11 x 4 ≤ 2147483647 := vi_ir
  refine GO.putI h_x fp_RX5_15 rfl (by decide +kernel) ⟨by omega, by omega⟩ (by omega) (by omega) dX5_negation_17 (fun V16 e14 => ?_)
  refine GO.aload_n dX5_negation_20 rfl rfl ?_
  refine GO.getR h_x fl_RX5_31 rfl rfl dX5_negation_21 (fun hv18 h17 => ?_)
  refine GO.iconst dX5_negation_24 ?_
  refine GO.iconst dX5_negation_25 ?_
  refine GO.callV (ci := 8) (N := mX9_addStep) dX5_negation_26 (RX9, TX9, 5) rfl gV_RX5_92 h17 (t_X9_addStep h17 (ir_c rfl) (ir_c rfl)) rfl [] rfl rfl (Nat.le_of_ble_eq_true rfl) rfl (k_is fun X19 V23 r20 h21 hF22 => ?_)
  refine GO.pop dX5_negation_29 rfl ?_
  have e25 : vi V16 x 4 = (vi V11 x 4) - 1 := upd2_int e14 ⟨by omega, by omega⟩
  have e24 : vi V23 x 4 = vi V16 x 4 := vi_fr hF22 h_x h_x (by decide +kernel)
  have q26 : -2147483648 ≤ vi V x 5 ∧ vi V x 5 ≤ 2147483647 := vi_ir
  have e28 : vi V16 x 5 = vi V11 x 5 := vi_up e14 (Or.inr (by decide))
  have e27 : vi V23 x 5 = vi V16 x 5 := vi_fr hF22 h_x h_x (by decide +kernel)
  have q29 : -2147483648 ≤ vi V11 x 5 ∧ vi V11 x 5 ≤ 2147483647 := vi_ir
  exact GO.retv rfl rfl dX5_negation_30 ⟨rfl, rfl, by omega⟩

theorem t_X5_negation_2 {K : Kmap} {V : Vmap} {x : Nat} (h_x : K x = some (0, 4)) (q_0 : ((vi V x 5 = 0 ∧ vi V x 4 ≥ 7 ∧ vi V x 4 ≤ 8))) : MC mX5_negation_2 K V [.ref x] (VS K (fun V1 => (vi V1 x 4 = vi V x 4 ∧ (vi V x 5 ≠ 0 → vi V1 x 5 ≠ 0)))) := by
  exact t_X5_negation_2_G h_x (by omega) (by omega) (by omega)

set_option maxHeartbeats 1000000 in
theorem t_X5_piece_2_F {K : Kmap} {V : Vmap} {x : Nat} (h_x : K x = some (0, 4)) (q_0 : vi V x 5 ≠ 0) : MC mX5_piece_2 K V [.ref x] (VS K (fun V1 => (vi V1 x 4 = vi V x 4 ∧ (vi V x 5 ≠ 0 → vi V1 x 5 ≠ 0)))) := by
  refine MC.start 2 (by decide +kernel) rfl rfl rfl (ls0 := [some (.ref x), none, none]) rfl ?_
  refine GO.aload_n dX5_piece_0 rfl rfl ?_
  refine GO.getI h_x fl_RX5_18 rfl rfl dX5_piece_1 (fun _ _ => ?_)
  have q2 : -2147483648 ≤ vi V x 5 ∧ vi V x 5 ≤ 2147483647 := vi_ir
  refine GO.if_eq (tgt := 8) dX5_piece_4 (by decide) vi_ir (fun h => by exfalso; omega) (fun c1 => ?_)
  have q3 : -2147483648 ≤ vi V x 4 ∧ vi V x 4 ≤ 2147483647 := vi_ir
  exact GO.retv rfl rfl dX5_piece_7 ⟨rfl, rfl, by omega⟩

set_option maxHeartbeats 1000000 in
theorem t_X5_piece_2_G {K : Kmap} {V : Vmap} {x : Nat} (h_x : K x = some (0, 4)) (q_0 : vi V x 5 = 0) (q_1 : vi V x 4 ≥ 7) (q_2 : vi V x 4 ≤ 8) : MC mX5_piece_2 K V [.ref x] (VS K (fun V1 => (vi V1 x 4 = vi V x 4 ∧ (vi V x 5 ≠ 0 → vi V1 x 5 ≠ 0)))) := by
  refine MC.start 2 (by decide +kernel) rfl rfl rfl (ls0 := [some (.ref x), none, none]) rfl ?_
  refine GO.aload_n dX5_piece_0 rfl rfl ?_
  refine GO.getI h_x fl_RX5_18 rfl rfl dX5_piece_1 (fun _ _ => ?_)
  have q2 : -2147483648 ≤ vi V x 5 ∧ vi V x 5 ≤ 2147483647 := vi_ir
  refine GO.if_eq (tgt := 8) dX5_piece_4 (by decide) vi_ir (fun c1 => ?_) (fun h => by exfalso; omega)
  refine GO.aload_n dX5_piece_8 rfl rfl ?_
  refine GO.callV (ci := 4) (N := mX5_next) dX5_piece_9 (RX5, TX5, 7) rfl gV_RX5_61 h_x (t_X5_next h_x) rfl [] rfl rfl (Nat.le_of_ble_eq_true rfl) rfl (k_ip fun X3 r4 h5 => ?_)
  refine GO.istore_n (ls1 := [some (.ref x), some (ti X3), none]) dX5_piece_12 rfl rfl rfl ?_
  refine GO.iload_n dX5_piece_13 rfl rfl ?_
  refine GO.bipush dX5_piece_14 rfl ?_
  refine GO.icmp_ne (tgt := 26) dX5_piece_16 (by decide) r4 (ir_c rfl) (fun c6 => ?_) (fun c6 => ?_)
  ·
    refine GO.iload_n dX5_piece_26 rfl rfl ?_
    refine GO.bipush dX5_piece_27 rfl ?_
    refine GO.icmp_ne (tgt := 61) dX5_piece_29 (by decide) r4 (ir_c rfl) (fun c7 => ?_) (fun c7 => ?_)
    ·
      refine GO.aload_n dX5_piece_61 rfl rfl ?_
      have q8 : -2147483648 ≤ vi V x 4 ∧ vi V x 4 ≤ 2147483647 := vi_ir
      refine GO.callV (ci := 4) (N := mX5_terms_2) dX5_piece_62 (RX5, TX5, 7) rfl gV_RX5_102 h_x (t_X5_terms_2 h_x (by omega)) rfl [] rfl rfl (Nat.le_of_ble_eq_true rfl) rfl (k_vs fun V11 h10 hF9 => ?_)
      refine GO.aload_n dX5_piece_65 rfl rfl ?_
      refine GO.aload_n dX5_piece_66 rfl rfl ?_
      refine GO.callV (ci := 4) (N := mX5_next) dX5_piece_67 (RX5, TX5, 7) rfl gV_RX5_61 h_x (t_X5_next h_x) rfl [.ref x] rfl rfl (Nat.le_of_ble_eq_true rfl) rfl (k_ip fun X14 r15 h16 => ?_)
      refine GO.callV (ci := 4) (N := mX5_comparison) dX5_piece_70 (RX5, TX5, 7) rfl gV_RX5_105 h_x (t_X5_comparison h_x r15) rfl [] rfl rfl (Nat.le_of_ble_eq_true rfl) rfl (k_is fun X17 V21 r18 h19 hF20 => ?_)
      refine GO.istore_n (ls1 := [some (.ref x), some (ti X3), some (ti X17)]) dX5_piece_73 rfl rfl rfl ?_
      refine GO.aload_n dX5_piece_74 rfl rfl ?_
      refine GO.dup dX5_piece_75 rfl ?_
      refine GO.getI h_x fl_RX5_9 rfl rfl dX5_piece_76 (fun _ _ => ?_)
      refine GO.iconst dX5_piece_79 ?_
      refine GO.iadd dX5_piece_80 ?_
      refine GO.norm (fun z25 r26 _ => ?_)
      refine GO.putI h_x fp_RX5_9 rfl (by decide +kernel) r26 (r26).1 (r26).2 dX5_piece_81 (fun V28 e27 => ?_)
      refine GO.aload_n dX5_piece_84 rfl rfl ?_
      have e29 : vi V28 x 5 = vi V21 x 5 := vi_up e27 (Or.inr (by decide))
      have e31 : vi V21 x 4 = vi V11 x 4 := vi_fr hF20 h_x h_x (by decide +kernel)
      have e30 : vi V28 x 4 = vi V21 x 4 := vi_up e27 (Or.inr (by decide))
      have q32 : -2147483648 ≤ vi V11 x 4 ∧ vi V11 x 4 ≤ 2147483647 := vi_ir
      have q33 : -2147483648 ≤ vi V21 x 5 ∧ vi V21 x 5 ≤ 2147483647 := vi_ir
      refine GO.callV (ci := 4) (N := mX5_terms_2) dX5_piece_85 (RX5, TX5, 7) rfl gV_RX5_102 h_x (t_X5_terms_2 h_x (by omega)) rfl [] rfl rfl (Nat.le_of_ble_eq_true rfl) rfl (k_vs fun V36 h35 hF34 => ?_)
      refine GO.aload_n dX5_piece_88 rfl rfl ?_
      refine GO.getR h_x fl_RX5_31 rfl rfl dX5_piece_89 (fun hv40 h39 => ?_)
      refine GO.iload_n dX5_piece_92 rfl rfl ?_
      refine GO.iconst dX5_piece_93 ?_
      refine GO.callV (ci := 8) (N := mX9_addStep) dX5_piece_94 (RX9, TX9, 5) rfl gV_RX5_92 h39 (t_X9_addStep h39 r18 (ir_c rfl)) rfl [] rfl rfl (Nat.le_of_ble_eq_true rfl) rfl (k_is fun X41 V45 r42 h43 hF44 => ?_)
      refine GO.pop dX5_piece_97 rfl ?_
      have e46 : vi V45 x 4 = vi V36 x 4 := vi_fr hF44 h_x h_x (by decide +kernel)
      have q47 : -2147483648 ≤ vi V36 x 4 ∧ vi V36 x 4 ≤ 2147483647 := vi_ir
      have e48 : vi V45 x 5 = vi V36 x 5 := vi_fr hF44 h_x h_x (by decide +kernel)
      have q49 : -2147483648 ≤ vi V36 x 5 ∧ vi V36 x 5 ≤ 2147483647 := vi_ir
      exact GO.retv rfl rfl dX5_piece_98 ⟨rfl, rfl, by omega⟩
    ·
      refine GO.aload_n dX5_piece_32 rfl rfl ?_
      refine GO.bipush dX5_piece_33 rfl ?_
      have q50 : -2147483648 ≤ vi V x 4 ∧ vi V x 4 ≤ 2147483647 := vi_ir
      refine GO.callV (ci := 4) (N := mX5_deepen) dX5_piece_35 (RX5, TX5, 7) rfl gV_RX5_80 h_x (t_X5_deepen h_x (ir_c rfl) (by omega) (by omega)) rfl [] rfl rfl (Nat.le_of_ble_eq_true rfl) rfl (k_vs fun V53 h52 hF51 => ?_)
      refine GO.aload_n dX5_piece_38 rfl rfl ?_
      have q56 : -2147483648 ≤ vi V53 x 4 ∧ vi V53 x 4 ≤ 2147483647 := vi_ir
      have q57 : -2147483648 ≤ vi V53 x 5 ∧ vi V53 x 5 ≤ 2147483647 := vi_ir
      refine GO.callV (ci := 4) (N := mX5_parts_1) dX5_piece_39 (RX5, TX5, 7) rfl gV_RX5_83 h_x (t_X5_parts_1 h_x (by omega)) rfl [] rfl rfl (Nat.le_of_ble_eq_true rfl) rfl (k_vs fun V60 h59 hF58 => ?_)
      refine GO.aload_n dX5_piece_42 rfl rfl ?_
      refine GO.dup dX5_piece_43 rfl ?_
      refine GO.getI h_x fl_RX5_15 rfl rfl dX5_piece_44 (fun _ _ => ?_)
      refine GO.iconst dX5_piece_47 ?_
      refine GO.isub dX5_piece_48 ?_
      have q64 : -2147483648 ≤ vi V60 x 4 ∧ vi V60 x 4 ≤ 2147483647 := vi_ir
      refine GO.putI h_x fp_RX5_15 rfl (by decide +kernel) ⟨by omega, by omega⟩ (by omega) (by omega) dX5_piece_49 (fun V65 e63 => ?_)
      refine GO.aload_n dX5_piece_52 rfl rfl ?_
      refine GO.bipush dX5_piece_53 rfl ?_
      have e66 : vi V65 x 5 = vi V60 x 5 := vi_up e63 (Or.inr (by decide))
      refine GO.callV (ci := 4) (N := mX5_take) dX5_piece_55 (RX5, TX5, 7) rfl gV_RX5_38 h_x (t_X5_take h_x (ir_c rfl)) rfl [] rfl rfl (Nat.le_of_ble_eq_true rfl) rfl (k_vs fun V69 h68 hF67 => ?_)
      refine GO.goto (tgt := 98) dX5_piece_58 (by decide) ?_
      have e72 : vi V65 x 4 = (vi V60 x 4) - 1 := upd2_int e63 ⟨by omega, by omega⟩
      have e71 : vi V69 x 4 = vi V65 x 4 := vi_fr hF67 h_x h_x (by decide +kernel)
      have q73 : -2147483648 ≤ vi V69 x 5 ∧ vi V69 x 5 ≤ 2147483647 := vi_ir
      exact GO.retv rfl rfl dX5_piece_98 ⟨rfl, rfl, by omega⟩
  ·
    refine GO.aload_n dX5_piece_19 rfl rfl ?_
    have q74 : -2147483648 ≤ vi V x 4 ∧ vi V x 4 ≤ 2147483647 := vi_ir
    refine GO.callV (ci := 4) (N := mX5_negation_2) dX5_piece_20 (RX5, TX5, 7) rfl gV_RX5_99 h_x (t_X5_negation_2 h_x (by omega)) rfl [] rfl rfl (Nat.le_of_ble_eq_true rfl) rfl (k_vs fun V77 h76 hF75 => ?_)
    refine GO.goto (tgt := 98) dX5_piece_23 (by decide) ?_
    have q80 : -2147483648 ≤ vi V77 x 4 ∧ vi V77 x 4 ≤ 2147483647 := vi_ir
    have q81 : -2147483648 ≤ vi V77 x 5 ∧ vi V77 x 5 ≤ 2147483647 := vi_ir
    exact GO.retv rfl rfl dX5_piece_98 ⟨rfl, rfl, by omega⟩

theorem t_X5_piece_2 {K : Kmap} {V : Vmap} {x : Nat} (h_x : K x = some (0, 4)) (q_0 : (vi V x 5 ≠ 0 ∨ (vi V x 5 = 0 ∧ vi V x 4 ≥ 7 ∧ vi V x 4 ≤ 8))) : MC mX5_piece_2 K V [.ref x] (VS K (fun V1 => (vi V1 x 4 = vi V x 4 ∧ (vi V x 5 ≠ 0 → vi V1 x 5 ≠ 0)))) := by
  rcases q_0 with h | h
  · exact t_X5_piece_2_F h_x (by omega)
  · exact t_X5_piece_2_G h_x (by omega) (by omega) (by omega)
