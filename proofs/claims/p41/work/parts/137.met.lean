def mX12_at : MRec := (RX12, cX12_at, 3, (some .int), yX12_at, 1, 21, 0, 0, 0)
def mX12_about : MRec := (RX12, cX12_about, 3, (some .int), yX12_about, 1, 21, 0, 0, 0)
def mX12_sum : MRec := (RX12, cX12_sum, 2, (some .long), yX12_sum, 1, 22, 0, 0, 0)
def mX12_count : MRec := (RX12, cX12_count, 4, (some .int), yX12_count, 1, 22, 0, 0, 0)
def mX4_fill_t132 : MRec := (RX4, cX4_fill, 3, (none : Option Jvm.ClassFile.FieldType), yX4_fill, 0, 0, 0, 0, 20657999024695268717247353376024094994637646342633788102645274852325180976134729557037162826241102651487225375781979947008)
def mX0_init : MRec := (RX0, cX0_init, 1, (none : Option Jvm.ClassFile.FieldType), yX0_init, 1, 22, 8, 916, 4149515568880992958512407863691161151012446232242436899995678633252147028408772807732876073795067014360988727705281642122086611418293414247742569408278524824170528004570284690505728)
def mX8_init_k32 : MRec := (RX8, cX8_init, 3, (none : Option Jvm.ClassFile.FieldType), yX8_init, 1, 21, 1, 60, 531137992816767098689588206552468627329593117727031923199444138200403559860852242739162502265229285668889329486246501015346579337652707239409519978766587351943831270835393219031728128)
def mX1_init : MRec := (RX1, cX1_init, 1, (none : Option Jvm.ClassFile.FieldType), yX1_init, 2, 43, 8, 190, 539437023954529084606613022279850949631618010191516796999435452859784865483678059031961916363123493257465725259469102593711369639803530790025293728434815279317953634442196238079098880)
set_option maxHeartbeats 1000000 in
theorem t_X12_at {K : Kmap} {V : Vmap} {x : Nat} {p0 : Int} {p1 : Int} (h_x : K x = some (0, 11)) (r_p0 : ir p0) (r_p1 : ir p1) : MC mX12_at K V [.ref x, ti p0, ti p1] (IP K V (fun X => True)) := by
  refine MC.start 0 (by decide +kernel) rfl rfl rfl (ls0 := [some (.ref x), some (ti p0), some (ti p1)]) rfl ?_
  refine GO.aload_n dX12_at_0 rfl rfl ?_
  refine GO.iload_n dX12_at_1 rfl rfl ?_
  refine GO.callV (ci := 11) (N := mX12_isShip) dX12_at_2 (RX12, TX12, 151) rfl gV_RX12_618 h_x (t_X12_isShip h_x r_p0) rfl [] rfl rfl (Nat.le_of_ble_eq_true rfl) rfl (k_ip fun X1 r2 h3 => ?_)
  refine GO.if_ne (tgt := 10) dX12_at_5 (by decide) r2 (fun c4 => ?_) (fun c4 => ?_)
  ·
    have q5 := h3.2.1 (by omega)
    refine GO.iload_n dX12_at_10 rfl rfl ?_
    have q6 : -2147483648 ≤ p1 ∧ p1 ≤ 2147483647 := r_p1
    rcases (show (p1 < 0 ∨ 4 < p1) ∨ p1 = 0 ∨ p1 = 1 ∨ p1 = 2 ∨ p1 = 3 ∨ p1 = 4 by omega) with c7 | c7 | c7 | c7 | c7 | c7
    ·
      refine GO.tableOut (tgt := 79) dX12_at_11 r_p1 c7 (by decide) ?_
      refine GO.iconst dX12_at_79 ?_
      exact GO.reti rfl rfl dX12_at_80 ⟨rfl, rfl, _, rfl, (ir_c rfl), trivial⟩
    ·
      refine GO.tableAt (n := 0) (tgt := 44) dX12_at_11 (ir_c rfl) c7 (by decide) (by decide) rfl (by decide) ?_
      refine GO.aload_n dX12_at_44 rfl rfl ?_
      refine GO.getA (n := 10) h_x fl_RX12_217 rfl rfl rfl rfl dX12_at_45 (fun hv9 h8 => ?_)
      refine GO.iload_n dX12_at_48 rfl rfl ?_
      have q10 : -2147483648 ≤ p0 ∧ p0 ≤ 2147483647 := r_p0
      have q11 : -2147483648 ≤ vi V x 91 ∧ vi V x 91 ≤ 2147483647 := vi_ir
      refine GO.iald (t := 75) rfl rfl h8 r_p0 (by omega) (by omega) dX12_at_49 (fun _ _ => ?_)
      have q12 : -2147483648 ≤ vi V (vq V x 97) (p0).toNat ∧ vi V (vq V x 97) (p0).toNat ≤ 2147483647 := vi_ir
      exact GO.reti rfl rfl dX12_at_50 ⟨rfl, rfl, _, rfl, vi_ir, trivial⟩
    ·
      refine GO.tableAt (n := 1) (tgt := 51) dX12_at_11 (ir_c rfl) c7 (by decide) (by decide) rfl (by decide) ?_
      refine GO.aload_n dX12_at_51 rfl rfl ?_
      refine GO.getA (n := 10) h_x fl_RX12_220 rfl rfl rfl rfl dX12_at_52 (fun hv14 h13 => ?_)
      refine GO.iload_n dX12_at_55 rfl rfl ?_
      have q15 : -2147483648 ≤ p0 ∧ p0 ≤ 2147483647 := r_p0
      have q16 : -2147483648 ≤ vi V x 91 ∧ vi V x 91 ≤ 2147483647 := vi_ir
      refine GO.iald (t := 76) rfl rfl h13 r_p0 (by omega) (by omega) dX12_at_56 (fun _ _ => ?_)
      have q17 : -2147483648 ≤ vi V (vq V x 98) (p0).toNat ∧ vi V (vq V x 98) (p0).toNat ≤ 2147483647 := vi_ir
      exact GO.reti rfl rfl dX12_at_57 ⟨rfl, rfl, _, rfl, vi_ir, trivial⟩
    ·
      refine GO.tableAt (n := 2) (tgt := 58) dX12_at_11 (ir_c rfl) c7 (by decide) (by decide) rfl (by decide) ?_
      refine GO.aload_n dX12_at_58 rfl rfl ?_
      refine GO.getA (n := 10) h_x fl_RX12_223 rfl rfl rfl rfl dX12_at_59 (fun hv19 h18 => ?_)
      refine GO.iload_n dX12_at_62 rfl rfl ?_
      have q20 : -2147483648 ≤ p0 ∧ p0 ≤ 2147483647 := r_p0
      have q21 : -2147483648 ≤ vi V x 91 ∧ vi V x 91 ≤ 2147483647 := vi_ir
      refine GO.iald (t := 77) rfl rfl h18 r_p0 (by omega) (by omega) dX12_at_63 (fun _ _ => ?_)
      have q22 : -2147483648 ≤ vi V (vq V x 99) (p0).toNat ∧ vi V (vq V x 99) (p0).toNat ≤ 2147483647 := vi_ir
      exact GO.reti rfl rfl dX12_at_64 ⟨rfl, rfl, _, rfl, vi_ir, trivial⟩
    ·
      refine GO.tableAt (n := 3) (tgt := 65) dX12_at_11 (ir_c rfl) c7 (by decide) (by decide) rfl (by decide) ?_
      refine GO.aload_n dX12_at_65 rfl rfl ?_
      refine GO.getA (n := 10) h_x fl_RX12_226 rfl rfl rfl rfl dX12_at_66 (fun hv24 h23 => ?_)
      refine GO.iload_n dX12_at_69 rfl rfl ?_
      have q25 : -2147483648 ≤ p0 ∧ p0 ≤ 2147483647 := r_p0
      have q26 : -2147483648 ≤ vi V x 91 ∧ vi V x 91 ≤ 2147483647 := vi_ir
      refine GO.iald (t := 78) rfl rfl h23 r_p0 (by omega) (by omega) dX12_at_70 (fun _ _ => ?_)
      have q27 : -2147483648 ≤ vi V (vq V x 100) (p0).toNat ∧ vi V (vq V x 100) (p0).toNat ≤ 2147483647 := vi_ir
      exact GO.reti rfl rfl dX12_at_71 ⟨rfl, rfl, _, rfl, vi_ir, trivial⟩
    ·
      refine GO.tableAt (n := 4) (tgt := 72) dX12_at_11 (ir_c rfl) c7 (by decide) (by decide) rfl (by decide) ?_
      refine GO.aload_n dX12_at_72 rfl rfl ?_
      refine GO.getA (n := 10) h_x fl_RX12_229 rfl rfl rfl rfl dX12_at_73 (fun hv29 h28 => ?_)
      refine GO.iload_n dX12_at_76 rfl rfl ?_
      have q30 : -2147483648 ≤ p0 ∧ p0 ≤ 2147483647 := r_p0
      have q31 : -2147483648 ≤ vi V x 91 ∧ vi V x 91 ≤ 2147483647 := vi_ir
      refine GO.iald (t := 79) rfl rfl h28 r_p0 (by omega) (by omega) dX12_at_77 (fun _ _ => ?_)
      have q32 : -2147483648 ≤ vi V (vq V x 101) (p0).toNat ∧ vi V (vq V x 101) (p0).toNat ≤ 2147483647 := vi_ir
      exact GO.reti rfl rfl dX12_at_78 ⟨rfl, rfl, _, rfl, vi_ir, trivial⟩
  ·
    have q33 := h3.2.2 (by omega)
    refine GO.iconst dX12_at_8 ?_
    exact GO.reti rfl rfl dX12_at_9 ⟨rfl, rfl, _, rfl, (ir_c rfl), trivial⟩

set_option maxHeartbeats 1000000 in
theorem t_X12_about {K : Kmap} {V : Vmap} {x : Nat} {p0 : Int} {p1 : Int} (h_x : K x = some (0, 11)) (r_p0 : ir p0) (r_p1 : ir p1) : MC mX12_about K V [.ref x, ti p0, ti p1] (IP K V (fun X => True)) := by
  refine MC.start 0 (by decide +kernel) rfl rfl rfl (ls0 := [some (.ref x), some (ti p0), some (ti p1)]) rfl ?_
  refine GO.aload_n dX12_about_0 rfl rfl ?_
  refine GO.iload_n dX12_about_1 rfl rfl ?_
  refine GO.callV (ci := 11) (N := mX12_isWork) dX12_about_2 (RX12, TX12, 151) rfl gV_RX12_566 h_x (t_X12_isWork h_x r_p0) rfl [] rfl rfl (Nat.le_of_ble_eq_true rfl) rfl (k_ip fun X1 r2 h3 => ?_)
  refine GO.if_ne (tgt := 10) dX12_about_5 (by decide) r2 (fun c4 => ?_) (fun c4 => ?_)
  ·
    have q5 := h3.2.1 (by omega)
    refine GO.iload_n dX12_about_10 rfl rfl ?_
    have q6 : -2147483648 ≤ p1 ∧ p1 ≤ 2147483647 := r_p1
    rcases (show (p1 < 0 ∨ 10 < p1) ∨ p1 = 0 ∨ p1 = 1 ∨ p1 = 2 ∨ p1 = 3 ∨ p1 = 4 ∨ p1 = 5 ∨ p1 = 6 ∨ p1 = 7 ∨ p1 = 8 ∨ p1 = 9 ∨ p1 = 10 by omega) with c7 | c7 | c7 | c7 | c7 | c7 | c7 | c7 | c7 | c7 | c7 | c7
    ·
      refine GO.tableOut (tgt := 145) dX12_about_11 r_p1 c7 (by decide) ?_
      refine GO.iconst dX12_about_145 ?_
      exact GO.reti rfl rfl dX12_about_146 ⟨rfl, rfl, _, rfl, (ir_c rfl), trivial⟩
    ·
      refine GO.tableAt (n := 0) (tgt := 68) dX12_about_11 (ir_c rfl) c7 (by decide) (by decide) rfl (by decide) ?_
      refine GO.aload_n dX12_about_68 rfl rfl ?_
      refine GO.getA (n := 100) h_x fl_RX12_163 rfl rfl rfl rfl dX12_about_69 (fun hv9 h8 => ?_)
      refine GO.iload_n dX12_about_72 rfl rfl ?_
      have q10 : -2147483648 ≤ p0 ∧ p0 ≤ 2147483647 := r_p0
      have q11 : -2147483648 ≤ vi V x 66 ∧ vi V x 66 ≤ 2147483647 := vi_ir
      refine GO.iald (t := 57) rfl rfl h8 r_p0 (by omega) (by omega) dX12_about_73 (fun _ _ => ?_)
      have q12 : -2147483648 ≤ vi V (vq V x 67) (p0).toNat ∧ vi V (vq V x 67) (p0).toNat ≤ 2147483647 := vi_ir
      exact GO.reti rfl rfl dX12_about_74 ⟨rfl, rfl, _, rfl, vi_ir, trivial⟩
    ·
      refine GO.tableAt (n := 1) (tgt := 75) dX12_about_11 (ir_c rfl) c7 (by decide) (by decide) rfl (by decide) ?_
      refine GO.aload_n dX12_about_75 rfl rfl ?_
      refine GO.getA (n := 100) h_x fl_RX12_166 rfl rfl rfl rfl dX12_about_76 (fun hv14 h13 => ?_)
      refine GO.iload_n dX12_about_79 rfl rfl ?_
      have q15 : -2147483648 ≤ p0 ∧ p0 ≤ 2147483647 := r_p0
      have q16 : -2147483648 ≤ vi V x 66 ∧ vi V x 66 ≤ 2147483647 := vi_ir
      refine GO.iald (t := 58) rfl rfl h13 r_p0 (by omega) (by omega) dX12_about_80 (fun l17 u18 => ?_)
      exact GO.reti rfl rfl dX12_about_81 ⟨rfl, rfl, _, rfl, vi_ir, trivial⟩
    ·
      refine GO.tableAt (n := 2) (tgt := 82) dX12_about_11 (ir_c rfl) c7 (by decide) (by decide) rfl (by decide) ?_
      refine GO.aload_n dX12_about_82 rfl rfl ?_
      refine GO.getA (n := 100) h_x fl_RX12_169 rfl rfl rfl rfl dX12_about_83 (fun hv20 h19 => ?_)
      refine GO.iload_n dX12_about_86 rfl rfl ?_
      have q21 : -2147483648 ≤ p0 ∧ p0 ≤ 2147483647 := r_p0
      have q22 : -2147483648 ≤ vi V x 66 ∧ vi V x 66 ≤ 2147483647 := vi_ir
      refine GO.iald (t := 59) rfl rfl h19 r_p0 (by omega) (by omega) dX12_about_87 (fun l23 u24 => ?_)
      exact GO.reti rfl rfl dX12_about_88 ⟨rfl, rfl, _, rfl, vi_ir, trivial⟩
    ·
      refine GO.tableAt (n := 3) (tgt := 89) dX12_about_11 (ir_c rfl) c7 (by decide) (by decide) rfl (by decide) ?_
      refine GO.aload_n dX12_about_89 rfl rfl ?_
      refine GO.getA (n := 100) h_x fl_RX12_172 rfl rfl rfl rfl dX12_about_90 (fun hv26 h25 => ?_)
      refine GO.iload_n dX12_about_93 rfl rfl ?_
      have q27 : -2147483648 ≤ p0 ∧ p0 ≤ 2147483647 := r_p0
      have q28 : -2147483648 ≤ vi V x 66 ∧ vi V x 66 ≤ 2147483647 := vi_ir
      refine GO.iald (t := 60) rfl rfl h25 r_p0 (by omega) (by omega) dX12_about_94 (fun _ _ => ?_)
      have q29 : -2147483648 ≤ vi V (vq V x 70) (p0).toNat ∧ vi V (vq V x 70) (p0).toNat ≤ 2147483647 := vi_ir
      exact GO.reti rfl rfl dX12_about_95 ⟨rfl, rfl, _, rfl, vi_ir, trivial⟩
    ·
      refine GO.tableAt (n := 4) (tgt := 96) dX12_about_11 (ir_c rfl) c7 (by decide) (by decide) rfl (by decide) ?_
      refine GO.aload_n dX12_about_96 rfl rfl ?_
      refine GO.getA (n := 100) h_x fl_RX12_175 rfl rfl rfl rfl dX12_about_97 (fun hv31 h30 => ?_)
      refine GO.iload_n dX12_about_100 rfl rfl ?_
      have q32 : -2147483648 ≤ p0 ∧ p0 ≤ 2147483647 := r_p0
      have q33 : -2147483648 ≤ vi V x 66 ∧ vi V x 66 ≤ 2147483647 := vi_ir
      refine GO.iald (t := 61) rfl rfl h30 r_p0 (by omega) (by omega) dX12_about_101 (fun _ _ => ?_)
      have q34 : -2147483648 ≤ vi V (vq V x 71) (p0).toNat ∧ vi V (vq V x 71) (p0).toNat ≤ 2147483647 := vi_ir
      exact GO.reti rfl rfl dX12_about_102 ⟨rfl, rfl, _, rfl, vi_ir, trivial⟩
    ·
      refine GO.tableAt (n := 5) (tgt := 103) dX12_about_11 (ir_c rfl) c7 (by decide) (by decide) rfl (by decide) ?_
      refine GO.aload_n dX12_about_103 rfl rfl ?_
      refine GO.getA (n := 100) h_x fl_RX12_184 rfl rfl rfl rfl dX12_about_104 (fun hv36 h35 => ?_)
      refine GO.iload_n dX12_about_107 rfl rfl ?_
      have q37 : -2147483648 ≤ p0 ∧ p0 ≤ 2147483647 := r_p0
      have q38 : -2147483648 ≤ vi V x 66 ∧ vi V x 66 ≤ 2147483647 := vi_ir
      refine GO.iald (t := 64) rfl rfl h35 r_p0 (by omega) (by omega) dX12_about_108 (fun _ _ => ?_)
      have q39 : -2147483648 ≤ vi V (vq V x 74) (p0).toNat ∧ vi V (vq V x 74) (p0).toNat ≤ 2147483647 := vi_ir
      exact GO.reti rfl rfl dX12_about_109 ⟨rfl, rfl, _, rfl, vi_ir, trivial⟩
    ·
      refine GO.tableAt (n := 6) (tgt := 110) dX12_about_11 (ir_c rfl) c7 (by decide) (by decide) rfl (by decide) ?_
      refine GO.aload_n dX12_about_110 rfl rfl ?_
      refine GO.getA (n := 100) h_x fl_RX12_187 rfl rfl rfl rfl dX12_about_111 (fun hv41 h40 => ?_)
      refine GO.iload_n dX12_about_114 rfl rfl ?_
      have q42 : -2147483648 ≤ p0 ∧ p0 ≤ 2147483647 := r_p0
      have q43 : -2147483648 ≤ vi V x 66 ∧ vi V x 66 ≤ 2147483647 := vi_ir
      refine GO.iald (t := 65) rfl rfl h40 r_p0 (by omega) (by omega) dX12_about_115 (fun _ _ => ?_)
      have q44 : -2147483648 ≤ vi V (vq V x 75) (p0).toNat ∧ vi V (vq V x 75) (p0).toNat ≤ 2147483647 := vi_ir
      exact GO.reti rfl rfl dX12_about_116 ⟨rfl, rfl, _, rfl, vi_ir, trivial⟩
    ·
      refine GO.tableAt (n := 7) (tgt := 117) dX12_about_11 (ir_c rfl) c7 (by decide) (by decide) rfl (by decide) ?_
      refine GO.aload_n dX12_about_117 rfl rfl ?_
      refine GO.getA (n := 100) h_x fl_RX12_190 rfl rfl rfl rfl dX12_about_118 (fun hv46 h45 => ?_)
      refine GO.iload_n dX12_about_121 rfl rfl ?_
      have q47 : -2147483648 ≤ p0 ∧ p0 ≤ 2147483647 := r_p0
      have q48 : -2147483648 ≤ vi V x 66 ∧ vi V x 66 ≤ 2147483647 := vi_ir
      refine GO.iald (t := 66) rfl rfl h45 r_p0 (by omega) (by omega) dX12_about_122 (fun _ _ => ?_)
      have q49 : -2147483648 ≤ vi V (vq V x 76) (p0).toNat ∧ vi V (vq V x 76) (p0).toNat ≤ 2147483647 := vi_ir
      exact GO.reti rfl rfl dX12_about_123 ⟨rfl, rfl, _, rfl, vi_ir, trivial⟩
    ·
      refine GO.tableAt (n := 8) (tgt := 124) dX12_about_11 (ir_c rfl) c7 (by decide) (by decide) rfl (by decide) ?_
      refine GO.aload_n dX12_about_124 rfl rfl ?_
      refine GO.getA (n := 100) h_x fl_RX12_193 rfl rfl rfl rfl dX12_about_125 (fun hv51 h50 => ?_)
      refine GO.iload_n dX12_about_128 rfl rfl ?_
      have q52 : -2147483648 ≤ p0 ∧ p0 ≤ 2147483647 := r_p0
      have q53 : -2147483648 ≤ vi V x 66 ∧ vi V x 66 ≤ 2147483647 := vi_ir
      refine GO.iald (t := 67) rfl rfl h50 r_p0 (by omega) (by omega) dX12_about_129 (fun _ _ => ?_)
      have q54 : -2147483648 ≤ vi V (vq V x 77) (p0).toNat ∧ vi V (vq V x 77) (p0).toNat ≤ 2147483647 := vi_ir
      exact GO.reti rfl rfl dX12_about_130 ⟨rfl, rfl, _, rfl, vi_ir, trivial⟩
    ·
      refine GO.tableAt (n := 9) (tgt := 131) dX12_about_11 (ir_c rfl) c7 (by decide) (by decide) rfl (by decide) ?_
      refine GO.aload_n dX12_about_131 rfl rfl ?_
      refine GO.getA (n := 100) h_x fl_RX12_196 rfl rfl rfl rfl dX12_about_132 (fun hv56 h55 => ?_)
      refine GO.iload_n dX12_about_135 rfl rfl ?_
      have q57 : -2147483648 ≤ p0 ∧ p0 ≤ 2147483647 := r_p0
      have q58 : -2147483648 ≤ vi V x 66 ∧ vi V x 66 ≤ 2147483647 := vi_ir
      refine GO.iald (t := 68) rfl rfl h55 r_p0 (by omega) (by omega) dX12_about_136 (fun _ _ => ?_)
      have q59 : -2147483648 ≤ vi V (vq V x 78) (p0).toNat ∧ vi V (vq V x 78) (p0).toNat ≤ 2147483647 := vi_ir
      exact GO.reti rfl rfl dX12_about_137 ⟨rfl, rfl, _, rfl, vi_ir, trivial⟩
    ·
      refine GO.tableAt (n := 10) (tgt := 138) dX12_about_11 (ir_c rfl) c7 (by decide) (by decide) rfl (by decide) ?_
      refine GO.aload_n dX12_about_138 rfl rfl ?_
      refine GO.getA (n := 100) h_x fl_RX12_199 rfl rfl rfl rfl dX12_about_139 (fun hv61 h60 => ?_)
      refine GO.iload_n dX12_about_142 rfl rfl ?_
      have q62 : -2147483648 ≤ p0 ∧ p0 ≤ 2147483647 := r_p0
      have q63 : -2147483648 ≤ vi V x 66 ∧ vi V x 66 ≤ 2147483647 := vi_ir
      refine GO.iald (t := 69) rfl rfl h60 r_p0 (by omega) (by omega) dX12_about_143 (fun _ _ => ?_)
      have q64 : -2147483648 ≤ vi V (vq V x 79) (p0).toNat ∧ vi V (vq V x 79) (p0).toNat ≤ 2147483647 := vi_ir
      exact GO.reti rfl rfl dX12_about_144 ⟨rfl, rfl, _, rfl, vi_ir, trivial⟩
  ·
    have q65 := h3.2.2 (by omega)
    refine GO.iconst dX12_about_8 ?_
    exact GO.reti rfl rfl dX12_about_9 ⟨rfl, rfl, _, rfl, (ir_c rfl), trivial⟩

set_option maxHeartbeats 1000000 in
theorem t_X12_sum {K : Kmap} {V : Vmap} {x : Nat} {p0 : Int} (h_x : K x = some (0, 11)) (r_p0 : ir p0) : MC mX12_sum K V [.ref x, ti p0] (JP K V) := by
  refine MC.start 0 (by decide +kernel) rfl rfl rfl (ls0 := [some (.ref x), some (ti p0)]) rfl ?_
  refine GO.iload_n dX12_sum_0 rfl rfl ?_
  have q1 : -2147483648 ≤ p0 ∧ p0 ≤ 2147483647 := r_p0
  rcases (show (p0 < 0 ∨ 7 < p0) ∨ p0 = 0 ∨ p0 = 1 ∨ p0 = 2 ∨ p0 = 3 ∨ p0 = 4 ∨ p0 = 5 ∨ p0 = 6 ∨ p0 = 7 by omega) with c2 | c2 | c2 | c2 | c2 | c2 | c2 | c2 | c2
  ·
    refine GO.tableOut (tgt := 88) dX12_sum_1 r_p0 c2 (by decide) ?_
    refine GO.iload_n dX12_sum_88 rfl rfl ?_
    refine GO.bipush dX12_sum_89 rfl ?_
    refine GO.bipush dX12_sum_91 rfl ?_
    refine GO.aload_n dX12_sum_93 rfl rfl ?_
    refine GO.getI h_x fl_RX12_393 rfl rfl dX12_sum_94 (fun l3 u4 => ?_)
    refine GO.iadd dX12_sum_97 ?_
    refine GO.callS (N := mX12_in) dX12_sum_98 gS_RX12_371 (t_X12_in r_p0 (ir_c rfl) ⟨by omega, by omega⟩) rfl [] rfl rfl (Nat.le_of_ble_eq_true rfl) rfl (k_ip fun X5 r6 h7 => ?_)
    have raw_in := h7.2.2.2
    have rw98 := h7.2.2.2
    refine GO.if_eq (tgt := 115) dX12_sum_101 (by decide) r6 (fun c8 => ?_) (fun c8 => ?_)
    ·
      have q9 := h7.2.2.1 (by omega)
      refine GO.iload_n dX12_sum_115 rfl rfl ?_
      refine GO.bipush dX12_sum_116 rfl ?_
      refine GO.bipush dX12_sum_118 rfl ?_
      refine GO.aload_n dX12_sum_120 rfl rfl ?_
      refine GO.getI h_x fl_RX12_667 rfl rfl dX12_sum_121 (fun l10 u11 => ?_)
      refine GO.iadd dX12_sum_124 ?_
      refine GO.callS (N := mX12_in) dX12_sum_125 gS_RX12_371 (t_X12_in r_p0 (ir_c rfl) ⟨by omega, by omega⟩) rfl [] rfl rfl (Nat.le_of_ble_eq_true rfl) rfl (k_ip fun X12 r13 h14 => ?_)
      have raw_in := h14.2.2.2
      have rw125 := h14.2.2.2
      refine GO.if_eq (tgt := 144) dX12_sum_128 (by decide) r13 (fun c15 => ?_) (fun c15 => ?_)
      ·
        have q16 := h14.2.2.1 (by omega)
        refine GO.ldc2 dX12_sum_144 gw_2536 ?_
        refine GO.anyL (fun z17 => ?_)
        exact GO.retl rfl rfl dX12_sum_147 ⟨rfl, rfl, _, rfl⟩
      ·
        have q18 := h14.2.1 (by omega)
        refine GO.aload_n dX12_sum_131 rfl rfl ?_
        refine GO.getA (n := 10) h_x fl_RX12_298 rfl rfl rfl rfl dX12_sum_132 (fun hv20 h19 => ?_)
        refine GO.iload_n dX12_sum_135 rfl rfl ?_
        refine GO.bipush dX12_sum_136 rfl ?_
        refine GO.isub dX12_sum_138 ?_
        refine GO.iald (t := 101) rfl rfl h19 ⟨by omega, by omega⟩ (by omega) (by omega) dX12_sum_139 (fun l21 u22 => ?_)
        refine GO.i2l dX12_sum_140 ?_
        refine GO.anyL (fun z23 => ?_)
        refine GO.goto (tgt := 147) dX12_sum_141 (by decide) ?_
        exact GO.retl rfl rfl dX12_sum_147 ⟨rfl, rfl, _, rfl⟩
    ·
      have q24 := h7.2.1 (by omega)
      refine GO.aload_n dX12_sum_104 rfl rfl ?_
      refine GO.getA (n := 9) h_x fl_RX12_32 rfl rfl rfl rfl dX12_sum_105 (fun hv26 h25 => ?_)
      refine GO.iload_n dX12_sum_108 rfl rfl ?_
      refine GO.bipush dX12_sum_109 rfl ?_
      refine GO.isub dX12_sum_111 ?_
      refine GO.iald (t := 14) rfl rfl h25 ⟨by omega, by omega⟩ (by omega) (by omega) dX12_sum_112 (fun _ _ => ?_)
      refine GO.i2l dX12_sum_113 ?_
      refine GO.anyL (fun z27 => ?_)
      exact GO.retl rfl rfl dX12_sum_114 ⟨rfl, rfl, _, rfl⟩
  ·
    refine GO.tableAt (n := 0) (tgt := 48) dX12_sum_1 (ir_c rfl) c2 (by decide) (by decide) rfl (by decide) ?_
    refine GO.aload_n dX12_sum_48 rfl rfl ?_
    refine GO.getL h_x fl_RX12_429 rfl rfl dX12_sum_49 ?_
    refine GO.anyL (fun z28 => ?_)
    exact GO.retl rfl rfl dX12_sum_52 ⟨rfl, rfl, _, rfl⟩
  ·
    refine GO.tableAt (n := 1) (tgt := 53) dX12_sum_1 (ir_c rfl) c2 (by decide) (by decide) rfl (by decide) ?_
    refine GO.aload_n dX12_sum_53 rfl rfl ?_
    refine GO.getL h_x fl_RX12_654 rfl rfl dX12_sum_54 ?_
    refine GO.anyL (fun z29 => ?_)
    exact GO.retl rfl rfl dX12_sum_57 ⟨rfl, rfl, _, rfl⟩
  ·
    refine GO.tableAt (n := 2) (tgt := 58) dX12_sum_1 (ir_c rfl) c2 (by decide) (by decide) rfl (by decide) ?_
    refine GO.aload_n dX12_sum_58 rfl rfl ?_
    refine GO.getL h_x fl_RX12_657 rfl rfl dX12_sum_59 ?_
    refine GO.anyL (fun z30 => ?_)
    exact GO.retl rfl rfl dX12_sum_62 ⟨rfl, rfl, _, rfl⟩
  ·
    refine GO.tableAt (n := 3) (tgt := 63) dX12_sum_1 (ir_c rfl) c2 (by decide) (by decide) rfl (by decide) ?_
    refine GO.aload_n dX12_sum_63 rfl rfl ?_
    refine GO.getL h_x fl_RX12_632 rfl rfl dX12_sum_64 ?_
    refine GO.anyL (fun z31 => ?_)
    exact GO.retl rfl rfl dX12_sum_67 ⟨rfl, rfl, _, rfl⟩
  ·
    refine GO.tableAt (n := 4) (tgt := 68) dX12_sum_1 (ir_c rfl) c2 (by decide) (by decide) rfl (by decide) ?_
    refine GO.aload_n dX12_sum_68 rfl rfl ?_
    refine GO.getL h_x fl_RX12_679 rfl rfl dX12_sum_69 ?_
    refine GO.anyL (fun z32 => ?_)
    exact GO.retl rfl rfl dX12_sum_72 ⟨rfl, rfl, _, rfl⟩
  ·
    refine GO.tableAt (n := 5) (tgt := 73) dX12_sum_1 (ir_c rfl) c2 (by decide) (by decide) rfl (by decide) ?_
    refine GO.aload_n dX12_sum_73 rfl rfl ?_
    refine GO.getL h_x fl_RX12_682 rfl rfl dX12_sum_74 ?_
    refine GO.anyL (fun z33 => ?_)
    exact GO.retl rfl rfl dX12_sum_77 ⟨rfl, rfl, _, rfl⟩
  ·
    refine GO.tableAt (n := 6) (tgt := 78) dX12_sum_1 (ir_c rfl) c2 (by decide) (by decide) rfl (by decide) ?_
    refine GO.aload_n dX12_sum_78 rfl rfl ?_
    refine GO.getL h_x fl_RX12_635 rfl rfl dX12_sum_79 ?_
    refine GO.anyL (fun z34 => ?_)
    exact GO.retl rfl rfl dX12_sum_82 ⟨rfl, rfl, _, rfl⟩
  ·
    refine GO.tableAt (n := 7) (tgt := 83) dX12_sum_1 (ir_c rfl) c2 (by decide) (by decide) rfl (by decide) ?_
    refine GO.aload_n dX12_sum_83 rfl rfl ?_
    refine GO.getL h_x fl_RX12_673 rfl rfl dX12_sum_84 ?_
    refine GO.anyL (fun z35 => ?_)
    exact GO.retl rfl rfl dX12_sum_87 ⟨rfl, rfl, _, rfl⟩

set_option maxHeartbeats 1000000 in
theorem t_X12_count {K : Kmap} {V : Vmap} {x : Nat} {p0 : Int} (h_x : K x = some (0, 11)) (r_p0 : ir p0) : MC mX12_count K V [.ref x, ti p0] (IP K V (fun X => True)) := by
  refine MC.start 2 (by decide +kernel) rfl rfl rfl (ls0 := [some (.ref x), some (ti p0), none, none]) rfl ?_
  refine GO.iconst dX12_count_0 ?_
  refine GO.istore_n (ls1 := [some (.ref x), some (ti p0), some (ti 0), none]) dX12_count_1 rfl rfl rfl ?_
  refine GO.iload_n dX12_count_2 rfl rfl ?_
  have q1 : -2147483648 ≤ p0 ∧ p0 ≤ 2147483647 := r_p0
  rcases (show (p0 < 0 ∨ 16 < p0) ∨ p0 = 0 ∨ p0 = 1 ∨ p0 = 2 ∨ p0 = 3 ∨ p0 = 4 ∨ p0 = 5 ∨ p0 = 6 ∨ p0 = 7 ∨ p0 = 8 ∨ p0 = 9 ∨ p0 = 10 ∨ p0 = 11 ∨ p0 = 12 ∨ p0 = 13 ∨ p0 = 14 ∨ p0 = 15 ∨ p0 = 16 by omega) with c2 | c2 | c2 | c2 | c2 | c2 | c2 | c2 | c2 | c2 | c2 | c2 | c2 | c2 | c2 | c2 | c2 | c2
  ·
    refine GO.tableOut (tgt := 199) dX12_count_3 r_p0 c2 (by decide) ?_
    refine GO.iload_n dX12_count_199 rfl rfl ?_
    refine GO.bipush dX12_count_200 rfl ?_
    refine GO.bipush dX12_count_202 rfl ?_
    refine GO.aload_n dX12_count_204 rfl rfl ?_
    refine GO.getI h_x fl_RX12_393 rfl rfl dX12_count_205 (fun l3 u4 => ?_)
    refine GO.iadd dX12_count_208 ?_
    refine GO.callS (N := mX12_in) dX12_count_209 gS_RX12_371 (t_X12_in r_p0 (ir_c rfl) ⟨by omega, by omega⟩) rfl [] rfl rfl (Nat.le_of_ble_eq_true rfl) rfl (k_ip fun X5 r6 h7 => ?_)
    have raw_in := h7.2.2.2
    have rw209 := h7.2.2.2
    refine GO.if_eq (tgt := 227) dX12_count_212 (by decide) r6 (fun c8 => ?_) (fun c8 => ?_)
    ·
      have q9 := h7.2.2.1 (by omega)
      refine GO.iconst dX12_count_227 ?_
      exact GO.reti rfl rfl dX12_count_228 ⟨rfl, rfl, _, rfl, (ir_c rfl), trivial⟩
    ·
      have q10 := h7.2.1 (by omega)
      refine GO.aload_n dX12_count_215 rfl rfl ?_
      refine GO.getA (n := 9) h_x fl_RX12_29 rfl rfl rfl rfl dX12_count_216 (fun hv12 h11 => ?_)
      refine GO.iload_n dX12_count_219 rfl rfl ?_
      refine GO.bipush dX12_count_220 rfl ?_
      refine GO.isub dX12_count_222 ?_
      refine GO.iald (t := 13) rfl rfl h11 ⟨by omega, by omega⟩ (by omega) (by omega) dX12_count_223 (fun _ _ => ?_)
      refine GO.goto (tgt := 228) dX12_count_224 (by decide) ?_
      have q13 : -2147483648 ≤ vi V (vq V x 11) (p0 - 20).toNat ∧ vi V (vq V x 11) (p0 - 20).toNat ≤ 2147483647 := vi_ir
      exact GO.reti rfl rfl dX12_count_228 ⟨rfl, rfl, _, rfl, vi_ir, trivial⟩
  ·
    refine GO.tableAt (n := 0) (tgt := 84) dX12_count_3 (ir_c rfl) c2 (by decide) (by decide) rfl (by decide) ?_
    refine GO.aload_n dX12_count_84 rfl rfl ?_
    refine GO.getI h_x fl_RX12_396 rfl rfl dX12_count_85 (fun l14 u15 => ?_)
    exact GO.reti rfl rfl dX12_count_88 ⟨rfl, rfl, _, rfl, vi_ir, trivial⟩
  ·
    refine GO.tableAt (n := 1) (tgt := 89) dX12_count_3 (ir_c rfl) c2 (by decide) (by decide) rfl (by decide) ?_
    refine GO.aload_n dX12_count_89 rfl rfl ?_
    refine GO.getI h_x fl_RX12_365 rfl rfl dX12_count_90 (fun l16 u17 => ?_)
    exact GO.reti rfl rfl dX12_count_93 ⟨rfl, rfl, _, rfl, vi_ir, trivial⟩
  ·
    refine GO.tableAt (n := 2) (tgt := 94) dX12_count_3 (ir_c rfl) c2 (by decide) (by decide) rfl (by decide) ?_
    refine GO.aload_n dX12_count_94 rfl rfl ?_
    refine GO.getI h_x fl_RX12_368 rfl rfl dX12_count_95 (fun l18 u19 => ?_)
    exact GO.reti rfl rfl dX12_count_98 ⟨rfl, rfl, _, rfl, vi_ir, trivial⟩
  ·
    refine GO.tableAt (n := 3) (tgt := 99) dX12_count_3 (ir_c rfl) c2 (by decide) (by decide) rfl (by decide) ?_
    refine GO.aload_n dX12_count_99 rfl rfl ?_
    refine GO.getI h_x fl_RX12_393 rfl rfl dX12_count_100 (fun l20 u21 => ?_)
    exact GO.reti rfl rfl dX12_count_103 ⟨rfl, rfl, _, rfl, vi_ir, trivial⟩
  ·
    refine GO.tableAt (n := 4) (tgt := 104) dX12_count_3 (ir_c rfl) c2 (by decide) (by decide) rfl (by decide) ?_
    refine GO.aload_n dX12_count_104 rfl rfl ?_
    refine GO.getI h_x fl_RX12_375 rfl rfl dX12_count_105 (fun l22 u23 => ?_)
    exact GO.reti rfl rfl dX12_count_108 ⟨rfl, rfl, _, rfl, vi_ir, trivial⟩
  ·
    refine GO.tableAt (n := 5) (tgt := 109) dX12_count_3 (ir_c rfl) c2 (by decide) (by decide) rfl (by decide) ?_
    refine GO.aload_n dX12_count_109 rfl rfl ?_
    refine GO.getI h_x fl_RX12_535 rfl rfl dX12_count_110 (fun l24 u25 => ?_)
    exact GO.reti rfl rfl dX12_count_113 ⟨rfl, rfl, _, rfl, vi_ir, trivial⟩
  ·
    refine GO.tableAt (n := 6) (tgt := 114) dX12_count_3 (ir_c rfl) c2 (by decide) (by decide) rfl (by decide) ?_
    refine GO.aload_n dX12_count_114 rfl rfl ?_
    refine GO.getI h_x fl_RX12_547 rfl rfl dX12_count_115 (fun l26 u27 => ?_)
    exact GO.reti rfl rfl dX12_count_118 ⟨rfl, rfl, _, rfl, vi_ir, trivial⟩
  ·
    refine GO.tableAt (n := 7) (tgt := 119) dX12_count_3 (ir_c rfl) c2 (by decide) (by decide) rfl (by decide) ?_
    refine GO.aload_n dX12_count_119 rfl rfl ?_
    refine GO.getI h_x fl_RX12_378 rfl rfl dX12_count_120 (fun l28 u29 => ?_)
    exact GO.reti rfl rfl dX12_count_123 ⟨rfl, rfl, _, rfl, vi_ir, trivial⟩
  ·
    refine GO.tableAt (n := 8) (tgt := 124) dX12_count_3 (ir_c rfl) c2 (by decide) (by decide) rfl (by decide) ?_
    refine GO.aload_n dX12_count_124 rfl rfl ?_
    refine GO.getI h_x fl_RX12_612 rfl rfl dX12_count_125 (fun l30 u31 => ?_)
    exact GO.reti rfl rfl dX12_count_128 ⟨rfl, rfl, _, rfl, vi_ir, trivial⟩
  ·
    refine GO.tableAt (n := 9) (tgt := 129) dX12_count_3 (ir_c rfl) c2 (by decide) (by decide) rfl (by decide) ?_
    refine GO.iconst dX12_count_129 ?_
    refine GO.istore_n (ls1 := [some (.ref x), some (ti p0), some (ti 0), some (ti 0)]) dX12_count_130 rfl rfl rfl ?_
    refine GO.loop2 (fun i32 i33 W => (-2147483648) ≤ i32 ∧ i32 ≤ 2147483647 ∧ 0 ≤ i33 ∧ i33 ≤ 40 ∧ V = W) (fun i32 i33 => [some (.ref x), some (ti p0), some (ti i32), some (ti i33)]) (fun i32 i33 W => (2147483647 - i33).toNat) 0 0 ⟨by omega, by omega, by omega, by omega, rfl⟩ rfl (fun i32 i33 V424 hp426 ih425 => ?_)
    obtain ⟨l_i32, u_i32, l_i33, u_i33, rfl⟩ := hp426
    have r_i32 : ir i32 := ⟨by omega, by omega⟩
    have r_i33 : ir i33 := ⟨by omega, by omega⟩
    show GO mX12_count K V (IP K V (fun X => True)) K V 0 0 131 [some (.ref x), some (ti p0), some (ti i32), some (ti i33)] []
    refine GO.iload_n dX12_count_131 rfl rfl ?_
    refine GO.aload_n dX12_count_132 rfl rfl ?_
    refine GO.getI h_x fl_RX12_648 rfl rfl dX12_count_133 (fun l427 u428 => ?_)
    refine GO.icmp_ge (tgt := 162) dX12_count_136 (by decide) r_i33 vi_ir (fun c429 => ?_) (fun c429 => ?_)
    ·
      refine GO.iload_n dX12_count_162 rfl rfl ?_
      exact GO.reti rfl rfl dX12_count_163 ⟨rfl, rfl, _, rfl, r_i32, trivial⟩
    ·
      refine GO.iload_n dX12_count_139 rfl rfl ?_
      refine GO.aload_n dX12_count_140 rfl rfl ?_
      refine GO.getA (n := 40) h_x fl_RX12_259 rfl rfl rfl rfl dX12_count_141 (fun hv431 h430 => ?_)
      refine GO.iload_n dX12_count_144 rfl rfl ?_
      refine GO.zald (t := 89) rfl rfl h430 r_i33 (by omega) (by omega) dX12_count_145 (fun l432 u433 => ?_)
      refine GO.if_eq (tgt := 153) dX12_count_146 (by decide) vi_ir (fun c434 => ?_) (fun c434 => ?_)
      ·
        refine GO.iconst dX12_count_153 ?_
        refine GO.iadd dX12_count_154 ?_
        refine GO.name (fun z435 hz436 => ?_)
        refine GO.istore_n (ls1 := [some (.ref x), some (ti p0), some (ti z435), some (ti i33)]) dX12_count_155 rfl rfl rfl ?_
        refine GO.iinc (X := i33) (n := 1) (Y := i33 + 1) (ls1 := [some (.ref x), some (ti p0), some (ti z435), some (ti (i33 + 1))]) dX12_count_156 rfl rfl rfl rfl ?_
        refine GO.goto (tgt := 131) dX12_count_159 (by decide) ?_
        exact ih425 z435 (i33 + 1) V ⟨by omega, by omega, by omega, by omega, rfl⟩ (by show (2147483647 - (i33 + 1)).toNat < (2147483647 - i33).toNat; omega)
      ·
        refine GO.iconst dX12_count_149 ?_
        refine GO.goto (tgt := 154) dX12_count_150 (by decide) ?_
        refine GO.iadd dX12_count_154 ?_
        refine GO.norm (fun z437 r438 hn439 => ?_)
        refine GO.istore_n (ls1 := [some (.ref x), some (ti p0), some (ti z437), some (ti i33)]) dX12_count_155 rfl rfl rfl ?_
        refine GO.iinc (X := i33) (n := 1) (Y := i33 + 1) (ls1 := [some (.ref x), some (ti p0), some (ti z437), some (ti (i33 + 1))]) dX12_count_156 rfl rfl rfl rfl ?_
        refine GO.goto (tgt := 131) dX12_count_159 (by decide) ?_
        have q440 : -2147483648 ≤ z437 ∧ z437 ≤ 2147483647 := r438
        exact ih425 z437 (i33 + 1) V ⟨by omega, by omega, by omega, by omega, rfl⟩ (by show (2147483647 - (i33 + 1)).toNat < (2147483647 - i33).toNat; omega)
  ·
    refine GO.tableAt (n := 10) (tgt := 164) dX12_count_3 (ir_c rfl) c2 (by decide) (by decide) rfl (by decide) ?_
    refine GO.aload_n dX12_count_164 rfl rfl ?_
    refine GO.getI h_x fl_RX12_660 rfl rfl dX12_count_165 (fun l441 u442 => ?_)
    exact GO.reti rfl rfl dX12_count_168 ⟨rfl, rfl, _, rfl, vi_ir, trivial⟩
  ·
    refine GO.tableAt (n := 11) (tgt := 169) dX12_count_3 (ir_c rfl) c2 (by decide) (by decide) rfl (by decide) ?_
    refine GO.aload_n dX12_count_169 rfl rfl ?_
    refine GO.getI h_x fl_RX12_667 rfl rfl dX12_count_170 (fun l443 u444 => ?_)
    exact GO.reti rfl rfl dX12_count_173 ⟨rfl, rfl, _, rfl, vi_ir, trivial⟩
  ·
    refine GO.tableAt (n := 12) (tgt := 174) dX12_count_3 (ir_c rfl) c2 (by decide) (by decide) rfl (by decide) ?_
    refine GO.aload_n dX12_count_174 rfl rfl ?_
    refine GO.getI h_x fl_RX12_709 rfl rfl dX12_count_175 (fun l445 u446 => ?_)
    exact GO.reti rfl rfl dX12_count_178 ⟨rfl, rfl, _, rfl, vi_ir, trivial⟩
  ·
    refine GO.tableAt (n := 13) (tgt := 179) dX12_count_3 (ir_c rfl) c2 (by decide) (by decide) rfl (by decide) ?_
    refine GO.aload_n dX12_count_179 rfl rfl ?_
    refine GO.getI h_x fl_RX12_718 rfl rfl dX12_count_180 (fun l447 u448 => ?_)
    exact GO.reti rfl rfl dX12_count_183 ⟨rfl, rfl, _, rfl, vi_ir, trivial⟩
  ·
    refine GO.tableAt (n := 14) (tgt := 184) dX12_count_3 (ir_c rfl) c2 (by decide) (by decide) rfl (by decide) ?_
    refine GO.aload_n dX12_count_184 rfl rfl ?_
    refine GO.getI h_x fl_RX12_736 rfl rfl dX12_count_185 (fun l449 u450 => ?_)
    exact GO.reti rfl rfl dX12_count_188 ⟨rfl, rfl, _, rfl, vi_ir, trivial⟩
  ·
    refine GO.tableAt (n := 15) (tgt := 189) dX12_count_3 (ir_c rfl) c2 (by decide) (by decide) rfl (by decide) ?_
    refine GO.aload_n dX12_count_189 rfl rfl ?_
    refine GO.getI h_x fl_RX12_761 rfl rfl dX12_count_190 (fun l451 u452 => ?_)
    exact GO.reti rfl rfl dX12_count_193 ⟨rfl, rfl, _, rfl, vi_ir, trivial⟩
  ·
    refine GO.tableAt (n := 16) (tgt := 194) dX12_count_3 (ir_c rfl) c2 (by decide) (by decide) rfl (by decide) ?_
    refine GO.aload_n dX12_count_194 rfl rfl ?_
    refine GO.getI h_x fl_RX12_436 rfl rfl dX12_count_195 (fun l453 u454 => ?_)
    exact GO.reti rfl rfl dX12_count_198 ⟨rfl, rfl, _, rfl, vi_ir, trivial⟩

set_option maxHeartbeats 1000000 in
theorem t_X4_fill_t132 {K : Kmap} {V : Vmap} {p0 n_p0 : Nat} {p1 : Int} (h_p0 : K p0 = some (133, n_p0)) (r_p1 : ir p1) (q_0 : p1 ≥ 0) (q_1 : p1 ≤ 90) : MC mX4_fill_t132 K V [.ref p0, ti p1] (VS K (fun V1 => (True) ∧ (FLL V V1 p0 n_p0 p1))) := by
  refine MC.start 1 (by decide +kernel) rfl rfl rfl (ls0 := [some (.ref p0), some (ti p1), none]) rfl ?_
  refine GO.aload_n dX4_fill_0 rfl rfl ?_
  refine GO.ifnonnull (tgt := 5) dX4_fill_1 (by decide) ?_
  refine GO.iconst dX4_fill_5 ?_
  refine GO.istore_n (ls1 := [some (.ref p0), some (ti p1), some (ti 0)]) dX4_fill_6 rfl rfl rfl ?_
  refine GO.loop1 (fun i1 W => 0 ≤ i1 ∧ i1 ≤ 5000 ∧ (FLI V W p0 p1 i1) ∧ True) (fun i1 => [some (.ref p0), some (ti p1), some (ti i1)]) (fun i1 W => (2147483647 - i1).toNat) 0 ⟨by omega, by omega, (by first | exact FLI.beg), trivial⟩ rfl (fun i1 Wi1 hp48 ih47 => ?_)
  obtain ⟨l_i1, u_i1, hfl, -⟩ := hp48
  have r_i1 : ir i1 := ⟨by omega, by omega⟩
  show GO mX4_fill_t132 K V (VS K (fun V1 => (True) ∧ (FLL V V1 p0 n_p0 p1))) K Wi1 0 0 7 [some (.ref p0), some (ti p1), some (ti i1)] []
  refine GO.iload_n dX4_fill_7 rfl rfl ?_
  refine GO.aload_n dX4_fill_8 rfl rfl ?_
  refine GO.alen h_p0 dX4_fill_9 (fun h49 => ?_)
  refine GO.icmp_ge (tgt := 23) dX4_fill_10 (by decide) r_i1 ⟨by omega, by omega⟩ (fun c50 => ?_) (fun c50 => ?_)
  ·
    exact GO.retv rfl rfl dX4_fill_23 ⟨rfl, rfl, ⟨trivial, FLI.end hfl (by omega)⟩⟩
  ·
    refine GO.aload_n dX4_fill_13 rfl rfl ?_
    refine GO.iload_n dX4_fill_14 rfl rfl ?_
    refine GO.iload_n dX4_fill_15 rfl rfl ?_
    have q52 : -2147483648 ≤ p1 ∧ p1 ≤ 2147483647 := r_p1
    refine GO.iast (t := 132) rfl rfl (by decide +kernel) h_p0 r_i1 (by omega) (by omega) r_p1 (by omega) (by omega) dX4_fill_16 (fun V53 e51 => ?_)
    refine GO.iinc (X := i1) (n := 1) (Y := i1 + 1) (ls1 := [some (.ref p0), some (ti p1), some (ti (i1 + 1))]) dX4_fill_17 rfl rfl rfl rfl ?_
    refine GO.goto (tgt := 7) dX4_fill_20 (by decide) ?_
    exact ih47 (i1 + 1) V53 ⟨by omega, by omega, (by first | exact FLI.beg | exact FLI.step hfl (by assumption) (by assumption) (by omega) (by omega)), trivial⟩ (by show (2147483647 - (i1 + 1)).toNat < (2147483647 - i1).toNat; omega)

set_option maxHeartbeats 1000000 in
theorem t_X0_init {K : Kmap} {V : Vmap} {x : Nat} (h_x : K x = some (0, 12)) : MC mX0_init K V [.ref x] (VX (fun K1 V1 => (K1 x = some (0, 0) ∧ vi V1 x 0 = 0 ∧ vi V1 x 3 = 8 ∧ vi V1 x 4 = 8 ∧ (LDZ K1 V1 x)) ∧ KE K K1 x)) := by
  refine MC.start 0 (by decide +kernel) rfl rfl rfl (ls0 := [some (.ref x)]) rfl ?_
  refine GO.aload_n dX0_init_0 rfl rfl ?_
  refine GO.objInit dX0_init_1 gw_34 gw_27 gw_28 rfl rfl ?_
  refine GO.aload_n dX0_init_4 rfl rfl ?_
  refine GO.iconst dX0_init_5 ?_
  refine GO.putRW rfl (by decide +kernel) h_x fp_raw_fp_RX0_9 rfl rfl dX0_init_6 (fun V2 e1 => ?_)
  refine GO.aload_n dX0_init_9 rfl rfl ?_
  refine GO.bipush dX0_init_10 rfl ?_
  refine GO.putRW rfl (by decide +kernel) h_x fp_raw_fp_RX0_15 rfl rfl dX0_init_12 (fun V4 e3 => ?_)
  refine GO.aload_n dX0_init_15 rfl rfl ?_
  refine GO.sipush dX0_init_16 rfl ?_
  refine GO.putRW rfl (by decide +kernel) h_x fp_raw_fp_RX0_18 rfl rfl dX0_init_19 (fun V6 e5 => ?_)
  refine GO.aload_n dX0_init_22 rfl rfl ?_
  refine GO.bipush dX0_init_23 rfl ?_
  refine GO.putRW rfl (by decide +kernel) h_x fp_raw_fp_RX0_21 rfl rfl dX0_init_25 (fun V8 e7 => ?_)
  refine GO.aload_n dX0_init_28 rfl rfl ?_
  refine GO.bipush dX0_init_29 rfl ?_
  refine GO.putRW rfl (by decide +kernel) h_x fp_raw_fp_RX0_24 rfl rfl dX0_init_31 (fun V10 e9 => ?_)
  refine GO.aload_n dX0_init_34 rfl rfl ?_
  refine GO.sipush dX0_init_35 rfl ?_
  refine GO.newT (atype := .int) 125 144 gw_89 rfl rfl (fun _ _ h => h) rfl rfl rfl (Or.inr rfl) (fun _ => okv_df rfl rfl rfl) rfl rfl dX0_init_38 (fun o11 K12 V18 hq13 hK14 hE15 h16 hz19 hV17 => ?_)
  have h20 := (by rw [hK14, updK_ne (K_old h_x hq13)]; exact h_x : K12 x = some (0, 12))
  have h21 := KE.nw KE.rf h_x hq13
  refine GO.putRF rfl rfl (by decide +kernel) h20 fp_raw_fp_RX0_27 rfl rfl dX0_init_40 (fun V23 e22 => ?_)
  refine GO.aload_n dX0_init_43 rfl rfl ?_
  refine GO.sipush dX0_init_44 rfl ?_
  refine GO.newT (atype := .int) 126 144 gw_89 rfl rfl (fun _ _ h => h) rfl rfl rfl (Or.inr rfl) (fun _ => okv_df rfl rfl rfl) rfl rfl dX0_init_47 (fun o24 K25 V31 hq26 hK27 hE28 h29 hz32 hV30 => ?_)
  have h33 := (by rw [hK27, updK_ne (K_old h20 hq26)]; exact h20 : K25 x = some (0, 12))
  have h34 := hE28.arr h16
  have h35 := KE.nw (KE.new KE.rf hq13 hK14) h20 hq26
  refine GO.putRF rfl rfl (by decide +kernel) h33 fp_raw_fp_RX0_31 rfl rfl dX0_init_49 (fun V37 e36 => ?_)
  refine GO.aload_n dX0_init_52 rfl rfl ?_
  refine GO.sipush dX0_init_53 rfl ?_
  refine GO.newT (atype := .int) 127 144 gw_89 rfl rfl (fun _ _ h => h) rfl rfl rfl (Or.inr rfl) (fun _ => okv_df rfl rfl rfl) rfl rfl dX0_init_56 (fun o38 K39 V45 hq40 hK41 hE42 h43 hz46 hV44 => ?_)
  have h47 := (by rw [hK41, updK_ne (K_old h33 hq40)]; exact h33 : K39 x = some (0, 12))
  have h48 := hE42.arr h34
  have h49 := hE42.arr h29
  have h50 := KE.nw (KE.new (KE.new KE.rf hq13 hK14) hq26 hK27) h33 hq40
  refine GO.putRF rfl rfl (by decide +kernel) h47 fp_raw_fp_RX0_34 rfl rfl dX0_init_58 (fun V52 e51 => ?_)
  refine GO.aload_n dX0_init_61 rfl rfl ?_
  refine GO.sipush dX0_init_62 rfl ?_
  refine GO.newT (atype := .int) 128 144 gw_89 rfl rfl (fun _ _ h => h) rfl rfl rfl (Or.inr rfl) (fun _ => okv_df rfl rfl rfl) rfl rfl dX0_init_65 (fun o53 K54 V60 hq55 hK56 hE57 h58 hz61 hV59 => ?_)
  have h62 := (by rw [hK56, updK_ne (K_old h47 hq55)]; exact h47 : K54 x = some (0, 12))
  have h63 := hE57.arr h48
  have h64 := hE57.arr h49
  have h65 := hE57.arr h43
  have h66 := KE.nw (KE.new (KE.new (KE.new KE.rf hq13 hK14) hq26 hK27) hq40 hK41) h47 hq55
  refine GO.putRF rfl rfl (by decide +kernel) h62 fp_raw_fp_RX0_37 rfl rfl dX0_init_67 (fun V68 e67 => ?_)
  refine GO.aload_n dX0_init_70 rfl rfl ?_
  refine GO.bipush dX0_init_71 rfl ?_
  refine GO.newT (atype := .int) 131 48 gw_89 rfl rfl (fun _ _ h => h) rfl rfl rfl (Or.inr rfl) (fun _ => okv_df rfl rfl rfl) rfl rfl dX0_init_73 (fun o69 K70 V76 hq71 hK72 hE73 h74 hz77 hV75 => ?_)
  have h78 := (by rw [hK72, updK_ne (K_old h62 hq71)]; exact h62 : K70 x = some (0, 12))
  have h79 := hE73.arr h63
  have h80 := hE73.arr h64
  have h81 := hE73.arr h65
  have h82 := hE73.arr h58
  have h83 := KE.nw (KE.new (KE.new (KE.new (KE.new KE.rf hq13 hK14) hq26 hK27) hq40 hK41) hq55 hK56) h62 hq71
  refine GO.putRF rfl rfl (by decide +kernel) h78 fp_raw_fp_RX0_40 rfl rfl dX0_init_75 (fun V85 e84 => ?_)
  refine GO.aload_n dX0_init_78 rfl rfl ?_
  refine GO.iconst dX0_init_79 ?_
  refine GO.newT (atype := .int) 132 4 gw_89 rfl rfl (fun _ _ h => h) rfl rfl rfl (Or.inr rfl) (fun _ => okv_df rfl rfl rfl) rfl rfl dX0_init_80 (fun o86 K87 V93 hq88 hK89 hE90 h91 hz94 hV92 => ?_)
  have h95 := (by rw [hK89, updK_ne (K_old h78 hq88)]; exact h78 : K87 x = some (0, 12))
  have h96 := hE90.arr h79
  have h97 := hE90.arr h80
  have h98 := hE90.arr h81
  have h99 := hE90.arr h82
  have h100 := hE90.arr h74
  have h101 := KE.nw (KE.new (KE.new (KE.new (KE.new (KE.new KE.rf hq13 hK14) hq26 hK27) hq40 hK41) hq55 hK56) hq71 hK72) h78 hq88
  refine GO.putRF rfl rfl (by decide +kernel) h95 fp_raw_fp_RX0_43 rfl rfl dX0_init_82 (fun V103 e102 => ?_)
  refine GO.aload_n dX0_init_85 rfl rfl ?_
  refine GO.sipush dX0_init_86 rfl ?_
  refine GO.newT (atype := .int) 129 144 gw_89 rfl rfl (fun _ _ h => h) rfl rfl rfl (Or.inr rfl) (fun _ => okv_df rfl rfl rfl) rfl rfl dX0_init_89 (fun o104 K105 V111 hq106 hK107 hE108 h109 hz112 hV110 => ?_)
  have h113 := (by rw [hK107, updK_ne (K_old h95 hq106)]; exact h95 : K105 x = some (0, 12))
  have h114 := hE108.arr h96
  have h115 := hE108.arr h97
  have h116 := hE108.arr h98
  have h117 := hE108.arr h99
  have h118 := hE108.arr h100
  have h119 := hE108.arr h91
  have h120 := KE.nw (KE.new (KE.new (KE.new (KE.new (KE.new (KE.new KE.rf hq13 hK14) hq26 hK27) hq40 hK41) hq55 hK56) hq71 hK72) hq88 hK89) h95 hq106
  refine GO.putRF rfl rfl (by decide +kernel) h113 fp_raw_fp_RX0_46 rfl rfl dX0_init_91 (fun V122 e121 => ?_)
  refine GO.aload_n dX0_init_94 rfl rfl ?_
  refine GO.sipush dX0_init_95 rfl ?_
  refine GO.newT (atype := .int) 130 144 gw_89 rfl rfl (fun _ _ h => h) rfl rfl rfl (Or.inr rfl) (fun _ => okv_df rfl rfl rfl) rfl rfl dX0_init_98 (fun o123 K124 V130 hq125 hK126 hE127 h128 hz131 hV129 => ?_)
  have h132 := (by rw [hK126, updK_ne (K_old h113 hq125)]; exact h113 : K124 x = some (0, 12))
  have h133 := hE127.arr h114
  have h134 := hE127.arr h115
  have h135 := hE127.arr h116
  have h136 := hE127.arr h117
  have h137 := hE127.arr h118
  have h138 := hE127.arr h119
  have h139 := hE127.arr h109
  have h140 := KE.nw (KE.new (KE.new (KE.new (KE.new (KE.new (KE.new (KE.new KE.rf hq13 hK14) hq26 hK27) hq40 hK41) hq55 hK56) hq71 hK72) hq88 hK89) hq106 hK107) h113 hq125
  refine GO.putRF rfl rfl (by decide +kernel) h132 fp_raw_fp_RX0_49 rfl rfl dX0_init_100 (fun V142 e141 => ?_)
  refine GO.aload_n dX0_init_103 rfl rfl ?_
  refine GO.getRaw h132 fl_raw_fl_RX0_43 (Eq.trans (uq_ne e141 (Or.inr (by decide))) (Eq.trans (congrFun (hV129 _ (K_old h113 hq125)) _) (Eq.trans (uq_ne e121 (Or.inr (by decide))) (Eq.trans (congrFun (hV110 _ (K_old h95 hq106)) _) (uq_at e102))))) dX0_init_104 ?_
  refine GO.bipush dX0_init_107 rfl ?_
  refine GO.callS (N := mX4_fill_t132) dX0_init_109 gS_RX0_52 (t_X4_fill_t132 h138 (ir_c rfl) (by omega) (by omega)) rfl [] rfl rfl (Nat.le_of_ble_eq_true rfl) rfl (k_vs fun V145 h144 hF143 => ?_)
  have raw_fill := h144.2
  have rw109 := h144.2
  refine GO.aload_n dX0_init_112 rfl rfl ?_
  refine GO.getRaw h132 fl_raw_fl_RX0_34 (Eq.trans (hF143 _ _ _ h132 h132 (by decide +kernel)) (Eq.trans (uq_ne e141 (Or.inr (by decide))) (Eq.trans (congrFun (hV129 _ (K_old h113 hq125)) _) (Eq.trans (uq_ne e121 (Or.inr (by decide))) (Eq.trans (congrFun (hV110 _ (K_old h95 hq106)) _) (Eq.trans (uq_ne e102 (Or.inr (by decide))) (Eq.trans (congrFun (hV92 _ (K_old h78 hq88)) _) (Eq.trans (uq_ne e84 (Or.inr (by decide))) (Eq.trans (congrFun (hV75 _ (K_old h62 hq71)) _) (Eq.trans (uq_ne e67 (Or.inr (by decide))) (Eq.trans (congrFun (hV59 _ (K_old h47 hq55)) _) (uq_at e51)))))))))))) dX0_init_113 ?_
  refine GO.iconst dX0_init_116 ?_
  refine GO.callS (N := mX4_fill_t127) dX0_init_117 gS_RX0_52 (t_X4_fill_t127 h135 (ir_c rfl)) rfl [] rfl rfl (Nat.le_of_ble_eq_true rfl) rfl (k_vs fun V148 h147 hF146 => ?_)
  have raw_fill := h147.2
  have rw117 := h147.2
  refine GO.promote (ci := 0) rfl h132 (fun j hj => ?_) (fun K149 e150 hE151 h152 => ?_)
  ·
    have hj : j < 13 := hj
    match j, hj with
    | 0, _ => exact okv_at (Eq.trans (hF146 _ _ _ h132 h132 (by decide +kernel)) (Eq.trans (hF143 _ _ _ h132 h132 (by decide +kernel)) (Eq.trans (uq_ne e141 (Or.inr (by decide))) (Eq.trans (congrFun (hV129 _ (K_old h113 hq125)) _) (Eq.trans (uq_ne e121 (Or.inr (by decide))) (Eq.trans (congrFun (hV110 _ (K_old h95 hq106)) _) (Eq.trans (uq_ne e102 (Or.inr (by decide))) (Eq.trans (congrFun (hV92 _ (K_old h78 hq88)) _) (Eq.trans (uq_ne e84 (Or.inr (by decide))) (Eq.trans (congrFun (hV75 _ (K_old h62 hq71)) _) (Eq.trans (uq_ne e67 (Or.inr (by decide))) (Eq.trans (congrFun (hV59 _ (K_old h47 hq55)) _) (Eq.trans (uq_ne e51 (Or.inr (by decide))) (Eq.trans (congrFun (hV44 _ (K_old h33 hq40)) _) (Eq.trans (uq_ne e36 (Or.inr (by decide))) (Eq.trans (congrFun (hV30 _ (K_old h20 hq26)) _) (Eq.trans (uq_ne e22 (Or.inr (by decide))) (Eq.trans (congrFun (hV17 _ (K_old h_x hq13)) _) (Eq.trans (uq_ne e9 (Or.inr (by decide))) (Eq.trans (uq_ne e7 (Or.inr (by decide))) (Eq.trans (uq_ne e5 (Or.inr (by decide))) (Eq.trans (uq_ne e3 (Or.inr (by decide))) (uq_at e1))))))))))))))))))))))) (ir_c rfl) (by omega) (by omega)
    | 1, _ => exact okv_any (Eq.trans (hF146 _ _ _ h132 h132 (by decide +kernel)) (Eq.trans (hF143 _ _ _ h132 h132 (by decide +kernel)) (Eq.trans (uq_ne e141 (Or.inr (by decide))) (Eq.trans (congrFun (hV129 _ (K_old h113 hq125)) _) (Eq.trans (uq_ne e121 (Or.inr (by decide))) (Eq.trans (congrFun (hV110 _ (K_old h95 hq106)) _) (Eq.trans (uq_ne e102 (Or.inr (by decide))) (Eq.trans (congrFun (hV92 _ (K_old h78 hq88)) _) (Eq.trans (uq_ne e84 (Or.inr (by decide))) (Eq.trans (congrFun (hV75 _ (K_old h62 hq71)) _) (Eq.trans (uq_ne e67 (Or.inr (by decide))) (Eq.trans (congrFun (hV59 _ (K_old h47 hq55)) _) (Eq.trans (uq_ne e51 (Or.inr (by decide))) (Eq.trans (congrFun (hV44 _ (K_old h33 hq40)) _) (Eq.trans (uq_ne e36 (Or.inr (by decide))) (Eq.trans (congrFun (hV30 _ (K_old h20 hq26)) _) (Eq.trans (uq_ne e22 (Or.inr (by decide))) (Eq.trans (congrFun (hV17 _ (K_old h_x hq13)) _) (Eq.trans (uq_ne e9 (Or.inr (by decide))) (Eq.trans (uq_ne e7 (Or.inr (by decide))) (Eq.trans (uq_ne e5 (Or.inr (by decide))) (uq_at e3))))))))))))))))))))))
    | 2, _ => exact okv_any (Eq.trans (hF146 _ _ _ h132 h132 (by decide +kernel)) (Eq.trans (hF143 _ _ _ h132 h132 (by decide +kernel)) (Eq.trans (uq_ne e141 (Or.inr (by decide))) (Eq.trans (congrFun (hV129 _ (K_old h113 hq125)) _) (Eq.trans (uq_ne e121 (Or.inr (by decide))) (Eq.trans (congrFun (hV110 _ (K_old h95 hq106)) _) (Eq.trans (uq_ne e102 (Or.inr (by decide))) (Eq.trans (congrFun (hV92 _ (K_old h78 hq88)) _) (Eq.trans (uq_ne e84 (Or.inr (by decide))) (Eq.trans (congrFun (hV75 _ (K_old h62 hq71)) _) (Eq.trans (uq_ne e67 (Or.inr (by decide))) (Eq.trans (congrFun (hV59 _ (K_old h47 hq55)) _) (Eq.trans (uq_ne e51 (Or.inr (by decide))) (Eq.trans (congrFun (hV44 _ (K_old h33 hq40)) _) (Eq.trans (uq_ne e36 (Or.inr (by decide))) (Eq.trans (congrFun (hV30 _ (K_old h20 hq26)) _) (Eq.trans (uq_ne e22 (Or.inr (by decide))) (Eq.trans (congrFun (hV17 _ (K_old h_x hq13)) _) (Eq.trans (uq_ne e9 (Or.inr (by decide))) (Eq.trans (uq_ne e7 (Or.inr (by decide))) (uq_at e5)))))))))))))))))))))
    | 3, _ => exact okv_at (Eq.trans (hF146 _ _ _ h132 h132 (by decide +kernel)) (Eq.trans (hF143 _ _ _ h132 h132 (by decide +kernel)) (Eq.trans (uq_ne e141 (Or.inr (by decide))) (Eq.trans (congrFun (hV129 _ (K_old h113 hq125)) _) (Eq.trans (uq_ne e121 (Or.inr (by decide))) (Eq.trans (congrFun (hV110 _ (K_old h95 hq106)) _) (Eq.trans (uq_ne e102 (Or.inr (by decide))) (Eq.trans (congrFun (hV92 _ (K_old h78 hq88)) _) (Eq.trans (uq_ne e84 (Or.inr (by decide))) (Eq.trans (congrFun (hV75 _ (K_old h62 hq71)) _) (Eq.trans (uq_ne e67 (Or.inr (by decide))) (Eq.trans (congrFun (hV59 _ (K_old h47 hq55)) _) (Eq.trans (uq_ne e51 (Or.inr (by decide))) (Eq.trans (congrFun (hV44 _ (K_old h33 hq40)) _) (Eq.trans (uq_ne e36 (Or.inr (by decide))) (Eq.trans (congrFun (hV30 _ (K_old h20 hq26)) _) (Eq.trans (uq_ne e22 (Or.inr (by decide))) (Eq.trans (congrFun (hV17 _ (K_old h_x hq13)) _) (Eq.trans (uq_ne e9 (Or.inr (by decide))) (uq_at e7)))))))))))))))))))) (ir_c rfl) (by omega) (by omega)
    | 4, _ => exact okv_at (Eq.trans (hF146 _ _ _ h132 h132 (by decide +kernel)) (Eq.trans (hF143 _ _ _ h132 h132 (by decide +kernel)) (Eq.trans (uq_ne e141 (Or.inr (by decide))) (Eq.trans (congrFun (hV129 _ (K_old h113 hq125)) _) (Eq.trans (uq_ne e121 (Or.inr (by decide))) (Eq.trans (congrFun (hV110 _ (K_old h95 hq106)) _) (Eq.trans (uq_ne e102 (Or.inr (by decide))) (Eq.trans (congrFun (hV92 _ (K_old h78 hq88)) _) (Eq.trans (uq_ne e84 (Or.inr (by decide))) (Eq.trans (congrFun (hV75 _ (K_old h62 hq71)) _) (Eq.trans (uq_ne e67 (Or.inr (by decide))) (Eq.trans (congrFun (hV59 _ (K_old h47 hq55)) _) (Eq.trans (uq_ne e51 (Or.inr (by decide))) (Eq.trans (congrFun (hV44 _ (K_old h33 hq40)) _) (Eq.trans (uq_ne e36 (Or.inr (by decide))) (Eq.trans (congrFun (hV30 _ (K_old h20 hq26)) _) (Eq.trans (uq_ne e22 (Or.inr (by decide))) (Eq.trans (congrFun (hV17 _ (K_old h_x hq13)) _) (uq_at e9))))))))))))))))))) (ir_c rfl) (by omega) (by omega)
    | 5, _ => exact ⟨_, (Eq.trans (hF146 _ _ _ h132 h132 (by decide +kernel)) (Eq.trans (hF143 _ _ _ h132 h132 (by decide +kernel)) (Eq.trans (uq_ne e141 (Or.inr (by decide))) (Eq.trans (congrFun (hV129 _ (K_old h113 hq125)) _) (Eq.trans (uq_ne e121 (Or.inr (by decide))) (Eq.trans (congrFun (hV110 _ (K_old h95 hq106)) _) (Eq.trans (uq_ne e102 (Or.inr (by decide))) (Eq.trans (congrFun (hV92 _ (K_old h78 hq88)) _) (Eq.trans (uq_ne e84 (Or.inr (by decide))) (Eq.trans (congrFun (hV75 _ (K_old h62 hq71)) _) (Eq.trans (uq_ne e67 (Or.inr (by decide))) (Eq.trans (congrFun (hV59 _ (K_old h47 hq55)) _) (Eq.trans (uq_ne e51 (Or.inr (by decide))) (Eq.trans (congrFun (hV44 _ (K_old h33 hq40)) _) (Eq.trans (uq_ne e36 (Or.inr (by decide))) (Eq.trans (congrFun (hV30 _ (K_old h20 hq26)) _) (uq_at e22))))))))))))))))), ⟨_, h133⟩⟩
    | 6, _ => exact ⟨_, (Eq.trans (hF146 _ _ _ h132 h132 (by decide +kernel)) (Eq.trans (hF143 _ _ _ h132 h132 (by decide +kernel)) (Eq.trans (uq_ne e141 (Or.inr (by decide))) (Eq.trans (congrFun (hV129 _ (K_old h113 hq125)) _) (Eq.trans (uq_ne e121 (Or.inr (by decide))) (Eq.trans (congrFun (hV110 _ (K_old h95 hq106)) _) (Eq.trans (uq_ne e102 (Or.inr (by decide))) (Eq.trans (congrFun (hV92 _ (K_old h78 hq88)) _) (Eq.trans (uq_ne e84 (Or.inr (by decide))) (Eq.trans (congrFun (hV75 _ (K_old h62 hq71)) _) (Eq.trans (uq_ne e67 (Or.inr (by decide))) (Eq.trans (congrFun (hV59 _ (K_old h47 hq55)) _) (Eq.trans (uq_ne e51 (Or.inr (by decide))) (Eq.trans (congrFun (hV44 _ (K_old h33 hq40)) _) (uq_at e36))))))))))))))), ⟨_, h134⟩⟩
    | 7, _ => exact ⟨_, (Eq.trans (hF146 _ _ _ h132 h132 (by decide +kernel)) (Eq.trans (hF143 _ _ _ h132 h132 (by decide +kernel)) (Eq.trans (uq_ne e141 (Or.inr (by decide))) (Eq.trans (congrFun (hV129 _ (K_old h113 hq125)) _) (Eq.trans (uq_ne e121 (Or.inr (by decide))) (Eq.trans (congrFun (hV110 _ (K_old h95 hq106)) _) (Eq.trans (uq_ne e102 (Or.inr (by decide))) (Eq.trans (congrFun (hV92 _ (K_old h78 hq88)) _) (Eq.trans (uq_ne e84 (Or.inr (by decide))) (Eq.trans (congrFun (hV75 _ (K_old h62 hq71)) _) (Eq.trans (uq_ne e67 (Or.inr (by decide))) (Eq.trans (congrFun (hV59 _ (K_old h47 hq55)) _) (uq_at e51))))))))))))), ⟨_, h135⟩⟩
    | 8, _ => exact ⟨_, (Eq.trans (hF146 _ _ _ h132 h132 (by decide +kernel)) (Eq.trans (hF143 _ _ _ h132 h132 (by decide +kernel)) (Eq.trans (uq_ne e141 (Or.inr (by decide))) (Eq.trans (congrFun (hV129 _ (K_old h113 hq125)) _) (Eq.trans (uq_ne e121 (Or.inr (by decide))) (Eq.trans (congrFun (hV110 _ (K_old h95 hq106)) _) (Eq.trans (uq_ne e102 (Or.inr (by decide))) (Eq.trans (congrFun (hV92 _ (K_old h78 hq88)) _) (Eq.trans (uq_ne e84 (Or.inr (by decide))) (Eq.trans (congrFun (hV75 _ (K_old h62 hq71)) _) (uq_at e67))))))))))), ⟨_, h136⟩⟩
    | 9, _ => exact ⟨_, (Eq.trans (hF146 _ _ _ h132 h132 (by decide +kernel)) (Eq.trans (hF143 _ _ _ h132 h132 (by decide +kernel)) (Eq.trans (uq_ne e141 (Or.inr (by decide))) (Eq.trans (congrFun (hV129 _ (K_old h113 hq125)) _) (Eq.trans (uq_ne e121 (Or.inr (by decide))) (Eq.trans (congrFun (hV110 _ (K_old h95 hq106)) _) (Eq.trans (uq_ne e102 (Or.inr (by decide))) (Eq.trans (congrFun (hV92 _ (K_old h78 hq88)) _) (uq_at e84))))))))), ⟨_, h137⟩⟩
    | 10, _ => exact ⟨_, (Eq.trans (hF146 _ _ _ h132 h132 (by decide +kernel)) (Eq.trans (hF143 _ _ _ h132 h132 (by decide +kernel)) (Eq.trans (uq_ne e141 (Or.inr (by decide))) (Eq.trans (congrFun (hV129 _ (K_old h113 hq125)) _) (Eq.trans (uq_ne e121 (Or.inr (by decide))) (Eq.trans (congrFun (hV110 _ (K_old h95 hq106)) _) (uq_at e102))))))), ⟨_, h138⟩⟩
    | 11, _ => exact ⟨_, (Eq.trans (hF146 _ _ _ h132 h132 (by decide +kernel)) (Eq.trans (hF143 _ _ _ h132 h132 (by decide +kernel)) (Eq.trans (uq_ne e141 (Or.inr (by decide))) (Eq.trans (congrFun (hV129 _ (K_old h113 hq125)) _) (uq_at e121))))), ⟨_, h139⟩⟩
    | 12, _ => exact ⟨_, (Eq.trans (hF146 _ _ _ h132 h132 (by decide +kernel)) (Eq.trans (hF143 _ _ _ h132 h132 (by decide +kernel)) (uq_at e141))), ⟨_, h128⟩⟩
    | j + 13, hj => exact absurd hj (by omega)
  exact GO.retv rfl rfl dX0_init_120 ⟨rfl, ⟨h152, vi_at (Eq.trans (hF146 _ _ _ h132 h132 (by decide +kernel)) (Eq.trans (hF143 _ _ _ h132 h132 (by decide +kernel)) (Eq.trans (uq_ne e141 (Or.inr (by decide))) (Eq.trans (congrFun (hV129 _ (K_old h113 hq125)) _) (Eq.trans (uq_ne e121 (Or.inr (by decide))) (Eq.trans (congrFun (hV110 _ (K_old h95 hq106)) _) (Eq.trans (uq_ne e102 (Or.inr (by decide))) (Eq.trans (congrFun (hV92 _ (K_old h78 hq88)) _) (Eq.trans (uq_ne e84 (Or.inr (by decide))) (Eq.trans (congrFun (hV75 _ (K_old h62 hq71)) _) (Eq.trans (uq_ne e67 (Or.inr (by decide))) (Eq.trans (congrFun (hV59 _ (K_old h47 hq55)) _) (Eq.trans (uq_ne e51 (Or.inr (by decide))) (Eq.trans (congrFun (hV44 _ (K_old h33 hq40)) _) (Eq.trans (uq_ne e36 (Or.inr (by decide))) (Eq.trans (congrFun (hV30 _ (K_old h20 hq26)) _) (Eq.trans (uq_ne e22 (Or.inr (by decide))) (Eq.trans (congrFun (hV17 _ (K_old h_x hq13)) _) (Eq.trans (uq_ne e9 (Or.inr (by decide))) (Eq.trans (uq_ne e7 (Or.inr (by decide))) (Eq.trans (uq_ne e5 (Or.inr (by decide))) (Eq.trans (uq_ne e3 (Or.inr (by decide))) (uq_at e1))))))))))))))))))))))) (ir_c rfl), vi_at (Eq.trans (hF146 _ _ _ h132 h132 (by decide +kernel)) (Eq.trans (hF143 _ _ _ h132 h132 (by decide +kernel)) (Eq.trans (uq_ne e141 (Or.inr (by decide))) (Eq.trans (congrFun (hV129 _ (K_old h113 hq125)) _) (Eq.trans (uq_ne e121 (Or.inr (by decide))) (Eq.trans (congrFun (hV110 _ (K_old h95 hq106)) _) (Eq.trans (uq_ne e102 (Or.inr (by decide))) (Eq.trans (congrFun (hV92 _ (K_old h78 hq88)) _) (Eq.trans (uq_ne e84 (Or.inr (by decide))) (Eq.trans (congrFun (hV75 _ (K_old h62 hq71)) _) (Eq.trans (uq_ne e67 (Or.inr (by decide))) (Eq.trans (congrFun (hV59 _ (K_old h47 hq55)) _) (Eq.trans (uq_ne e51 (Or.inr (by decide))) (Eq.trans (congrFun (hV44 _ (K_old h33 hq40)) _) (Eq.trans (uq_ne e36 (Or.inr (by decide))) (Eq.trans (congrFun (hV30 _ (K_old h20 hq26)) _) (Eq.trans (uq_ne e22 (Or.inr (by decide))) (Eq.trans (congrFun (hV17 _ (K_old h_x hq13)) _) (Eq.trans (uq_ne e9 (Or.inr (by decide))) (uq_at e7)))))))))))))))))))) (ir_c rfl), vi_at (Eq.trans (hF146 _ _ _ h132 h132 (by decide +kernel)) (Eq.trans (hF143 _ _ _ h132 h132 (by decide +kernel)) (Eq.trans (uq_ne e141 (Or.inr (by decide))) (Eq.trans (congrFun (hV129 _ (K_old h113 hq125)) _) (Eq.trans (uq_ne e121 (Or.inr (by decide))) (Eq.trans (congrFun (hV110 _ (K_old h95 hq106)) _) (Eq.trans (uq_ne e102 (Or.inr (by decide))) (Eq.trans (congrFun (hV92 _ (K_old h78 hq88)) _) (Eq.trans (uq_ne e84 (Or.inr (by decide))) (Eq.trans (congrFun (hV75 _ (K_old h62 hq71)) _) (Eq.trans (uq_ne e67 (Or.inr (by decide))) (Eq.trans (congrFun (hV59 _ (K_old h47 hq55)) _) (Eq.trans (uq_ne e51 (Or.inr (by decide))) (Eq.trans (congrFun (hV44 _ (K_old h33 hq40)) _) (Eq.trans (uq_ne e36 (Or.inr (by decide))) (Eq.trans (congrFun (hV30 _ (K_old h20 hq26)) _) (Eq.trans (uq_ne e22 (Or.inr (by decide))) (Eq.trans (congrFun (hV17 _ (K_old h_x hq13)) _) (uq_at e9))))))))))))))))))) (ir_c rfl), (LDZ.mk (Eq.trans (hF146 _ _ _ h132 h132 (by decide +kernel)) (Eq.trans (hF143 _ _ _ h132 h132 (by decide +kernel)) (Eq.trans (uq_ne e141 (Or.inr (by decide))) (Eq.trans (congrFun (hV129 _ (K_old h113 hq125)) _) (Eq.trans (uq_ne e121 (Or.inr (by decide))) (Eq.trans (congrFun (hV110 _ (K_old h95 hq106)) _) (Eq.trans (uq_ne e102 (Or.inr (by decide))) (Eq.trans (congrFun (hV92 _ (K_old h78 hq88)) _) (Eq.trans (uq_ne e84 (Or.inr (by decide))) (Eq.trans (congrFun (hV75 _ (K_old h62 hq71)) _) (Eq.trans (uq_ne e67 (Or.inr (by decide))) (Eq.trans (congrFun (hV59 _ (K_old h47 hq55)) _) (Eq.trans (uq_ne e51 (Or.inr (by decide))) (Eq.trans (congrFun (hV44 _ (K_old h33 hq40)) _) (Eq.trans (uq_ne e36 (Or.inr (by decide))) (Eq.trans (congrFun (hV30 _ (K_old h20 hq26)) _) (Eq.trans (uq_ne e22 (Or.inr (by decide))) (Eq.trans (congrFun (hV17 _ (K_old h_x hq13)) _) (Eq.trans (uq_ne e9 (Or.inr (by decide))) (uq_at e7)))))))))))))))))))) (Eq.trans (hF146 _ _ _ h132 h132 (by decide +kernel)) (Eq.trans (hF143 _ _ _ h132 h132 (by decide +kernel)) (Eq.trans (uq_ne e141 (Or.inr (by decide))) (Eq.trans (congrFun (hV129 _ (K_old h113 hq125)) _) (Eq.trans (uq_ne e121 (Or.inr (by decide))) (Eq.trans (congrFun (hV110 _ (K_old h95 hq106)) _) (Eq.trans (uq_ne e102 (Or.inr (by decide))) (Eq.trans (congrFun (hV92 _ (K_old h78 hq88)) _) (Eq.trans (uq_ne e84 (Or.inr (by decide))) (Eq.trans (congrFun (hV75 _ (K_old h62 hq71)) _) (Eq.trans (uq_ne e67 (Or.inr (by decide))) (Eq.trans (congrFun (hV59 _ (K_old h47 hq55)) _) (Eq.trans (uq_ne e51 (Or.inr (by decide))) (Eq.trans (congrFun (hV44 _ (K_old h33 hq40)) _) (Eq.trans (uq_ne e36 (Or.inr (by decide))) (Eq.trans (congrFun (hV30 _ (K_old h20 hq26)) _) (Eq.trans (uq_ne e22 (Or.inr (by decide))) (Eq.trans (congrFun (hV17 _ (K_old h_x hq13)) _) (uq_at e9))))))))))))))))))) (Eq.trans (hF146 _ _ _ h132 h132 (by decide +kernel)) (Eq.trans (hF143 _ _ _ h132 h132 (by decide +kernel)) (Eq.trans (uq_ne e141 (Or.inr (by decide))) (Eq.trans (congrFun (hV129 _ (K_old h113 hq125)) _) (Eq.trans (uq_ne e121 (Or.inr (by decide))) (Eq.trans (congrFun (hV110 _ (K_old h95 hq106)) _) (Eq.trans (uq_ne e102 (Or.inr (by decide))) (Eq.trans (congrFun (hV92 _ (K_old h78 hq88)) _) (Eq.trans (uq_ne e84 (Or.inr (by decide))) (Eq.trans (congrFun (hV75 _ (K_old h62 hq71)) _) (Eq.trans (uq_ne e67 (Or.inr (by decide))) (Eq.trans (congrFun (hV59 _ (K_old h47 hq55)) _) (uq_at e51))))))))))))) (by rw [vq_of (Eq.trans (hF146 _ _ _ h132 h132 (by decide +kernel)) (Eq.trans (hF143 _ _ _ h132 h132 (by decide +kernel)) (Eq.trans (uq_ne e141 (Or.inr (by decide))) (Eq.trans (congrFun (hV129 _ (K_old h113 hq125)) _) (Eq.trans (uq_ne e121 (Or.inr (by decide))) (Eq.trans (congrFun (hV110 _ (K_old h95 hq106)) _) (Eq.trans (uq_ne e102 (Or.inr (by decide))) (Eq.trans (congrFun (hV92 _ (K_old h78 hq88)) _) (Eq.trans (uq_ne e84 (Or.inr (by decide))) (Eq.trans (congrFun (hV75 _ (K_old h62 hq71)) _) (Eq.trans (uq_ne e67 (Or.inr (by decide))) (Eq.trans (congrFun (hV59 _ (K_old h47 hq55)) _) (Eq.trans (uq_ne e51 (Or.inr (by decide))) (Eq.trans (congrFun (hV44 _ (K_old h33 hq40)) _) (Eq.trans (uq_ne e36 (Or.inr (by decide))) (Eq.trans (congrFun (hV30 _ (K_old h20 hq26)) _) (uq_at e22)))))))))))))))))]; exact (hE151.arr h133)) (by rw [vq_of (Eq.trans (hF146 _ _ _ h132 h132 (by decide +kernel)) (Eq.trans (hF143 _ _ _ h132 h132 (by decide +kernel)) (Eq.trans (uq_ne e141 (Or.inr (by decide))) (Eq.trans (congrFun (hV129 _ (K_old h113 hq125)) _) (Eq.trans (uq_ne e121 (Or.inr (by decide))) (Eq.trans (congrFun (hV110 _ (K_old h95 hq106)) _) (Eq.trans (uq_ne e102 (Or.inr (by decide))) (Eq.trans (congrFun (hV92 _ (K_old h78 hq88)) _) (Eq.trans (uq_ne e84 (Or.inr (by decide))) (Eq.trans (congrFun (hV75 _ (K_old h62 hq71)) _) (Eq.trans (uq_ne e67 (Or.inr (by decide))) (Eq.trans (congrFun (hV59 _ (K_old h47 hq55)) _) (Eq.trans (uq_ne e51 (Or.inr (by decide))) (Eq.trans (congrFun (hV44 _ (K_old h33 hq40)) _) (uq_at e36)))))))))))))))]; exact (hE151.arr h134)) (hE151.arr h135) (by rw [vq_of (Eq.trans (hF146 _ _ _ h132 h132 (by decide +kernel)) (Eq.trans (hF143 _ _ _ h132 h132 (by decide +kernel)) (Eq.trans (uq_ne e141 (Or.inr (by decide))) (Eq.trans (congrFun (hV129 _ (K_old h113 hq125)) _) (Eq.trans (uq_ne e121 (Or.inr (by decide))) (Eq.trans (congrFun (hV110 _ (K_old h95 hq106)) _) (Eq.trans (uq_ne e102 (Or.inr (by decide))) (Eq.trans (congrFun (hV92 _ (K_old h78 hq88)) _) (Eq.trans (uq_ne e84 (Or.inr (by decide))) (Eq.trans (congrFun (hV75 _ (K_old h62 hq71)) _) (uq_at e67)))))))))))]; exact (hE151.arr h136)) (ZR.mk (Eq.trans (hF146 _ _ _ h132 h132 (by decide +kernel)) (Eq.trans (hF143 _ _ _ h132 h132 (by decide +kernel)) (Eq.trans (uq_ne e141 (Or.inr (by decide))) (Eq.trans (congrFun (hV129 _ (K_old h113 hq125)) _) (Eq.trans (uq_ne e121 (Or.inr (by decide))) (Eq.trans (congrFun (hV110 _ (K_old h95 hq106)) _) (Eq.trans (uq_ne e102 (Or.inr (by decide))) (Eq.trans (congrFun (hV92 _ (K_old h78 hq88)) _) (Eq.trans (uq_ne e84 (Or.inr (by decide))) (Eq.trans (congrFun (hV75 _ (K_old h62 hq71)) _) (Eq.trans (uq_ne e67 (Or.inr (by decide))) (Eq.trans (congrFun (hV59 _ (K_old h47 hq55)) _) (Eq.trans (uq_ne e51 (Or.inr (by decide))) (Eq.trans (congrFun (hV44 _ (K_old h33 hq40)) _) (Eq.trans (uq_ne e36 (Or.inr (by decide))) (Eq.trans (congrFun (hV30 _ (K_old h20 hq26)) _) (uq_at e22))))))))))))))))) h21.1 (fun j => (Eq.trans (FRA hF146 h133 h133 (by decide +kernel) j) (Eq.trans (FRA hF143 h133 h133 (by decide +kernel) j) (Eq.trans (uq_ne e141 (Or.inl (K_ne h133 h132 (by decide)))) (Eq.trans (congrFun (hV129 _ (K_old h114 hq125)) j) (Eq.trans (uq_ne e121 (Or.inl (K_ne h114 h113 (by decide)))) (Eq.trans (congrFun (hV110 _ (K_old h96 hq106)) j) (Eq.trans (uq_ne e102 (Or.inl (K_ne h96 h95 (by decide)))) (Eq.trans (congrFun (hV92 _ (K_old h79 hq88)) j) (Eq.trans (uq_ne e84 (Or.inl (K_ne h79 h78 (by decide)))) (Eq.trans (congrFun (hV75 _ (K_old h63 hq71)) j) (Eq.trans (uq_ne e67 (Or.inl (K_ne h63 h62 (by decide)))) (Eq.trans (congrFun (hV59 _ (K_old h48 hq55)) j) (Eq.trans (uq_ne e51 (Or.inl (K_ne h48 h47 (by decide)))) (Eq.trans (congrFun (hV44 _ (K_old h34 hq40)) j) (Eq.trans (uq_ne e36 (Or.inl (K_ne h34 h33 (by decide)))) (Eq.trans (congrFun (hV30 _ (K_old h16 hq26)) j) (uq_ne e22 (Or.inl (K_ne h16 h20 (by decide))))))))))))))))))))) hz19) (ZR.mk (Eq.trans (hF146 _ _ _ h132 h132 (by decide +kernel)) (Eq.trans (hF143 _ _ _ h132 h132 (by decide +kernel)) (Eq.trans (uq_ne e141 (Or.inr (by decide))) (Eq.trans (congrFun (hV129 _ (K_old h113 hq125)) _) (Eq.trans (uq_ne e121 (Or.inr (by decide))) (Eq.trans (congrFun (hV110 _ (K_old h95 hq106)) _) (Eq.trans (uq_ne e102 (Or.inr (by decide))) (Eq.trans (congrFun (hV92 _ (K_old h78 hq88)) _) (Eq.trans (uq_ne e84 (Or.inr (by decide))) (Eq.trans (congrFun (hV75 _ (K_old h62 hq71)) _) (Eq.trans (uq_ne e67 (Or.inr (by decide))) (Eq.trans (congrFun (hV59 _ (K_old h47 hq55)) _) (Eq.trans (uq_ne e51 (Or.inr (by decide))) (Eq.trans (congrFun (hV44 _ (K_old h33 hq40)) _) (uq_at e36))))))))))))))) h35.1 (fun j => (Eq.trans (FRA hF146 h134 h134 (by decide +kernel) j) (Eq.trans (FRA hF143 h134 h134 (by decide +kernel) j) (Eq.trans (uq_ne e141 (Or.inl (K_ne h134 h132 (by decide)))) (Eq.trans (congrFun (hV129 _ (K_old h115 hq125)) j) (Eq.trans (uq_ne e121 (Or.inl (K_ne h115 h113 (by decide)))) (Eq.trans (congrFun (hV110 _ (K_old h97 hq106)) j) (Eq.trans (uq_ne e102 (Or.inl (K_ne h97 h95 (by decide)))) (Eq.trans (congrFun (hV92 _ (K_old h80 hq88)) j) (Eq.trans (uq_ne e84 (Or.inl (K_ne h80 h78 (by decide)))) (Eq.trans (congrFun (hV75 _ (K_old h64 hq71)) j) (Eq.trans (uq_ne e67 (Or.inl (K_ne h64 h62 (by decide)))) (Eq.trans (congrFun (hV59 _ (K_old h49 hq55)) j) (Eq.trans (uq_ne e51 (Or.inl (K_ne h49 h47 (by decide)))) (Eq.trans (congrFun (hV44 _ (K_old h29 hq40)) j) (uq_ne e36 (Or.inl (K_ne h29 h33 (by decide))))))))))))))))))) hz32) (ZR.mk (Eq.trans (hF146 _ _ _ h132 h132 (by decide +kernel)) (Eq.trans (hF143 _ _ _ h132 h132 (by decide +kernel)) (Eq.trans (uq_ne e141 (Or.inr (by decide))) (Eq.trans (congrFun (hV129 _ (K_old h113 hq125)) _) (Eq.trans (uq_ne e121 (Or.inr (by decide))) (Eq.trans (congrFun (hV110 _ (K_old h95 hq106)) _) (Eq.trans (uq_ne e102 (Or.inr (by decide))) (Eq.trans (congrFun (hV92 _ (K_old h78 hq88)) _) (Eq.trans (uq_ne e84 (Or.inr (by decide))) (Eq.trans (congrFun (hV75 _ (K_old h62 hq71)) _) (uq_at e67))))))))))) h66.1 (fun j => (Eq.trans (FRA hF146 h136 h136 (by decide +kernel) j) (Eq.trans (FRA hF143 h136 h136 (by decide +kernel) j) (Eq.trans (uq_ne e141 (Or.inl (K_ne h136 h132 (by decide)))) (Eq.trans (congrFun (hV129 _ (K_old h117 hq125)) j) (Eq.trans (uq_ne e121 (Or.inl (K_ne h117 h113 (by decide)))) (Eq.trans (congrFun (hV110 _ (K_old h99 hq106)) j) (Eq.trans (uq_ne e102 (Or.inl (K_ne h99 h95 (by decide)))) (Eq.trans (congrFun (hV92 _ (K_old h82 hq88)) j) (Eq.trans (uq_ne e84 (Or.inl (K_ne h82 h78 (by decide)))) (Eq.trans (congrFun (hV75 _ (K_old h58 hq71)) j) (uq_ne e67 (Or.inl (K_ne h58 h62 (by decide))))))))))))))) hz61) rw117 (by decide))⟩, KE.promote (KE.new (KE.new (KE.new (KE.new (KE.new (KE.new (KE.new (KE.new KE.rf hq13 hK14) hq26 hK27) hq40 hK41) hq55 hK56) hq71 hK72) hq88 hK89) hq106 hK107) hq125 hK126) e150⟩

set_option maxHeartbeats 1000000 in
theorem t_X8_init_k32 {K : Kmap} {V : Vmap} {x : Nat} {p0 : Int} {p1 : Int} (h_x : K x = some (0, 19)) (r_p0 : ir p0) (r_p1 : ir p1) (q_0 : p0 = 3) (q_1 : p1 = 20) : MC mX8_init_k32 K V [.ref x, ti p0, ti p1] (VX (fun K1 V1 => (K1 x = some (0, 32) ∧ vi V1 x 3 = 0) ∧ KE K K1 x)) := by
  refine MC.start 0 (by decide +kernel) rfl rfl rfl (ls0 := [some (.ref x), some (ti p0), some (ti p1)]) rfl ?_
  refine GO.aload_n dX8_init_0 rfl rfl ?_
  refine GO.objInit dX8_init_1 gw_103 gw_27 gw_28 rfl rfl ?_
  refine GO.aload_n dX8_init_4 rfl rfl ?_
  refine GO.iconst dX8_init_5 ?_
  refine GO.putRW rfl (by decide +kernel) h_x fp_raw_fp_RX8_9 rfl rfl dX8_init_6 (fun V2 e1 => ?_)
  refine GO.aload_n dX8_init_9 rfl rfl ?_
  refine GO.iload_n dX8_init_10 rfl rfl ?_
  refine GO.putRF rfl rfl (by decide +kernel) h_x fp_raw_fp_RX8_15 rfl rfl dX8_init_11 (fun V4 e3 => ?_)
  refine GO.aload_n dX8_init_14 rfl rfl ?_
  refine GO.iload_n dX8_init_15 rfl rfl ?_
  refine GO.putRF rfl rfl (by decide +kernel) h_x fp_raw_fp_RX8_18 rfl rfl dX8_init_16 (fun V6 e5 => ?_)
  refine GO.aload_n dX8_init_19 rfl rfl ?_
  refine GO.iconst dX8_init_20 ?_
  refine GO.iload_n dX8_init_21 rfl rfl ?_
  refine GO.iload_n dX8_init_22 rfl rfl ?_
  refine GO.imul dX8_init_23 ?_
  have q7 : -2147483648 ≤ p1 ∧ p1 ≤ 2147483647 := r_p1
  have q8 : -2147483648 ≤ p0 ∧ p0 ≤ 2147483647 := r_p0
  have m9 := mul_rng (a := p0) (b := p1) (A := 3) (B := 20) (by omega) (by omega) (by omega) (by omega)
  have m10 := mul_low (a := p0) (b := p1) (m := 3) (n := 20) (by omega) (by omega) (by omega) (by omega)
  refine GO.callS (N := mJ9_max_7cf53) dX8_init_24 gS_RX8_21 (t_J9_max_7cf53 (ir_c rfl) ⟨by omega, by omega⟩) rfl [.ref x] rfl rfl (Nat.le_of_ble_eq_true rfl) rfl (k_ip fun X11 r12 h13 => ?_)
  have q14 : -2147483648 ≤ X11 ∧ X11 ≤ 2147483647 := r12
  refine GO.newIT 154 60 gw_89 rfl rfl (fun _ _ => okv_df rfl rfl rfl) r12 (by omega) (by omega) rfl (Or.inr (by show _ = ((60 : Nat) : Int); omega)) rfl rfl dX8_init_27 (fun o15 K16 V22 hq17 hK18 hE19 h20 _ hV21 => ?_)
  have h23 := (by rw [hK18, updK_ne (K_old h_x hq17)]; exact h_x : K16 x = some (0, 19))
  have h24 := KE.nw KE.rf h_x hq17
  refine GO.putRF rfl rfl (by decide +kernel) h23 fp_raw_fp_RX8_27 rfl rfl dX8_init_29 (fun V26 e25 => ?_)
  refine GO.promoteT 32 rfl rfl h23 (fun j hj => ?_) (fun K27 e28 hE29 h30 => ?_)
  ·
    have hj : j < 4 := hj
    match j, hj with
    | 0, _ => exact okv_at (Eq.trans (uq_ne e25 (Or.inr (by decide))) (Eq.trans (congrFun (hV21 _ (K_old h_x hq17)) _) (Eq.trans (uq_ne e5 (Or.inr (by decide))) (uq_at e3)))) r_p0 (by omega) (by omega)
    | 1, _ => exact okv_at (Eq.trans (uq_ne e25 (Or.inr (by decide))) (Eq.trans (congrFun (hV21 _ (K_old h_x hq17)) _) (uq_at e5))) r_p1 (by omega) (by omega)
    | 2, _ => exact ⟨_, (uq_at e25), ⟨_, h20⟩⟩
    | 3, _ => exact okv_at (Eq.trans (uq_ne e25 (Or.inr (by decide))) (Eq.trans (congrFun (hV21 _ (K_old h_x hq17)) _) (Eq.trans (uq_ne e5 (Or.inr (by decide))) (Eq.trans (uq_ne e3 (Or.inr (by decide))) (uq_at e1))))) (ir_c rfl) (by omega) (by omega)
    | j + 4, hj => exact absurd hj (by omega)
  exact GO.retv rfl rfl dX8_init_32 ⟨rfl, ⟨h30, vi_at (Eq.trans (uq_ne e25 (Or.inr (by decide))) (Eq.trans (congrFun (hV21 _ (K_old h_x hq17)) _) (Eq.trans (uq_ne e5 (Or.inr (by decide))) (Eq.trans (uq_ne e3 (Or.inr (by decide))) (uq_at e1))))) (ir_c rfl)⟩, KE.promote (KE.new KE.rf hq17 hK18) e28⟩

set_option maxHeartbeats 1000000 in
theorem t_X1_init {K : Kmap} {V : Vmap} {x : Nat} (h_x : K x = some (0, 13)) : MC mX1_init K V [.ref x] (VX (fun K1 V1 => (K1 x = some (0, 1) ∧ vi V1 x 1 = 0 ∧ vi V1 x 7 = (-1) ∧ (RSZ K1 V1 x)) ∧ KE K K1 x)) := by
  refine MC.start 0 (by decide +kernel) rfl rfl rfl (ls0 := [some (.ref x)]) rfl ?_
  refine GO.aload_n dX1_init_0 rfl rfl ?_
  refine GO.objInit dX1_init_1 gw_95 gw_27 gw_28 rfl rfl ?_
  refine GO.aload_n dX1_init_4 rfl rfl ?_
  refine GO.bipush dX1_init_5 rfl ?_
  refine GO.newQ 8 20 8 rfl rfl gw_96 (List.mem_of_getElem? (i := 4) rfl) rfl rfl (Or.inr rfl) rfl rfl rfl dX1_init_7 (fun o1 K2 V8 hq3 hK4 hE5 h6 hz9 hV7 => ?_)
  have h10 := (by rw [hK4, updK_ne (K_old h_x hq3)]; exact h_x : K2 x = some (0, 13))
  have h11 := KE.nw KE.rf h_x hq3
  refine GO.putRF rfl rfl (by decide +kernel) h10 fp_raw_fp_RX1_11 rfl rfl dX1_init_10 (fun V13 e12 => ?_)
  refine GO.aload_n dX1_init_13 rfl rfl ?_
  refine GO.iconst dX1_init_14 ?_
  refine GO.putRW rfl (by decide +kernel) h10 fp_raw_fp_RX1_17 rfl rfl dX1_init_15 (fun V15 e14 => ?_)
  refine GO.aload_n dX1_init_18 rfl rfl ?_
  refine GO.new (ci := 19) (RX8, TX8, 4) tyX8 rfl rfl lays_7 tyX8_ok gw_98 gw_99 gw_5 rfl rfl dX1_init_19 (fun o16 K17 V23 hq18 hK19 hE20 h21 _ hV22 => ?_)
  have h24 := (by rw [hK19, updK_ne (K_old h10 hq18)]; exact h10 : K17 x = some (0, 13))
  have h25 := hE20.arr h6
  have h26 := KE.nw (KE.new KE.rf hq3 hK4) h10 hq18
  refine GO.dup dX1_init_22 rfl ?_
  refine GO.iconst dX1_init_23 ?_
  refine GO.bipush dX1_init_24 rfl ?_
  refine GO.callI (N := mX8_init_k32) dX1_init_26 gI_RX1_23 rfl (t_X8_init_k32 h21 (ir_c rfl) (ir_c rfl) (by omega) (by omega)) rfl [.ref o16, .ref x] rfl rfl (Nat.le_of_ble_eq_true rfl) rfl (k_vx fun K29 V31 h30 hE28 hF27 => ?_)
  have h32 := h30.2 _ _ (K_ne h24 h21 (by decide)) h24
  have h33 := h30.1.1
  have h34 := hE28.arr h25
  have q35 : vi V31 o16 3 = 0 := h30.1.2
  refine GO.putRF rfl rfl (by decide +kernel) h32 fp_raw_fp_RX1_26 rfl rfl dX1_init_29 (fun V37 e36 => ?_)
  refine GO.aload_n dX1_init_32 rfl rfl ?_
  refine GO.bipush dX1_init_33 rfl ?_
  refine GO.newQ 157 20 8 rfl rfl gw_96 (List.mem_of_getElem? (i := 4) rfl) rfl rfl (Or.inr rfl) rfl rfl rfl dX1_init_35 (fun o38 K39 V45 hq40 hK41 hE42 h43 hz46 hV44 => ?_)
  have h47 := (by rw [hK41, updK_ne (K_old h32 hq40)]; exact h32 : K39 x = some (0, 13))
  have h48 := hE42.arr h34
  have h49 := hE42.obj (by decide) h33
  have h50 := KE.nw (KE.call (KE.new (KE.new KE.rf hq3 hK4) hq18 hK19) h30.2 h26) h32 hq40
  refine GO.putRF rfl rfl (by decide +kernel) h47 fp_raw_fp_RX1_30 rfl rfl dX1_init_38 (fun V52 e51 => ?_)
  refine GO.aload_n dX1_init_41 rfl rfl ?_
  refine GO.bipush dX1_init_42 rfl ?_
  refine GO.newT (atype := .int) 133 20 gw_89 rfl rfl (fun _ _ h => h) rfl rfl rfl (Or.inr rfl) (fun _ => okv_df rfl rfl rfl) rfl rfl dX1_init_44 (fun o53 K54 V60 hq55 hK56 hE57 h58 hz61 hV59 => ?_)
  have h62 := (by rw [hK56, updK_ne (K_old h47 hq55)]; exact h47 : K54 x = some (0, 13))
  have h63 := hE57.arr h48
  have h64 := hE57.obj (by decide) h49
  have h65 := hE57.arr h43
  have h66 := KE.nw (KE.new (KE.call (KE.new (KE.new KE.rf hq3 hK4) hq18 hK19) h30.2 h26) hq40 hK41) h47 hq55
  refine GO.putRF rfl rfl (by decide +kernel) h62 fp_raw_fp_RX1_33 rfl rfl dX1_init_46 (fun V68 e67 => ?_)
  refine GO.aload_n dX1_init_49 rfl rfl ?_
  refine GO.bipush dX1_init_50 rfl ?_
  refine GO.newT (atype := .int) 134 20 gw_89 rfl rfl (fun _ _ h => h) rfl rfl rfl (Or.inr rfl) (fun _ => okv_df rfl rfl rfl) rfl rfl dX1_init_52 (fun o69 K70 V76 hq71 hK72 hE73 h74 hz77 hV75 => ?_)
  have h78 := (by rw [hK72, updK_ne (K_old h62 hq71)]; exact h62 : K70 x = some (0, 13))
  have h79 := hE73.arr h63
  have h80 := hE73.obj (by decide) h64
  have h81 := hE73.arr h65
  have h82 := hE73.arr h58
  have h83 := KE.nw (KE.new (KE.new (KE.call (KE.new (KE.new KE.rf hq3 hK4) hq18 hK19) h30.2 h26) hq40 hK41) hq55 hK56) h62 hq71
  refine GO.putRF rfl rfl (by decide +kernel) h78 fp_raw_fp_RX1_37 rfl rfl dX1_init_54 (fun V85 e84 => ?_)
  refine GO.aload_n dX1_init_57 rfl rfl ?_
  refine GO.iconst dX1_init_58 ?_
  refine GO.putRW rfl (by decide +kernel) h78 fp_raw_fp_RX1_40 rfl rfl dX1_init_59 (fun V87 e86 => ?_)
  refine GO.aload_n dX1_init_62 rfl rfl ?_
  refine GO.iconst dX1_init_63 ?_
  refine GO.putRW rfl (by decide +kernel) h78 fp_raw_fp_RX1_43 rfl rfl dX1_init_64 (fun V89 e88 => ?_)
  refine GO.aload_n dX1_init_67 rfl rfl ?_
  refine GO.bipush dX1_init_68 rfl ?_
  refine GO.newT (atype := .int) 135 14 gw_89 rfl rfl (fun _ _ h => h) rfl rfl rfl (Or.inr rfl) (fun _ => okv_df rfl rfl rfl) rfl rfl dX1_init_70 (fun o90 K91 V97 hq92 hK93 hE94 h95 hz98 hV96 => ?_)
  have h99 := (by rw [hK93, updK_ne (K_old h78 hq92)]; exact h78 : K91 x = some (0, 13))
  have h100 := hE94.arr h79
  have h101 := hE94.obj (by decide) h80
  have h102 := hE94.arr h81
  have h103 := hE94.arr h82
  have h104 := hE94.arr h74
  have h105 := KE.nw (KE.new (KE.new (KE.new (KE.call (KE.new (KE.new KE.rf hq3 hK4) hq18 hK19) h30.2 h26) hq40 hK41) hq55 hK56) hq71 hK72) h78 hq92
  refine GO.putRF rfl rfl (by decide +kernel) h99 fp_raw_fp_RX1_46 rfl rfl dX1_init_72 (fun V107 e106 => ?_)
  refine GO.aload_n dX1_init_75 rfl rfl ?_
  refine GO.bipush dX1_init_76 rfl ?_
  refine GO.newT (atype := .int) 136 32 gw_89 rfl rfl (fun _ _ h => h) rfl rfl rfl (Or.inr rfl) (fun _ => okv_df rfl rfl rfl) rfl rfl dX1_init_78 (fun o108 K109 V115 hq110 hK111 hE112 h113 hz116 hV114 => ?_)
  have h117 := (by rw [hK111, updK_ne (K_old h99 hq110)]; exact h99 : K109 x = some (0, 13))
  have h118 := hE112.arr h100
  have h119 := hE112.obj (by decide) h101
  have h120 := hE112.arr h102
  have h121 := hE112.arr h103
  have h122 := hE112.arr h104
  have h123 := hE112.arr h95
  have h124 := KE.nw (KE.new (KE.new (KE.new (KE.new (KE.call (KE.new (KE.new KE.rf hq3 hK4) hq18 hK19) h30.2 h26) hq40 hK41) hq55 hK56) hq71 hK72) hq92 hK93) h99 hq110
  refine GO.putRF rfl rfl (by decide +kernel) h117 fp_raw_fp_RX1_49 rfl rfl dX1_init_80 (fun V126 e125 => ?_)
  refine GO.aload_n dX1_init_83 rfl rfl ?_
  refine GO.iconst dX1_init_84 ?_
  refine GO.putRW rfl (by decide +kernel) h117 fp_raw_fp_RX1_52 rfl rfl dX1_init_85 (fun V128 e127 => ?_)
  refine GO.aload_n dX1_init_88 rfl rfl ?_
  refine GO.iconst dX1_init_89 ?_
  refine GO.putRW rfl (by decide +kernel) h117 fp_raw_fp_RX1_55 rfl rfl dX1_init_90 (fun V130 e129 => ?_)
  refine GO.aload_n dX1_init_93 rfl rfl ?_
  refine GO.iconst dX1_init_94 ?_
  refine GO.putRW rfl (by decide +kernel) h117 fp_raw_fp_RX1_58 rfl rfl dX1_init_95 (fun V132 e131 => ?_)
  refine GO.promote (ci := 1) rfl h117 (fun j hj => ?_) (fun K133 e134 hE135 h136 => ?_)
  ·
    have hj : j < 13 := hj
    match j, hj with
    | 0, _ => exact ⟨_, (Eq.trans (uq_ne e131 (Or.inr (by decide))) (Eq.trans (uq_ne e129 (Or.inr (by decide))) (Eq.trans (uq_ne e127 (Or.inr (by decide))) (Eq.trans (uq_ne e125 (Or.inr (by decide))) (Eq.trans (congrFun (hV114 _ (K_old h99 hq110)) _) (Eq.trans (uq_ne e106 (Or.inr (by decide))) (Eq.trans (congrFun (hV96 _ (K_old h78 hq92)) _) (Eq.trans (uq_ne e88 (Or.inr (by decide))) (Eq.trans (uq_ne e86 (Or.inr (by decide))) (Eq.trans (uq_ne e84 (Or.inr (by decide))) (Eq.trans (congrFun (hV75 _ (K_old h62 hq71)) _) (Eq.trans (uq_ne e67 (Or.inr (by decide))) (Eq.trans (congrFun (hV59 _ (K_old h47 hq55)) _) (Eq.trans (uq_ne e51 (Or.inr (by decide))) (Eq.trans (congrFun (hV44 _ (K_old h32 hq40)) _) (Eq.trans (uq_ne e36 (Or.inr (by decide))) (Eq.trans (hF27 _ _ _ h24 h32 (by decide +kernel)) (Eq.trans (congrFun (hV22 _ (K_old h10 hq18)) _) (Eq.trans (uq_ne e14 (Or.inr (by decide))) (uq_at e12)))))))))))))))))))), ⟨_, h118⟩⟩
    | 1, _ => exact okv_at (Eq.trans (uq_ne e131 (Or.inr (by decide))) (Eq.trans (uq_ne e129 (Or.inr (by decide))) (Eq.trans (uq_ne e127 (Or.inr (by decide))) (Eq.trans (uq_ne e125 (Or.inr (by decide))) (Eq.trans (congrFun (hV114 _ (K_old h99 hq110)) _) (Eq.trans (uq_ne e106 (Or.inr (by decide))) (Eq.trans (congrFun (hV96 _ (K_old h78 hq92)) _) (Eq.trans (uq_ne e88 (Or.inr (by decide))) (Eq.trans (uq_ne e86 (Or.inr (by decide))) (Eq.trans (uq_ne e84 (Or.inr (by decide))) (Eq.trans (congrFun (hV75 _ (K_old h62 hq71)) _) (Eq.trans (uq_ne e67 (Or.inr (by decide))) (Eq.trans (congrFun (hV59 _ (K_old h47 hq55)) _) (Eq.trans (uq_ne e51 (Or.inr (by decide))) (Eq.trans (congrFun (hV44 _ (K_old h32 hq40)) _) (Eq.trans (uq_ne e36 (Or.inr (by decide))) (Eq.trans (hF27 _ _ _ h24 h32 (by decide +kernel)) (Eq.trans (congrFun (hV22 _ (K_old h10 hq18)) _) (uq_at e14))))))))))))))))))) (ir_c rfl) (by omega) (by omega)
    | 2, _ => exact ⟨_, (Eq.trans (uq_ne e131 (Or.inr (by decide))) (Eq.trans (uq_ne e129 (Or.inr (by decide))) (Eq.trans (uq_ne e127 (Or.inr (by decide))) (Eq.trans (uq_ne e125 (Or.inr (by decide))) (Eq.trans (congrFun (hV114 _ (K_old h99 hq110)) _) (Eq.trans (uq_ne e106 (Or.inr (by decide))) (Eq.trans (congrFun (hV96 _ (K_old h78 hq92)) _) (Eq.trans (uq_ne e88 (Or.inr (by decide))) (Eq.trans (uq_ne e86 (Or.inr (by decide))) (Eq.trans (uq_ne e84 (Or.inr (by decide))) (Eq.trans (congrFun (hV75 _ (K_old h62 hq71)) _) (Eq.trans (uq_ne e67 (Or.inr (by decide))) (Eq.trans (congrFun (hV59 _ (K_old h47 hq55)) _) (Eq.trans (uq_ne e51 (Or.inr (by decide))) (Eq.trans (congrFun (hV44 _ (K_old h32 hq40)) _) (uq_at e36)))))))))))))))), h119⟩
    | 3, _ => exact ⟨_, (Eq.trans (uq_ne e131 (Or.inr (by decide))) (Eq.trans (uq_ne e129 (Or.inr (by decide))) (Eq.trans (uq_ne e127 (Or.inr (by decide))) (Eq.trans (uq_ne e125 (Or.inr (by decide))) (Eq.trans (congrFun (hV114 _ (K_old h99 hq110)) _) (Eq.trans (uq_ne e106 (Or.inr (by decide))) (Eq.trans (congrFun (hV96 _ (K_old h78 hq92)) _) (Eq.trans (uq_ne e88 (Or.inr (by decide))) (Eq.trans (uq_ne e86 (Or.inr (by decide))) (Eq.trans (uq_ne e84 (Or.inr (by decide))) (Eq.trans (congrFun (hV75 _ (K_old h62 hq71)) _) (Eq.trans (uq_ne e67 (Or.inr (by decide))) (Eq.trans (congrFun (hV59 _ (K_old h47 hq55)) _) (uq_at e51)))))))))))))), ⟨_, h120⟩⟩
    | 4, _ => exact ⟨_, (Eq.trans (uq_ne e131 (Or.inr (by decide))) (Eq.trans (uq_ne e129 (Or.inr (by decide))) (Eq.trans (uq_ne e127 (Or.inr (by decide))) (Eq.trans (uq_ne e125 (Or.inr (by decide))) (Eq.trans (congrFun (hV114 _ (K_old h99 hq110)) _) (Eq.trans (uq_ne e106 (Or.inr (by decide))) (Eq.trans (congrFun (hV96 _ (K_old h78 hq92)) _) (Eq.trans (uq_ne e88 (Or.inr (by decide))) (Eq.trans (uq_ne e86 (Or.inr (by decide))) (Eq.trans (uq_ne e84 (Or.inr (by decide))) (Eq.trans (congrFun (hV75 _ (K_old h62 hq71)) _) (uq_at e67)))))))))))), ⟨_, h121⟩⟩
    | 5, _ => exact ⟨_, (Eq.trans (uq_ne e131 (Or.inr (by decide))) (Eq.trans (uq_ne e129 (Or.inr (by decide))) (Eq.trans (uq_ne e127 (Or.inr (by decide))) (Eq.trans (uq_ne e125 (Or.inr (by decide))) (Eq.trans (congrFun (hV114 _ (K_old h99 hq110)) _) (Eq.trans (uq_ne e106 (Or.inr (by decide))) (Eq.trans (congrFun (hV96 _ (K_old h78 hq92)) _) (Eq.trans (uq_ne e88 (Or.inr (by decide))) (Eq.trans (uq_ne e86 (Or.inr (by decide))) (uq_at e84)))))))))), ⟨_, h122⟩⟩
    | 6, _ => exact okv_any (Eq.trans (uq_ne e131 (Or.inr (by decide))) (Eq.trans (uq_ne e129 (Or.inr (by decide))) (Eq.trans (uq_ne e127 (Or.inr (by decide))) (Eq.trans (uq_ne e125 (Or.inr (by decide))) (Eq.trans (congrFun (hV114 _ (K_old h99 hq110)) _) (Eq.trans (uq_ne e106 (Or.inr (by decide))) (Eq.trans (congrFun (hV96 _ (K_old h78 hq92)) _) (Eq.trans (uq_ne e88 (Or.inr (by decide))) (uq_at e86)))))))))
    | 7, _ => exact okv_any (Eq.trans (uq_ne e131 (Or.inr (by decide))) (Eq.trans (uq_ne e129 (Or.inr (by decide))) (Eq.trans (uq_ne e127 (Or.inr (by decide))) (Eq.trans (uq_ne e125 (Or.inr (by decide))) (Eq.trans (congrFun (hV114 _ (K_old h99 hq110)) _) (Eq.trans (uq_ne e106 (Or.inr (by decide))) (Eq.trans (congrFun (hV96 _ (K_old h78 hq92)) _) (uq_at e88))))))))
    | 8, _ => exact ⟨_, (Eq.trans (uq_ne e131 (Or.inr (by decide))) (Eq.trans (uq_ne e129 (Or.inr (by decide))) (Eq.trans (uq_ne e127 (Or.inr (by decide))) (Eq.trans (uq_ne e125 (Or.inr (by decide))) (Eq.trans (congrFun (hV114 _ (K_old h99 hq110)) _) (uq_at e106)))))), ⟨_, h123⟩⟩
    | 9, _ => exact ⟨_, (Eq.trans (uq_ne e131 (Or.inr (by decide))) (Eq.trans (uq_ne e129 (Or.inr (by decide))) (Eq.trans (uq_ne e127 (Or.inr (by decide))) (uq_at e125)))), ⟨_, h113⟩⟩
    | 10, _ => exact okv_any (Eq.trans (uq_ne e131 (Or.inr (by decide))) (Eq.trans (uq_ne e129 (Or.inr (by decide))) (uq_at e127)))
    | 11, _ => exact okv_any (Eq.trans (uq_ne e131 (Or.inr (by decide))) (uq_at e129))
    | 12, _ => exact okv_any (uq_at e131)
    | j + 13, hj => exact absurd hj (by omega)
  exact GO.retv rfl rfl dX1_init_98 ⟨rfl, ⟨h136, vi_at (Eq.trans (uq_ne e131 (Or.inr (by decide))) (Eq.trans (uq_ne e129 (Or.inr (by decide))) (Eq.trans (uq_ne e127 (Or.inr (by decide))) (Eq.trans (uq_ne e125 (Or.inr (by decide))) (Eq.trans (congrFun (hV114 _ (K_old h99 hq110)) _) (Eq.trans (uq_ne e106 (Or.inr (by decide))) (Eq.trans (congrFun (hV96 _ (K_old h78 hq92)) _) (Eq.trans (uq_ne e88 (Or.inr (by decide))) (Eq.trans (uq_ne e86 (Or.inr (by decide))) (Eq.trans (uq_ne e84 (Or.inr (by decide))) (Eq.trans (congrFun (hV75 _ (K_old h62 hq71)) _) (Eq.trans (uq_ne e67 (Or.inr (by decide))) (Eq.trans (congrFun (hV59 _ (K_old h47 hq55)) _) (Eq.trans (uq_ne e51 (Or.inr (by decide))) (Eq.trans (congrFun (hV44 _ (K_old h32 hq40)) _) (Eq.trans (uq_ne e36 (Or.inr (by decide))) (Eq.trans (hF27 _ _ _ h24 h32 (by decide +kernel)) (Eq.trans (congrFun (hV22 _ (K_old h10 hq18)) _) (uq_at e14))))))))))))))))))) (ir_c rfl), vi_at (Eq.trans (uq_ne e131 (Or.inr (by decide))) (Eq.trans (uq_ne e129 (Or.inr (by decide))) (Eq.trans (uq_ne e127 (Or.inr (by decide))) (Eq.trans (uq_ne e125 (Or.inr (by decide))) (Eq.trans (congrFun (hV114 _ (K_old h99 hq110)) _) (Eq.trans (uq_ne e106 (Or.inr (by decide))) (Eq.trans (congrFun (hV96 _ (K_old h78 hq92)) _) (uq_at e88)))))))) (ir_c rfl), (RSZ.mk (Eq.trans (uq_ne e131 (Or.inr (by decide))) (Eq.trans (uq_ne e129 (Or.inr (by decide))) (Eq.trans (uq_ne e127 (Or.inr (by decide))) (Eq.trans (uq_ne e125 (Or.inr (by decide))) (Eq.trans (congrFun (hV114 _ (K_old h99 hq110)) _) (Eq.trans (uq_ne e106 (Or.inr (by decide))) (Eq.trans (congrFun (hV96 _ (K_old h78 hq92)) _) (Eq.trans (uq_ne e88 (Or.inr (by decide))) (Eq.trans (uq_ne e86 (Or.inr (by decide))) (Eq.trans (uq_ne e84 (Or.inr (by decide))) (Eq.trans (congrFun (hV75 _ (K_old h62 hq71)) _) (Eq.trans (uq_ne e67 (Or.inr (by decide))) (Eq.trans (congrFun (hV59 _ (K_old h47 hq55)) _) (Eq.trans (uq_ne e51 (Or.inr (by decide))) (Eq.trans (congrFun (hV44 _ (K_old h32 hq40)) _) (uq_at e36)))))))))))))))) (hE135.obj (by decide) h119) (rsz_at (Eq.trans (uq_ne e131 (Or.inr (by decide))) (Eq.trans (uq_ne e129 (Or.inr (by decide))) (Eq.trans (uq_ne e127 (Or.inr (by decide))) (Eq.trans (uq_ne e125 (Or.inr (by decide))) (Eq.trans (congrFun (hV114 _ (K_old h99 hq110)) _) (Eq.trans (uq_ne e106 (Or.inr (by decide))) (Eq.trans (congrFun (hV96 _ (K_old h78 hq92)) _) (Eq.trans (uq_ne e88 (Or.inr (by decide))) (Eq.trans (uq_ne e86 (Or.inr (by decide))) (Eq.trans (uq_ne e84 (Or.inr (by decide))) (Eq.trans (congrFun (hV75 _ (K_old h62 hq71)) _) (Eq.trans (uq_ne e67 (Or.inr (by decide))) (Eq.trans (congrFun (hV59 _ (K_old h47 hq55)) _) (Eq.trans (uq_ne e51 (Or.inr (by decide))) (Eq.trans (congrFun (hV44 _ (K_old h32 hq40)) _) (uq_at e36)))))))))))))))) (Eq.trans (uq_ne e131 (Or.inl (K_ne h119 h117 (by decide)))) (Eq.trans (uq_ne e129 (Or.inl (K_ne h119 h117 (by decide)))) (Eq.trans (uq_ne e127 (Or.inl (K_ne h119 h117 (by decide)))) (Eq.trans (uq_ne e125 (Or.inl (K_ne h119 h117 (by decide)))) (Eq.trans (congrFun (hV114 _ (K_old h101 hq110)) _) (Eq.trans (uq_ne e106 (Or.inl (K_ne h101 h99 (by decide)))) (Eq.trans (congrFun (hV96 _ (K_old h80 hq92)) _) (Eq.trans (uq_ne e88 (Or.inl (K_ne h80 h78 (by decide)))) (Eq.trans (uq_ne e86 (Or.inl (K_ne h80 h78 (by decide)))) (Eq.trans (uq_ne e84 (Or.inl (K_ne h80 h78 (by decide)))) (Eq.trans (congrFun (hV75 _ (K_old h64 hq71)) _) (Eq.trans (uq_ne e67 (Or.inl (K_ne h64 h62 (by decide)))) (Eq.trans (congrFun (hV59 _ (K_old h49 hq55)) _) (Eq.trans (uq_ne e51 (Or.inl (K_ne h49 h47 (by decide)))) (Eq.trans (congrFun (hV44 _ (K_old h33 hq40)) _) (uq_ne e36 (Or.inl (K_ne h33 h32 (by decide))))))))))))))))))) q35))⟩, KE.promote (KE.new (KE.new (KE.new (KE.new (KE.new (KE.call (KE.new (KE.new KE.rf hq3 hK4) hq18 hK19) h30.2 h26) hq40 hK41) hq55 hK56) hq71 hK72) hq92 hK93) hq110 hK111) e134⟩
