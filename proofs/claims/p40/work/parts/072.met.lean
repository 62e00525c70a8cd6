def mX12_flows : MRec := (RX12, cX12_flows, 8, (none : Option Jvm.ClassFile.FieldType), yX12_flows, 2, 47, 0, 0, 4261562812795461736629470485424259135854706376937999723323138485252048893821910594900459520)
def mX12_day : MRec := (RX12, cX12_day, 2, (some .int), yX12_day, 10, 241, 0, 0, 9621983414447328363233382384140077613501227500180687977789929935050844395256104618180874285838199532188696838144)
def mX12_sound : MRec := (RX12, cX12_sound, 4, (some .boolean), yX12_sound, 1, 22, 0, 0, 2104294154165354572188974614723245976528611563821854604153732710492859286502689165343474302552752757916613738496)
def mX12_sure : MRec := (RX12, cX12_sure, 2, (some .int), yX12_sure, 1, 27, 0, 0, 0)
def mX12_drill : MRec := (RX12, cX12_drill, 3, (some .int), yX12_drill, 1, 22, 0, 0, 7214722814281215676076484393336843348098317646129455940853995776734538989966555573807592775407774656489265823744)
def mX12_speed : MRec := (RX12, cX12_speed, 3, (some .boolean), yX12_speed, 1, 22, 0, 0, 19239260838083241802870625048898248928262033152423150976916523463167042063367829239828841099507555616787934478336)
def mX12_birds : MRec := (RX12, cX12_birds, 4, (some .boolean), yX12_birds, 1, 22, 0, 0, 2037035976334486086268445688409378161051468393665936250636140449354381299763336706183397376)
def mX12_part : MRec := (RX12, cX12_part, 2, (some .int), yX12_part, 0, 0, 0, 0, 0)
def mX12_loss : MRec := (RX12, cX12_loss, 9, (some .int), yX12_loss, 1, 22, 0, 0, 0)
set_option maxHeartbeats 1000000 in
theorem t_X12_flows {K : Kmap} {V : Vmap} {x : Nat} {p0 : Int} (h_x : K x = some (0, 11)) (r_p0 : ir p0) (q_0 : p0 ≥ 0) (q_1 : p0 ≤ 59) : MC mX12_flows K V [.ref x, ti p0] (VS K (fun V1 => (True))) := by
  refine MC.start 6 (by decide +kernel) rfl rfl rfl (ls0 := [some (.ref x), some (ti p0), none, none, none, none, none, none]) rfl ?_
  refine GO.aload_n dX12_flows_0 rfl rfl ?_
  refine GO.getA (n := 60) h_x fl_RX12_41 rfl rfl rfl rfl dX12_flows_1 (fun hv2 h1 => ?_)
  refine GO.iload_n dX12_flows_4 rfl rfl ?_
  have q3 : -2147483648 ≤ p0 ∧ p0 ≤ 2147483647 := r_p0
  refine GO.iald (t := 17) rfl rfl h1 r_p0 (by omega) (by omega) dX12_flows_5 (fun l4 u5 => ?_)
  refine GO.name (fun z6 hz7 => ?_)
  have r8 : ir z6 := hz7 ▸ vi_ir
  refine GO.istore_n (ls1 := [some (.ref x), some (ti p0), some (ti z6), none, none, none, none, none]) dX12_flows_6 rfl rfl rfl ?_
  refine GO.aload_n dX12_flows_7 rfl rfl ?_
  refine GO.getA (n := 144) h_x fl_RX12_20 rfl rfl rfl rfl dX12_flows_8 (fun hv10 h9 => ?_)
  refine GO.iload_n dX12_flows_11 rfl rfl ?_
  refine GO.iald (t := 10) rfl rfl h9 r8 (by omega) (by omega) dX12_flows_12 (fun l11 u12 => ?_)
  refine GO.if_ne (tgt := 46) dX12_flows_13 (by decide) vi_ir (fun c13 => ?_) (fun c13 => ?_)
  ·
    exact GO.retv rfl rfl dX12_flows_46 ⟨rfl, rfl, trivial⟩
  ·
    refine GO.aload_n dX12_flows_16 rfl rfl ?_
    refine GO.getA (n := 144) h_x fl_RX12_23 rfl rfl rfl rfl dX12_flows_17 (fun hv15 h14 => ?_)
    refine GO.iload_n dX12_flows_20 rfl rfl ?_
    refine GO.iald (t := 11) rfl rfl h14 r8 (by omega) (by omega) dX12_flows_21 (fun l16 u17 => ?_)
    refine GO.iconst dX12_flows_22 ?_
    refine GO.icmp_eq (tgt := 46) dX12_flows_23 (by decide) vi_ir (ir_c rfl) (fun c18 => ?_) (fun c18 => ?_)
    ·
      exact GO.retv rfl rfl dX12_flows_46 ⟨rfl, rfl, trivial⟩
    ·
      refine GO.aload_n dX12_flows_26 rfl rfl ?_
      refine GO.getI h_x fl_RX12_396 rfl rfl dX12_flows_27 (fun l19 u20 => ?_)
      refine GO.aload_n dX12_flows_30 rfl rfl ?_
      refine GO.getA (n := 60) h_x fl_RX12_50 rfl rfl rfl rfl dX12_flows_31 (fun hv22 h21 => ?_)
      refine GO.iload_n dX12_flows_34 rfl rfl ?_
      refine GO.iald (t := 20) rfl rfl h21 r_p0 (by omega) (by omega) dX12_flows_35 (fun _ _ => ?_)
      refine GO.isub dX12_flows_36 ?_
      refine GO.norm (fun z23 r24 _ => ?_)
      refine GO.aload_n dX12_flows_37 rfl rfl ?_
      refine GO.getA (n := 144) h_x fl_RX12_26 rfl rfl rfl rfl dX12_flows_38 (fun hv26 h25 => ?_)
      refine GO.iload_n dX12_flows_41 rfl rfl ?_
      refine GO.iald (t := 12) rfl rfl h25 r8 (by omega) (by omega) dX12_flows_42 (fun l27 u28 => ?_)
      refine GO.icmp_ge (tgt := 47) dX12_flows_43 (by decide) r24 vi_ir (fun c29 => ?_) (fun c29 => ?_)
      ·
        refine GO.aload_n dX12_flows_47 rfl rfl ?_
        refine GO.getRaw h_x fl_RX12_23 hv15 dX12_flows_48 ?_
        refine GO.iload_n dX12_flows_51 rfl rfl ?_
        refine GO.iald (t := 11) rfl rfl h14 r8 (by omega) (by omega) dX12_flows_52 (fun l32 u33 => ?_)
        refine GO.callS (N := mX12_columnStep) dX12_flows_53 gS_RX12_639 (t_X12_columnStep vi_ir) rfl [] rfl rfl (Nat.le_of_ble_eq_true rfl) rfl (k_ip fun X34 r35 h36 => ?_)
        refine GO.istore_n (ls1 := [some (.ref x), some (ti p0), some (ti z6), some (ti X34), none, none, none, none]) dX12_flows_56 rfl rfl rfl ?_
        refine GO.aload_n dX12_flows_57 rfl rfl ?_
        refine GO.getRaw h_x fl_RX12_23 hv15 dX12_flows_58 ?_
        refine GO.iload_n dX12_flows_61 rfl rfl ?_
        refine GO.iald (t := 11) rfl rfl h14 r8 (by omega) (by omega) dX12_flows_62 (fun l39 u40 => ?_)
        refine GO.callS (N := mX12_rowStep) dX12_flows_63 gS_RX12_642 (t_X12_rowStep vi_ir) rfl [] rfl rfl (Nat.le_of_ble_eq_true rfl) rfl (k_ip fun X41 r42 h43 => ?_)
        refine GO.istore (ls1 := [some (.ref x), some (ti p0), some (ti z6), some (ti X34), some (ti X41), none, none, none]) dX12_flows_66 rfl rfl ?_
        refine GO.aload_n dX12_flows_68 rfl rfl ?_
        refine GO.iload_n dX12_flows_69 rfl rfl ?_
        refine GO.iload_n dX12_flows_70 rfl rfl ?_
        refine GO.iload dX12_flows_71 rfl ?_
        refine GO.callV (ci := 11) (N := mX12_moved) dX12_flows_73 (RX12, TX12, 151) rfl gV_RX12_645 h_x (t_X12_moved h_x r8 r35 r42 (by omega) (by omega) (by omega) (by omega) (by omega) (by omega)) rfl [] rfl rfl (Nat.le_of_ble_eq_true rfl) rfl (k_ip fun X44 r45 h46 => ?_)
        refine GO.istore (ls1 := [some (.ref x), some (ti p0), some (ti z6), some (ti X34), some (ti X41), some (ti X44), none, none]) dX12_flows_76 rfl rfl ?_
        refine GO.iload dX12_flows_78 rfl ?_
        refine GO.iconst dX12_flows_80 ?_
        refine GO.icmp_ne (tgt := 90) dX12_flows_81 (by decide) r45 (ir_c rfl) (fun c47 => ?_) (fun c47 => ?_)
        ·
          refine GO.aload_n dX12_flows_90 rfl rfl ?_
          refine GO.getRaw h_x fl_RX12_41 hv2 dX12_flows_91 ?_
          refine GO.iload_n dX12_flows_94 rfl rfl ?_
          refine GO.iload dX12_flows_95 rfl ?_
          refine GO.iast (t := 17) rfl rfl (by decide +kernel) h1 r_p0 (by omega) (by omega) r45 (by omega) (by omega) dX12_flows_97 (fun V51 e50 => ?_)
          refine GO.aload_n dX12_flows_98 rfl rfl ?_
          refine GO.getRaw h_x fl_RX12_50 (Eq.trans (uq_ne e50 (Or.inl (K_ne h_x h1 (by decide)))) hv22) dX12_flows_99 ?_
          refine GO.iload_n dX12_flows_102 rfl rfl ?_
          refine GO.aload_n dX12_flows_103 rfl rfl ?_
          refine GO.getI h_x fl_RX12_396 rfl rfl dX12_flows_104 (fun l54 u55 => ?_)
          have e56 : vi V51 x 2 = vi V x 2 := vi_up e50 (Or.inl (K_ne h_x h1 (by decide)))
          refine GO.iast (t := 20) rfl rfl (by decide +kernel) h21 r_p0 (by omega) (by omega) vi_ir (vi_ir).1 (vi_ir).2 dX12_flows_107 (fun V58 e57 => ?_)
          refine GO.iconst dX12_flows_108 ?_
          refine GO.istore (ls1 := [some (.ref x), some (ti p0), some (ti z6), some (ti X34), some (ti X41), some (ti X44), some (ti 0), none]) dX12_flows_109 rfl rfl ?_
          refine GO.loop1 (fun i59 W => 0 ≤ i59 ∧ i59 ≤ 60 ∧ True) (fun i59 => [some (.ref x), some (ti p0), some (ti z6), some (ti X34), some (ti X41), some (ti X44), some (ti i59), none]) (fun i59 W => (2147483647 - i59).toNat) 0 ⟨by omega, by omega, trivial⟩ rfl (fun i59 Wi59 hp664 ih663 => ?_)
          obtain ⟨l_i59, u_i59, -⟩ := hp664
          have r_i59 : ir i59 := ⟨by omega, by omega⟩
          show GO mX12_flows K V (VS K (fun V1 => (True))) K Wi59 0 0 111 [some (.ref x), some (ti p0), some (ti z6), some (ti X34), some (ti X41), some (ti X44), some (ti i59), none] []
          refine GO.iload dX12_flows_111 rfl ?_
          refine GO.aload_n dX12_flows_113 rfl rfl ?_
          refine GO.getI h_x fl_RX12_375 rfl rfl dX12_flows_114 (fun l665 u666 => ?_)
          refine GO.icmp_ge (tgt := 229) dX12_flows_117 (by decide) r_i59 vi_ir (fun c667 => ?_) (fun c667 => ?_)
          ·
            refine GO.aload_n dX12_flows_229 rfl rfl ?_
            refine GO.iload dX12_flows_230 rfl ?_
            refine GO.callV (ci := 11) (N := mX12_isLand) dX12_flows_232 (RX12, TX12, 151) rfl gV_RX12_425 h_x (t_X12_isLand h_x r45 (by omega) (by omega)) rfl [] rfl rfl (Nat.le_of_ble_eq_true rfl) rfl (k_ip fun X668 r669 h670 => ?_)
            refine GO.if_ne (tgt := 243) dX12_flows_235 (by decide) r669 (fun c671 => ?_) (fun c671 => ?_)
            ·
              exact GO.retv rfl rfl dX12_flows_243 ⟨rfl, rfl, trivial⟩
            ·
              refine GO.aload_n dX12_flows_238 rfl rfl ?_
              refine GO.iload_n dX12_flows_239 rfl rfl ?_
              refine GO.callV (ci := 11) (N := mX12_loses) dX12_flows_240 (RX12, TX12, 151) rfl gV_RX12_685 h_x (t_X12_loses h_x r_p0 (by omega) (by omega)) rfl [] rfl rfl (Nat.le_of_ble_eq_true rfl) rfl (k_vs fun V674 h673 hF672 => ?_)
              exact GO.retv rfl rfl dX12_flows_243 ⟨rfl, rfl, trivial⟩
          ·
            refine GO.aload_n dX12_flows_120 rfl rfl ?_
            refine GO.getA (n := 60) h_x fl_RX12_35 rfl rfl rfl rfl dX12_flows_121 (fun hv676 h675 => ?_)
            refine GO.iload dX12_flows_124 rfl ?_
            refine GO.iald (t := 15) rfl rfl h675 r_i59 (by omega) (by omega) dX12_flows_126 (fun l677 u678 => ?_)
            refine GO.iconst dX12_flows_127 ?_
            refine GO.icmp_ne (tgt := 223) dX12_flows_128 (by decide) vi_ir (ir_c rfl) (fun c679 => ?_) (fun c679 => ?_)
            ·
              refine GO.iinc (X := i59) (n := 1) (Y := i59 + 1) (ls1 := [some (.ref x), some (ti p0), some (ti z6), some (ti X34), some (ti X41), some (ti X44), some (ti (i59 + 1)), none]) dX12_flows_223 rfl rfl rfl rfl ?_
              refine GO.goto (tgt := 111) dX12_flows_226 (by decide) ?_
              exact ih663 (i59 + 1) Wi59 ⟨by omega, by omega, trivial⟩ (by show (2147483647 - (i59 + 1)).toNat < (2147483647 - i59).toNat; omega)
            ·
              refine GO.aload_n dX12_flows_131 rfl rfl ?_
              refine GO.getA (n := 60) h_x fl_RX12_47 rfl rfl rfl rfl dX12_flows_132 (fun hv681 h680 => ?_)
              refine GO.iload dX12_flows_135 rfl ?_
              refine GO.iald (t := 19) rfl rfl h680 r_i59 (by omega) (by omega) dX12_flows_137 (fun _ _ => ?_)
              refine GO.iload_n dX12_flows_138 rfl rfl ?_
              refine GO.icmp_ne (tgt := 223) dX12_flows_139 (by decide) vi_ir r_p0 (fun c682 => ?_) (fun c682 => ?_)
              ·
                refine GO.iinc (X := i59) (n := 1) (Y := i59 + 1) (ls1 := [some (.ref x), some (ti p0), some (ti z6), some (ti X34), some (ti X41), some (ti X44), some (ti (i59 + 1)), none]) dX12_flows_223 rfl rfl rfl rfl ?_
                refine GO.goto (tgt := 111) dX12_flows_226 (by decide) ?_
                exact ih663 (i59 + 1) Wi59 ⟨by omega, by omega, trivial⟩ (by show (2147483647 - (i59 + 1)).toNat < (2147483647 - i59).toNat; omega)
              ·
                refine GO.aload_n dX12_flows_142 rfl rfl ?_
                refine GO.getA (n := 60) h_x fl_RX12_80 rfl rfl rfl rfl dX12_flows_143 (fun hv684 h683 => ?_)
                refine GO.iload dX12_flows_146 rfl ?_
                refine GO.zald (t := 30) rfl rfl h683 r_i59 (by omega) (by omega) dX12_flows_148 (fun l685 u686 => ?_)
                refine GO.if_eq (tgt := 155) dX12_flows_149 (by decide) vi_ir (fun c687 => ?_) (fun c687 => ?_)
                ·
                  refine GO.aload_n dX12_flows_155 rfl rfl ?_
                  refine GO.aload_n dX12_flows_156 rfl rfl ?_
                  refine GO.getA (n := 60) h_x fl_RX12_41 rfl rfl rfl rfl dX12_flows_157 (fun hv689 h688 => ?_)
                  refine GO.iload dX12_flows_160 rfl ?_
                  refine GO.iald (t := 17) rfl rfl h688 r_i59 (by omega) (by omega) dX12_flows_162 (fun l690 u691 => ?_)
                  refine GO.iload_n dX12_flows_163 rfl rfl ?_
                  refine GO.iload dX12_flows_164 rfl ?_
                  refine GO.callV (ci := 11) (N := mX12_moved) dX12_flows_166 (RX12, TX12, 151) rfl gV_RX12_645 h_x (t_X12_moved h_x vi_ir r35 r42 (by omega) (by omega) (by omega) (by omega) (by omega) (by omega)) rfl [] rfl rfl (Nat.le_of_ble_eq_true rfl) rfl (k_ip fun X692 r693 h694 => ?_)
                  refine GO.istore (ls1 := [some (.ref x), some (ti p0), some (ti z6), some (ti X34), some (ti X41), some (ti X44), some (ti i59), some (ti X692)]) dX12_flows_169 rfl rfl ?_
                  refine GO.aload_n dX12_flows_171 rfl rfl ?_
                  refine GO.getRaw h_x fl_RX12_80 hv684 dX12_flows_172 ?_
                  refine GO.iload dX12_flows_175 rfl ?_
                  refine GO.iload dX12_flows_177 rfl ?_
                  refine GO.iconst dX12_flows_179 ?_
                  have hj703 : ∀ (z702 : Int), ∀ (l704 : 0 ≤ z702), ∀ (u705 : z702 ≤ 1), GO mX12_flows K V (VS K (fun V1 => (True))) K Wi59 0 0 197 [some (.ref x), some (ti p0), some (ti z6), some (ti X34), some (ti X41), some (ti X44), some (ti i59), some (ti X692)] [ti z702, ti i59, .ref (vq Wi59 x 28)] := by
                    intro z702 l704 u705
                    have r706 : ir z702 := ⟨by omega, by omega⟩
                    refine GO.zast (t := 30) rfl rfl (by decide +kernel) h683 r_i59 (by omega) (by omega) (by omega) (by omega) (by omega) dX12_flows_197 (fun V708 e707 => ?_)
                    refine GO.aload_n dX12_flows_198 rfl rfl ?_
                    refine GO.getRaw h_x fl_RX12_41 (Eq.trans (uq_ne e707 (Or.inl (K_ne h_x h683 (by decide)))) hv689) dX12_flows_199 ?_
                    refine GO.iload dX12_flows_202 rfl ?_
                    refine GO.iload dX12_flows_204 rfl ?_
                    refine GO.iconst dX12_flows_206 ?_
                    refine GO.icmp_ne (tgt := 220) dX12_flows_207 (by decide) r693 (ir_c rfl) (fun c711 => ?_) (fun c711 => ?_)
                    ·
                      refine GO.iload dX12_flows_220 rfl ?_
                      refine GO.iast (t := 17) rfl rfl (by decide +kernel) h688 r_i59 (by omega) (by omega) r693 (by omega) (by omega) dX12_flows_222 (fun V713 e712 => ?_)
                      refine GO.iinc (X := i59) (n := 1) (Y := i59 + 1) (ls1 := [some (.ref x), some (ti p0), some (ti z6), some (ti X34), some (ti X41), some (ti X44), some (ti (i59 + 1)), some (ti X692)]) dX12_flows_223 rfl rfl rfl rfl ?_
                      refine GO.goto (tgt := 111) dX12_flows_226 (by decide) ?_
                      refine GO.drop [true, true, true, true, true, true, true, false] rfl ?_
                      exact ih663 (i59 + 1) V713 ⟨by omega, by omega, trivial⟩ (by show (2147483647 - (i59 + 1)).toNat < (2147483647 - i59).toNat; omega)
                    ·
                      refine GO.aload_n dX12_flows_210 rfl rfl ?_
                      refine GO.getRaw h_x fl_RX12_41 (Eq.trans (uq_ne e707 (Or.inl (K_ne h_x h683 (by decide)))) hv689) dX12_flows_211 ?_
                      refine GO.iload dX12_flows_214 rfl ?_
                      refine GO.iald (t := 17) rfl rfl h688 r_i59 (by omega) (by omega) dX12_flows_216 (fun l716 u717 => ?_)
                      have e718 : vi V708 (vq Wi59 x 15) (i59).toNat = vi Wi59 (vq Wi59 x 15) (i59).toNat := vi_up e707 (Or.inl (K_ne h688 h683 (by decide)))
                      refine GO.goto (tgt := 222) dX12_flows_217 (by decide) ?_
                      refine GO.iast (t := 17) rfl rfl (by decide +kernel) h688 r_i59 (by omega) (by omega) vi_ir (by omega) (by omega) dX12_flows_222 (fun V720 e719 => ?_)
                      refine GO.iinc (X := i59) (n := 1) (Y := i59 + 1) (ls1 := [some (.ref x), some (ti p0), some (ti z6), some (ti X34), some (ti X41), some (ti X44), some (ti (i59 + 1)), some (ti X692)]) dX12_flows_223 rfl rfl rfl rfl ?_
                      refine GO.goto (tgt := 111) dX12_flows_226 (by decide) ?_
                      refine GO.drop [true, true, true, true, true, true, true, false] rfl ?_
                      exact ih663 (i59 + 1) V720 ⟨by omega, by omega, trivial⟩ (by show (2147483647 - (i59 + 1)).toNat < (2147483647 - i59).toNat; omega)
                  have hj726 : GO mX12_flows K V (VS K (fun V1 => (True))) K Wi59 0 0 192 [some (.ref x), some (ti p0), some (ti z6), some (ti X34), some (ti X41), some (ti X44), some (ti i59), some (ti X692)] [ti i59, .ref (vq Wi59 x 28)] := by
                    skip
                    refine GO.iconst dX12_flows_192 ?_
                    refine GO.goto (tgt := 197) dX12_flows_193 (by decide) ?_
                    exact hj703 1 (by omega) (by omega)
                  refine GO.icmp_eq (tgt := 192) dX12_flows_180 (by decide) r693 (ir_c rfl) (fun c727 => ?_) (fun c727 => ?_)
                  ·
                    exact hj726 
                  ·
                    refine GO.aload_n dX12_flows_183 rfl rfl ?_
                    refine GO.iload dX12_flows_184 rfl ?_
                    refine GO.callV (ci := 11) (N := mX12_isLand) dX12_flows_186 (RX12, TX12, 151) rfl gV_RX12_425 h_x (t_X12_isLand h_x r693 (by omega) (by omega)) rfl [ti i59, .ref (vq Wi59 x 28)] rfl rfl (Nat.le_of_ble_eq_true rfl) rfl (k_ip fun X728 r729 h730 => ?_)
                    refine GO.if_ne (tgt := 196) dX12_flows_189 (by decide) r729 (fun c731 => ?_) (fun c731 => ?_)
                    ·
                      refine GO.iconst dX12_flows_196 ?_
                      exact hj703 0 (by omega) (by omega)
                    ·
                      exact hj726 
                ·
                  refine GO.goto (tgt := 223) dX12_flows_152 (by decide) ?_
                  refine GO.iinc (X := i59) (n := 1) (Y := i59 + 1) (ls1 := [some (.ref x), some (ti p0), some (ti z6), some (ti X34), some (ti X41), some (ti X44), some (ti (i59 + 1)), none]) dX12_flows_223 rfl rfl rfl rfl ?_
                  refine GO.goto (tgt := 111) dX12_flows_226 (by decide) ?_
                  exact ih663 (i59 + 1) Wi59 ⟨by omega, by omega, trivial⟩ (by show (2147483647 - (i59 + 1)).toNat < (2147483647 - i59).toNat; omega)
        ·
          refine GO.aload_n dX12_flows_84 rfl rfl ?_
          refine GO.iload_n dX12_flows_85 rfl rfl ?_
          refine GO.callV (ci := 11) (N := mX12_loses) dX12_flows_86 (RX12, TX12, 151) rfl gV_RX12_685 h_x (t_X12_loses h_x r_p0 (by omega) (by omega)) rfl [] rfl rfl (Nat.le_of_ble_eq_true rfl) rfl (k_vs fun V734 h733 hF732 => ?_)
          exact GO.retv rfl rfl dX12_flows_89 ⟨rfl, rfl, trivial⟩
      ·
        exact GO.retv rfl rfl dX12_flows_46 ⟨rfl, rfl, trivial⟩

set_option maxHeartbeats 1000000 in
theorem t_X12_day {K : Kmap} {V : Vmap} {x : Nat} (h_x : K x = some (0, 11)) (w_0 : GX V x) : MC mX12_day K V [.ref x] (IS K (fun X V1 => True)) := by
  refine MC.start 1 (by decide +kernel) rfl rfl rfl (ls0 := [some (.ref x), none]) rfl ?_
  refine GO.useWT (fun hW_0 => ?_)
  refine GO.aload_n dX12_day_0 rfl rfl ?_
  refine GO.getI h_x fl_RX12_396 rfl rfl dX12_day_1 (fun l1 u2 => ?_)
  refine GO.sipush dX12_day_4 rfl ?_
  refine GO.icmp_ne (tgt := 12) dX12_day_7 (by decide) vi_ir (ir_c rfl) (fun c3 => ?_) (fun c3 => ?_)
  ·
    refine GO.aload_n dX12_day_12 rfl rfl ?_
    refine GO.aload_n dX12_day_13 rfl rfl ?_
    refine GO.getI h_x fl_RX12_396 rfl rfl dX12_day_14 (fun l4 u5 => ?_)
    refine GO.iconst dX12_day_17 ?_
    refine GO.iadd dX12_day_18 ?_
    refine GO.putI h_x fp_RX12_396 rfl (by decide +kernel) ⟨by omega, by omega⟩ (by omega) (by omega) dX12_day_19 (fun V7 e6 => ?_)
    refine GO.aload_n dX12_day_22 rfl rfl ?_
    refine GO.useFR (fun hF8 => ?_)
    have hg9 := GX.fr hF8 w_0 hW_0 h_x (by decide +kernel)
    refine GO.callV (ci := 11) (N := mX12_worksGo) dX12_day_23 (RX12, TX12, 151) rfl gV_RX12_688 h_x (t_X12_worksGo h_x (hg9)) rfl [] rfl rfl (Nat.le_of_ble_eq_true rfl) rfl (k_vs fun V12 h11 hF10 => ?_)
    refine GO.iconst dX12_day_26 ?_
    refine GO.istore_n (ls1 := [some (.ref x), some (ti 0)]) dX12_day_27 rfl rfl rfl ?_
    refine GO.loop1 (fun i13 W => 0 ≤ i13 ∧ i13 ≤ 60 ∧ True) (fun i13 => [some (.ref x), some (ti i13)]) (fun i13 W => (2147483647 - i13).toNat) 0 ⟨by omega, by omega, trivial⟩ rfl (fun i13 Wi13 hp6576 ih6575 => ?_)
    obtain ⟨l_i13, u_i13, -⟩ := hp6576
    have r_i13 : ir i13 := ⟨by omega, by omega⟩
    show GO mX12_day K V (IS K (fun X V1 => True)) K Wi13 0 0 28 [some (.ref x), some (ti i13)] []
    refine GO.iload_n dX12_day_28 rfl rfl ?_
    refine GO.aload_n dX12_day_29 rfl rfl ?_
    refine GO.getI h_x fl_RX12_375 rfl rfl dX12_day_30 (fun l6577 u6578 => ?_)
    refine GO.icmp_ge (tgt := 63) dX12_day_33 (by decide) r_i13 vi_ir (fun c6579 => ?_) (fun c6579 => ?_)
    ·
      refine GO.iconst dX12_day_63 ?_
      refine GO.istore_n (ls1 := [some (.ref x), some (ti 0)]) dX12_day_64 rfl rfl rfl ?_
      refine GO.loop1 (fun i6580 W => 0 ≤ i6580 ∧ i6580 ≤ 10 ∧ True) (fun i6580 => [some (.ref x), some (ti i6580)]) (fun i6580 W => (2147483647 - i6580).toNat) 0 ⟨by omega, by omega, trivial⟩ rfl (fun i6580 Wi6580 hp7205 ih7204 => ?_)
      obtain ⟨l_i6580, u_i6580, -⟩ := hp7205
      have r_i6580 : ir i6580 := ⟨by omega, by omega⟩
      show GO mX12_day K V (IS K (fun X V1 => True)) K Wi6580 0 0 65 [some (.ref x), some (ti i6580)] []
      refine GO.iload_n dX12_day_65 rfl rfl ?_
      refine GO.aload_n dX12_day_66 rfl rfl ?_
      refine GO.getI h_x fl_RX12_612 rfl rfl dX12_day_67 (fun l7206 u7207 => ?_)
      refine GO.icmp_ge (tgt := 84) dX12_day_70 (by decide) r_i6580 vi_ir (fun c7208 => ?_) (fun c7208 => ?_)
      ·
        refine GO.iconst dX12_day_84 ?_
        refine GO.istore_n (ls1 := [some (.ref x), some (ti 0)]) dX12_day_85 rfl rfl rfl ?_
        refine GO.loop1 (fun i7209 W => 0 ≤ i7209 ∧ i7209 ≤ 40 ∧ True) (fun i7209 => [some (.ref x), some (ti i7209)]) (fun i7209 W => (2147483647 - i7209).toNat) 0 ⟨by omega, by omega, trivial⟩ rfl (fun i7209 Wi7209 hp7283 ih7282 => ?_)
        obtain ⟨l_i7209, u_i7209, -⟩ := hp7283
        have r_i7209 : ir i7209 := ⟨by omega, by omega⟩
        show GO mX12_day K V (IS K (fun X V1 => True)) K Wi7209 0 0 86 [some (.ref x), some (ti i7209)] []
        refine GO.iload_n dX12_day_86 rfl rfl ?_
        refine GO.aload_n dX12_day_87 rfl rfl ?_
        refine GO.getI h_x fl_RX12_648 rfl rfl dX12_day_88 (fun l7284 u7285 => ?_)
        refine GO.icmp_ge (tgt := 105) dX12_day_91 (by decide) r_i7209 vi_ir (fun c7286 => ?_) (fun c7286 => ?_)
        ·
          refine GO.aload_n dX12_day_105 rfl rfl ?_
          refine GO.getI h_x fl_RX12_396 rfl rfl dX12_day_106 (fun l7287 u7288 => ?_)
          exact GO.reti rfl rfl dX12_day_109 ⟨rfl, _, rfl, vi_ir, trivial⟩
        ·
          refine GO.aload_n dX12_day_94 rfl rfl ?_
          refine GO.iload_n dX12_day_95 rfl rfl ?_
          refine GO.callV (ci := 11) (N := mX12_sledgeGoes) dX12_day_96 (RX12, TX12, 151) rfl gV_RX12_700 h_x (t_X12_sledgeGoes h_x r_i7209 (by omega) (by omega)) rfl [] rfl rfl (Nat.le_of_ble_eq_true rfl) rfl (k_vs fun V7291 h7290 hF7289 => ?_)
          refine GO.iinc (X := i7209) (n := 1) (Y := i7209 + 1) (ls1 := [some (.ref x), some (ti (i7209 + 1))]) dX12_day_99 rfl rfl rfl rfl ?_
          refine GO.goto (tgt := 86) dX12_day_102 (by decide) ?_
          exact ih7282 (i7209 + 1) V7291 ⟨by omega, by omega, trivial⟩ (by show (2147483647 - (i7209 + 1)).toNat < (2147483647 - i7209).toNat; omega)
      ·
        refine GO.aload_n dX12_day_73 rfl rfl ?_
        refine GO.iload_n dX12_day_74 rfl rfl ?_
        refine GO.callV (ci := 11) (N := mX12_shipGoes) dX12_day_75 (RX12, TX12, 151) rfl gV_RX12_697 h_x (t_X12_shipGoes h_x r_i6580 (by omega) (by omega)) rfl [] rfl rfl (Nat.le_of_ble_eq_true rfl) rfl (k_vs fun V7294 h7293 hF7292 => ?_)
        refine GO.iinc (X := i6580) (n := 1) (Y := i6580 + 1) (ls1 := [some (.ref x), some (ti (i6580 + 1))]) dX12_day_78 rfl rfl rfl rfl ?_
        refine GO.goto (tgt := 65) dX12_day_81 (by decide) ?_
        exact ih7204 (i6580 + 1) V7294 ⟨by omega, by omega, trivial⟩ (by show (2147483647 - (i6580 + 1)).toNat < (2147483647 - i6580).toNat; omega)
    ·
      refine GO.aload_n dX12_day_36 rfl rfl ?_
      refine GO.iload_n dX12_day_37 rfl rfl ?_
      refine GO.callV (ci := 11) (N := mX12_stands) dX12_day_38 (RX12, TX12, 151) rfl gV_RX12_433 h_x (t_X12_stands h_x r_i13) rfl [] rfl rfl (Nat.le_of_ble_eq_true rfl) rfl (k_ip fun X7295 r7296 h7297 => ?_)
      refine GO.if_ne (tgt := 47) dX12_day_41 (by decide) r7296 (fun c7298 => ?_) (fun c7298 => ?_)
      ·
        have q7299 := h7297.2.1 (by omega)
        refine GO.aload_n dX12_day_47 rfl rfl ?_
        refine GO.iload_n dX12_day_48 rfl rfl ?_
        refine GO.callV (ci := 11) (N := mX12_burns) dX12_day_49 (RX12, TX12, 151) rfl gV_RX12_691 h_x (t_X12_burns h_x r_i13 (by omega) (by omega)) rfl [] rfl rfl (Nat.le_of_ble_eq_true rfl) rfl (k_vs fun V7302 h7301 hF7300 => ?_)
        refine GO.aload_n dX12_day_52 rfl rfl ?_
        refine GO.iload_n dX12_day_53 rfl rfl ?_
        refine GO.callV (ci := 11) (N := mX12_flows) dX12_day_54 (RX12, TX12, 151) rfl gV_RX12_694 h_x (t_X12_flows h_x r_i13 (by omega) (by omega)) rfl [] rfl rfl (Nat.le_of_ble_eq_true rfl) rfl (k_vs fun V7305 h7304 hF7303 => ?_)
        refine GO.iinc (X := i13) (n := 1) (Y := i13 + 1) (ls1 := [some (.ref x), some (ti (i13 + 1))]) dX12_day_57 rfl rfl rfl rfl ?_
        refine GO.goto (tgt := 28) dX12_day_60 (by decide) ?_
        exact ih6575 (i13 + 1) V7305 ⟨by omega, by omega, trivial⟩ (by show (2147483647 - (i13 + 1)).toNat < (2147483647 - i13).toNat; omega)
      ·
        refine GO.goto (tgt := 57) dX12_day_44 (by decide) ?_
        refine GO.iinc (X := i13) (n := 1) (Y := i13 + 1) (ls1 := [some (.ref x), some (ti (i13 + 1))]) dX12_day_57 rfl rfl rfl rfl ?_
        refine GO.goto (tgt := 28) dX12_day_60 (by decide) ?_
        exact ih6575 (i13 + 1) Wi13 ⟨by omega, by omega, trivial⟩ (by show (2147483647 - (i13 + 1)).toNat < (2147483647 - i13).toNat; omega)
  ·
    refine GO.iconst dX12_day_10 ?_
    exact GO.reti rfl rfl dX12_day_11 ⟨rfl, _, rfl, (ir_c rfl), trivial⟩

set_option maxHeartbeats 1000000 in
theorem t_X12_sound {K : Kmap} {V : Vmap} {x : Nat} {p0 : Int} {p1 : Int} {p2 : Int} (h_x : K x = some (0, 11)) (r_p0 : ir p0) (r_p1 : ir p1) (r_p2 : ir p2) : MC mX12_sound K V [.ref x, ti p0, ti p1, ti p2] (IS K (fun X V1 => (X = 0 ∨ X = 1) ∧ (X ≠ 0 → True) ∧ (X = 0 → True))) := by
  refine MC.start 0 (by decide +kernel) rfl rfl rfl (ls0 := [some (.ref x), some (ti p0), some (ti p1), some (ti p2)]) rfl ?_
  refine GO.aload_n dX12_sound_0 rfl rfl ?_
  refine GO.iload_n dX12_sound_1 rfl rfl ?_
  refine GO.iconst dX12_sound_2 ?_
  refine GO.callV (ci := 11) (N := mX12_isPlace) dX12_sound_3 (RX12, TX12, 151) rfl gV_RX12_399 h_x (t_X12_isPlace h_x r_p0 (ir_c rfl)) rfl [] rfl rfl (Nat.le_of_ble_eq_true rfl) rfl (k_ip fun X1 r2 h3 => ?_)
  have raw_isPlace := h3.2.2.2
  refine GO.if_eq (tgt := 42) dX12_sound_6 (by decide) r2 (fun c4 => ?_) (fun c4 => ?_)
  ·
    refine GO.iconst dX12_sound_42 ?_
    exact GO.retz rfl rfl dX12_sound_43 (Or.inl rfl) ⟨rfl, _, rfl, (ir_c rfl), ⟨Or.inl rfl, fun _ => trivial, fun _ => trivial⟩⟩
  ·
    have q5 := h3.2.1 (by omega)
    refine GO.iload_n dX12_sound_9 rfl rfl ?_
    refine GO.iconst dX12_sound_10 ?_
    refine GO.sipush dX12_sound_11 rfl ?_
    refine GO.callS (N := mX12_in) dX12_sound_14 gS_RX12_371 (t_X12_in r_p1 (ir_c rfl) (ir_c rfl)) rfl [] rfl rfl (Nat.le_of_ble_eq_true rfl) rfl (k_ip fun X6 r7 h8 => ?_)
    refine GO.if_eq (tgt := 42) dX12_sound_17 (by decide) r7 (fun c9 => ?_) (fun c9 => ?_)
    ·
      have q10 := h8.2.2 (by omega)
      refine GO.iconst dX12_sound_42 ?_
      exact GO.retz rfl rfl dX12_sound_43 (Or.inl rfl) ⟨rfl, _, rfl, (ir_c rfl), ⟨Or.inl rfl, fun _ => trivial, fun _ => trivial⟩⟩
    ·
      have q11 := h8.2.1 (by omega)
      refine GO.iload_n dX12_sound_20 rfl rfl ?_
      refine GO.iconst dX12_sound_21 ?_
      refine GO.sipush dX12_sound_22 rfl ?_
      refine GO.callS (N := mX12_in) dX12_sound_25 gS_RX12_371 (t_X12_in r_p2 (ir_c rfl) (ir_c rfl)) rfl [] rfl rfl (Nat.le_of_ble_eq_true rfl) rfl (k_ip fun X12 r13 h14 => ?_)
      refine GO.if_eq (tgt := 42) dX12_sound_28 (by decide) r13 (fun c15 => ?_) (fun c15 => ?_)
      ·
        have q16 := h14.2.2 (by omega)
        refine GO.iconst dX12_sound_42 ?_
        exact GO.retz rfl rfl dX12_sound_43 (Or.inl rfl) ⟨rfl, _, rfl, (ir_c rfl), ⟨Or.inl rfl, fun _ => trivial, fun _ => trivial⟩⟩
      ·
        have q17 := h14.2.1 (by omega)
        refine GO.aload_n dX12_sound_31 rfl rfl ?_
        refine GO.getA (n := 60) h_x fl_RX12_283 rfl rfl rfl rfl dX12_sound_32 (fun hv19 h18 => ?_)
        refine GO.iload_n dX12_sound_35 rfl rfl ?_
        have q20 : -2147483648 ≤ p0 ∧ p0 ≤ 2147483647 := r_p0
        refine GO.iald (t := 96) rfl rfl h18 r_p0 (by omega) (by omega) dX12_sound_36 (fun l21 u22 => ?_)
        refine GO.bipush dX12_sound_37 rfl ?_
        refine GO.icmp_ne (tgt := 44) dX12_sound_39 (by decide) vi_ir (ir_c rfl) (fun c23 => ?_) (fun c23 => ?_)
        ·
          refine GO.aload_n dX12_sound_44 rfl rfl ?_
          refine GO.getA (n := 480) h_x fl_RX12_286 rfl rfl rfl rfl dX12_sound_45 (fun hv25 h24 => ?_)
          refine GO.bipush dX12_sound_48 rfl ?_
          refine GO.iload_n dX12_sound_50 rfl rfl ?_
          refine GO.imul dX12_sound_51 ?_
          refine GO.aload_n dX12_sound_52 rfl rfl ?_
          refine GO.getRaw h_x fl_RX12_283 hv19 dX12_sound_53 ?_
          refine GO.iload_n dX12_sound_56 rfl rfl ?_
          refine GO.iald (t := 96) rfl rfl h18 r_p0 (by omega) (by omega) dX12_sound_57 (fun l28 u29 => ?_)
          refine GO.iadd dX12_sound_58 ?_
          refine GO.iload_n dX12_sound_59 rfl rfl ?_
          refine GO.iast (t := 97) rfl rfl (by decide +kernel) h24 ⟨by omega, by omega⟩ (by omega) (by omega) r_p1 (r_p1).1 (r_p1).2 dX12_sound_60 (fun V31 e30 => ?_)
          refine GO.aload_n dX12_sound_61 rfl rfl ?_
          refine GO.getA (n := 480) h_x fl_RX12_289 rfl rfl rfl rfl dX12_sound_62 (fun hv33 h32 => ?_)
          refine GO.bipush dX12_sound_65 rfl ?_
          refine GO.iload_n dX12_sound_67 rfl rfl ?_
          refine GO.imul dX12_sound_68 ?_
          refine GO.aload_n dX12_sound_69 rfl rfl ?_
          refine GO.getRaw h_x fl_RX12_283 (Eq.trans (uq_ne e30 (Or.inl (K_ne h_x h24 (by decide)))) hv19) dX12_sound_70 ?_
          refine GO.iload_n dX12_sound_73 rfl rfl ?_
          refine GO.iald (t := 96) rfl rfl h18 r_p0 (by omega) (by omega) dX12_sound_74 (fun l36 u37 => ?_)
          have e38 : vi V31 (vq V x 121) (p0).toNat = vi V (vq V x 121) (p0).toNat := vi_up e30 (Or.inl (K_ne h18 h24 (by decide)))
          refine GO.iadd dX12_sound_75 ?_
          refine GO.iload_n dX12_sound_76 rfl rfl ?_
          refine GO.iast (t := 98) rfl rfl (by decide +kernel) h32 ⟨by omega, by omega⟩ (by omega) (by omega) r_p2 (r_p2).1 (r_p2).2 dX12_sound_77 (fun V40 e39 => ?_)
          refine GO.aload_n dX12_sound_78 rfl rfl ?_
          refine GO.getRaw h_x fl_RX12_283 (Eq.trans (uq_ne e39 (Or.inl (K_ne h_x h32 (by decide)))) (Eq.trans (uq_ne e30 (Or.inl (K_ne h_x h24 (by decide)))) hv19)) dX12_sound_79 ?_
          refine GO.iload_n dX12_sound_82 rfl rfl ?_
          refine GO.aload_n dX12_sound_83 rfl rfl ?_
          refine GO.getRaw h_x fl_RX12_283 (Eq.trans (uq_ne e39 (Or.inl (K_ne h_x h32 (by decide)))) (Eq.trans (uq_ne e30 (Or.inl (K_ne h_x h24 (by decide)))) hv19)) dX12_sound_84 ?_
          refine GO.iload_n dX12_sound_87 rfl rfl ?_
          refine GO.iald (t := 96) rfl rfl h18 r_p0 (by omega) (by omega) dX12_sound_88 (fun l45 u46 => ?_)
          have e47 : vi V40 (vq V x 121) (p0).toNat = vi V31 (vq V x 121) (p0).toNat := vi_up e39 (Or.inl (K_ne h18 h32 (by decide)))
          refine GO.iconst dX12_sound_89 ?_
          refine GO.iadd dX12_sound_90 ?_
          refine GO.iast (t := 96) rfl rfl (by decide +kernel) h18 r_p0 (by omega) (by omega) ⟨by omega, by omega⟩ (by omega) (by omega) dX12_sound_91 (fun V49 e48 => ?_)
          refine GO.iconst dX12_sound_92 ?_
          exact GO.retz rfl rfl dX12_sound_93 (Or.inr rfl) ⟨rfl, _, rfl, (ir_c rfl), ⟨Or.inr rfl, fun _ => trivial, fun _ => trivial⟩⟩
        ·
          refine GO.iconst dX12_sound_42 ?_
          exact GO.retz rfl rfl dX12_sound_43 (Or.inl rfl) ⟨rfl, _, rfl, (ir_c rfl), ⟨Or.inl rfl, fun _ => trivial, fun _ => trivial⟩⟩

set_option maxHeartbeats 1000000 in
theorem t_X12_sure {K : Kmap} {V : Vmap} {x : Nat} {p0 : Int} (h_x : K x = some (0, 11)) (r_p0 : ir p0) : MC mX12_sure K V [.ref x, ti p0] (IP K V (fun X => True)) := by
  refine MC.start 0 (by decide +kernel) rfl rfl rfl (ls0 := [some (.ref x), some (ti p0)]) rfl ?_
  refine GO.aload_n dX12_sure_0 rfl rfl ?_
  refine GO.iload_n dX12_sure_1 rfl rfl ?_
  refine GO.iconst dX12_sure_2 ?_
  refine GO.callV (ci := 11) (N := mX12_isPlace) dX12_sure_3 (RX12, TX12, 151) rfl gV_RX12_399 h_x (t_X12_isPlace h_x r_p0 (ir_c rfl)) rfl [] rfl rfl (Nat.le_of_ble_eq_true rfl) rfl (k_ip fun X1 r2 h3 => ?_)
  have raw_isPlace := h3.2.2.2
  refine GO.if_eq (tgt := 17) dX12_sure_6 (by decide) r2 (fun c4 => ?_) (fun c4 => ?_)
  ·
    refine GO.iconst dX12_sure_17 ?_
    exact GO.reti rfl rfl dX12_sure_18 ⟨rfl, rfl, _, rfl, (ir_c rfl), trivial⟩
  ·
    have q5 := h3.2.1 (by omega)
    refine GO.aload_n dX12_sure_9 rfl rfl ?_
    refine GO.iload_n dX12_sure_10 rfl rfl ?_
    have q6 : -2147483648 ≤ p0 ∧ p0 ≤ 2147483647 := r_p0
    refine GO.callV (ci := 11) (N := mX12_sureOf) dX12_sure_11 (RX12, TX12, 151) rfl gV_RX12_703 h_x (t_X12_sureOf h_x r_p0 (by omega) (by omega)) rfl [] rfl rfl (Nat.le_of_ble_eq_true rfl) rfl (k_ip fun X7 r8 h9 => ?_)
    refine GO.goto (tgt := 18) dX12_sure_14 (by decide) ?_
    have q10 : -2147483648 ≤ X7 ∧ X7 ≤ 2147483647 := r8
    exact GO.reti rfl rfl dX12_sure_18 ⟨rfl, rfl, _, rfl, r8, trivial⟩

set_option maxHeartbeats 1000000 in
theorem t_X12_drill {K : Kmap} {V : Vmap} {x : Nat} {p0 : Int} {p1 : Int} (h_x : K x = some (0, 11)) (r_p0 : ir p0) (r_p1 : ir p1) : MC mX12_drill K V [.ref x, ti p0, ti p1] (IS K (fun X V1 => True)) := by
  refine MC.start 0 (by decide +kernel) rfl rfl rfl (ls0 := [some (.ref x), some (ti p0), some (ti p1)]) rfl ?_
  refine GO.aload_n dX12_drill_0 rfl rfl ?_
  refine GO.iload_n dX12_drill_1 rfl rfl ?_
  refine GO.iconst dX12_drill_2 ?_
  refine GO.callV (ci := 11) (N := mX12_isPlace) dX12_drill_3 (RX12, TX12, 151) rfl gV_RX12_399 h_x (t_X12_isPlace h_x r_p0 (ir_c rfl)) rfl [] rfl rfl (Nat.le_of_ble_eq_true rfl) rfl (k_ip fun X1 r2 h3 => ?_)
  have raw_isPlace := h3.2.2.2
  refine GO.if_eq (tgt := 51) dX12_drill_6 (by decide) r2 (fun c4 => ?_) (fun c4 => ?_)
  ·
    refine GO.iconst dX12_drill_51 ?_
    exact GO.reti rfl rfl dX12_drill_52 ⟨rfl, _, rfl, (ir_c rfl), trivial⟩
  ·
    have q5 := h3.2.1 (by omega)
    refine GO.aload_n dX12_drill_9 rfl rfl ?_
    refine GO.iload_n dX12_drill_10 rfl rfl ?_
    refine GO.callV (ci := 11) (N := mX12_isWork) dX12_drill_11 (RX12, TX12, 151) rfl gV_RX12_566 h_x (t_X12_isWork h_x r_p1) rfl [] rfl rfl (Nat.le_of_ble_eq_true rfl) rfl (k_ip fun X6 r7 h8 => ?_)
    refine GO.if_eq (tgt := 51) dX12_drill_14 (by decide) r7 (fun c9 => ?_) (fun c9 => ?_)
    ·
      refine GO.iconst dX12_drill_51 ?_
      exact GO.reti rfl rfl dX12_drill_52 ⟨rfl, _, rfl, (ir_c rfl), trivial⟩
    ·
      have q10 := h8.2.1 (by omega)
      refine GO.aload_n dX12_drill_17 rfl rfl ?_
      refine GO.getA (n := 100) h_x fl_RX12_163 rfl rfl rfl rfl dX12_drill_18 (fun hv12 h11 => ?_)
      refine GO.iload_n dX12_drill_21 rfl rfl ?_
      have q13 : -2147483648 ≤ p1 ∧ p1 ≤ 2147483647 := r_p1
      refine GO.iald (t := 57) rfl rfl h11 r_p1 (by omega) (by omega) dX12_drill_22 (fun _ _ => ?_)
      refine GO.iconst dX12_drill_23 ?_
      refine GO.icmp_ne (tgt := 51) dX12_drill_24 (by decide) vi_ir (ir_c rfl) (fun c14 => ?_) (fun c14 => ?_)
      ·
        refine GO.iconst dX12_drill_51 ?_
        exact GO.reti rfl rfl dX12_drill_52 ⟨rfl, _, rfl, (ir_c rfl), trivial⟩
      ·
        refine GO.aload_n dX12_drill_27 rfl rfl ?_
        refine GO.getA (n := 100) h_x fl_RX12_169 rfl rfl rfl rfl dX12_drill_28 (fun hv16 h15 => ?_)
        refine GO.iload_n dX12_drill_31 rfl rfl ?_
        refine GO.iald (t := 59) rfl rfl h15 r_p1 (by omega) (by omega) dX12_drill_32 (fun l17 u18 => ?_)
        refine GO.aload_n dX12_drill_33 rfl rfl ?_
        refine GO.getA (n := 60) h_x fl_RX12_41 rfl rfl rfl rfl dX12_drill_34 (fun hv20 h19 => ?_)
        refine GO.iload_n dX12_drill_37 rfl rfl ?_
        have q21 : -2147483648 ≤ p0 ∧ p0 ≤ 2147483647 := r_p0
        refine GO.iald (t := 17) rfl rfl h19 r_p0 (by omega) (by omega) dX12_drill_38 (fun l22 u23 => ?_)
        refine GO.icmp_ne (tgt := 51) dX12_drill_39 (by decide) vi_ir vi_ir (fun c24 => ?_) (fun c24 => ?_)
        ·
          refine GO.iconst dX12_drill_51 ?_
          exact GO.reti rfl rfl dX12_drill_52 ⟨rfl, _, rfl, (ir_c rfl), trivial⟩
        ·
          refine GO.aload_n dX12_drill_42 rfl rfl ?_
          refine GO.getI h_x fl_RX12_667 rfl rfl dX12_drill_43 (fun l25 u26 => ?_)
          refine GO.bipush dX12_drill_46 rfl ?_
          refine GO.icmp_ne (tgt := 53) dX12_drill_48 (by decide) vi_ir (ir_c rfl) (fun c27 => ?_) (fun c27 => ?_)
          ·
            refine GO.aload_n dX12_drill_53 rfl rfl ?_
            refine GO.getA (n := 10) h_x fl_RX12_292 rfl rfl rfl rfl dX12_drill_54 (fun hv29 h28 => ?_)
            refine GO.aload_n dX12_drill_57 rfl rfl ?_
            refine GO.getI h_x fl_RX12_667 rfl rfl dX12_drill_58 (fun l30 u31 => ?_)
            refine GO.iload_n dX12_drill_61 rfl rfl ?_
            refine GO.iast (t := 99) rfl rfl (by decide +kernel) h28 vi_ir (by omega) (by omega) r_p0 (by omega) (by omega) dX12_drill_62 (fun V33 e32 => ?_)
            refine GO.aload_n dX12_drill_63 rfl rfl ?_
            refine GO.getA (n := 10) h_x fl_RX12_295 rfl rfl rfl rfl dX12_drill_64 (fun hv35 h34 => ?_)
            refine GO.aload_n dX12_drill_67 rfl rfl ?_
            refine GO.getI h_x fl_RX12_667 rfl rfl dX12_drill_68 (fun l36 u37 => ?_)
            have e38 : vi V33 x 118 = vi V x 118 := vi_up e32 (Or.inl (K_ne h_x h28 (by decide)))
            refine GO.iload_n dX12_drill_71 rfl rfl ?_
            refine GO.iast (t := 100) rfl rfl (by decide +kernel) h34 vi_ir (by omega) (by omega) r_p1 (r_p1).1 (r_p1).2 dX12_drill_72 (fun V40 e39 => ?_)
            refine GO.aload_n dX12_drill_73 rfl rfl ?_
            refine GO.aload_n dX12_drill_74 rfl rfl ?_
            refine GO.getI h_x fl_RX12_667 rfl rfl dX12_drill_75 (fun l41 u42 => ?_)
            have e43 : vi V40 x 118 = vi V33 x 118 := vi_up e39 (Or.inl (K_ne h_x h34 (by decide)))
            refine GO.iconst dX12_drill_78 ?_
            refine GO.iadd dX12_drill_79 ?_
            refine GO.putI h_x fp_RX12_667 rfl (by decide +kernel) ⟨by omega, by omega⟩ (by omega) (by omega) dX12_drill_80 (fun V45 e44 => ?_)
            refine GO.aload_n dX12_drill_83 rfl rfl ?_
            refine GO.getI h_x fl_RX12_667 rfl rfl dX12_drill_84 (fun l46 u47 => ?_)
            have e48 : vi V45 x 118 = (vi V40 x 118) + 1 := upd2_int e44 ⟨by omega, by omega⟩
            refine GO.iconst dX12_drill_87 ?_
            refine GO.isub dX12_drill_88 ?_
            exact GO.reti rfl rfl dX12_drill_89 ⟨rfl, _, rfl, ⟨by omega, by omega⟩, trivial⟩
          ·
            refine GO.iconst dX12_drill_51 ?_
            exact GO.reti rfl rfl dX12_drill_52 ⟨rfl, _, rfl, (ir_c rfl), trivial⟩

set_option maxHeartbeats 1000000 in
theorem t_X12_speed {K : Kmap} {V : Vmap} {x : Nat} {p0 : Int} {p1 : Int} (h_x : K x = some (0, 11)) (r_p0 : ir p0) (r_p1 : ir p1) : MC mX12_speed K V [.ref x, ti p0, ti p1] (IS K (fun X V1 => (X = 0 ∨ X = 1) ∧ (X ≠ 0 → ((p0 = (-1) ∧ p1 ≥ 0 ∧ p1 ≤ 1000) ∨ (p0 ≥ 0 ∧ p0 ≤ 9 ∧ p1 ≥ 1 ∧ p1 ≤ 200))) ∧ (X = 0 → (p0 ≠ (-1) ∨ p1 < 0 ∨ p1 > 1000) ∧ (p0 < 0 ∨ p0 > 9 ∨ p1 < 1 ∨ p1 > 200)))) := by
  refine MC.start 0 (by decide +kernel) rfl rfl rfl (ls0 := [some (.ref x), some (ti p0), some (ti p1)]) rfl ?_
  refine GO.iload_n dX12_speed_0 rfl rfl ?_
  refine GO.iconst dX12_speed_1 ?_
  refine GO.icmp_ne (tgt := 23) dX12_speed_2 (by decide) r_p0 (ir_c rfl) (fun c1 => ?_) (fun c1 => ?_)
  ·
    refine GO.iload_n dX12_speed_23 rfl rfl ?_
    refine GO.iconst dX12_speed_24 ?_
    refine GO.bipush dX12_speed_25 rfl ?_
    refine GO.callS (N := mX12_in) dX12_speed_27 gS_RX12_371 (t_X12_in r_p0 (ir_c rfl) (ir_c rfl)) rfl [] rfl rfl (Nat.le_of_ble_eq_true rfl) rfl (k_ip fun X2 r3 h4 => ?_)
    refine GO.if_eq (tgt := 44) dX12_speed_30 (by decide) r3 (fun c5 => ?_) (fun c5 => ?_)
    ·
      have q6 := h4.2.2 (by omega)
      refine GO.iconst dX12_speed_44 ?_
      exact GO.retz rfl rfl dX12_speed_45 (Or.inl rfl) ⟨rfl, _, rfl, (ir_c rfl), ⟨Or.inl rfl, fun h => absurd rfl h, fun h => by omega⟩⟩
    ·
      have q7 := h4.2.1 (by omega)
      refine GO.iload_n dX12_speed_33 rfl rfl ?_
      refine GO.iconst dX12_speed_34 ?_
      refine GO.sipush dX12_speed_35 rfl ?_
      refine GO.callS (N := mX12_in) dX12_speed_38 gS_RX12_371 (t_X12_in r_p1 (ir_c rfl) (ir_c rfl)) rfl [] rfl rfl (Nat.le_of_ble_eq_true rfl) rfl (k_ip fun X8 r9 h10 => ?_)
      refine GO.if_ne (tgt := 46) dX12_speed_41 (by decide) r9 (fun c11 => ?_) (fun c11 => ?_)
      ·
        have q12 := h10.2.1 (by omega)
        refine GO.aload_n dX12_speed_46 rfl rfl ?_
        refine GO.getA (n := 10) h_x fl_RX12_301 rfl rfl rfl rfl dX12_speed_47 (fun hv14 h13 => ?_)
        refine GO.iload_n dX12_speed_50 rfl rfl ?_
        refine GO.iload_n dX12_speed_51 rfl rfl ?_
        have q15 : -2147483648 ≤ p0 ∧ p0 ≤ 2147483647 := r_p0
        refine GO.iast (t := 102) rfl rfl (by decide +kernel) h13 r_p0 (by omega) (by omega) r_p1 (r_p1).1 (r_p1).2 dX12_speed_52 (fun V17 e16 => ?_)
        refine GO.iconst dX12_speed_53 ?_
        exact GO.retz rfl rfl dX12_speed_54 (Or.inr rfl) ⟨rfl, _, rfl, (ir_c rfl), ⟨Or.inr rfl, fun h => by omega, fun h => absurd h (by decide)⟩⟩
      ·
        have q18 := h10.2.2 (by omega)
        refine GO.iconst dX12_speed_44 ?_
        exact GO.retz rfl rfl dX12_speed_45 (Or.inl rfl) ⟨rfl, _, rfl, (ir_c rfl), ⟨Or.inl rfl, fun h => absurd rfl h, fun h => by omega⟩⟩
  ·
    refine GO.iload_n dX12_speed_5 rfl rfl ?_
    refine GO.iconst dX12_speed_6 ?_
    refine GO.sipush dX12_speed_7 rfl ?_
    refine GO.callS (N := mX12_in) dX12_speed_10 gS_RX12_371 (t_X12_in r_p1 (ir_c rfl) (ir_c rfl)) rfl [] rfl rfl (Nat.le_of_ble_eq_true rfl) rfl (k_ip fun X19 r20 h21 => ?_)
    refine GO.if_eq (tgt := 23) dX12_speed_13 (by decide) r20 (fun c22 => ?_) (fun c22 => ?_)
    ·
      have q23 := h21.2.2 (by omega)
      refine GO.iload_n dX12_speed_23 rfl rfl ?_
      refine GO.iconst dX12_speed_24 ?_
      refine GO.bipush dX12_speed_25 rfl ?_
      refine GO.callS (N := mX12_in) dX12_speed_27 gS_RX12_371 (t_X12_in r_p0 (ir_c rfl) (ir_c rfl)) rfl [] rfl rfl (Nat.le_of_ble_eq_true rfl) rfl (k_ip fun X24 r25 h26 => ?_)
      refine GO.if_eq (tgt := 44) dX12_speed_30 (by decide) r25 (fun c27 => ?_) (fun c27 => ?_)
      ·
        have q28 := h26.2.2 (by omega)
        refine GO.iconst dX12_speed_44 ?_
        exact GO.retz rfl rfl dX12_speed_45 (Or.inl rfl) ⟨rfl, _, rfl, (ir_c rfl), ⟨Or.inl rfl, fun h => absurd rfl h, fun h => by omega⟩⟩
      ·
        have q29 := h26.2.1 (by omega)
        refine GO.iload_n dX12_speed_33 rfl rfl ?_
        refine GO.iconst dX12_speed_34 ?_
        refine GO.sipush dX12_speed_35 rfl ?_
        refine GO.callS (N := mX12_in) dX12_speed_38 gS_RX12_371 (t_X12_in r_p1 (ir_c rfl) (ir_c rfl)) rfl [] rfl rfl (Nat.le_of_ble_eq_true rfl) rfl (k_ip fun X30 r31 h32 => ?_)
        refine GO.if_ne (tgt := 46) dX12_speed_41 (by decide) r31 (fun c33 => ?_) (fun c33 => ?_)
        ·
          have q34 := h32.2.1 (by omega)
          refine GO.aload_n dX12_speed_46 rfl rfl ?_
          refine GO.getA (n := 10) h_x fl_RX12_301 rfl rfl rfl rfl dX12_speed_47 (fun hv36 h35 => ?_)
          refine GO.iload_n dX12_speed_50 rfl rfl ?_
          refine GO.iload_n dX12_speed_51 rfl rfl ?_
          have q37 : -2147483648 ≤ p0 ∧ p0 ≤ 2147483647 := r_p0
          refine GO.iast (t := 102) rfl rfl (by decide +kernel) h35 r_p0 (by omega) (by omega) r_p1 (r_p1).1 (r_p1).2 dX12_speed_52 (fun V39 e38 => ?_)
          refine GO.iconst dX12_speed_53 ?_
          exact GO.retz rfl rfl dX12_speed_54 (Or.inr rfl) ⟨rfl, _, rfl, (ir_c rfl), ⟨Or.inr rfl, fun h => by omega, fun h => absurd h (by decide)⟩⟩
        ·
          have q40 := h32.2.2 (by omega)
          refine GO.iconst dX12_speed_44 ?_
          exact GO.retz rfl rfl dX12_speed_45 (Or.inl rfl) ⟨rfl, _, rfl, (ir_c rfl), ⟨Or.inl rfl, fun h => absurd rfl h, fun h => by omega⟩⟩
    ·
      have q41 := h21.2.1 (by omega)
      refine GO.aload_n dX12_speed_16 rfl rfl ?_
      refine GO.iload_n dX12_speed_17 rfl rfl ?_
      refine GO.putI h_x fp_RX12_280 rfl (by decide +kernel) r_p1 (r_p1).1 (r_p1).2 dX12_speed_18 (fun V43 e42 => ?_)
      refine GO.iconst dX12_speed_21 ?_
      exact GO.retz rfl rfl dX12_speed_22 (Or.inr rfl) ⟨rfl, _, rfl, (ir_c rfl), ⟨Or.inr rfl, fun h => by omega, fun h => absurd h (by decide)⟩⟩

set_option maxHeartbeats 1000000 in
theorem t_X12_birds {K : Kmap} {V : Vmap} {x : Nat} {p0 : Int} {p1 : Int} {p2 : Int} (h_x : K x = some (0, 11)) (r_p0 : ir p0) (r_p1 : ir p1) (r_p2 : ir p2) : MC mX12_birds K V [.ref x, ti p0, ti p1, ti p2] (IS K (fun X V1 => (X = 0 ∨ X = 1) ∧ (X ≠ 0 → True) ∧ (X = 0 → True))) := by
  refine MC.start 0 (by decide +kernel) rfl rfl rfl (ls0 := [some (.ref x), some (ti p0), some (ti p1), some (ti p2)]) rfl ?_
  refine GO.aload_n dX12_birds_0 rfl rfl ?_
  refine GO.iload_n dX12_birds_1 rfl rfl ?_
  refine GO.iconst dX12_birds_2 ?_
  refine GO.callV (ci := 11) (N := mX12_isPlace) dX12_birds_3 (RX12, TX12, 151) rfl gV_RX12_399 h_x (t_X12_isPlace h_x r_p0 (ir_c rfl)) rfl [] rfl rfl (Nat.le_of_ble_eq_true rfl) rfl (k_ip fun X1 r2 h3 => ?_)
  have raw_isPlace := h3.2.2.2
  refine GO.if_eq (tgt := 30) dX12_birds_6 (by decide) r2 (fun c4 => ?_) (fun c4 => ?_)
  ·
    refine GO.iconst dX12_birds_30 ?_
    exact GO.retz rfl rfl dX12_birds_31 (Or.inl rfl) ⟨rfl, _, rfl, (ir_c rfl), ⟨Or.inl rfl, fun _ => trivial, fun _ => trivial⟩⟩
  ·
    have q5 := h3.2.1 (by omega)
    refine GO.iload_n dX12_birds_9 rfl rfl ?_
    refine GO.iconst dX12_birds_10 ?_
    refine GO.bipush dX12_birds_11 rfl ?_
    refine GO.callS (N := mX12_in) dX12_birds_13 gS_RX12_371 (t_X12_in r_p1 (ir_c rfl) (ir_c rfl)) rfl [] rfl rfl (Nat.le_of_ble_eq_true rfl) rfl (k_ip fun X6 r7 h8 => ?_)
    refine GO.if_eq (tgt := 30) dX12_birds_16 (by decide) r7 (fun c9 => ?_) (fun c9 => ?_)
    ·
      have q10 := h8.2.2 (by omega)
      refine GO.iconst dX12_birds_30 ?_
      exact GO.retz rfl rfl dX12_birds_31 (Or.inl rfl) ⟨rfl, _, rfl, (ir_c rfl), ⟨Or.inl rfl, fun _ => trivial, fun _ => trivial⟩⟩
    ·
      have q11 := h8.2.1 (by omega)
      refine GO.iload_n dX12_birds_19 rfl rfl ?_
      refine GO.iconst dX12_birds_20 ?_
      refine GO.ldcw (X := 100000) dX12_birds_21 gw_2019 rfl ?_
      refine GO.callS (N := mX12_in) dX12_birds_24 gS_RX12_371 (t_X12_in r_p2 (ir_c rfl) (ir_c rfl)) rfl [] rfl rfl (Nat.le_of_ble_eq_true rfl) rfl (k_ip fun X12 r13 h14 => ?_)
      refine GO.if_ne (tgt := 32) dX12_birds_27 (by decide) r13 (fun c15 => ?_) (fun c15 => ?_)
      ·
        have q16 := h14.2.1 (by omega)
        refine GO.aload_n dX12_birds_32 rfl rfl ?_
        refine GO.getA (n := 600) h_x fl_RX12_77 rfl rfl rfl rfl dX12_birds_33 (fun hv18 h17 => ?_)
        refine GO.bipush dX12_birds_36 rfl ?_
        refine GO.iload_n dX12_birds_38 rfl rfl ?_
        refine GO.imul dX12_birds_39 ?_
        refine GO.iload_n dX12_birds_40 rfl rfl ?_
        refine GO.iadd dX12_birds_41 ?_
        refine GO.iload_n dX12_birds_42 rfl rfl ?_
        have q19 : -2147483648 ≤ p1 ∧ p1 ≤ 2147483647 := r_p1
        have q20 : -2147483648 ≤ p0 ∧ p0 ≤ 2147483647 := r_p0
        refine GO.iast (t := 29) rfl rfl (by decide +kernel) h17 ⟨by omega, by omega⟩ (by omega) (by omega) r_p2 (r_p2).1 (r_p2).2 dX12_birds_43 (fun V22 e21 => ?_)
        refine GO.iconst dX12_birds_44 ?_
        exact GO.retz rfl rfl dX12_birds_45 (Or.inr rfl) ⟨rfl, _, rfl, (ir_c rfl), ⟨Or.inr rfl, fun _ => trivial, fun _ => trivial⟩⟩
      ·
        have q23 := h14.2.2 (by omega)
        refine GO.iconst dX12_birds_30 ?_
        exact GO.retz rfl rfl dX12_birds_31 (Or.inl rfl) ⟨rfl, _, rfl, (ir_c rfl), ⟨Or.inl rfl, fun _ => trivial, fun _ => trivial⟩⟩

set_option maxHeartbeats 1000000 in
theorem t_X12_part {K : Kmap} {V : Vmap} {p0 : Int} {p1 : Int} (r_p0 : ir p0) (r_p1 : ir p1) : MC mX12_part K V [ti p0, ti p1] (IP K V (fun X => True)) := by
  refine MC.start 0 (by decide +kernel) rfl rfl rfl (ls0 := [some (ti p0), some (ti p1)]) rfl ?_
  refine GO.iload_n dX12_part_0 rfl rfl ?_
  refine GO.iload_n dX12_part_1 rfl rfl ?_
  refine GO.imul dX12_part_2 ?_
  refine GO.norm (fun z1 r2 _ => ?_)
  refine GO.bipush dX12_part_3 rfl ?_
  refine GO.iadd dX12_part_5 ?_
  refine GO.norm (fun z3 r4 _ => ?_)
  refine GO.bipush dX12_part_6 rfl ?_
  refine GO.idiv dX12_part_8 (ir_c rfl) (by omega) ?_
  have q5 : -2147483648 ≤ wdiv z3 100 ∧ wdiv z3 100 ≤ 2147483647 := wdiv_ir
  exact GO.reti rfl rfl dX12_part_9 ⟨rfl, rfl, _, rfl, wdiv_ir, trivial⟩

set_option maxHeartbeats 1000000 in
theorem t_X12_loss {K : Kmap} {V : Vmap} {x : Nat} {p0 : Int} {p1 : Int} {p2 : Int} {p3 : Int} {p4 : Int} (h_x : K x = some (0, 11)) (r_p0 : ir p0) (r_p1 : ir p1) (r_p2 : ir p2) (r_p3 : ir p3) (r_p4 : ir p4) : MC mX12_loss K V [.ref x, ti p0, ti p1, ti p2, ti p3, ti p4] (IP K V (fun X => True)) := by
  refine MC.start 3 (by decide +kernel) rfl rfl rfl (ls0 := [some (.ref x), some (ti p0), some (ti p1), some (ti p2), some (ti p3), some (ti p4), none, none, none]) rfl ?_
  refine GO.aload_n dX12_loss_0 rfl rfl ?_
  refine GO.iload_n dX12_loss_1 rfl rfl ?_
  refine GO.iconst dX12_loss_2 ?_
  refine GO.callV (ci := 11) (N := mX12_isPlace) dX12_loss_3 (RX12, TX12, 151) rfl gV_RX12_399 h_x (t_X12_isPlace h_x r_p0 (ir_c rfl)) rfl [] rfl rfl (Nat.le_of_ble_eq_true rfl) rfl (k_ip fun X1 r2 h3 => ?_)
  have raw_isPlace := h3.2.2.2
  refine GO.if_eq (tgt := 52) dX12_loss_6 (by decide) r2 (fun c4 => ?_) (fun c4 => ?_)
  ·
    refine GO.ldcw (X := (-1000000)) dX12_loss_52 gw_2322 rfl ?_
    exact GO.reti rfl rfl dX12_loss_55 ⟨rfl, rfl, _, rfl, (ir_c rfl), trivial⟩
  ·
    have q5 := h3.2.1 (by omega)
    refine GO.iload_n dX12_loss_9 rfl rfl ?_
    refine GO.iconst dX12_loss_10 ?_
    refine GO.bipush dX12_loss_11 rfl ?_
    refine GO.callS (N := mX12_in) dX12_loss_13 gS_RX12_371 (t_X12_in r_p1 (ir_c rfl) (ir_c rfl)) rfl [] rfl rfl (Nat.le_of_ble_eq_true rfl) rfl (k_ip fun X6 r7 h8 => ?_)
    refine GO.if_eq (tgt := 52) dX12_loss_16 (by decide) r7 (fun c9 => ?_) (fun c9 => ?_)
    ·
      have q10 := h8.2.2 (by omega)
      refine GO.ldcw (X := (-1000000)) dX12_loss_52 gw_2322 rfl ?_
      exact GO.reti rfl rfl dX12_loss_55 ⟨rfl, rfl, _, rfl, (ir_c rfl), trivial⟩
    ·
      have q11 := h8.2.1 (by omega)
      refine GO.iload_n dX12_loss_19 rfl rfl ?_
      refine GO.iload_n dX12_loss_20 rfl rfl ?_
      refine GO.iconst dX12_loss_21 ?_
      refine GO.iadd dX12_loss_22 ?_
      refine GO.bipush dX12_loss_23 rfl ?_
      have q12 : -2147483648 ≤ p1 ∧ p1 ≤ 2147483647 := r_p1
      refine GO.callS (N := mX12_in) dX12_loss_25 gS_RX12_371 (t_X12_in r_p2 ⟨by omega, by omega⟩ (ir_c rfl)) rfl [] rfl rfl (Nat.le_of_ble_eq_true rfl) rfl (k_ip fun X13 r14 h15 => ?_)
      refine GO.if_eq (tgt := 52) dX12_loss_28 (by decide) r14 (fun c16 => ?_) (fun c16 => ?_)
      ·
        have q17 := h15.2.2 (by omega)
        refine GO.ldcw (X := (-1000000)) dX12_loss_52 gw_2322 rfl ?_
        exact GO.reti rfl rfl dX12_loss_55 ⟨rfl, rfl, _, rfl, (ir_c rfl), trivial⟩
      ·
        have q18 := h15.2.1 (by omega)
        refine GO.iload dX12_loss_31 rfl ?_
        refine GO.iconst dX12_loss_33 ?_
        refine GO.bipush dX12_loss_34 rfl ?_
        refine GO.callS (N := mX12_in) dX12_loss_36 gS_RX12_371 (t_X12_in r_p3 (ir_c rfl) (ir_c rfl)) rfl [] rfl rfl (Nat.le_of_ble_eq_true rfl) rfl (k_ip fun X19 r20 h21 => ?_)
        refine GO.if_eq (tgt := 52) dX12_loss_39 (by decide) r20 (fun c22 => ?_) (fun c22 => ?_)
        ·
          have q23 := h21.2.2 (by omega)
          refine GO.ldcw (X := (-1000000)) dX12_loss_52 gw_2322 rfl ?_
          exact GO.reti rfl rfl dX12_loss_55 ⟨rfl, rfl, _, rfl, (ir_c rfl), trivial⟩
        ·
          have q24 := h21.2.1 (by omega)
          refine GO.iload dX12_loss_42 rfl ?_
          refine GO.iconst dX12_loss_44 ?_
          refine GO.iconst dX12_loss_45 ?_
          refine GO.callS (N := mX12_in) dX12_loss_46 gS_RX12_371 (t_X12_in r_p4 (ir_c rfl) (ir_c rfl)) rfl [] rfl rfl (Nat.le_of_ble_eq_true rfl) rfl (k_ip fun X25 r26 h27 => ?_)
          refine GO.if_ne (tgt := 56) dX12_loss_49 (by decide) r26 (fun c28 => ?_) (fun c28 => ?_)
          ·
            have q29 := h27.2.1 (by omega)
            refine GO.aload_n dX12_loss_56 rfl rfl ?_
            refine GO.getA (n := 600) h_x fl_RX12_77 rfl rfl rfl rfl dX12_loss_57 (fun hv31 h30 => ?_)
            refine GO.bipush dX12_loss_60 rfl ?_
            refine GO.iload_n dX12_loss_62 rfl rfl ?_
            refine GO.imul dX12_loss_63 ?_
            refine GO.iload_n dX12_loss_64 rfl rfl ?_
            refine GO.iadd dX12_loss_65 ?_
            have q32 : -2147483648 ≤ p2 ∧ p2 ≤ 2147483647 := r_p2
            have q33 : -2147483648 ≤ p0 ∧ p0 ≤ 2147483647 := r_p0
            refine GO.iald (t := 29) rfl rfl h30 ⟨by omega, by omega⟩ (by omega) (by omega) dX12_loss_66 (fun _ _ => ?_)
            refine GO.name (fun z34 hz35 => ?_)
            have r36 : ir z34 := hz35 ▸ vi_ir
            refine GO.istore (ls1 := [some (.ref x), some (ti p0), some (ti p1), some (ti p2), some (ti p3), some (ti p4), some (ti z34), none, none]) dX12_loss_67 rfl rfl ?_
            refine GO.aload_n dX12_loss_69 rfl rfl ?_
            refine GO.getRaw h_x fl_RX12_77 hv31 dX12_loss_70 ?_
            refine GO.bipush dX12_loss_73 rfl ?_
            refine GO.iload_n dX12_loss_75 rfl rfl ?_
            refine GO.imul dX12_loss_76 ?_
            refine GO.iload_n dX12_loss_77 rfl rfl ?_
            refine GO.iadd dX12_loss_78 ?_
            refine GO.iald (t := 29) rfl rfl h30 ⟨by omega, by omega⟩ (by omega) (by omega) dX12_loss_79 (fun _ _ => ?_)
            refine GO.name (fun z39 hz40 => ?_)
            have r41 : ir z39 := hz40 ▸ vi_ir
            refine GO.istore (ls1 := [some (.ref x), some (ti p0), some (ti p1), some (ti p2), some (ti p3), some (ti p4), some (ti z34), some (ti z39), none]) dX12_loss_80 rfl rfl ?_
            refine GO.iload dX12_loss_82 rfl ?_
            refine GO.iconst dX12_loss_84 ?_
            refine GO.icmp_eq (tgt := 94) dX12_loss_85 (by decide) r36 (ir_c rfl) (fun c42 => ?_) (fun c42 => ?_)
            ·
              refine GO.ldcw (X := (-1000000)) dX12_loss_94 gw_2322 rfl ?_
              exact GO.reti rfl rfl dX12_loss_97 ⟨rfl, rfl, _, rfl, (ir_c rfl), trivial⟩
            ·
              refine GO.iload dX12_loss_88 rfl ?_
              refine GO.iconst dX12_loss_90 ?_
              refine GO.icmp_ne (tgt := 98) dX12_loss_91 (by decide) r41 (ir_c rfl) (fun c43 => ?_) (fun c43 => ?_)
              ·
                refine GO.iload dX12_loss_98 rfl ?_
                refine GO.iload dX12_loss_100 rfl ?_
                refine GO.callS (N := mX12_part) dX12_loss_102 gS_RX12_706 (t_X12_part r36 r_p3) rfl [] rfl rfl (Nat.le_of_ble_eq_true rfl) rfl (k_ip fun X44 r45 h46 => ?_)
                refine GO.iload dX12_loss_105 rfl ?_
                refine GO.iload dX12_loss_107 rfl ?_
                refine GO.callS (N := mX12_part) dX12_loss_109 gS_RX12_706 (t_X12_part r41 r_p3) rfl [ti X44] rfl rfl (Nat.le_of_ble_eq_true rfl) rfl (k_ip fun X47 r48 h49 => ?_)
                refine GO.iadd dX12_loss_112 ?_
                refine GO.norm (fun z50 r51 _ => ?_)
                refine GO.istore (ls1 := [some (.ref x), some (ti p0), some (ti p1), some (ti p2), some (ti p3), some (ti p4), some (ti z34), some (ti z39), some (ti z50)]) dX12_loss_113 rfl rfl ?_
                refine GO.iload dX12_loss_115 rfl ?_
                refine GO.if_ne (tgt := 131) dX12_loss_117 (by decide) r_p4 (fun c52 => ?_) (fun c52 => ?_)
                ·
                  refine GO.iload dX12_loss_131 rfl ?_
                  refine GO.iload dX12_loss_133 rfl ?_
                  refine GO.isub dX12_loss_135 ?_
                  refine GO.norm (fun z53 r54 _ => ?_)
                  refine GO.iload dX12_loss_136 rfl ?_
                  refine GO.iadd dX12_loss_138 ?_
                  refine GO.norm (fun z55 r56 _ => ?_)
                  have q57 : -2147483648 ≤ z55 ∧ z55 ≤ 2147483647 := r56
                  exact GO.reti rfl rfl dX12_loss_139 ⟨rfl, rfl, _, rfl, r56, trivial⟩
                ·
                  refine GO.iload dX12_loss_120 rfl ?_
                  refine GO.iload dX12_loss_122 rfl ?_
                  refine GO.isub dX12_loss_124 ?_
                  refine GO.norm (fun z58 r59 _ => ?_)
                  refine GO.iload dX12_loss_125 rfl ?_
                  refine GO.isub dX12_loss_127 ?_
                  refine GO.norm (fun z60 r61 _ => ?_)
                  refine GO.goto (tgt := 139) dX12_loss_128 (by decide) ?_
                  have q62 : -2147483648 ≤ z60 ∧ z60 ≤ 2147483647 := r61
                  exact GO.reti rfl rfl dX12_loss_139 ⟨rfl, rfl, _, rfl, r61, trivial⟩
              ·
                refine GO.ldcw (X := (-1000000)) dX12_loss_94 gw_2322 rfl ?_
                exact GO.reti rfl rfl dX12_loss_97 ⟨rfl, rfl, _, rfl, (ir_c rfl), trivial⟩
          ·
            have q63 := h27.2.2 (by omega)
            refine GO.ldcw (X := (-1000000)) dX12_loss_52 gw_2322 rfl ?_
            exact GO.reti rfl rfl dX12_loss_55 ⟨rfl, rfl, _, rfl, (ir_c rfl), trivial⟩
