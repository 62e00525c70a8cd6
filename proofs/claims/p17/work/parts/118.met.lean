def mX12_flows : MRec := (RX12, cX12_flows, 8, (none : Option Jvm.ClassFile.FieldType), yX12_flows, 2, 47, 0, 0, 4261562812795461736629470485424259135854706376937999723323138485252048893821910594900459520)
def mX12_day : MRec := (RX12, cX12_day, 2, (some .int), yX12_day, 10, 241, 0, 0, 9621983414447328363233382384140077613501227500180687977789929935050844395256104618180874285838199532188696838144)
def mX12_sound : MRec := (RX12, cX12_sound, 4, (some .boolean), yX12_sound, 1, 22, 0, 0, 2104294154165354572188974614723245976528611563821854604153732710492859286502689165343474302552752757916613738496)
def mX12_sure : MRec := (RX12, cX12_sure, 2, (some .int), yX12_sure, 1, 27, 0, 0, 0)
def mX12_drill : MRec := (RX12, cX12_drill, 3, (some .int), yX12_drill, 1, 22, 0, 0, 7214722814281215676076484393336843348098317646129455940853995776734538989966555573807592775407774656489265823744)
def mX12_speed : MRec := (RX12, cX12_speed, 3, (some .boolean), yX12_speed, 1, 22, 0, 0, 19239260838083241802870625048898248928262033152423150976916523463167042063367829239828841099507555616787934478336)
def mX12_birds : MRec := (RX12, cX12_birds, 4, (some .boolean), yX12_birds, 1, 22, 0, 0, 2037035976334486086268445688409378161051468393665936250636140449354381299763336706183397376)
def mX12_part : MRec := (RX12, cX12_part, 2, (some .int), yX12_part, 0, 0, 0, 0, 0)
def mX12_loss : MRec := (RX12, cX12_loss, 9, (some .int), yX12_loss, 1, 22, 0, 0, 0)
set_option maxHeartbeats 1000000 in
theorem t_X12_flows {K : Kmap} {V : Vmap} {x : Nat} {p0 : Int} (h_x : K x = some (0, 11)) (r_p0 : ir p0) (q_0 : p0 ≥ 0) (q_1 : p0 ≤ 59) : MC mX12_flows K V [.ref x, ti p0] (VS K (fun V1 => (True))) := by
  refine MC.start 6 (by decide +kernel) rfl rfl rfl (ls0 := [some (.ref x), some (ti p0), none, none, none, none, none, none]) rfl ?_
  refine GO.aload_n dX12_flows_0 rfl rfl ?_
  refine GO.getA (n := 60) h_x fl_RX12_41 rfl rfl rfl rfl dX12_flows_1 (fun hv2 h1 => ?_)
  refine GO.iload_n dX12_flows_4 rfl rfl ?_
  have q3 : -2147483648 ≤ p0 ∧ p0 ≤ 2147483647 := r_p0
  refine GO.iald (t := 17) rfl rfl h1 r_p0 (by omega) (by omega) dX12_flows_5 (fun l4 u5 => ?_)
  refine GO.name (fun z6 hz7 => ?_)
  have r8 : ir z6 := hz7 ▸ vi_ir
  refine GO.istore_n (ls1 := [some (.ref x), some (ti p0), some (ti z6), none, none, none, none, none]) dX12_flows_6 rfl rfl rfl ?_
  refine GO.aload_n dX12_flows_7 rfl rfl ?_
  refine GO.getA (n := 144) h_x fl_RX12_20 rfl rfl rfl rfl dX12_flows_8 (fun hv10 h9 => ?_)
  refine GO.iload_n dX12_flows_11 rfl rfl ?_
  refine GO.iald (t := 10) rfl rfl h9 r8 (by omega) (by omega) dX12_flows_12 (fun l11 u12 => ?_)
  refine GO.if_ne (tgt := 46) dX12_flows_13 (by decide) vi_ir (fun c13 => ?_) (fun c13 => ?_)
  ·
    exact GO.retv rfl rfl dX12_flows_46 ⟨rfl, rfl, trivial⟩
  ·
    refine GO.aload_n dX12_flows_16 rfl rfl ?_
    refine GO.getA (n := 144) h_x fl_RX12_23 rfl rfl rfl rfl dX12_flows_17 (fun hv15 h14 => ?_)
    refine GO.iload_n dX12_flows_20 rfl rfl ?_
    refine GO.iald (t := 11) rfl rfl h14 r8 (by omega) (by omega) dX12_flows_21 (fun l16 u17 => ?_)
    refine GO.iconst dX12_flows_22 ?_
    refine GO.icmp_eq (tgt := 46) dX12_flows_23 (by decide) vi_ir (ir_c rfl) (fun c18 => ?_) (fun c18 => ?_)
    ·
      exact GO.retv rfl rfl dX12_flows_46 ⟨rfl, rfl, trivial⟩
    ·
      refine GO.aload_n dX12_flows_26 rfl rfl ?_
      refine GO.getI h_x fl_RX12_396 rfl rfl dX12_flows_27 (fun l19 u20 => ?_)
      refine GO.aload_n dX12_flows_30 rfl rfl ?_
      refine GO.getA (n := 60) h_x fl_RX12_50 rfl rfl rfl rfl dX12_flows_31 (fun hv22 h21 => ?_)
      refine GO.iload_n dX12_flows_34 rfl rfl ?_
      refine GO.iald (t := 20) rfl rfl h21 r_p0 (by omega) (by omega) dX12_flows_35 (fun _ _ => ?_)
      refine GO.isub dX12_flows_36 ?_
      refine GO.norm (fun z23 r24 hn25 => ?_)
      refine GO.aload_n dX12_flows_37 rfl rfl ?_
      refine GO.getA (n := 144) h_x fl_RX12_26 rfl rfl rfl rfl dX12_flows_38 (fun hv27 h26 => ?_)
      refine GO.iload_n dX12_flows_41 rfl rfl ?_
      refine GO.iald (t := 12) rfl rfl h26 r8 (by omega) (by omega) dX12_flows_42 (fun l28 u29 => ?_)
      refine GO.icmp_ge (tgt := 47) dX12_flows_43 (by decide) r24 vi_ir (fun c30 => ?_) (fun c30 => ?_)
      ·
        refine GO.aload_n dX12_flows_47 rfl rfl ?_
        refine GO.getRaw h_x fl_RX12_23 hv15 dX12_flows_48 ?_
        refine GO.iload_n dX12_flows_51 rfl rfl ?_
        refine GO.iald (t := 11) rfl rfl h14 r8 (by omega) (by omega) dX12_flows_52 (fun l33 u34 => ?_)
        refine GO.callS (N := mX12_columnStep) dX12_flows_53 gS_RX12_639 (t_X12_columnStep vi_ir) rfl [] rfl rfl (Nat.le_of_ble_eq_true rfl) rfl (k_ip fun X35 r36 h37 => ?_)
        refine GO.istore_n (ls1 := [some (.ref x), some (ti p0), some (ti z6), some (ti X35), none, none, none, none]) dX12_flows_56 rfl rfl rfl ?_
        refine GO.aload_n dX12_flows_57 rfl rfl ?_
        refine GO.getRaw h_x fl_RX12_23 hv15 dX12_flows_58 ?_
        refine GO.iload_n dX12_flows_61 rfl rfl ?_
        refine GO.iald (t := 11) rfl rfl h14 r8 (by omega) (by omega) dX12_flows_62 (fun l40 u41 => ?_)
        refine GO.callS (N := mX12_rowStep) dX12_flows_63 gS_RX12_642 (t_X12_rowStep vi_ir) rfl [] rfl rfl (Nat.le_of_ble_eq_true rfl) rfl (k_ip fun X42 r43 h44 => ?_)
        refine GO.istore (ls1 := [some (.ref x), some (ti p0), some (ti z6), some (ti X35), some (ti X42), none, none, none]) dX12_flows_66 rfl rfl ?_
        refine GO.aload_n dX12_flows_68 rfl rfl ?_
        refine GO.iload_n dX12_flows_69 rfl rfl ?_
        refine GO.iload_n dX12_flows_70 rfl rfl ?_
        refine GO.iload dX12_flows_71 rfl ?_
        refine GO.callV (ci := 11) (N := mX12_moved) dX12_flows_73 (RX12, TX12, 151) rfl gV_RX12_645 h_x (t_X12_moved h_x r8 r36 r43 (by omega) (by omega) (by omega) (by omega) (by omega) (by omega)) rfl [] rfl rfl (Nat.le_of_ble_eq_true rfl) rfl (k_ip fun X45 r46 h47 => ?_)
        refine GO.istore (ls1 := [some (.ref x), some (ti p0), some (ti z6), some (ti X35), some (ti X42), some (ti X45), none, none]) dX12_flows_76 rfl rfl ?_
        refine GO.iload dX12_flows_78 rfl ?_
        refine GO.iconst dX12_flows_80 ?_
        refine GO.icmp_ne (tgt := 90) dX12_flows_81 (by decide) r46 (ir_c rfl) (fun c48 => ?_) (fun c48 => ?_)
        ·
          refine GO.aload_n dX12_flows_90 rfl rfl ?_
          refine GO.getRaw h_x fl_RX12_41 hv2 dX12_flows_91 ?_
          refine GO.iload_n dX12_flows_94 rfl rfl ?_
          refine GO.iload dX12_flows_95 rfl ?_
          refine GO.iast (t := 17) rfl rfl (by decide +kernel) h1 r_p0 (by omega) (by omega) r46 (by omega) (by omega) dX12_flows_97 (fun V52 e51 => ?_)
          refine GO.aload_n dX12_flows_98 rfl rfl ?_
          refine GO.getRaw h_x fl_RX12_50 (Eq.trans (uq_ne e51 (Or.inl (K_ne h_x h1 (by decide)))) hv22) dX12_flows_99 ?_
          refine GO.iload_n dX12_flows_102 rfl rfl ?_
          refine GO.aload_n dX12_flows_103 rfl rfl ?_
          refine GO.getI h_x fl_RX12_396 rfl rfl dX12_flows_104 (fun l55 u56 => ?_)
          have e57 : vi V52 x 2 = vi V x 2 := vi_up e51 (Or.inl (K_ne h_x h1 (by decide)))
          refine GO.iast (t := 20) rfl rfl (by decide +kernel) h21 r_p0 (by omega) (by omega) vi_ir (vi_ir).1 (vi_ir).2 dX12_flows_107 (fun V59 e58 => ?_)
          refine GO.iconst dX12_flows_108 ?_
          refine GO.istore (ls1 := [some (.ref x), some (ti p0), some (ti z6), some (ti X35), some (ti X42), some (ti X45), some (ti 0), none]) dX12_flows_109 rfl rfl ?_
          refine GO.loop1 (fun i60 W => 0 ≤ i60 ∧ i60 ≤ 60 ∧ True) (fun i60 => [some (.ref x), some (ti p0), some (ti z6), some (ti X35), some (ti X42), some (ti X45), some (ti i60), none]) (fun i60 W => (2147483647 - i60).toNat) 0 ⟨by omega, by omega, trivial⟩ rfl (fun i60 Wi60 hp665 ih664 => ?_)
          obtain ⟨l_i60, u_i60, -⟩ := hp665
          have r_i60 : ir i60 := ⟨by omega, by omega⟩
          show GO mX12_flows K V (VS K (fun V1 => (True))) K Wi60 0 0 111 [some (.ref x), some (ti p0), some (ti z6), some (ti X35), some (ti X42), some (ti X45), some (ti i60), none] []
          refine GO.iload dX12_flows_111 rfl ?_
          refine GO.aload_n dX12_flows_113 rfl rfl ?_
          refine GO.getI h_x fl_RX12_375 rfl rfl dX12_flows_114 (fun l666 u667 => ?_)
          refine GO.icmp_ge (tgt := 229) dX12_flows_117 (by decide) r_i60 vi_ir (fun c668 => ?_) (fun c668 => ?_)
          ·
            refine GO.aload_n dX12_flows_229 rfl rfl ?_
            refine GO.iload dX12_flows_230 rfl ?_
            refine GO.callV (ci := 11) (N := mX12_isLand) dX12_flows_232 (RX12, TX12, 151) rfl gV_RX12_425 h_x (t_X12_isLand h_x r46 (by omega) (by omega)) rfl [] rfl rfl (Nat.le_of_ble_eq_true rfl) rfl (k_ip fun X669 r670 h671 => ?_)
            refine GO.if_ne (tgt := 243) dX12_flows_235 (by decide) r670 (fun c672 => ?_) (fun c672 => ?_)
            ·
              exact GO.retv rfl rfl dX12_flows_243 ⟨rfl, rfl, trivial⟩
            ·
              refine GO.aload_n dX12_flows_238 rfl rfl ?_
              refine GO.iload_n dX12_flows_239 rfl rfl ?_
              refine GO.callV (ci := 11) (N := mX12_loses) dX12_flows_240 (RX12, TX12, 151) rfl gV_RX12_685 h_x (t_X12_loses h_x r_p0 (by omega) (by omega)) rfl [] rfl rfl (Nat.le_of_ble_eq_true rfl) rfl (k_vs fun V675 h674 hF673 => ?_)
              exact GO.retv rfl rfl dX12_flows_243 ⟨rfl, rfl, trivial⟩
          ·
            refine GO.aload_n dX12_flows_120 rfl rfl ?_
            refine GO.getA (n := 60) h_x fl_RX12_35 rfl rfl rfl rfl dX12_flows_121 (fun hv677 h676 => ?_)
            refine GO.iload dX12_flows_124 rfl ?_
            refine GO.iald (t := 15) rfl rfl h676 r_i60 (by omega) (by omega) dX12_flows_126 (fun l678 u679 => ?_)
            refine GO.iconst dX12_flows_127 ?_
            refine GO.icmp_ne (tgt := 223) dX12_flows_128 (by decide) vi_ir (ir_c rfl) (fun c680 => ?_) (fun c680 => ?_)
            ·
              refine GO.iinc (X := i60) (n := 1) (Y := i60 + 1) (ls1 := [some (.ref x), some (ti p0), some (ti z6), some (ti X35), some (ti X42), some (ti X45), some (ti (i60 + 1)), none]) dX12_flows_223 rfl rfl rfl rfl ?_
              refine GO.goto (tgt := 111) dX12_flows_226 (by decide) ?_
              exact ih664 (i60 + 1) Wi60 ⟨by omega, by omega, trivial⟩ (by show (2147483647 - (i60 + 1)).toNat < (2147483647 - i60).toNat; omega)
            ·
              refine GO.aload_n dX12_flows_131 rfl rfl ?_
              refine GO.getA (n := 60) h_x fl_RX12_47 rfl rfl rfl rfl dX12_flows_132 (fun hv682 h681 => ?_)
              refine GO.iload dX12_flows_135 rfl ?_
              refine GO.iald (t := 19) rfl rfl h681 r_i60 (by omega) (by omega) dX12_flows_137 (fun _ _ => ?_)
              refine GO.iload_n dX12_flows_138 rfl rfl ?_
              refine GO.icmp_ne (tgt := 223) dX12_flows_139 (by decide) vi_ir r_p0 (fun c683 => ?_) (fun c683 => ?_)
              ·
                refine GO.iinc (X := i60) (n := 1) (Y := i60 + 1) (ls1 := [some (.ref x), some (ti p0), some (ti z6), some (ti X35), some (ti X42), some (ti X45), some (ti (i60 + 1)), none]) dX12_flows_223 rfl rfl rfl rfl ?_
                refine GO.goto (tgt := 111) dX12_flows_226 (by decide) ?_
                exact ih664 (i60 + 1) Wi60 ⟨by omega, by omega, trivial⟩ (by show (2147483647 - (i60 + 1)).toNat < (2147483647 - i60).toNat; omega)
              ·
                refine GO.aload_n dX12_flows_142 rfl rfl ?_
                refine GO.getA (n := 60) h_x fl_RX12_80 rfl rfl rfl rfl dX12_flows_143 (fun hv685 h684 => ?_)
                refine GO.iload dX12_flows_146 rfl ?_
                refine GO.zald (t := 30) rfl rfl h684 r_i60 (by omega) (by omega) dX12_flows_148 (fun l686 u687 => ?_)
                refine GO.if_eq (tgt := 155) dX12_flows_149 (by decide) vi_ir (fun c688 => ?_) (fun c688 => ?_)
                ·
                  refine GO.aload_n dX12_flows_155 rfl rfl ?_
                  refine GO.aload_n dX12_flows_156 rfl rfl ?_
                  refine GO.getA (n := 60) h_x fl_RX12_41 rfl rfl rfl rfl dX12_flows_157 (fun hv690 h689 => ?_)
                  refine GO.iload dX12_flows_160 rfl ?_
                  refine GO.iald (t := 17) rfl rfl h689 r_i60 (by omega) (by omega) dX12_flows_162 (fun l691 u692 => ?_)
                  refine GO.iload_n dX12_flows_163 rfl rfl ?_
                  refine GO.iload dX12_flows_164 rfl ?_
                  refine GO.callV (ci := 11) (N := mX12_moved) dX12_flows_166 (RX12, TX12, 151) rfl gV_RX12_645 h_x (t_X12_moved h_x vi_ir r36 r43 (by omega) (by omega) (by omega) (by omega) (by omega) (by omega)) rfl [] rfl rfl (Nat.le_of_ble_eq_true rfl) rfl (k_ip fun X693 r694 h695 => ?_)
                  refine GO.istore (ls1 := [some (.ref x), some (ti p0), some (ti z6), some (ti X35), some (ti X42), some (ti X45), some (ti i60), some (ti X693)]) dX12_flows_169 rfl rfl ?_
                  refine GO.aload_n dX12_flows_171 rfl rfl ?_
                  refine GO.getRaw h_x fl_RX12_80 hv685 dX12_flows_172 ?_
                  refine GO.iload dX12_flows_175 rfl ?_
                  refine GO.iload dX12_flows_177 rfl ?_
                  refine GO.iconst dX12_flows_179 ?_
                  have hj704 : ∀ (z703 : Int), ∀ (l705 : 0 ≤ z703), ∀ (u706 : z703 ≤ 1), GO mX12_flows K V (VS K (fun V1 => (True))) K Wi60 0 0 197 [some (.ref x), some (ti p0), some (ti z6), some (ti X35), some (ti X42), some (ti X45), some (ti i60), some (ti X693)] [ti z703, ti i60, .ref (vq Wi60 x 28)] := by
                    intro z703 l705 u706
                    have r707 : ir z703 := ⟨by omega, by omega⟩
                    refine GO.zast (t := 30) rfl rfl (by decide +kernel) h684 r_i60 (by omega) (by omega) (by omega) (by omega) (by omega) dX12_flows_197 (fun V709 e708 => ?_)
                    refine GO.aload_n dX12_flows_198 rfl rfl ?_
                    refine GO.getRaw h_x fl_RX12_41 (Eq.trans (uq_ne e708 (Or.inl (K_ne h_x h684 (by decide)))) hv690) dX12_flows_199 ?_
                    refine GO.iload dX12_flows_202 rfl ?_
                    refine GO.iload dX12_flows_204 rfl ?_
                    refine GO.iconst dX12_flows_206 ?_
                    refine GO.icmp_ne (tgt := 220) dX12_flows_207 (by decide) r694 (ir_c rfl) (fun c712 => ?_) (fun c712 => ?_)
                    ·
                      refine GO.iload dX12_flows_220 rfl ?_
                      refine GO.iast (t := 17) rfl rfl (by decide +kernel) h689 r_i60 (by omega) (by omega) r694 (by omega) (by omega) dX12_flows_222 (fun V714 e713 => ?_)
                      refine GO.iinc (X := i60) (n := 1) (Y := i60 + 1) (ls1 := [some (.ref x), some (ti p0), some (ti z6), some (ti X35), some (ti X42), some (ti X45), some (ti (i60 + 1)), some (ti X693)]) dX12_flows_223 rfl rfl rfl rfl ?_
                      refine GO.goto (tgt := 111) dX12_flows_226 (by decide) ?_
                      refine GO.drop [true, true, true, true, true, true, true, false] rfl ?_
                      exact ih664 (i60 + 1) V714 ⟨by omega, by omega, trivial⟩ (by show (2147483647 - (i60 + 1)).toNat < (2147483647 - i60).toNat; omega)
                    ·
                      refine GO.aload_n dX12_flows_210 rfl rfl ?_
                      refine GO.getRaw h_x fl_RX12_41 (Eq.trans (uq_ne e708 (Or.inl (K_ne h_x h684 (by decide)))) hv690) dX12_flows_211 ?_
                      refine GO.iload dX12_flows_214 rfl ?_
                      refine GO.iald (t := 17) rfl rfl h689 r_i60 (by omega) (by omega) dX12_flows_216 (fun l717 u718 => ?_)
                      have e719 : vi V709 (vq Wi60 x 15) (i60).toNat = vi Wi60 (vq Wi60 x 15) (i60).toNat := vi_up e708 (Or.inl (K_ne h689 h684 (by decide)))
                      refine GO.goto (tgt := 222) dX12_flows_217 (by decide) ?_
                      refine GO.iast (t := 17) rfl rfl (by decide +kernel) h689 r_i60 (by omega) (by omega) vi_ir (by omega) (by omega) dX12_flows_222 (fun V721 e720 => ?_)
                      refine GO.iinc (X := i60) (n := 1) (Y := i60 + 1) (ls1 := [some (.ref x), some (ti p0), some (ti z6), some (ti X35), some (ti X42), some (ti X45), some (ti (i60 + 1)), some (ti X693)]) dX12_flows_223 rfl rfl rfl rfl ?_
                      refine GO.goto (tgt := 111) dX12_flows_226 (by decide) ?_
                      refine GO.drop [true, true, true, true, true, true, true, false] rfl ?_
                      exact ih664 (i60 + 1) V721 ⟨by omega, by omega, trivial⟩ (by show (2147483647 - (i60 + 1)).toNat < (2147483647 - i60).toNat; omega)
                  have hj727 : GO mX12_flows K V (VS K (fun V1 => (True))) K Wi60 0 0 192 [some (.ref x), some (ti p0), some (ti z6), some (ti X35), some (ti X42), some (ti X45), some (ti i60), some (ti X693)] [ti i60, .ref (vq Wi60 x 28)] := by
                    skip
                    refine GO.iconst dX12_flows_192 ?_
                    refine GO.goto (tgt := 197) dX12_flows_193 (by decide) ?_
                    exact hj704 1 (by omega) (by omega)
                  refine GO.icmp_eq (tgt := 192) dX12_flows_180 (by decide) r694 (ir_c rfl) (fun c728 => ?_) (fun c728 => ?_)
                  ·
                    exact hj727 
                  ·
                    refine GO.aload_n dX12_flows_183 rfl rfl ?_
                    refine GO.iload dX12_flows_184 rfl ?_
                    refine GO.callV (ci := 11) (N := mX12_isLand) dX12_flows_186 (RX12, TX12, 151) rfl gV_RX12_425 h_x (t_X12_isLand h_x r694 (by omega) (by omega)) rfl [ti i60, .ref (vq Wi60 x 28)] rfl rfl (Nat.le_of_ble_eq_true rfl) rfl (k_ip fun X729 r730 h731 => ?_)
                    refine GO.if_ne (tgt := 196) dX12_flows_189 (by decide) r730 (fun c732 => ?_) (fun c732 => ?_)
                    ·
                      refine GO.iconst dX12_flows_196 ?_
                      exact hj704 0 (by omega) (by omega)
                    ·
                      exact hj727 
                ·
                  refine GO.goto (tgt := 223) dX12_flows_152 (by decide) ?_
                  refine GO.iinc (X := i60) (n := 1) (Y := i60 + 1) (ls1 := [some (.ref x), some (ti p0), some (ti z6), some (ti X35), some (ti X42), some (ti X45), some (ti (i60 + 1)), none]) dX12_flows_223 rfl rfl rfl rfl ?_
                  refine GO.goto (tgt := 111) dX12_flows_226 (by decide) ?_
                  exact ih664 (i60 + 1) Wi60 ⟨by omega, by omega, trivial⟩ (by show (2147483647 - (i60 + 1)).toNat < (2147483647 - i60).toNat; omega)
        ·
          refine GO.aload_n dX12_flows_84 rfl rfl ?_
          refine GO.iload_n dX12_flows_85 rfl rfl ?_
          refine GO.callV (ci := 11) (N := mX12_loses) dX12_flows_86 (RX12, TX12, 151) rfl gV_RX12_685 h_x (t_X12_loses h_x r_p0 (by omega) (by omega)) rfl [] rfl rfl (Nat.le_of_ble_eq_true rfl) rfl (k_vs fun V735 h734 hF733 => ?_)
          exact GO.retv rfl rfl dX12_flows_89 ⟨rfl, rfl, trivial⟩
      ·
        exact GO.retv rfl rfl dX12_flows_46 ⟨rfl, rfl, trivial⟩

set_option maxHeartbeats 1000000 in
theorem t_X12_day {K : Kmap} {V : Vmap} {x : Nat} (h_x : K x = some (0, 11)) (w_0 : GX V x) : MC mX12_day K V [.ref x] (IS K (fun X V1 => ((X = (-1) ∧ vi V1 x 2 = vi V x 2 ∧ vi V x 2 = 3599) ∨ (X = (vi V x 2 + 1) ∧ vi V1 x 2 = (vi V x 2 + 1) ∧ vi V x 2 < 3599)))) := by
  refine MC.start 1 (by decide +kernel) rfl rfl rfl (ls0 := [some (.ref x), none]) rfl ?_
  refine GO.useWT (fun hW_0 => ?_)
  refine GO.aload_n dX12_day_0 rfl rfl ?_
  refine GO.getI h_x fl_RX12_396 rfl rfl dX12_day_1 (fun l1 u2 => ?_)
  refine GO.sipush dX12_day_4 rfl ?_
  refine GO.icmp_ne (tgt := 12) dX12_day_7 (by decide) vi_ir (ir_c rfl) (fun c3 => ?_) (fun c3 => ?_)
  ·
    refine GO.aload_n dX12_day_12 rfl rfl ?_
    refine GO.aload_n dX12_day_13 rfl rfl ?_
    refine GO.getI h_x fl_RX12_396 rfl rfl dX12_day_14 (fun l4 u5 => ?_)
    refine GO.iconst dX12_day_17 ?_
    refine GO.iadd dX12_day_18 ?_
    refine GO.putI h_x fp_RX12_396 rfl (by decide +kernel) ⟨by omega, by omega⟩ (by omega) (by omega) dX12_day_19 (fun V7 e6 => ?_)
    refine GO.aload_n dX12_day_22 rfl rfl ?_
    refine GO.useFR (fun hF8 => ?_)
    have hg9 := GX.fr hF8 w_0 hW_0 h_x (by decide +kernel)
    refine GO.callV (ci := 11) (N := mX12_worksGo) dX12_day_23 (RX12, TX12, 151) rfl gV_RX12_688 h_x (t_X12_worksGo h_x (hg9)) rfl [] rfl rfl (Nat.le_of_ble_eq_true rfl) rfl (k_vs fun V12 h11 hF10 => ?_)
    refine GO.iconst dX12_day_26 ?_
    refine GO.istore_n (ls1 := [some (.ref x), some (ti 0)]) dX12_day_27 rfl rfl rfl ?_
    have e15 : vi V7 x 2 = (vi V x 2) + 1 := upd2_int e6 ⟨by omega, by omega⟩
    have e14 : vi V12 x 2 = vi V7 x 2 := vi_fr hF10 h_x h_x (by decide +kernel)
    refine GO.loop1 (fun i13 W => 0 ≤ i13 ∧ i13 ≤ 60 ∧ (vi W x 2 = vi V12 x 2) ∧ True) (fun i13 => [some (.ref x), some (ti i13)]) (fun i13 W => (2147483647 - i13).toNat) 0 ⟨by omega, by omega, by omega, trivial⟩ rfl (fun i13 Wi13 hp7541 ih7540 => ?_)
    obtain ⟨l_i13, u_i13, n_i13, -⟩ := hp7541
    have r_i13 : ir i13 := ⟨by omega, by omega⟩
    show GO mX12_day K V (IS K (fun X V1 => ((X = (-1) ∧ vi V1 x 2 = vi V x 2 ∧ vi V x 2 = 3599) ∨ (X = (vi V x 2 + 1) ∧ vi V1 x 2 = (vi V x 2 + 1) ∧ vi V x 2 < 3599)))) K Wi13 0 0 28 [some (.ref x), some (ti i13)] []
    refine GO.iload_n dX12_day_28 rfl rfl ?_
    refine GO.aload_n dX12_day_29 rfl rfl ?_
    refine GO.getI h_x fl_RX12_375 rfl rfl dX12_day_30 (fun l7542 u7543 => ?_)
    refine GO.icmp_ge (tgt := 63) dX12_day_33 (by decide) r_i13 vi_ir (fun c7544 => ?_) (fun c7544 => ?_)
    ·
      refine GO.iconst dX12_day_63 ?_
      refine GO.istore_n (ls1 := [some (.ref x), some (ti 0)]) dX12_day_64 rfl rfl rfl ?_
      have q7546 : -2147483648 ≤ vi Wi13 x 2 ∧ vi Wi13 x 2 ≤ 2147483647 := vi_ir
      refine GO.loop1 (fun i7545 W => 0 ≤ i7545 ∧ i7545 ≤ 10 ∧ (vi W x 2 = vi Wi13 x 2) ∧ True) (fun i7545 => [some (.ref x), some (ti i7545)]) (fun i7545 W => (2147483647 - i7545).toNat) 0 ⟨by omega, by omega, by omega, trivial⟩ rfl (fun i7545 Wi7545 hp8262 ih8261 => ?_)
      obtain ⟨l_i7545, u_i7545, n_i7545, -⟩ := hp8262
      have r_i7545 : ir i7545 := ⟨by omega, by omega⟩
      show GO mX12_day K V (IS K (fun X V1 => ((X = (-1) ∧ vi V1 x 2 = vi V x 2 ∧ vi V x 2 = 3599) ∨ (X = (vi V x 2 + 1) ∧ vi V1 x 2 = (vi V x 2 + 1) ∧ vi V x 2 < 3599)))) K Wi7545 0 0 65 [some (.ref x), some (ti i7545)] []
      refine GO.iload_n dX12_day_65 rfl rfl ?_
      refine GO.aload_n dX12_day_66 rfl rfl ?_
      refine GO.getI h_x fl_RX12_612 rfl rfl dX12_day_67 (fun l8263 u8264 => ?_)
      refine GO.icmp_ge (tgt := 84) dX12_day_70 (by decide) r_i7545 vi_ir (fun c8265 => ?_) (fun c8265 => ?_)
      ·
        refine GO.iconst dX12_day_84 ?_
        refine GO.istore_n (ls1 := [some (.ref x), some (ti 0)]) dX12_day_85 rfl rfl rfl ?_
        have q8267 : -2147483648 ≤ vi Wi7545 x 2 ∧ vi Wi7545 x 2 ≤ 2147483647 := vi_ir
        refine GO.loop1 (fun i8266 W => 0 ≤ i8266 ∧ i8266 ≤ 40 ∧ (vi W x 2 = vi Wi7545 x 2) ∧ True) (fun i8266 => [some (.ref x), some (ti i8266)]) (fun i8266 W => (2147483647 - i8266).toNat) 0 ⟨by omega, by omega, by omega, trivial⟩ rfl (fun i8266 Wi8266 hp8350 ih8349 => ?_)
        obtain ⟨l_i8266, u_i8266, n_i8266, -⟩ := hp8350
        have r_i8266 : ir i8266 := ⟨by omega, by omega⟩
        show GO mX12_day K V (IS K (fun X V1 => ((X = (-1) ∧ vi V1 x 2 = vi V x 2 ∧ vi V x 2 = 3599) ∨ (X = (vi V x 2 + 1) ∧ vi V1 x 2 = (vi V x 2 + 1) ∧ vi V x 2 < 3599)))) K Wi8266 0 0 86 [some (.ref x), some (ti i8266)] []
        refine GO.iload_n dX12_day_86 rfl rfl ?_
        refine GO.aload_n dX12_day_87 rfl rfl ?_
        refine GO.getI h_x fl_RX12_648 rfl rfl dX12_day_88 (fun l8351 u8352 => ?_)
        refine GO.icmp_ge (tgt := 105) dX12_day_91 (by decide) r_i8266 vi_ir (fun c8353 => ?_) (fun c8353 => ?_)
        ·
          refine GO.aload_n dX12_day_105 rfl rfl ?_
          refine GO.getI h_x fl_RX12_396 rfl rfl dX12_day_106 (fun l8354 u8355 => ?_)
          have q8356 : -2147483648 ≤ vi Wi8266 x 2 ∧ vi Wi8266 x 2 ≤ 2147483647 := vi_ir
          exact GO.reti rfl rfl dX12_day_109 ⟨rfl, _, rfl, vi_ir, by omega⟩
        ·
          refine GO.aload_n dX12_day_94 rfl rfl ?_
          refine GO.iload_n dX12_day_95 rfl rfl ?_
          refine GO.callV (ci := 11) (N := mX12_sledgeGoes) dX12_day_96 (RX12, TX12, 151) rfl gV_RX12_700 h_x (t_X12_sledgeGoes h_x r_i8266 (by omega) (by omega)) rfl [] rfl rfl (Nat.le_of_ble_eq_true rfl) rfl (k_vs fun V8359 h8358 hF8357 => ?_)
          refine GO.iinc (X := i8266) (n := 1) (Y := i8266 + 1) (ls1 := [some (.ref x), some (ti (i8266 + 1))]) dX12_day_99 rfl rfl rfl rfl ?_
          refine GO.goto (tgt := 86) dX12_day_102 (by decide) ?_
          have e8360 : vi V8359 x 2 = vi Wi8266 x 2 := vi_fr hF8357 h_x h_x (by decide +kernel)
          have q8361 : -2147483648 ≤ vi Wi8266 x 2 ∧ vi Wi8266 x 2 ≤ 2147483647 := vi_ir
          exact ih8349 (i8266 + 1) V8359 ⟨by omega, by omega, by omega, trivial⟩ (by show (2147483647 - (i8266 + 1)).toNat < (2147483647 - i8266).toNat; omega)
      ·
        refine GO.aload_n dX12_day_73 rfl rfl ?_
        refine GO.iload_n dX12_day_74 rfl rfl ?_
        refine GO.callV (ci := 11) (N := mX12_shipGoes) dX12_day_75 (RX12, TX12, 151) rfl gV_RX12_697 h_x (t_X12_shipGoes h_x r_i7545 (by omega) (by omega)) rfl [] rfl rfl (Nat.le_of_ble_eq_true rfl) rfl (k_vs fun V8364 h8363 hF8362 => ?_)
        refine GO.iinc (X := i7545) (n := 1) (Y := i7545 + 1) (ls1 := [some (.ref x), some (ti (i7545 + 1))]) dX12_day_78 rfl rfl rfl rfl ?_
        refine GO.goto (tgt := 65) dX12_day_81 (by decide) ?_
        have e8365 : vi V8364 x 2 = vi Wi7545 x 2 := vi_fr hF8362 h_x h_x (by decide +kernel)
        have q8366 : -2147483648 ≤ vi Wi7545 x 2 ∧ vi Wi7545 x 2 ≤ 2147483647 := vi_ir
        exact ih8261 (i7545 + 1) V8364 ⟨by omega, by omega, by omega, trivial⟩ (by show (2147483647 - (i7545 + 1)).toNat < (2147483647 - i7545).toNat; omega)
    ·
      refine GO.aload_n dX12_day_36 rfl rfl ?_
      refine GO.iload_n dX12_day_37 rfl rfl ?_
      refine GO.callV (ci := 11) (N := mX12_stands) dX12_day_38 (RX12, TX12, 151) rfl gV_RX12_433 h_x (t_X12_stands h_x r_i13) rfl [] rfl rfl (Nat.le_of_ble_eq_true rfl) rfl (k_ip fun X8367 r8368 h8369 => ?_)
      refine GO.if_ne (tgt := 47) dX12_day_41 (by decide) r8368 (fun c8370 => ?_) (fun c8370 => ?_)
      ·
        have q8371 := h8369.2.1 (by omega)
        refine GO.aload_n dX12_day_47 rfl rfl ?_
        refine GO.iload_n dX12_day_48 rfl rfl ?_
        refine GO.callV (ci := 11) (N := mX12_burns) dX12_day_49 (RX12, TX12, 151) rfl gV_RX12_691 h_x (t_X12_burns h_x r_i13 (by omega) (by omega)) rfl [] rfl rfl (Nat.le_of_ble_eq_true rfl) rfl (k_vs fun V8374 h8373 hF8372 => ?_)
        refine GO.aload_n dX12_day_52 rfl rfl ?_
        refine GO.iload_n dX12_day_53 rfl rfl ?_
        refine GO.callV (ci := 11) (N := mX12_flows) dX12_day_54 (RX12, TX12, 151) rfl gV_RX12_694 h_x (t_X12_flows h_x r_i13 (by omega) (by omega)) rfl [] rfl rfl (Nat.le_of_ble_eq_true rfl) rfl (k_vs fun V8377 h8376 hF8375 => ?_)
        refine GO.iinc (X := i13) (n := 1) (Y := i13 + 1) (ls1 := [some (.ref x), some (ti (i13 + 1))]) dX12_day_57 rfl rfl rfl rfl ?_
        refine GO.goto (tgt := 28) dX12_day_60 (by decide) ?_
        have e8379 : vi V8374 x 2 = vi Wi13 x 2 := vi_fr hF8372 h_x h_x (by decide +kernel)
        have e8378 : vi V8377 x 2 = vi V8374 x 2 := vi_fr hF8375 h_x h_x (by decide +kernel)
        have q8380 : -2147483648 ≤ vi Wi13 x 2 ∧ vi Wi13 x 2 ≤ 2147483647 := vi_ir
        exact ih7540 (i13 + 1) V8377 ⟨by omega, by omega, by omega, trivial⟩ (by show (2147483647 - (i13 + 1)).toNat < (2147483647 - i13).toNat; omega)
      ·
        refine GO.goto (tgt := 57) dX12_day_44 (by decide) ?_
        refine GO.iinc (X := i13) (n := 1) (Y := i13 + 1) (ls1 := [some (.ref x), some (ti (i13 + 1))]) dX12_day_57 rfl rfl rfl rfl ?_
        refine GO.goto (tgt := 28) dX12_day_60 (by decide) ?_
        have q8381 : -2147483648 ≤ vi Wi13 x 2 ∧ vi Wi13 x 2 ≤ 2147483647 := vi_ir
        exact ih7540 (i13 + 1) Wi13 ⟨by omega, by omega, by omega, trivial⟩ (by show (2147483647 - (i13 + 1)).toNat < (2147483647 - i13).toNat; omega)
  ·
    refine GO.iconst dX12_day_10 ?_
    exact GO.reti rfl rfl dX12_day_11 ⟨rfl, _, rfl, (ir_c rfl), by omega⟩

set_option maxHeartbeats 1000000 in
theorem t_X12_sound {K : Kmap} {V : Vmap} {x : Nat} {p0 : Int} {p1 : Int} {p2 : Int} (h_x : K x = some (0, 11)) (r_p0 : ir p0) (r_p1 : ir p1) (r_p2 : ir p2) : MC mX12_sound K V [.ref x, ti p0, ti p1, ti p2] (IS K (fun X V1 => (X = 0 ∨ X = 1) ∧ (X ≠ 0 → True) ∧ (X = 0 → True))) := by
  refine MC.start 0 (by decide +kernel) rfl rfl rfl (ls0 := [some (.ref x), some (ti p0), some (ti p1), some (ti p2)]) rfl ?_
  refine GO.aload_n dX12_sound_0 rfl rfl ?_
  refine GO.iload_n dX12_sound_1 rfl rfl ?_
  refine GO.iconst dX12_sound_2 ?_
  refine GO.callV (ci := 11) (N := mX12_isPlace) dX12_sound_3 (RX12, TX12, 151) rfl gV_RX12_399 h_x (t_X12_isPlace h_x r_p0 (ir_c rfl)) rfl [] rfl rfl (Nat.le_of_ble_eq_true rfl) rfl (k_ip fun X1 r2 h3 => ?_)
  have raw_isPlace := h3.2.2.2
  have rw3 := h3.2.2.2
  refine GO.if_eq (tgt := 42) dX12_sound_6 (by decide) r2 (fun c4 => ?_) (fun c4 => ?_)
  ·
    refine GO.iconst dX12_sound_42 ?_
    exact GO.retz rfl rfl dX12_sound_43 (Or.inl rfl) ⟨rfl, _, rfl, (ir_c rfl), ⟨Or.inl rfl, fun _ => trivial, fun _ => trivial⟩⟩
  ·
    have q5 := h3.2.1 (by omega)
    refine GO.iload_n dX12_sound_9 rfl rfl ?_
    refine GO.iconst dX12_sound_10 ?_
    refine GO.sipush dX12_sound_11 rfl ?_
    refine GO.callS (N := mX12_in) dX12_sound_14 gS_RX12_371 (t_X12_in r_p1 (ir_c rfl) (ir_c rfl)) rfl [] rfl rfl (Nat.le_of_ble_eq_true rfl) rfl (k_ip fun X6 r7 h8 => ?_)
    have raw_in := h8.2.2.2
    have rw14 := h8.2.2.2
    refine GO.if_eq (tgt := 42) dX12_sound_17 (by decide) r7 (fun c9 => ?_) (fun c9 => ?_)
    ·
      have q10 := h8.2.2.1 (by omega)
      refine GO.iconst dX12_sound_42 ?_
      exact GO.retz rfl rfl dX12_sound_43 (Or.inl rfl) ⟨rfl, _, rfl, (ir_c rfl), ⟨Or.inl rfl, fun _ => trivial, fun _ => trivial⟩⟩
    ·
      have q11 := h8.2.1 (by omega)
      refine GO.iload_n dX12_sound_20 rfl rfl ?_
      refine GO.iconst dX12_sound_21 ?_
      refine GO.sipush dX12_sound_22 rfl ?_
      refine GO.callS (N := mX12_in) dX12_sound_25 gS_RX12_371 (t_X12_in r_p2 (ir_c rfl) (ir_c rfl)) rfl [] rfl rfl (Nat.le_of_ble_eq_true rfl) rfl (k_ip fun X12 r13 h14 => ?_)
      have raw_in := h14.2.2.2
      have rw25 := h14.2.2.2
      refine GO.if_eq (tgt := 42) dX12_sound_28 (by decide) r13 (fun c15 => ?_) (fun c15 => ?_)
      ·
        have q16 := h14.2.2.1 (by omega)
        refine GO.iconst dX12_sound_42 ?_
        exact GO.retz rfl rfl dX12_sound_43 (Or.inl rfl) ⟨rfl, _, rfl, (ir_c rfl), ⟨Or.inl rfl, fun _ => trivial, fun _ => trivial⟩⟩
      ·
        have q17 := h14.2.1 (by omega)
        refine GO.aload_n dX12_sound_31 rfl rfl ?_
        refine GO.getA (n := 60) h_x fl_RX12_283 rfl rfl rfl rfl dX12_sound_32 (fun hv19 h18 => ?_)
        refine GO.iload_n dX12_sound_35 rfl rfl ?_
        have q20 : -2147483648 ≤ p0 ∧ p0 ≤ 2147483647 := r_p0
        refine GO.iald (t := 96) rfl rfl h18 r_p0 (by omega) (by omega) dX12_sound_36 (fun l21 u22 => ?_)
        refine GO.bipush dX12_sound_37 rfl ?_
        refine GO.icmp_ne (tgt := 44) dX12_sound_39 (by decide) vi_ir (ir_c rfl) (fun c23 => ?_) (fun c23 => ?_)
        ·
          refine GO.aload_n dX12_sound_44 rfl rfl ?_
          refine GO.getA (n := 480) h_x fl_RX12_286 rfl rfl rfl rfl dX12_sound_45 (fun hv25 h24 => ?_)
          refine GO.bipush dX12_sound_48 rfl ?_
          refine GO.iload_n dX12_sound_50 rfl rfl ?_
          refine GO.imul dX12_sound_51 ?_
          refine GO.aload_n dX12_sound_52 rfl rfl ?_
          refine GO.getRaw h_x fl_RX12_283 hv19 dX12_sound_53 ?_
          refine GO.iload_n dX12_sound_56 rfl rfl ?_
          refine GO.iald (t := 96) rfl rfl h18 r_p0 (by omega) (by omega) dX12_sound_57 (fun l28 u29 => ?_)
          refine GO.iadd dX12_sound_58 ?_
          refine GO.iload_n dX12_sound_59 rfl rfl ?_
          refine GO.iast (t := 97) rfl rfl (by decide +kernel) h24 ⟨by omega, by omega⟩ (by omega) (by omega) r_p1 (r_p1).1 (r_p1).2 dX12_sound_60 (fun V31 e30 => ?_)
          refine GO.aload_n dX12_sound_61 rfl rfl ?_
          refine GO.getA (n := 480) h_x fl_RX12_289 rfl rfl rfl rfl dX12_sound_62 (fun hv33 h32 => ?_)
          refine GO.bipush dX12_sound_65 rfl ?_
          refine GO.iload_n dX12_sound_67 rfl rfl ?_
          refine GO.imul dX12_sound_68 ?_
          refine GO.aload_n dX12_sound_69 rfl rfl ?_
          refine GO.getRaw h_x fl_RX12_283 (Eq.trans (uq_ne e30 (Or.inl (K_ne h_x h24 (by decide)))) hv19) dX12_sound_70 ?_
          refine GO.iload_n dX12_sound_73 rfl rfl ?_
          refine GO.iald (t := 96) rfl rfl h18 r_p0 (by omega) (by omega) dX12_sound_74 (fun l36 u37 => ?_)
          have e38 : vi V31 (vq V x 121) (p0).toNat = vi V (vq V x 121) (p0).toNat := vi_up e30 (Or.inl (K_ne h18 h24 (by decide)))
          refine GO.iadd dX12_sound_75 ?_
          refine GO.iload_n dX12_sound_76 rfl rfl ?_
          refine GO.iast (t := 98) rfl rfl (by decide +kernel) h32 ⟨by omega, by omega⟩ (by omega) (by omega) r_p2 (r_p2).1 (r_p2).2 dX12_sound_77 (fun V40 e39 => ?_)
          refine GO.aload_n dX12_sound_78 rfl rfl ?_
          refine GO.getRaw h_x fl_RX12_283 (Eq.trans (uq_ne e39 (Or.inl (K_ne h_x h32 (by decide)))) (Eq.trans (uq_ne e30 (Or.inl (K_ne h_x h24 (by decide)))) hv19)) dX12_sound_79 ?_
          refine GO.iload_n dX12_sound_82 rfl rfl ?_
          refine GO.aload_n dX12_sound_83 rfl rfl ?_
          refine GO.getRaw h_x fl_RX12_283 (Eq.trans (uq_ne e39 (Or.inl (K_ne h_x h32 (by decide)))) (Eq.trans (uq_ne e30 (Or.inl (K_ne h_x h24 (by decide)))) hv19)) dX12_sound_84 ?_
          refine GO.iload_n dX12_sound_87 rfl rfl ?_
          refine GO.iald (t := 96) rfl rfl h18 r_p0 (by omega) (by omega) dX12_sound_88 (fun l45 u46 => ?_)
          have e47 : vi V40 (vq V x 121) (p0).toNat = vi V31 (vq V x 121) (p0).toNat := vi_up e39 (Or.inl (K_ne h18 h32 (by decide)))
          refine GO.iconst dX12_sound_89 ?_
          refine GO.iadd dX12_sound_90 ?_
          refine GO.iast (t := 96) rfl rfl (by decide +kernel) h18 r_p0 (by omega) (by omega) ⟨by omega, by omega⟩ (by omega) (by omega) dX12_sound_91 (fun V49 e48 => ?_)
          refine GO.iconst dX12_sound_92 ?_
          exact GO.retz rfl rfl dX12_sound_93 (Or.inr rfl) ⟨rfl, _, rfl, (ir_c rfl), ⟨Or.inr rfl, fun _ => trivial, fun _ => trivial⟩⟩
        ·
          refine GO.iconst dX12_sound_42 ?_
          exact GO.retz rfl rfl dX12_sound_43 (Or.inl rfl) ⟨rfl, _, rfl, (ir_c rfl), ⟨Or.inl rfl, fun _ => trivial, fun _ => trivial⟩⟩

set_option maxHeartbeats 1000000 in
theorem t_X12_sure {K : Kmap} {V : Vmap} {x : Nat} {p0 : Int} (h_x : K x = some (0, 11)) (r_p0 : ir p0) : MC mX12_sure K V [.ref x, ti p0] (IP K V (fun X => True)) := by
  refine MC.start 0 (by decide +kernel) rfl rfl rfl (ls0 := [some (.ref x), some (ti p0)]) rfl ?_
  refine GO.aload_n dX12_sure_0 rfl rfl ?_
  refine GO.iload_n dX12_sure_1 rfl rfl ?_
  refine GO.iconst dX12_sure_2 ?_
  refine GO.callV (ci := 11) (N := mX12_isPlace) dX12_sure_3 (RX12, TX12, 151) rfl gV_RX12_399 h_x (t_X12_isPlace h_x r_p0 (ir_c rfl)) rfl [] rfl rfl (Nat.le_of_ble_eq_true rfl) rfl (k_ip fun X1 r2 h3 => ?_)
  have raw_isPlace := h3.2.2.2
  have rw3 := h3.2.2.2
  refine GO.if_eq (tgt := 17) dX12_sure_6 (by decide) r2 (fun c4 => ?_) (fun c4 => ?_)
  ·
    refine GO.iconst dX12_sure_17 ?_
    exact GO.reti rfl rfl dX12_sure_18 ⟨rfl, rfl, _, rfl, (ir_c rfl), trivial⟩
  ·
    have q5 := h3.2.1 (by omega)
    refine GO.aload_n dX12_sure_9 rfl rfl ?_
    refine GO.iload_n dX12_sure_10 rfl rfl ?_
    have q6 : -2147483648 ≤ p0 ∧ p0 ≤ 2147483647 := r_p0
    refine GO.callV (ci := 11) (N := mX12_sureOf) dX12_sure_11 (RX12, TX12, 151) rfl gV_RX12_703 h_x (t_X12_sureOf h_x r_p0 (by omega) (by omega)) rfl [] rfl rfl (Nat.le_of_ble_eq_true rfl) rfl (k_ip fun X7 r8 h9 => ?_)
    refine GO.goto (tgt := 18) dX12_sure_14 (by decide) ?_
    have q10 : -2147483648 ≤ X7 ∧ X7 ≤ 2147483647 := r8
    exact GO.reti rfl rfl dX12_sure_18 ⟨rfl, rfl, _, rfl, r8, trivial⟩

set_option maxHeartbeats 1000000 in
theorem t_X12_drill {K : Kmap} {V : Vmap} {x : Nat} {p0 : Int} {p1 : Int} (h_x : K x = some (0, 11)) (r_p0 : ir p0) (r_p1 : ir p1) : MC mX12_drill K V [.ref x, ti p0, ti p1] (IS K (fun X V1 => True)) := by
  refine MC.start 0 (by decide +kernel) rfl rfl rfl (ls0 := [some (.ref x), some (ti p0), some (ti p1)]) rfl ?_
  refine GO.aload_n dX12_drill_0 rfl rfl ?_
  refine GO.iload_n dX12_drill_1 rfl rfl ?_
  refine GO.iconst dX12_drill_2 ?_
  refine GO.callV (ci := 11) (N := mX12_isPlace) dX12_drill_3 (RX12, TX12, 151) rfl gV_RX12_399 h_x (t_X12_isPlace h_x r_p0 (ir_c rfl)) rfl [] rfl rfl (Nat.le_of_ble_eq_true rfl) rfl (k_ip fun X1 r2 h3 => ?_)
  have raw_isPlace := h3.2.2.2
  have rw3 := h3.2.2.2
  refine GO.if_eq (tgt := 51) dX12_drill_6 (by decide) r2 (fun c4 => ?_) (fun c4 => ?_)
  ·
    refine GO.iconst dX12_drill_51 ?_
    exact GO.reti rfl rfl dX12_drill_52 ⟨rfl, _, rfl, (ir_c rfl), trivial⟩
  ·
    have q5 := h3.2.1 (by omega)
    refine GO.aload_n dX12_drill_9 rfl rfl ?_
    refine GO.iload_n dX12_drill_10 rfl rfl ?_
    refine GO.callV (ci := 11) (N := mX12_isWork) dX12_drill_11 (RX12, TX12, 151) rfl gV_RX12_566 h_x (t_X12_isWork h_x r_p1) rfl [] rfl rfl (Nat.le_of_ble_eq_true rfl) rfl (k_ip fun X6 r7 h8 => ?_)
    refine GO.if_eq (tgt := 51) dX12_drill_14 (by decide) r7 (fun c9 => ?_) (fun c9 => ?_)
    ·
      refine GO.iconst dX12_drill_51 ?_
      exact GO.reti rfl rfl dX12_drill_52 ⟨rfl, _, rfl, (ir_c rfl), trivial⟩
    ·
      have q10 := h8.2.1 (by omega)
      refine GO.aload_n dX12_drill_17 rfl rfl ?_
      refine GO.getA (n := 100) h_x fl_RX12_163 rfl rfl rfl rfl dX12_drill_18 (fun hv12 h11 => ?_)
      refine GO.iload_n dX12_drill_21 rfl rfl ?_
      have q13 : -2147483648 ≤ p1 ∧ p1 ≤ 2147483647 := r_p1
      refine GO.iald (t := 57) rfl rfl h11 r_p1 (by omega) (by omega) dX12_drill_22 (fun _ _ => ?_)
      refine GO.iconst dX12_drill_23 ?_
      refine GO.icmp_ne (tgt := 51) dX12_drill_24 (by decide) vi_ir (ir_c rfl) (fun c14 => ?_) (fun c14 => ?_)
      ·
        refine GO.iconst dX12_drill_51 ?_
        exact GO.reti rfl rfl dX12_drill_52 ⟨rfl, _, rfl, (ir_c rfl), trivial⟩
      ·
        refine GO.aload_n dX12_drill_27 rfl rfl ?_
        refine GO.getA (n := 100) h_x fl_RX12_169 rfl rfl rfl rfl dX12_drill_28 (fun hv16 h15 => ?_)
        refine GO.iload_n dX12_drill_31 rfl rfl ?_
        refine GO.iald (t := 59) rfl rfl h15 r_p1 (by omega) (by omega) dX12_drill_32 (fun l17 u18 => ?_)
        refine GO.aload_n dX12_drill_33 rfl rfl ?_
        refine GO.getA (n := 60) h_x fl_RX12_41 rfl rfl rfl rfl dX12_drill_34 (fun hv20 h19 => ?_)
        refine GO.iload_n dX12_drill_37 rfl rfl ?_
        have q21 : -2147483648 ≤ p0 ∧ p0 ≤ 2147483647 := r_p0
        refine GO.iald (t := 17) rfl rfl h19 r_p0 (by omega) (by omega) dX12_drill_38 (fun l22 u23 => ?_)
        refine GO.icmp_ne (tgt := 51) dX12_drill_39 (by decide) vi_ir vi_ir (fun c24 => ?_) (fun c24 => ?_)
        ·
          refine GO.iconst dX12_drill_51 ?_
          exact GO.reti rfl rfl dX12_drill_52 ⟨rfl, _, rfl, (ir_c rfl), trivial⟩
        ·
          refine GO.aload_n dX12_drill_42 rfl rfl ?_
          refine GO.getI h_x fl_RX12_667 rfl rfl dX12_drill_43 (fun l25 u26 => ?_)
          refine GO.bipush dX12_drill_46 rfl ?_
          refine GO.icmp_ne (tgt := 53) dX12_drill_48 (by decide) vi_ir (ir_c rfl) (fun c27 => ?_) (fun c27 => ?_)
          ·
            refine GO.aload_n dX12_drill_53 rfl rfl ?_
            refine GO.getA (n := 10) h_x fl_RX12_292 rfl rfl rfl rfl dX12_drill_54 (fun hv29 h28 => ?_)
            refine GO.aload_n dX12_drill_57 rfl rfl ?_
            refine GO.getI h_x fl_RX12_667 rfl rfl dX12_drill_58 (fun l30 u31 => ?_)
            refine GO.iload_n dX12_drill_61 rfl rfl ?_
            refine GO.iast (t := 99) rfl rfl (by decide +kernel) h28 vi_ir (by omega) (by omega) r_p0 (by omega) (by omega) dX12_drill_62 (fun V33 e32 => ?_)
            refine GO.aload_n dX12_drill_63 rfl rfl ?_
            refine GO.getA (n := 10) h_x fl_RX12_295 rfl rfl rfl rfl dX12_drill_64 (fun hv35 h34 => ?_)
            refine GO.aload_n dX12_drill_67 rfl rfl ?_
            refine GO.getI h_x fl_RX12_667 rfl rfl dX12_drill_68 (fun l36 u37 => ?_)
            have e38 : vi V33 x 118 = vi V x 118 := vi_up e32 (Or.inl (K_ne h_x h28 (by decide)))
            refine GO.iload_n dX12_drill_71 rfl rfl ?_
            refine GO.iast (t := 100) rfl rfl (by decide +kernel) h34 vi_ir (by omega) (by omega) r_p1 (r_p1).1 (r_p1).2 dX12_drill_72 (fun V40 e39 => ?_)
            refine GO.aload_n dX12_drill_73 rfl rfl ?_
            refine GO.aload_n dX12_drill_74 rfl rfl ?_
            refine GO.getI h_x fl_RX12_667 rfl rfl dX12_drill_75 (fun l41 u42 => ?_)
            have e43 : vi V40 x 118 = vi V33 x 118 := vi_up e39 (Or.inl (K_ne h_x h34 (by decide)))
            refine GO.iconst dX12_drill_78 ?_
            refine GO.iadd dX12_drill_79 ?_
            refine GO.putI h_x fp_RX12_667 rfl (by decide +kernel) ⟨by omega, by omega⟩ (by omega) (by omega) dX12_drill_80 (fun V45 e44 => ?_)
            refine GO.aload_n dX12_drill_83 rfl rfl ?_
            refine GO.getI h_x fl_RX12_667 rfl rfl dX12_drill_84 (fun l46 u47 => ?_)
            have e48 : vi V45 x 118 = (vi V40 x 118) + 1 := upd2_int e44 ⟨by omega, by omega⟩
            refine GO.iconst dX12_drill_87 ?_
            refine GO.isub dX12_drill_88 ?_
            exact GO.reti rfl rfl dX12_drill_89 ⟨rfl, _, rfl, ⟨by omega, by omega⟩, trivial⟩
          ·
            refine GO.iconst dX12_drill_51 ?_
            exact GO.reti rfl rfl dX12_drill_52 ⟨rfl, _, rfl, (ir_c rfl), trivial⟩

set_option maxHeartbeats 1000000 in
theorem t_X12_speed {K : Kmap} {V : Vmap} {x : Nat} {p0 : Int} {p1 : Int} (h_x : K x = some (0, 11)) (r_p0 : ir p0) (r_p1 : ir p1) : MC mX12_speed K V [.ref x, ti p0, ti p1] (IS K (fun X V1 => (X = 0 ∨ X = 1) ∧ (X ≠ 0 → ((p0 = (-1) ∧ p1 ≥ 0 ∧ p1 ≤ 1000) ∨ (p0 ≥ 0 ∧ p0 ≤ 9 ∧ p1 ≥ 1 ∧ p1 ≤ 200))) ∧ (X = 0 → (p0 ≠ (-1) ∨ p1 < 0 ∨ p1 > 1000) ∧ (p0 < 0 ∨ p0 > 9 ∨ p1 < 1 ∨ p1 > 200)))) := by
  refine MC.start 0 (by decide +kernel) rfl rfl rfl (ls0 := [some (.ref x), some (ti p0), some (ti p1)]) rfl ?_
  refine GO.iload_n dX12_speed_0 rfl rfl ?_
  refine GO.iconst dX12_speed_1 ?_
  refine GO.icmp_ne (tgt := 23) dX12_speed_2 (by decide) r_p0 (ir_c rfl) (fun c1 => ?_) (fun c1 => ?_)
  ·
    refine GO.iload_n dX12_speed_23 rfl rfl ?_
    refine GO.iconst dX12_speed_24 ?_
    refine GO.bipush dX12_speed_25 rfl ?_
    refine GO.callS (N := mX12_in) dX12_speed_27 gS_RX12_371 (t_X12_in r_p0 (ir_c rfl) (ir_c rfl)) rfl [] rfl rfl (Nat.le_of_ble_eq_true rfl) rfl (k_ip fun X2 r3 h4 => ?_)
    have raw_in := h4.2.2.2
    have rw27 := h4.2.2.2
    refine GO.if_eq (tgt := 44) dX12_speed_30 (by decide) r3 (fun c5 => ?_) (fun c5 => ?_)
    ·
      have q6 := h4.2.2.1 (by omega)
      refine GO.iconst dX12_speed_44 ?_
      exact GO.retz rfl rfl dX12_speed_45 (Or.inl rfl) ⟨rfl, _, rfl, (ir_c rfl), ⟨Or.inl rfl, fun h => absurd rfl h, fun h => by omega⟩⟩
    ·
      have q7 := h4.2.1 (by omega)
      refine GO.iload_n dX12_speed_33 rfl rfl ?_
      refine GO.iconst dX12_speed_34 ?_
      refine GO.sipush dX12_speed_35 rfl ?_
      refine GO.callS (N := mX12_in) dX12_speed_38 gS_RX12_371 (t_X12_in r_p1 (ir_c rfl) (ir_c rfl)) rfl [] rfl rfl (Nat.le_of_ble_eq_true rfl) rfl (k_ip fun X8 r9 h10 => ?_)
      have raw_in := h10.2.2.2
      have rw38 := h10.2.2.2
      refine GO.if_ne (tgt := 46) dX12_speed_41 (by decide) r9 (fun c11 => ?_) (fun c11 => ?_)
      ·
        have q12 := h10.2.1 (by omega)
        refine GO.aload_n dX12_speed_46 rfl rfl ?_
        refine GO.getA (n := 10) h_x fl_RX12_301 rfl rfl rfl rfl dX12_speed_47 (fun hv14 h13 => ?_)
        refine GO.iload_n dX12_speed_50 rfl rfl ?_
        refine GO.iload_n dX12_speed_51 rfl rfl ?_
        have q15 : -2147483648 ≤ p0 ∧ p0 ≤ 2147483647 := r_p0
        refine GO.iast (t := 102) rfl rfl (by decide +kernel) h13 r_p0 (by omega) (by omega) r_p1 (r_p1).1 (r_p1).2 dX12_speed_52 (fun V17 e16 => ?_)
        refine GO.iconst dX12_speed_53 ?_
        exact GO.retz rfl rfl dX12_speed_54 (Or.inr rfl) ⟨rfl, _, rfl, (ir_c rfl), ⟨Or.inr rfl, fun h => by omega, fun h => absurd h (by decide)⟩⟩
      ·
        have q18 := h10.2.2.1 (by omega)
        refine GO.iconst dX12_speed_44 ?_
        exact GO.retz rfl rfl dX12_speed_45 (Or.inl rfl) ⟨rfl, _, rfl, (ir_c rfl), ⟨Or.inl rfl, fun h => absurd rfl h, fun h => by omega⟩⟩
  ·
    refine GO.iload_n dX12_speed_5 rfl rfl ?_
    refine GO.iconst dX12_speed_6 ?_
    refine GO.sipush dX12_speed_7 rfl ?_
    refine GO.callS (N := mX12_in) dX12_speed_10 gS_RX12_371 (t_X12_in r_p1 (ir_c rfl) (ir_c rfl)) rfl [] rfl rfl (Nat.le_of_ble_eq_true rfl) rfl (k_ip fun X19 r20 h21 => ?_)
    have raw_in := h21.2.2.2
    have rw10 := h21.2.2.2
    refine GO.if_eq (tgt := 23) dX12_speed_13 (by decide) r20 (fun c22 => ?_) (fun c22 => ?_)
    ·
      have q23 := h21.2.2.1 (by omega)
      refine GO.iload_n dX12_speed_23 rfl rfl ?_
      refine GO.iconst dX12_speed_24 ?_
      refine GO.bipush dX12_speed_25 rfl ?_
      refine GO.callS (N := mX12_in) dX12_speed_27 gS_RX12_371 (t_X12_in r_p0 (ir_c rfl) (ir_c rfl)) rfl [] rfl rfl (Nat.le_of_ble_eq_true rfl) rfl (k_ip fun X24 r25 h26 => ?_)
      have raw_in := h26.2.2.2
      have rw27 := h26.2.2.2
      refine GO.if_eq (tgt := 44) dX12_speed_30 (by decide) r25 (fun c27 => ?_) (fun c27 => ?_)
      ·
        have q28 := h26.2.2.1 (by omega)
        refine GO.iconst dX12_speed_44 ?_
        exact GO.retz rfl rfl dX12_speed_45 (Or.inl rfl) ⟨rfl, _, rfl, (ir_c rfl), ⟨Or.inl rfl, fun h => absurd rfl h, fun h => by omega⟩⟩
      ·
        have q29 := h26.2.1 (by omega)
        refine GO.iload_n dX12_speed_33 rfl rfl ?_
        refine GO.iconst dX12_speed_34 ?_
        refine GO.sipush dX12_speed_35 rfl ?_
        refine GO.callS (N := mX12_in) dX12_speed_38 gS_RX12_371 (t_X12_in r_p1 (ir_c rfl) (ir_c rfl)) rfl [] rfl rfl (Nat.le_of_ble_eq_true rfl) rfl (k_ip fun X30 r31 h32 => ?_)
        have raw_in := h32.2.2.2
        have rw38 := h32.2.2.2
        refine GO.if_ne (tgt := 46) dX12_speed_41 (by decide) r31 (fun c33 => ?_) (fun c33 => ?_)
        ·
          have q34 := h32.2.1 (by omega)
          refine GO.aload_n dX12_speed_46 rfl rfl ?_
          refine GO.getA (n := 10) h_x fl_RX12_301 rfl rfl rfl rfl dX12_speed_47 (fun hv36 h35 => ?_)
          refine GO.iload_n dX12_speed_50 rfl rfl ?_
          refine GO.iload_n dX12_speed_51 rfl rfl ?_
          have q37 : -2147483648 ≤ p0 ∧ p0 ≤ 2147483647 := r_p0
          refine GO.iast (t := 102) rfl rfl (by decide +kernel) h35 r_p0 (by omega) (by omega) r_p1 (r_p1).1 (r_p1).2 dX12_speed_52 (fun V39 e38 => ?_)
          refine GO.iconst dX12_speed_53 ?_
          exact GO.retz rfl rfl dX12_speed_54 (Or.inr rfl) ⟨rfl, _, rfl, (ir_c rfl), ⟨Or.inr rfl, fun h => by omega, fun h => absurd h (by decide)⟩⟩
        ·
          have q40 := h32.2.2.1 (by omega)
          refine GO.iconst dX12_speed_44 ?_
          exact GO.retz rfl rfl dX12_speed_45 (Or.inl rfl) ⟨rfl, _, rfl, (ir_c rfl), ⟨Or.inl rfl, fun h => absurd rfl h, fun h => by omega⟩⟩
    ·
      have q41 := h21.2.1 (by omega)
      refine GO.aload_n dX12_speed_16 rfl rfl ?_
      refine GO.iload_n dX12_speed_17 rfl rfl ?_
      refine GO.putI h_x fp_RX12_280 rfl (by decide +kernel) r_p1 (r_p1).1 (r_p1).2 dX12_speed_18 (fun V43 e42 => ?_)
      refine GO.iconst dX12_speed_21 ?_
      exact GO.retz rfl rfl dX12_speed_22 (Or.inr rfl) ⟨rfl, _, rfl, (ir_c rfl), ⟨Or.inr rfl, fun h => by omega, fun h => absurd h (by decide)⟩⟩

set_option maxHeartbeats 1000000 in
theorem t_X12_birds {K : Kmap} {V : Vmap} {x : Nat} {p0 : Int} {p1 : Int} {p2 : Int} (h_x : K x = some (0, 11)) (r_p0 : ir p0) (r_p1 : ir p1) (r_p2 : ir p2) : MC mX12_birds K V [.ref x, ti p0, ti p1, ti p2] (IS K (fun X V1 => (X = 0 ∨ X = 1) ∧ (X ≠ 0 → True) ∧ (X = 0 → True))) := by
  refine MC.start 0 (by decide +kernel) rfl rfl rfl (ls0 := [some (.ref x), some (ti p0), some (ti p1), some (ti p2)]) rfl ?_
  refine GO.aload_n dX12_birds_0 rfl rfl ?_
  refine GO.iload_n dX12_birds_1 rfl rfl ?_
  refine GO.iconst dX12_birds_2 ?_
  refine GO.callV (ci := 11) (N := mX12_isPlace) dX12_birds_3 (RX12, TX12, 151) rfl gV_RX12_399 h_x (t_X12_isPlace h_x r_p0 (ir_c rfl)) rfl [] rfl rfl (Nat.le_of_ble_eq_true rfl) rfl (k_ip fun X1 r2 h3 => ?_)
  have raw_isPlace := h3.2.2.2
  have rw3 := h3.2.2.2
  refine GO.if_eq (tgt := 30) dX12_birds_6 (by decide) r2 (fun c4 => ?_) (fun c4 => ?_)
  ·
    refine GO.iconst dX12_birds_30 ?_
    exact GO.retz rfl rfl dX12_birds_31 (Or.inl rfl) ⟨rfl, _, rfl, (ir_c rfl), ⟨Or.inl rfl, fun _ => trivial, fun _ => trivial⟩⟩
  ·
    have q5 := h3.2.1 (by omega)
    refine GO.iload_n dX12_birds_9 rfl rfl ?_
    refine GO.iconst dX12_birds_10 ?_
    refine GO.bipush dX12_birds_11 rfl ?_
    refine GO.callS (N := mX12_in) dX12_birds_13 gS_RX12_371 (t_X12_in r_p1 (ir_c rfl) (ir_c rfl)) rfl [] rfl rfl (Nat.le_of_ble_eq_true rfl) rfl (k_ip fun X6 r7 h8 => ?_)
    have raw_in := h8.2.2.2
    have rw13 := h8.2.2.2
    refine GO.if_eq (tgt := 30) dX12_birds_16 (by decide) r7 (fun c9 => ?_) (fun c9 => ?_)
    ·
      have q10 := h8.2.2.1 (by omega)
      refine GO.iconst dX12_birds_30 ?_
      exact GO.retz rfl rfl dX12_birds_31 (Or.inl rfl) ⟨rfl, _, rfl, (ir_c rfl), ⟨Or.inl rfl, fun _ => trivial, fun _ => trivial⟩⟩
    ·
      have q11 := h8.2.1 (by omega)
      refine GO.iload_n dX12_birds_19 rfl rfl ?_
      refine GO.iconst dX12_birds_20 ?_
      refine GO.ldcw (X := 100000) dX12_birds_21 gw_2019 rfl ?_
      refine GO.callS (N := mX12_in) dX12_birds_24 gS_RX12_371 (t_X12_in r_p2 (ir_c rfl) (ir_c rfl)) rfl [] rfl rfl (Nat.le_of_ble_eq_true rfl) rfl (k_ip fun X12 r13 h14 => ?_)
      have raw_in := h14.2.2.2
      have rw24 := h14.2.2.2
      refine GO.if_ne (tgt := 32) dX12_birds_27 (by decide) r13 (fun c15 => ?_) (fun c15 => ?_)
      ·
        have q16 := h14.2.1 (by omega)
        refine GO.aload_n dX12_birds_32 rfl rfl ?_
        refine GO.getA (n := 600) h_x fl_RX12_77 rfl rfl rfl rfl dX12_birds_33 (fun hv18 h17 => ?_)
        refine GO.bipush dX12_birds_36 rfl ?_
        refine GO.iload_n dX12_birds_38 rfl rfl ?_
        refine GO.imul dX12_birds_39 ?_
        refine GO.iload_n dX12_birds_40 rfl rfl ?_
        refine GO.iadd dX12_birds_41 ?_
        refine GO.iload_n dX12_birds_42 rfl rfl ?_
        have q19 : -2147483648 ≤ p1 ∧ p1 ≤ 2147483647 := r_p1
        have q20 : -2147483648 ≤ p0 ∧ p0 ≤ 2147483647 := r_p0
        refine GO.iast (t := 29) rfl rfl (by decide +kernel) h17 ⟨by omega, by omega⟩ (by omega) (by omega) r_p2 (r_p2).1 (r_p2).2 dX12_birds_43 (fun V22 e21 => ?_)
        refine GO.iconst dX12_birds_44 ?_
        exact GO.retz rfl rfl dX12_birds_45 (Or.inr rfl) ⟨rfl, _, rfl, (ir_c rfl), ⟨Or.inr rfl, fun _ => trivial, fun _ => trivial⟩⟩
      ·
        have q23 := h14.2.2.1 (by omega)
        refine GO.iconst dX12_birds_30 ?_
        exact GO.retz rfl rfl dX12_birds_31 (Or.inl rfl) ⟨rfl, _, rfl, (ir_c rfl), ⟨Or.inl rfl, fun _ => trivial, fun _ => trivial⟩⟩

set_option maxHeartbeats 1000000 in
theorem t_X12_part {K : Kmap} {V : Vmap} {p0 : Int} {p1 : Int} (r_p0 : ir p0) (r_p1 : ir p1) : MC mX12_part K V [ti p0, ti p1] (IP K V (fun X => True)) := by
  refine MC.start 0 (by decide +kernel) rfl rfl rfl (ls0 := [some (ti p0), some (ti p1)]) rfl ?_
  refine GO.iload_n dX12_part_0 rfl rfl ?_
  refine GO.iload_n dX12_part_1 rfl rfl ?_
  refine GO.imul dX12_part_2 ?_
  refine GO.norm (fun z1 r2 hn3 => ?_)
  refine GO.bipush dX12_part_3 rfl ?_
  refine GO.iadd dX12_part_5 ?_
  refine GO.norm (fun z4 r5 hn6 => ?_)
  refine GO.bipush dX12_part_6 rfl ?_
  refine GO.idiv dX12_part_8 (ir_c rfl) (by omega) ?_
  have q7 : -2147483648 ≤ wdiv z4 100 ∧ wdiv z4 100 ≤ 2147483647 := wdiv_ir
  exact GO.reti rfl rfl dX12_part_9 ⟨rfl, rfl, _, rfl, wdiv_ir, trivial⟩

set_option maxHeartbeats 1000000 in
theorem t_X12_loss {K : Kmap} {V : Vmap} {x : Nat} {p0 : Int} {p1 : Int} {p2 : Int} {p3 : Int} {p4 : Int} (h_x : K x = some (0, 11)) (r_p0 : ir p0) (r_p1 : ir p1) (r_p2 : ir p2) (r_p3 : ir p3) (r_p4 : ir p4) : MC mX12_loss K V [.ref x, ti p0, ti p1, ti p2, ti p3, ti p4] (IP K V (fun X => True)) := by
  refine MC.start 3 (by decide +kernel) rfl rfl rfl (ls0 := [some (.ref x), some (ti p0), some (ti p1), some (ti p2), some (ti p3), some (ti p4), none, none, none]) rfl ?_
  refine GO.aload_n dX12_loss_0 rfl rfl ?_
  refine GO.iload_n dX12_loss_1 rfl rfl ?_
  refine GO.iconst dX12_loss_2 ?_
  refine GO.callV (ci := 11) (N := mX12_isPlace) dX12_loss_3 (RX12, TX12, 151) rfl gV_RX12_399 h_x (t_X12_isPlace h_x r_p0 (ir_c rfl)) rfl [] rfl rfl (Nat.le_of_ble_eq_true rfl) rfl (k_ip fun X1 r2 h3 => ?_)
  have raw_isPlace := h3.2.2.2
  have rw3 := h3.2.2.2
  refine GO.if_eq (tgt := 52) dX12_loss_6 (by decide) r2 (fun c4 => ?_) (fun c4 => ?_)
  ·
    refine GO.ldcw (X := (-1000000)) dX12_loss_52 gw_2322 rfl ?_
    exact GO.reti rfl rfl dX12_loss_55 ⟨rfl, rfl, _, rfl, (ir_c rfl), trivial⟩
  ·
    have q5 := h3.2.1 (by omega)
    refine GO.iload_n dX12_loss_9 rfl rfl ?_
    refine GO.iconst dX12_loss_10 ?_
    refine GO.bipush dX12_loss_11 rfl ?_
    refine GO.callS (N := mX12_in) dX12_loss_13 gS_RX12_371 (t_X12_in r_p1 (ir_c rfl) (ir_c rfl)) rfl [] rfl rfl (Nat.le_of_ble_eq_true rfl) rfl (k_ip fun X6 r7 h8 => ?_)
    have raw_in := h8.2.2.2
    have rw13 := h8.2.2.2
    refine GO.if_eq (tgt := 52) dX12_loss_16 (by decide) r7 (fun c9 => ?_) (fun c9 => ?_)
    ·
      have q10 := h8.2.2.1 (by omega)
      refine GO.ldcw (X := (-1000000)) dX12_loss_52 gw_2322 rfl ?_
      exact GO.reti rfl rfl dX12_loss_55 ⟨rfl, rfl, _, rfl, (ir_c rfl), trivial⟩
    ·
      have q11 := h8.2.1 (by omega)
      refine GO.iload_n dX12_loss_19 rfl rfl ?_
      refine GO.iload_n dX12_loss_20 rfl rfl ?_
      refine GO.iconst dX12_loss_21 ?_
      refine GO.iadd dX12_loss_22 ?_
      refine GO.bipush dX12_loss_23 rfl ?_
      have q12 : -2147483648 ≤ p1 ∧ p1 ≤ 2147483647 := r_p1
      refine GO.callS (N := mX12_in) dX12_loss_25 gS_RX12_371 (t_X12_in r_p2 ⟨by omega, by omega⟩ (ir_c rfl)) rfl [] rfl rfl (Nat.le_of_ble_eq_true rfl) rfl (k_ip fun X13 r14 h15 => ?_)
      have raw_in := h15.2.2.2
      have rw25 := h15.2.2.2
      refine GO.if_eq (tgt := 52) dX12_loss_28 (by decide) r14 (fun c16 => ?_) (fun c16 => ?_)
      ·
        have q17 := h15.2.2.1 (by omega)
        refine GO.ldcw (X := (-1000000)) dX12_loss_52 gw_2322 rfl ?_
        exact GO.reti rfl rfl dX12_loss_55 ⟨rfl, rfl, _, rfl, (ir_c rfl), trivial⟩
      ·
        have q18 := h15.2.1 (by omega)
        refine GO.iload dX12_loss_31 rfl ?_
        refine GO.iconst dX12_loss_33 ?_
        refine GO.bipush dX12_loss_34 rfl ?_
        refine GO.callS (N := mX12_in) dX12_loss_36 gS_RX12_371 (t_X12_in r_p3 (ir_c rfl) (ir_c rfl)) rfl [] rfl rfl (Nat.le_of_ble_eq_true rfl) rfl (k_ip fun X19 r20 h21 => ?_)
        have raw_in := h21.2.2.2
        have rw36 := h21.2.2.2
        refine GO.if_eq (tgt := 52) dX12_loss_39 (by decide) r20 (fun c22 => ?_) (fun c22 => ?_)
        ·
          have q23 := h21.2.2.1 (by omega)
          refine GO.ldcw (X := (-1000000)) dX12_loss_52 gw_2322 rfl ?_
          exact GO.reti rfl rfl dX12_loss_55 ⟨rfl, rfl, _, rfl, (ir_c rfl), trivial⟩
        ·
          have q24 := h21.2.1 (by omega)
          refine GO.iload dX12_loss_42 rfl ?_
          refine GO.iconst dX12_loss_44 ?_
          refine GO.iconst dX12_loss_45 ?_
          refine GO.callS (N := mX12_in) dX12_loss_46 gS_RX12_371 (t_X12_in r_p4 (ir_c rfl) (ir_c rfl)) rfl [] rfl rfl (Nat.le_of_ble_eq_true rfl) rfl (k_ip fun X25 r26 h27 => ?_)
          have raw_in := h27.2.2.2
          have rw46 := h27.2.2.2
          refine GO.if_ne (tgt := 56) dX12_loss_49 (by decide) r26 (fun c28 => ?_) (fun c28 => ?_)
          ·
            have q29 := h27.2.1 (by omega)
            refine GO.aload_n dX12_loss_56 rfl rfl ?_
            refine GO.getA (n := 600) h_x fl_RX12_77 rfl rfl rfl rfl dX12_loss_57 (fun hv31 h30 => ?_)
            refine GO.bipush dX12_loss_60 rfl ?_
            refine GO.iload_n dX12_loss_62 rfl rfl ?_
            refine GO.imul dX12_loss_63 ?_
            refine GO.iload_n dX12_loss_64 rfl rfl ?_
            refine GO.iadd dX12_loss_65 ?_
            have q32 : -2147483648 ≤ p2 ∧ p2 ≤ 2147483647 := r_p2
            have q33 : -2147483648 ≤ p0 ∧ p0 ≤ 2147483647 := r_p0
            refine GO.iald (t := 29) rfl rfl h30 ⟨by omega, by omega⟩ (by omega) (by omega) dX12_loss_66 (fun _ _ => ?_)
            refine GO.name (fun z34 hz35 => ?_)
            have r36 : ir z34 := hz35 ▸ vi_ir
            refine GO.istore (ls1 := [some (.ref x), some (ti p0), some (ti p1), some (ti p2), some (ti p3), some (ti p4), some (ti z34), none, none]) dX12_loss_67 rfl rfl ?_
            refine GO.aload_n dX12_loss_69 rfl rfl ?_
            refine GO.getRaw h_x fl_RX12_77 hv31 dX12_loss_70 ?_
            refine GO.bipush dX12_loss_73 rfl ?_
            refine GO.iload_n dX12_loss_75 rfl rfl ?_
            refine GO.imul dX12_loss_76 ?_
            refine GO.iload_n dX12_loss_77 rfl rfl ?_
            refine GO.iadd dX12_loss_78 ?_
            refine GO.iald (t := 29) rfl rfl h30 ⟨by omega, by omega⟩ (by omega) (by omega) dX12_loss_79 (fun _ _ => ?_)
            refine GO.name (fun z39 hz40 => ?_)
            have r41 : ir z39 := hz40 ▸ vi_ir
            refine GO.istore (ls1 := [some (.ref x), some (ti p0), some (ti p1), some (ti p2), some (ti p3), some (ti p4), some (ti z34), some (ti z39), none]) dX12_loss_80 rfl rfl ?_
            refine GO.iload dX12_loss_82 rfl ?_
            refine GO.iconst dX12_loss_84 ?_
            refine GO.icmp_eq (tgt := 94) dX12_loss_85 (by decide) r36 (ir_c rfl) (fun c42 => ?_) (fun c42 => ?_)
            ·
              refine GO.ldcw (X := (-1000000)) dX12_loss_94 gw_2322 rfl ?_
              exact GO.reti rfl rfl dX12_loss_97 ⟨rfl, rfl, _, rfl, (ir_c rfl), trivial⟩
            ·
              refine GO.iload dX12_loss_88 rfl ?_
              refine GO.iconst dX12_loss_90 ?_
              refine GO.icmp_ne (tgt := 98) dX12_loss_91 (by decide) r41 (ir_c rfl) (fun c43 => ?_) (fun c43 => ?_)
              ·
                refine GO.iload dX12_loss_98 rfl ?_
                refine GO.iload dX12_loss_100 rfl ?_
                refine GO.callS (N := mX12_part) dX12_loss_102 gS_RX12_706 (t_X12_part r36 r_p3) rfl [] rfl rfl (Nat.le_of_ble_eq_true rfl) rfl (k_ip fun X44 r45 h46 => ?_)
                refine GO.iload dX12_loss_105 rfl ?_
                refine GO.iload dX12_loss_107 rfl ?_
                refine GO.callS (N := mX12_part) dX12_loss_109 gS_RX12_706 (t_X12_part r41 r_p3) rfl [ti X44] rfl rfl (Nat.le_of_ble_eq_true rfl) rfl (k_ip fun X47 r48 h49 => ?_)
                refine GO.iadd dX12_loss_112 ?_
                refine GO.norm (fun z50 r51 hn52 => ?_)
                refine GO.istore (ls1 := [some (.ref x), some (ti p0), some (ti p1), some (ti p2), some (ti p3), some (ti p4), some (ti z34), some (ti z39), some (ti z50)]) dX12_loss_113 rfl rfl ?_
                refine GO.iload dX12_loss_115 rfl ?_
                refine GO.if_ne (tgt := 131) dX12_loss_117 (by decide) r_p4 (fun c53 => ?_) (fun c53 => ?_)
                ·
                  refine GO.iload dX12_loss_131 rfl ?_
                  refine GO.iload dX12_loss_133 rfl ?_
                  refine GO.isub dX12_loss_135 ?_
                  refine GO.norm (fun z54 r55 hn56 => ?_)
                  refine GO.iload dX12_loss_136 rfl ?_
                  refine GO.iadd dX12_loss_138 ?_
                  refine GO.norm (fun z57 r58 hn59 => ?_)
                  have q60 : -2147483648 ≤ z57 ∧ z57 ≤ 2147483647 := r58
                  exact GO.reti rfl rfl dX12_loss_139 ⟨rfl, rfl, _, rfl, r58, trivial⟩
                ·
                  refine GO.iload dX12_loss_120 rfl ?_
                  refine GO.iload dX12_loss_122 rfl ?_
                  refine GO.isub dX12_loss_124 ?_
                  refine GO.norm (fun z61 r62 hn63 => ?_)
                  refine GO.iload dX12_loss_125 rfl ?_
                  refine GO.isub dX12_loss_127 ?_
                  refine GO.norm (fun z64 r65 hn66 => ?_)
                  refine GO.goto (tgt := 139) dX12_loss_128 (by decide) ?_
                  have q67 : -2147483648 ≤ z64 ∧ z64 ≤ 2147483647 := r65
                  exact GO.reti rfl rfl dX12_loss_139 ⟨rfl, rfl, _, rfl, r65, trivial⟩
              ·
                refine GO.ldcw (X := (-1000000)) dX12_loss_94 gw_2322 rfl ?_
                exact GO.reti rfl rfl dX12_loss_97 ⟨rfl, rfl, _, rfl, (ir_c rfl), trivial⟩
          ·
            have q68 := h27.2.2.1 (by omega)
            refine GO.ldcw (X := (-1000000)) dX12_loss_52 gw_2322 rfl ?_
            exact GO.reti rfl rfl dX12_loss_55 ⟨rfl, rfl, _, rfl, (ir_c rfl), trivial⟩
