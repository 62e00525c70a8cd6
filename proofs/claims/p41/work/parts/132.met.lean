def mX12_flows : MRec := (RX12, cX12_flows, 8, (none : Option Jvm.ClassFile.FieldType), yX12_flows, 2, 47, 0, 0, 4261562812795461736629470485424259135854706376937999723323138485252048893821910594900459520)
def mX12_day : MRec := (RX12, cX12_day, 2, (some .int), yX12_day, 10, 241, 0, 0, 9621983414447328363233382384140077613501227500180687977789929935050844395256104618180874285838199532188696838144)
def mX12_sound : MRec := (RX12, cX12_sound, 4, (some .boolean), yX12_sound, 1, 22, 0, 0, 2104294154165354572188974614723245976528611563821854604153732710492859286502689165343474302552752757916613738496)
def mX12_sure : MRec := (RX12, cX12_sure, 2, (some .int), yX12_sure, 1, 27, 0, 0, 0)
def mX12_drill : MRec := (RX12, cX12_drill, 3, (some .int), yX12_drill, 1, 22, 0, 0, 7214722814281215676076484393336843348098317646129455940853995776734538989966555573807592775407774656489265823744)
def mX12_speed : MRec := (RX12, cX12_speed, 3, (some .boolean), yX12_speed, 1, 22, 0, 0, 19239260838083241802870625048898248928262033152423150976916523463167042063367829239828841099507555616787934478336)
set_option maxHeartbeats 1000000 in
theorem t_X12_flows {K : Kmap} {V : Vmap} {x : Nat} {p0 : Int} (h_x : K x = some (0, 11)) (r_p0 : ir p0) (q_0 : p0 ≥ 0) (q_1 : p0 ≤ 59) : MC mX12_flows K V [.ref x, ti p0] (VS K (fun V1 => (True) ∧ (FLO V V1 x p0))) := by
  refine MC.start 6 (by decide +kernel) rfl rfl rfl (ls0 := [some (.ref x), some (ti p0), none, none, none, none, none, none]) rfl ?_
  refine GO.useWT (fun hW1 => ?_)
  have ak2 := hW1.arr h_x 15 17 (by decide) rfl (by decide)
  have ak3 := hW1.arr h_x 18 20 (by decide) rfl (by decide)
  have ak4 := hW1.arr h_x 28 30 (by decide) rfl (by decide)
  refine GO.useWT (fun hW_0 => ?_)
  refine GO.aload_n dX12_flows_0 rfl rfl ?_
  refine GO.getA (n := 60) h_x fl_RX12_41 rfl rfl rfl rfl dX12_flows_1 (fun hv6 h5 => ?_)
  refine GO.iload_n dX12_flows_4 rfl rfl ?_
  have q7 : -2147483648 ≤ p0 ∧ p0 ≤ 2147483647 := r_p0
  refine GO.iald (t := 17) rfl rfl h5 r_p0 (by omega) (by omega) dX12_flows_5 (fun l8 u9 => ?_)
  refine GO.name (fun z10 hz11 => ?_)
  have r12 : ir z10 := hz11 ▸ vi_ir
  refine GO.istore_n (ls1 := [some (.ref x), some (ti p0), some (ti z10), none, none, none, none, none]) dX12_flows_6 rfl rfl rfl ?_
  have hc0 : 0 ≤ z10 ∧ z10 ≤ 143 := ⟨by omega, by omega⟩
  refine GO.aload_n dX12_flows_7 rfl rfl ?_
  refine GO.getA (n := 144) h_x fl_RX12_20 rfl rfl rfl rfl dX12_flows_8 (fun hv14 h13 => ?_)
  refine GO.iload_n dX12_flows_11 rfl rfl ?_
  refine GO.iald (t := 10) rfl rfl h13 r12 (by omega) (by omega) dX12_flows_12 (fun l15 u16 => ?_)
  refine GO.if_ne (tgt := 46) dX12_flows_13 (by decide) vi_ir (fun c17 => ?_) (fun c17 => ?_)
  ·
    exact GO.retv rfl rfl dX12_flows_46 ⟨rfl, rfl, ⟨trivial, (by first | exact FLO.no hc0 (by omega) (by omega))⟩⟩
  ·
    refine GO.aload_n dX12_flows_16 rfl rfl ?_
    refine GO.getA (n := 144) h_x fl_RX12_23 rfl rfl rfl rfl dX12_flows_17 (fun hv19 h18 => ?_)
    refine GO.iload_n dX12_flows_20 rfl rfl ?_
    refine GO.iald (t := 11) rfl rfl h18 r12 (by omega) (by omega) dX12_flows_21 (fun l20 u21 => ?_)
    refine GO.iconst dX12_flows_22 ?_
    refine GO.icmp_eq (tgt := 46) dX12_flows_23 (by decide) vi_ir (ir_c rfl) (fun c22 => ?_) (fun c22 => ?_)
    ·
      exact GO.retv rfl rfl dX12_flows_46 ⟨rfl, rfl, ⟨trivial, (by first | exact FLO.no hc0 (by omega) (by omega))⟩⟩
    ·
      refine GO.aload_n dX12_flows_26 rfl rfl ?_
      refine GO.getI h_x fl_RX12_396 rfl rfl dX12_flows_27 (fun l23 u24 => ?_)
      refine GO.aload_n dX12_flows_30 rfl rfl ?_
      refine GO.getA (n := 60) h_x fl_RX12_50 rfl rfl rfl rfl dX12_flows_31 (fun hv26 h25 => ?_)
      refine GO.iload_n dX12_flows_34 rfl rfl ?_
      refine GO.iald (t := 20) rfl rfl h25 r_p0 (by omega) (by omega) dX12_flows_35 (fun l27 u28 => ?_)
      refine GO.isub dX12_flows_36 ?_
      refine GO.aload_n dX12_flows_37 rfl rfl ?_
      refine GO.getA (n := 144) h_x fl_RX12_26 rfl rfl rfl rfl dX12_flows_38 (fun hv30 h29 => ?_)
      refine GO.iload_n dX12_flows_41 rfl rfl ?_
      refine GO.iald (t := 12) rfl rfl h29 r12 (by omega) (by omega) dX12_flows_42 (fun l31 u32 => ?_)
      refine GO.icmp_ge (tgt := 47) dX12_flows_43 (by decide) ⟨by omega, by omega⟩ vi_ir (fun c33 => ?_) (fun c33 => ?_)
      ·
        refine GO.aload_n dX12_flows_47 rfl rfl ?_
        refine GO.getRaw h_x fl_RX12_23 hv19 dX12_flows_48 ?_
        refine GO.iload_n dX12_flows_51 rfl rfl ?_
        refine GO.iald (t := 11) rfl rfl h18 r12 (by omega) (by omega) dX12_flows_52 (fun l36 u37 => ?_)
        refine GO.callS (N := mX12_columnStep) dX12_flows_53 gS_RX12_639 (t_X12_columnStep vi_ir) rfl [] rfl rfl (Nat.le_of_ble_eq_true rfl) rfl (k_ip fun X38 r39 h40 => ?_)
        have raw_columnStep := h40.2
        have rw53 := h40.2
        refine GO.istore_n (ls1 := [some (.ref x), some (ti p0), some (ti z10), some (ti X38), none, none, none, none]) dX12_flows_56 rfl rfl rfl ?_
        refine GO.aload_n dX12_flows_57 rfl rfl ?_
        refine GO.getRaw h_x fl_RX12_23 hv19 dX12_flows_58 ?_
        refine GO.iload_n dX12_flows_61 rfl rfl ?_
        refine GO.iald (t := 11) rfl rfl h18 r12 (by omega) (by omega) dX12_flows_62 (fun l43 u44 => ?_)
        refine GO.callS (N := mX12_rowStep) dX12_flows_63 gS_RX12_642 (t_X12_rowStep vi_ir) rfl [] rfl rfl (Nat.le_of_ble_eq_true rfl) rfl (k_ip fun X45 r46 h47 => ?_)
        have raw_rowStep := h47.2
        have rw63 := h47.2
        refine GO.istore (ls1 := [some (.ref x), some (ti p0), some (ti z10), some (ti X38), some (ti X45), none, none, none]) dX12_flows_66 rfl rfl ?_
        refine GO.aload_n dX12_flows_68 rfl rfl ?_
        refine GO.iload_n dX12_flows_69 rfl rfl ?_
        refine GO.iload_n dX12_flows_70 rfl rfl ?_
        refine GO.iload dX12_flows_71 rfl ?_
        refine GO.callV (ci := 11) (N := mX12_moved) dX12_flows_73 (RX12, TX12, 151) rfl gV_RX12_645 h_x (t_X12_moved h_x r12 r39 r46 (by omega) (by omega) (by omega) (by omega) (by omega) (by omega)) rfl [] rfl rfl (Nat.le_of_ble_eq_true rfl) rfl (k_ip fun X48 r49 h50 => ?_)
        have raw_moved := h50.2
        have rw73 := h50.2
        refine GO.istore (ls1 := [some (.ref x), some (ti p0), some (ti z10), some (ti X38), some (ti X45), some (ti X48), none, none]) dX12_flows_76 rfl rfl ?_
        have hmv := MOV.is rw73 (rw53 (by omega) (by omega)) (rw63 (by omega) (by omega))
        refine GO.iload dX12_flows_78 rfl ?_
        refine GO.iconst dX12_flows_80 ?_
        refine GO.icmp_ne (tgt := 90) dX12_flows_81 (by decide) r49 (ir_c rfl) (fun c51 => ?_) (fun c51 => ?_)
        ·
          refine GO.aload_n dX12_flows_90 rfl rfl ?_
          refine GO.getRaw h_x fl_RX12_41 hv6 dX12_flows_91 ?_
          refine GO.iload_n dX12_flows_94 rfl rfl ?_
          refine GO.iload dX12_flows_95 rfl ?_
          refine GO.iast (t := 17) rfl rfl (by decide +kernel) h5 r_p0 (by omega) (by omega) r49 (by omega) (by omega) dX12_flows_97 (fun V55 e54 => ?_)
          have ak56 := tk_put e54 ak2 h_x (vq_of hv6) r49 (rfl : ar 15 V x = ar 15 V x)
          have ak57 := tk_oth e54 ak3 h_x h5 (by decide) (by decide) (rfl : ar 18 V x = ar 18 V x)
          have ak58 := tk_oth e54 ak4 h_x h5 (by decide) (by decide) (rfl : ar 28 V x = ar 28 V x)
          refine GO.aload_n dX12_flows_98 rfl rfl ?_
          refine GO.getRaw h_x fl_RX12_50 (Eq.trans (uq_ne e54 (Or.inl (K_ne h_x h5 (by decide)))) hv26) dX12_flows_99 ?_
          refine GO.iload_n dX12_flows_102 rfl rfl ?_
          refine GO.aload_n dX12_flows_103 rfl rfl ?_
          refine GO.getI h_x fl_RX12_396 rfl rfl dX12_flows_104 (fun l61 u62 => ?_)
          have e63 : vi V55 x 2 = vi V x 2 := vi_up e54 (Or.inl (K_ne h_x h5 (by decide)))
          refine GO.iast (t := 20) rfl rfl (by decide +kernel) h25 r_p0 (by omega) (by omega) vi_ir (by omega) (by omega) dX12_flows_107 (fun V65 e64 => ?_)
          have ak66 := tk_oth e64 ak56.1 h_x h25 (by decide) (by decide) ak56.2
          have ak67 := tk_put e64 ak57.1 h_x (vq_of (Eq.trans (uq_ne e54 (Or.inl (K_ne h_x h5 (by decide)))) hv26)) vi_ir ak57.2
          have ak68 := tk_oth e64 ak58.1 h_x h25 (by decide) (by decide) ak58.2
          refine GO.iconst dX12_flows_108 ?_
          refine GO.istore (ls1 := [some (.ref x), some (ti p0), some (ti z10), some (ti X38), some (ti X45), some (ti X48), some (ti 0), none]) dX12_flows_109 rfl rfl ?_
          refine GO.loop1 (fun i69 W => 0 ≤ i69 ∧ i69 ≤ 60 ∧ (FLI' V W x p0 (vi V (vq V x 7) (z10).toNat) X48 i69) ∧ True) (fun i69 => [some (.ref x), some (ti p0), some (ti z10), some (ti X38), some (ti X45), some (ti X48), some (ti i69), none]) (fun i69 W => (2147483647 - i69).toNat) 0 ⟨by omega, by omega, (by first | exact FLI'.beg ak66.2 ak67.2 ak68.2 (fun _ => rfl) (fun _ => rfl) (by omega)), trivial⟩ rfl (fun i69 Wi69 hp836 ih835 => ?_)
          obtain ⟨l_i69, u_i69, hfl, -⟩ := hp836
          have r_i69 : ir i69 := ⟨by omega, by omega⟩
          show GO mX12_flows K V (VS K (fun V1 => (True) ∧ (FLO V V1 x p0))) K Wi69 0 0 111 [some (.ref x), some (ti p0), some (ti z10), some (ti X38), some (ti X45), some (ti X48), some (ti i69), none] []
          refine GO.useWT (fun hW837 => ?_)
          have ak838 := hW837.arr h_x 15 17 (by decide) rfl (by decide)
          have ak839 := hW837.arr h_x 18 20 (by decide) rfl (by decide)
          have ak840 := hW837.arr h_x 28 30 (by decide) rfl (by decide)
          refine GO.useFR (fun hFs => ?_)
          have hmp : MPS V Wi69 x := MPS.fr hFs ext.rf hW_0 h_x (by decide +kernel)
          have hml : MLD V Wi69 x := MLD.fr hFs ext.rf hW_0 h_x (by decide +kernel)
          have hn10 := hmp.1
          refine GO.iload dX12_flows_111 rfl ?_
          refine GO.aload_n dX12_flows_113 rfl rfl ?_
          refine GO.getI h_x fl_RX12_375 rfl rfl dX12_flows_114 (fun l841 u842 => ?_)
          refine GO.icmp_ge (tgt := 229) dX12_flows_117 (by decide) r_i69 vi_ir (fun c843 => ?_) (fun c843 => ?_)
          ·
            refine GO.aload_n dX12_flows_229 rfl rfl ?_
            refine GO.iload dX12_flows_230 rfl ?_
            refine GO.callV (ci := 11) (N := mX12_isLand) dX12_flows_232 (RX12, TX12, 151) rfl gV_RX12_425 h_x (t_X12_isLand h_x r49 (by omega) (by omega)) rfl [] rfl rfl (Nat.le_of_ble_eq_true rfl) rfl (k_ip fun X844 r845 h846 => ?_)
            have raw_isLand := h846.2.2.2
            have rw232 := h846.2.2.2
            have hy2 := rw232
            rw [hml.2.2 6 (by decide) (by decide)] at hy2
            refine GO.if_ne (tgt := 243) dX12_flows_235 (by decide) r845 (fun c847 => ?_) (fun c847 => ?_)
            ·
              refine GO.useFR (fun hFs => ?_)
              have hmq : MPS V Wi69 x := MPS.fr hFs ext.rf hW_0 h_x (by decide +kernel)
              exact GO.retv rfl rfl dX12_flows_243 ⟨rfl, rfl, ⟨trivial, (by first | exact FLO.no hc0 (by omega) (by omega) | exact FLO.go hc0 (by omega) ⟨by omega, by omega, by omega⟩ hmv (by omega) hmq hfl (by omega) (rfl : ar 15 Wi69 x = ar 15 Wi69 x) (rfl : ar 18 Wi69 x = ar 18 Wi69 x) hy2 (Or.inl ⟨by omega, (rfl : ar 28 Wi69 x = ar 28 Wi69 x)⟩))⟩⟩
            ·
              refine GO.aload_n dX12_flows_238 rfl rfl ?_
              refine GO.iload_n dX12_flows_239 rfl rfl ?_
              refine GO.callV (ci := 11) (N := mX12_loses) dX12_flows_240 (RX12, TX12, 151) rfl gV_RX12_685 h_x (t_X12_loses h_x r_p0 (by omega) (by omega)) rfl [] rfl rfl (Nat.le_of_ble_eq_true rfl) rfl (k_vs fun V850 h849 hF848 => ?_)
              have ak851 := tk_fr hF848 ak838 h_x (by decide +kernel) (by decide +kernel) (rfl : ar 15 Wi69 x = ar 15 Wi69 x)
              have ak852 := tk_fr hF848 ak839 h_x (by decide +kernel) (by decide +kernel) (rfl : ar 18 Wi69 x = ar 18 Wi69 x)
              refine GO.useWT (fun hW853 => ?_)
              have ak854 := hW853.arr h_x 28 30 (by decide) rfl (by decide)
              have raw_loses := h849.2
              have rw240 := h849.2
              refine GO.useFR (fun hFs => ?_)
              have hmq : MPS V V850 x := MPS.fr hFs ext.rf hW_0 h_x (by decide +kernel)
              exact GO.retv rfl rfl dX12_flows_243 ⟨rfl, rfl, ⟨trivial, (by first | exact FLO.no hc0 (by omega) (by omega) | exact FLO.go hc0 (by omega) ⟨by omega, by omega, by omega⟩ hmv (by omega) hmq hfl (by omega) ak851.2 ak852.2 hy2 (Or.inl ⟨by omega, (rfl : ar 28 V850 x = ar 28 V850 x)⟩) | exact FLO.go hc0 (by omega) ⟨by omega, by omega, by omega⟩ hmv (by omega) hmq hfl (by omega) ak851.2 ak852.2 hy2 (Or.inr ⟨by omega, hmp, rw240⟩))⟩⟩
          ·
            refine GO.aload_n dX12_flows_120 rfl rfl ?_
            refine GO.getA (n := 60) h_x fl_RX12_35 rfl rfl rfl rfl dX12_flows_121 (fun hv856 h855 => ?_)
            refine GO.iload dX12_flows_124 rfl ?_
            refine GO.iald (t := 15) rfl rfl h855 r_i69 (by omega) (by omega) dX12_flows_126 (fun l857 u858 => ?_)
            refine GO.iconst dX12_flows_127 ?_
            refine GO.icmp_ne (tgt := 223) dX12_flows_128 (by decide) vi_ir (ir_c rfl) (fun c859 => ?_) (fun c859 => ?_)
            ·
              refine GO.iinc (X := i69) (n := 1) (Y := i69 + 1) (ls1 := [some (.ref x), some (ti p0), some (ti z10), some (ti X38), some (ti X45), some (ti X48), some (ti (i69 + 1)), none]) dX12_flows_223 rfl rfl rfl rfl ?_
              refine GO.goto (tgt := 111) dX12_flows_226 (by decide) ?_
              exact ih835 (i69 + 1) Wi69 ⟨by omega, by omega, (by first | exact FLI'.beg (rfl : ar 15 Wi69 x = ar 15 Wi69 x) (rfl : ar 18 Wi69 x = ar 18 Wi69 x) (rfl : ar 28 Wi69 x = ar 28 Wi69 x) (fun _ => rfl) (fun _ => rfl) (by omega) | exact FLI'.skip hfl (by omega) hmp (Or.inl (by assumption)) (rfl : ar 15 Wi69 x = ar 15 Wi69 x) (rfl : ar 18 Wi69 x = ar 18 Wi69 x) (rfl : ar 28 Wi69 x = ar 28 Wi69 x) (by omega) | exact FLI'.skip hfl (by omega) hmp (Or.inr (Or.inl (by assumption))) (rfl : ar 15 Wi69 x = ar 15 Wi69 x) (rfl : ar 18 Wi69 x = ar 18 Wi69 x) (rfl : ar 28 Wi69 x = ar 28 Wi69 x) (by omega) | exact FLI'.skip hfl (by omega) hmp (Or.inr (Or.inr (by assumption))) (rfl : ar 15 Wi69 x = ar 15 Wi69 x) (rfl : ar 18 Wi69 x = ar 18 Wi69 x) (rfl : ar 28 Wi69 x = ar 28 Wi69 x) (by omega)), trivial⟩ (by show (2147483647 - (i69 + 1)).toNat < (2147483647 - i69).toNat; omega)
            ·
              refine GO.aload_n dX12_flows_131 rfl rfl ?_
              refine GO.getA (n := 60) h_x fl_RX12_47 rfl rfl rfl rfl dX12_flows_132 (fun hv861 h860 => ?_)
              refine GO.iload dX12_flows_135 rfl ?_
              refine GO.iald (t := 19) rfl rfl h860 r_i69 (by omega) (by omega) dX12_flows_137 (fun _ _ => ?_)
              refine GO.iload_n dX12_flows_138 rfl rfl ?_
              refine GO.icmp_ne (tgt := 223) dX12_flows_139 (by decide) vi_ir r_p0 (fun c862 => ?_) (fun c862 => ?_)
              ·
                refine GO.iinc (X := i69) (n := 1) (Y := i69 + 1) (ls1 := [some (.ref x), some (ti p0), some (ti z10), some (ti X38), some (ti X45), some (ti X48), some (ti (i69 + 1)), none]) dX12_flows_223 rfl rfl rfl rfl ?_
                refine GO.goto (tgt := 111) dX12_flows_226 (by decide) ?_
                exact ih835 (i69 + 1) Wi69 ⟨by omega, by omega, (by first | exact FLI'.beg (rfl : ar 15 Wi69 x = ar 15 Wi69 x) (rfl : ar 18 Wi69 x = ar 18 Wi69 x) (rfl : ar 28 Wi69 x = ar 28 Wi69 x) (fun _ => rfl) (fun _ => rfl) (by omega) | exact FLI'.skip hfl (by omega) hmp (Or.inl (by assumption)) (rfl : ar 15 Wi69 x = ar 15 Wi69 x) (rfl : ar 18 Wi69 x = ar 18 Wi69 x) (rfl : ar 28 Wi69 x = ar 28 Wi69 x) (by omega) | exact FLI'.skip hfl (by omega) hmp (Or.inr (Or.inl (by assumption))) (rfl : ar 15 Wi69 x = ar 15 Wi69 x) (rfl : ar 18 Wi69 x = ar 18 Wi69 x) (rfl : ar 28 Wi69 x = ar 28 Wi69 x) (by omega) | exact FLI'.skip hfl (by omega) hmp (Or.inr (Or.inr (by assumption))) (rfl : ar 15 Wi69 x = ar 15 Wi69 x) (rfl : ar 18 Wi69 x = ar 18 Wi69 x) (rfl : ar 28 Wi69 x = ar 28 Wi69 x) (by omega)), trivial⟩ (by show (2147483647 - (i69 + 1)).toNat < (2147483647 - i69).toNat; omega)
              ·
                refine GO.aload_n dX12_flows_142 rfl rfl ?_
                refine GO.getA (n := 60) h_x fl_RX12_80 rfl rfl rfl rfl dX12_flows_143 (fun hv864 h863 => ?_)
                refine GO.iload dX12_flows_146 rfl ?_
                refine GO.zald (t := 30) rfl rfl h863 r_i69 (by omega) (by omega) dX12_flows_148 (fun l865 u866 => ?_)
                refine GO.if_eq (tgt := 155) dX12_flows_149 (by decide) vi_ir (fun c867 => ?_) (fun c867 => ?_)
                ·
                  refine GO.aload_n dX12_flows_155 rfl rfl ?_
                  refine GO.aload_n dX12_flows_156 rfl rfl ?_
                  refine GO.getA (n := 60) h_x fl_RX12_41 rfl rfl rfl rfl dX12_flows_157 (fun hv869 h868 => ?_)
                  refine GO.iload dX12_flows_160 rfl ?_
                  refine GO.iald (t := 17) rfl rfl h868 r_i69 (by omega) (by omega) dX12_flows_162 (fun l870 u871 => ?_)
                  refine GO.iload_n dX12_flows_163 rfl rfl ?_
                  refine GO.iload dX12_flows_164 rfl ?_
                  refine GO.callV (ci := 11) (N := mX12_moved) dX12_flows_166 (RX12, TX12, 151) rfl gV_RX12_645 h_x (t_X12_moved h_x vi_ir r39 r46 (by omega) (by omega) (by omega) (by omega) (by omega) (by omega)) rfl [] rfl rfl (Nat.le_of_ble_eq_true rfl) rfl (k_ip fun X872 r873 h874 => ?_)
                  have raw_moved := h874.2
                  have rw166 := h874.2
                  refine GO.istore (ls1 := [some (.ref x), some (ti p0), some (ti z10), some (ti X38), some (ti X45), some (ti X48), some (ti i69), some (ti X872)]) dX12_flows_169 rfl rfl ?_
                  have hmw := MOV.is rw166 (rw53 (by omega) (by omega)) (rw63 (by omega) (by omega))
                  refine GO.aload_n dX12_flows_171 rfl rfl ?_
                  refine GO.getRaw h_x fl_RX12_80 hv864 dX12_flows_172 ?_
                  refine GO.iload dX12_flows_175 rfl ?_
                  refine GO.iload dX12_flows_177 rfl ?_
                  refine GO.iconst dX12_flows_179 ?_
                  refine GO.icmp_eq (tgt := 192) dX12_flows_180 (by decide) r873 (ir_c rfl) (fun c877 => ?_) (fun c877 => ?_)
                  ·
                    refine GO.iconst dX12_flows_192 ?_
                    refine GO.goto (tgt := 197) dX12_flows_193 (by decide) ?_
                    refine GO.zast (t := 30) rfl rfl (by decide +kernel) h863 r_i69 (by omega) (by omega) (by omega) (by omega) (by omega) dX12_flows_197 (fun V879 e878 => ?_)
                    have ak880 := tk_oth e878 ak838 h_x h863 (by decide) (by decide) (rfl : ar 15 Wi69 x = ar 15 Wi69 x)
                    have ak881 := tk_oth e878 ak839 h_x h863 (by decide) (by decide) (rfl : ar 18 Wi69 x = ar 18 Wi69 x)
                    have ak882 := tk_put e878 ak840 h_x (vq_of hv864) ⟨by omega, by omega⟩ (rfl : ar 28 Wi69 x = ar 28 Wi69 x)
                    have hce := fun j => (vi_up e878 (Or.inl (K_ne (show K (vq Wi69 x 15) = some (17 + 1, 60) by assumption) (show K (vq Wi69 x 28) = some (30 + 1, 60) by assumption) (by decide))) : vi V879 (vq Wi69 x 15) j = vi Wi69 (vq Wi69 x 15) j)
                    have hce2 := hce (i69).toNat
                    refine GO.aload_n dX12_flows_198 rfl rfl ?_
                    refine GO.getRaw h_x fl_RX12_41 (Eq.trans (uq_ne e878 (Or.inl (K_ne h_x h863 (by decide)))) hv869) dX12_flows_199 ?_
                    refine GO.iload dX12_flows_202 rfl ?_
                    refine GO.iload dX12_flows_204 rfl ?_
                    refine GO.iconst dX12_flows_206 ?_
                    refine GO.icmp_ne (tgt := 220) dX12_flows_207 (by decide) r873 (ir_c rfl) (fun h => by exfalso; omega) (fun c885 => ?_)
                    refine GO.aload_n dX12_flows_210 rfl rfl ?_
                    refine GO.getRaw h_x fl_RX12_41 (Eq.trans (uq_ne e878 (Or.inl (K_ne h_x h863 (by decide)))) hv869) dX12_flows_211 ?_
                    refine GO.iload dX12_flows_214 rfl ?_
                    refine GO.iald (t := 17) rfl rfl h868 r_i69 (by omega) (by omega) dX12_flows_216 (fun l888 u889 => ?_)
                    have e890 : vi V879 (vq Wi69 x 15) (i69).toNat = vi Wi69 (vq Wi69 x 15) (i69).toNat := vi_up e878 (Or.inl (K_ne h868 h863 (by decide)))
                    refine GO.goto (tgt := 222) dX12_flows_217 (by decide) ?_
                    refine GO.iast (t := 17) rfl rfl (by decide +kernel) h868 r_i69 (by omega) (by omega) vi_ir (by omega) (by omega) dX12_flows_222 (fun V892 e891 => ?_)
                    have ak893 := tk_put e891 ak880.1 h_x (vq_of (Eq.trans (uq_ne e878 (Or.inl (K_ne h_x h863 (by decide)))) hv869)) vi_ir ak880.2
                    have ak894 := tk_oth e891 ak881.1 h_x h868 (by decide) (by decide) ak881.2
                    have ak895 := tk_oth e891 ak882.1 h_x h868 (by decide) (by decide) ak882.2
                    refine GO.iinc (X := i69) (n := 1) (Y := i69 + 1) (ls1 := [some (.ref x), some (ti p0), some (ti z10), some (ti X38), some (ti X45), some (ti X48), some (ti (i69 + 1)), some (ti X872)]) dX12_flows_223 rfl rfl rfl rfl ?_
                    refine GO.goto (tgt := 111) dX12_flows_226 (by decide) ?_
                    refine GO.drop [true, true, true, true, true, true, true, false] rfl ?_
                    exact ih835 (i69 + 1) V892 ⟨by omega, by omega, (by first | exact FLI'.beg ak893.2 ak894.2 ak895.2 (fun _ => rfl) (fun _ => rfl) (by omega) | exact FLI'.skip hfl (by omega) hmp (Or.inl (by assumption)) ak893.2 ak894.2 ak895.2 (by omega) | exact FLI'.skip hfl (by omega) hmp (Or.inr (Or.inl (by assumption))) ak893.2 ak894.2 ak895.2 (by omega) | exact FLI'.skip hfl (by omega) hmp (Or.inr (Or.inr (by assumption))) ak893.2 ak894.2 ak895.2 (by omega) | exact FLI'.hit hfl (by omega) hmp hml (by omega) (by assumption) (by assumption) (by assumption) hmw (by omega) (by omega) ak893.2 ak894.2 ak895.2 rfl rfl (by omega)), trivial⟩ (by show (2147483647 - (i69 + 1)).toNat < (2147483647 - i69).toNat; omega)
                  ·
                    refine GO.aload_n dX12_flows_183 rfl rfl ?_
                    refine GO.iload dX12_flows_184 rfl ?_
                    refine GO.callV (ci := 11) (N := mX12_isLand) dX12_flows_186 (RX12, TX12, 151) rfl gV_RX12_425 h_x (t_X12_isLand h_x r873 (by omega) (by omega)) rfl [ti i69, .ref (vq Wi69 x 28)] rfl rfl (Nat.le_of_ble_eq_true rfl) rfl (k_ip fun X896 r897 h898 => ?_)
                    have raw_isLand := h898.2.2.2
                    have rw186 := h898.2.2.2
                    refine GO.if_ne (tgt := 196) dX12_flows_189 (by decide) r897 (fun c899 => ?_) (fun c899 => ?_)
                    ·
                      refine GO.iconst dX12_flows_196 ?_
                      refine GO.zast (t := 30) rfl rfl (by decide +kernel) h863 r_i69 (by omega) (by omega) (by omega) (by omega) (by omega) dX12_flows_197 (fun V901 e900 => ?_)
                      have ak902 := tk_oth e900 ak838 h_x h863 (by decide) (by decide) (rfl : ar 15 Wi69 x = ar 15 Wi69 x)
                      have ak903 := tk_oth e900 ak839 h_x h863 (by decide) (by decide) (rfl : ar 18 Wi69 x = ar 18 Wi69 x)
                      have ak904 := tk_put e900 ak840 h_x (vq_of hv864) ⟨by omega, by omega⟩ (rfl : ar 28 Wi69 x = ar 28 Wi69 x)
                      have hce := fun j => (vi_up e900 (Or.inl (K_ne (show K (vq Wi69 x 15) = some (17 + 1, 60) by assumption) (show K (vq Wi69 x 28) = some (30 + 1, 60) by assumption) (by decide))) : vi V901 (vq Wi69 x 15) j = vi Wi69 (vq Wi69 x 15) j)
                      have hce2 := hce (i69).toNat
                      refine GO.aload_n dX12_flows_198 rfl rfl ?_
                      refine GO.getRaw h_x fl_RX12_41 (Eq.trans (uq_ne e900 (Or.inl (K_ne h_x h863 (by decide)))) hv869) dX12_flows_199 ?_
                      refine GO.iload dX12_flows_202 rfl ?_
                      refine GO.iload dX12_flows_204 rfl ?_
                      refine GO.iconst dX12_flows_206 ?_
                      refine GO.icmp_ne (tgt := 220) dX12_flows_207 (by decide) r873 (ir_c rfl) (fun c907 => ?_) (fun h => by exfalso; omega)
                      refine GO.iload dX12_flows_220 rfl ?_
                      refine GO.iast (t := 17) rfl rfl (by decide +kernel) h868 r_i69 (by omega) (by omega) r873 (by omega) (by omega) dX12_flows_222 (fun V909 e908 => ?_)
                      have ak910 := tk_put e908 ak902.1 h_x (vq_of (Eq.trans (uq_ne e900 (Or.inl (K_ne h_x h863 (by decide)))) hv869)) r873 ak902.2
                      have ak911 := tk_oth e908 ak903.1 h_x h868 (by decide) (by decide) ak903.2
                      have ak912 := tk_oth e908 ak904.1 h_x h868 (by decide) (by decide) ak904.2
                      refine GO.iinc (X := i69) (n := 1) (Y := i69 + 1) (ls1 := [some (.ref x), some (ti p0), some (ti z10), some (ti X38), some (ti X45), some (ti X48), some (ti (i69 + 1)), some (ti X872)]) dX12_flows_223 rfl rfl rfl rfl ?_
                      refine GO.goto (tgt := 111) dX12_flows_226 (by decide) ?_
                      refine GO.drop [true, true, true, true, true, true, true, false] rfl ?_
                      exact ih835 (i69 + 1) V909 ⟨by omega, by omega, (by first | exact FLI'.beg ak910.2 ak911.2 ak912.2 (fun _ => rfl) (fun _ => rfl) (by omega) | exact FLI'.skip hfl (by omega) hmp (Or.inl (by assumption)) ak910.2 ak911.2 ak912.2 (by omega) | exact FLI'.skip hfl (by omega) hmp (Or.inr (Or.inl (by assumption))) ak910.2 ak911.2 ak912.2 (by omega) | exact FLI'.skip hfl (by omega) hmp (Or.inr (Or.inr (by assumption))) ak910.2 ak911.2 ak912.2 (by omega) | exact FLI'.hit hfl (by omega) hmp hml (by omega) (by assumption) (by assumption) (by assumption) hmw (by omega) (by omega) ak910.2 ak911.2 ak912.2 rfl rfl (by omega)), trivial⟩ (by show (2147483647 - (i69 + 1)).toNat < (2147483647 - i69).toNat; omega)
                    ·
                      refine GO.iconst dX12_flows_192 ?_
                      refine GO.goto (tgt := 197) dX12_flows_193 (by decide) ?_
                      refine GO.zast (t := 30) rfl rfl (by decide +kernel) h863 r_i69 (by omega) (by omega) (by omega) (by omega) (by omega) dX12_flows_197 (fun V914 e913 => ?_)
                      have ak915 := tk_oth e913 ak838 h_x h863 (by decide) (by decide) (rfl : ar 15 Wi69 x = ar 15 Wi69 x)
                      have ak916 := tk_oth e913 ak839 h_x h863 (by decide) (by decide) (rfl : ar 18 Wi69 x = ar 18 Wi69 x)
                      have ak917 := tk_put e913 ak840 h_x (vq_of hv864) ⟨by omega, by omega⟩ (rfl : ar 28 Wi69 x = ar 28 Wi69 x)
                      have hce := fun j => (vi_up e913 (Or.inl (K_ne (show K (vq Wi69 x 15) = some (17 + 1, 60) by assumption) (show K (vq Wi69 x 28) = some (30 + 1, 60) by assumption) (by decide))) : vi V914 (vq Wi69 x 15) j = vi Wi69 (vq Wi69 x 15) j)
                      have hce2 := hce (i69).toNat
                      refine GO.aload_n dX12_flows_198 rfl rfl ?_
                      refine GO.getRaw h_x fl_RX12_41 (Eq.trans (uq_ne e913 (Or.inl (K_ne h_x h863 (by decide)))) hv869) dX12_flows_199 ?_
                      refine GO.iload dX12_flows_202 rfl ?_
                      refine GO.iload dX12_flows_204 rfl ?_
                      refine GO.iconst dX12_flows_206 ?_
                      refine GO.icmp_ne (tgt := 220) dX12_flows_207 (by decide) r873 (ir_c rfl) (fun c920 => ?_) (fun h => by exfalso; omega)
                      refine GO.iload dX12_flows_220 rfl ?_
                      refine GO.iast (t := 17) rfl rfl (by decide +kernel) h868 r_i69 (by omega) (by omega) r873 (by omega) (by omega) dX12_flows_222 (fun V922 e921 => ?_)
                      have ak923 := tk_put e921 ak915.1 h_x (vq_of (Eq.trans (uq_ne e913 (Or.inl (K_ne h_x h863 (by decide)))) hv869)) r873 ak915.2
                      have ak924 := tk_oth e921 ak916.1 h_x h868 (by decide) (by decide) ak916.2
                      have ak925 := tk_oth e921 ak917.1 h_x h868 (by decide) (by decide) ak917.2
                      refine GO.iinc (X := i69) (n := 1) (Y := i69 + 1) (ls1 := [some (.ref x), some (ti p0), some (ti z10), some (ti X38), some (ti X45), some (ti X48), some (ti (i69 + 1)), some (ti X872)]) dX12_flows_223 rfl rfl rfl rfl ?_
                      refine GO.goto (tgt := 111) dX12_flows_226 (by decide) ?_
                      refine GO.drop [true, true, true, true, true, true, true, false] rfl ?_
                      exact ih835 (i69 + 1) V922 ⟨by omega, by omega, (by first | exact FLI'.beg ak923.2 ak924.2 ak925.2 (fun _ => rfl) (fun _ => rfl) (by omega) | exact FLI'.skip hfl (by omega) hmp (Or.inl (by assumption)) ak923.2 ak924.2 ak925.2 (by omega) | exact FLI'.skip hfl (by omega) hmp (Or.inr (Or.inl (by assumption))) ak923.2 ak924.2 ak925.2 (by omega) | exact FLI'.skip hfl (by omega) hmp (Or.inr (Or.inr (by assumption))) ak923.2 ak924.2 ak925.2 (by omega) | exact FLI'.hit hfl (by omega) hmp hml (by omega) (by assumption) (by assumption) (by assumption) hmw (by omega) (by omega) ak923.2 ak924.2 ak925.2 rfl rfl (by omega)), trivial⟩ (by show (2147483647 - (i69 + 1)).toNat < (2147483647 - i69).toNat; omega)
                ·
                  refine GO.goto (tgt := 223) dX12_flows_152 (by decide) ?_
                  refine GO.iinc (X := i69) (n := 1) (Y := i69 + 1) (ls1 := [some (.ref x), some (ti p0), some (ti z10), some (ti X38), some (ti X45), some (ti X48), some (ti (i69 + 1)), none]) dX12_flows_223 rfl rfl rfl rfl ?_
                  refine GO.goto (tgt := 111) dX12_flows_226 (by decide) ?_
                  exact ih835 (i69 + 1) Wi69 ⟨by omega, by omega, (by first | exact FLI'.beg (rfl : ar 15 Wi69 x = ar 15 Wi69 x) (rfl : ar 18 Wi69 x = ar 18 Wi69 x) (rfl : ar 28 Wi69 x = ar 28 Wi69 x) (fun _ => rfl) (fun _ => rfl) (by omega) | exact FLI'.skip hfl (by omega) hmp (Or.inl (by assumption)) (rfl : ar 15 Wi69 x = ar 15 Wi69 x) (rfl : ar 18 Wi69 x = ar 18 Wi69 x) (rfl : ar 28 Wi69 x = ar 28 Wi69 x) (by omega) | exact FLI'.skip hfl (by omega) hmp (Or.inr (Or.inl (by assumption))) (rfl : ar 15 Wi69 x = ar 15 Wi69 x) (rfl : ar 18 Wi69 x = ar 18 Wi69 x) (rfl : ar 28 Wi69 x = ar 28 Wi69 x) (by omega) | exact FLI'.skip hfl (by omega) hmp (Or.inr (Or.inr (by assumption))) (rfl : ar 15 Wi69 x = ar 15 Wi69 x) (rfl : ar 18 Wi69 x = ar 18 Wi69 x) (rfl : ar 28 Wi69 x = ar 28 Wi69 x) (by omega)), trivial⟩ (by show (2147483647 - (i69 + 1)).toNat < (2147483647 - i69).toNat; omega)
        ·
          refine GO.aload_n dX12_flows_84 rfl rfl ?_
          refine GO.iload_n dX12_flows_85 rfl rfl ?_
          refine GO.callV (ci := 11) (N := mX12_loses) dX12_flows_86 (RX12, TX12, 151) rfl gV_RX12_685 h_x (t_X12_loses h_x r_p0 (by omega) (by omega)) rfl [] rfl rfl (Nat.le_of_ble_eq_true rfl) rfl (k_vs fun V928 h927 hF926 => ?_)
          have ak929 := tk_fr hF926 ak2 h_x (by decide +kernel) (by decide +kernel) (rfl : ar 15 V x = ar 15 V x)
          have ak930 := tk_fr hF926 ak3 h_x (by decide +kernel) (by decide +kernel) (rfl : ar 18 V x = ar 18 V x)
          refine GO.useWT (fun hW931 => ?_)
          have ak932 := hW931.arr h_x 28 30 (by decide) rfl (by decide)
          have raw_loses := h927.2
          have rw86 := h927.2
          refine GO.useFR (fun hFs => ?_)
          have hmq : MPS V V928 x := MPS.fr hFs ext.rf hW_0 h_x (by decide +kernel)
          exact GO.retv rfl rfl dX12_flows_89 ⟨rfl, rfl, ⟨trivial, (by first | exact FLO.no hc0 (by omega) (by omega) | exact FLO.out hc0 (by omega) ⟨by omega, by omega, by omega⟩ hmv (by omega) hmq rw86 ak929.2 ak930.2)⟩⟩
      ·
        exact GO.retv rfl rfl dX12_flows_46 ⟨rfl, rfl, ⟨trivial, (by first | exact FLO.no hc0 (by omega) (by omega))⟩⟩

set_option maxHeartbeats 1000000 in
theorem t_X12_day {K : Kmap} {V : Vmap} {x : Nat} (h_x : K x = some (0, 11)) (w_0 : GX V x) : MC mX12_day K V [.ref x] (IS K (fun X V1 => (((X = (-1) ∧ vi V1 x 2 = vi V x 2 ∧ vi V x 2 = 3599) ∨ (X = (vi V x 2 + 1) ∧ vi V1 x 2 = (vi V x 2 + 1) ∧ vi V x 2 < 3599))) ∧ (MDY V V1 x X))) := by
  refine MC.start 1 (by decide +kernel) rfl rfl rfl (ls0 := [some (.ref x), none]) rfl ?_
  refine GO.useWT (fun hW_0 => ?_)
  refine GO.useWT (fun hW_0 => ?_)
  refine GO.aload_n dX12_day_0 rfl rfl ?_
  refine GO.getI h_x fl_RX12_396 rfl rfl dX12_day_1 (fun l1 u2 => ?_)
  refine GO.sipush dX12_day_4 rfl ?_
  refine GO.icmp_ne (tgt := 12) dX12_day_7 (by decide) vi_ir (ir_c rfl) (fun c3 => ?_) (fun c3 => ?_)
  ·
    refine GO.aload_n dX12_day_12 rfl rfl ?_
    refine GO.aload_n dX12_day_13 rfl rfl ?_
    refine GO.getI h_x fl_RX12_396 rfl rfl dX12_day_14 (fun l4 u5 => ?_)
    refine GO.iconst dX12_day_17 ?_
    refine GO.iadd dX12_day_18 ?_
    refine GO.putI h_x fp_RX12_396 rfl (by decide +kernel) ⟨by omega, by omega⟩ (by omega) (by omega) dX12_day_19 (fun V7 e6 => ?_)
    have sm0 : MSM V V7 x := MSM.put h_x e6 hW_0 h_x (by decide +kernel) (by decide +kernel) (by decide +kernel) (by decide +kernel)
    refine GO.useWT (fun hWz => ?_)
    refine GO.aload_n dX12_day_22 rfl rfl ?_
    refine GO.useFR (fun hF8 => ?_)
    have hg9 := GX.fr hF8 w_0 hW_0 h_x (by decide +kernel)
    refine GO.callV (ci := 11) (N := mX12_worksGo) dX12_day_23 (RX12, TX12, 151) rfl gV_RX12_688 h_x (t_X12_worksGo h_x (hg9)) rfl [] rfl rfl (Nat.le_of_ble_eq_true rfl) rfl (k_vs fun V12 h11 hF10 => ?_)
    have sm1 := sm0.tr (MSM.fr hF10 ext.rf hWz h_x (by decide +kernel) (by decide +kernel) (by decide +kernel))
    refine GO.useWT (fun hWy2 => ?_)
    have hz10 := (hWy2.int h_x (j := 10) (Nat.le_of_ble_eq_true rfl) rfl).2
    refine GO.iconst dX12_day_26 ?_
    refine GO.istore_n (ls1 := [some (.ref x), some (ti 0)]) dX12_day_27 rfl rfl rfl ?_
    have e15 : vi V7 x 2 = (vi V x 2) + 1 := upd2_int e6 ⟨by omega, by omega⟩
    have e14 : vi V12 x 2 = vi V7 x 2 := vi_fr hF10 h_x h_x (by decide +kernel)
    have q18 : -2147483648 ≤ vi V12 x 10 ∧ vi V12 x 10 ≤ 2147483647 := vi_ir
    refine GO.loop1 (fun i13 W => 0 ≤ i13 ∧ i13 ≤ 60 ∧ (vi W x 2 = vi V12 x 2 ∧ i13 ≤ vi W x 10) ∧ (MDI V W x i13) ∧ True) (fun i13 => [some (.ref x), some (ti i13)]) (fun i13 W => (2147483647 - i13).toNat) 0 ⟨by omega, by omega, by omega, (by first | exact MDI.beg sm1), trivial⟩ rfl (fun i13 Wi13 hp7562 ih7561 => ?_)
    obtain ⟨l_i13, u_i13, n_i13, hmd, -⟩ := hp7562
    have r_i13 : ir i13 := ⟨by omega, by omega⟩
    show GO mX12_day K V (IS K (fun X V1 => (((X = (-1) ∧ vi V1 x 2 = vi V x 2 ∧ vi V x 2 = 3599) ∨ (X = (vi V x 2 + 1) ∧ vi V1 x 2 = (vi V x 2 + 1) ∧ vi V x 2 < 3599))) ∧ (MDY V V1 x X))) K Wi13 0 0 28 [some (.ref x), some (ti i13)] []
    refine GO.useWT (fun hWl2 => ?_)
    refine GO.iload_n dX12_day_28 rfl rfl ?_
    refine GO.aload_n dX12_day_29 rfl rfl ?_
    refine GO.getI h_x fl_RX12_375 rfl rfl dX12_day_30 (fun l7563 u7564 => ?_)
    refine GO.icmp_ge (tgt := 63) dX12_day_33 (by decide) r_i13 vi_ir (fun c7565 => ?_) (fun c7565 => ?_)
    ·
      refine GO.iconst dX12_day_63 ?_
      refine GO.istore_n (ls1 := [some (.ref x), some (ti 0)]) dX12_day_64 rfl rfl rfl ?_
      have q7567 : -2147483648 ≤ vi Wi13 x 2 ∧ vi Wi13 x 2 ≤ 2147483647 := vi_ir
      refine GO.loop1 (fun i7566 W => 0 ≤ i7566 ∧ i7566 ≤ 10 ∧ (vi W x 2 = vi Wi13 x 2) ∧ (MDI V W x (vi V x 10)) ∧ True) (fun i7566 => [some (.ref x), some (ti i7566)]) (fun i7566 W => (2147483647 - i7566).toNat) 0 ⟨by omega, by omega, by omega, (by first | exact MDI.at hmd (by omega) (by omega)), trivial⟩ rfl (fun i7566 Wi7566 hp8283 ih8282 => ?_)
      obtain ⟨l_i7566, u_i7566, n_i7566, hme, -⟩ := hp8283
      have r_i7566 : ir i7566 := ⟨by omega, by omega⟩
      show GO mX12_day K V (IS K (fun X V1 => (((X = (-1) ∧ vi V1 x 2 = vi V x 2 ∧ vi V x 2 = 3599) ∨ (X = (vi V x 2 + 1) ∧ vi V1 x 2 = (vi V x 2 + 1) ∧ vi V x 2 < 3599))) ∧ (MDY V V1 x X))) K Wi7566 0 0 65 [some (.ref x), some (ti i7566)] []
      refine GO.useWT (fun hWl3 => ?_)
      refine GO.iload_n dX12_day_65 rfl rfl ?_
      refine GO.aload_n dX12_day_66 rfl rfl ?_
      refine GO.getI h_x fl_RX12_612 rfl rfl dX12_day_67 (fun l8284 u8285 => ?_)
      refine GO.icmp_ge (tgt := 84) dX12_day_70 (by decide) r_i7566 vi_ir (fun c8286 => ?_) (fun c8286 => ?_)
      ·
        refine GO.iconst dX12_day_84 ?_
        refine GO.istore_n (ls1 := [some (.ref x), some (ti 0)]) dX12_day_85 rfl rfl rfl ?_
        have q8288 : -2147483648 ≤ vi Wi7566 x 2 ∧ vi Wi7566 x 2 ≤ 2147483647 := vi_ir
        refine GO.loop1 (fun i8287 W => 0 ≤ i8287 ∧ i8287 ≤ 40 ∧ (vi W x 2 = vi Wi7566 x 2) ∧ (MDI V W x (vi V x 10)) ∧ True) (fun i8287 => [some (.ref x), some (ti i8287)]) (fun i8287 W => (2147483647 - i8287).toNat) 0 ⟨by omega, by omega, by omega, (by first | exact MDI.at hmd (by omega) (by omega) | exact hme | exact MDI.fr hme (by assumption) hWl3 h_x (by decide +kernel) (by decide +kernel) (by decide +kernel)), trivial⟩ rfl (fun i8287 Wi8287 hp8371 ih8370 => ?_)
        obtain ⟨l_i8287, u_i8287, n_i8287, hme, -⟩ := hp8371
        have r_i8287 : ir i8287 := ⟨by omega, by omega⟩
        show GO mX12_day K V (IS K (fun X V1 => (((X = (-1) ∧ vi V1 x 2 = vi V x 2 ∧ vi V x 2 = 3599) ∨ (X = (vi V x 2 + 1) ∧ vi V1 x 2 = (vi V x 2 + 1) ∧ vi V x 2 < 3599))) ∧ (MDY V V1 x X))) K Wi8287 0 0 86 [some (.ref x), some (ti i8287)] []
        refine GO.useWT (fun hWl4 => ?_)
        refine GO.iload_n dX12_day_86 rfl rfl ?_
        refine GO.aload_n dX12_day_87 rfl rfl ?_
        refine GO.getI h_x fl_RX12_648 rfl rfl dX12_day_88 (fun l8372 u8373 => ?_)
        refine GO.icmp_ge (tgt := 105) dX12_day_91 (by decide) r_i8287 vi_ir (fun c8374 => ?_) (fun c8374 => ?_)
        ·
          refine GO.aload_n dX12_day_105 rfl rfl ?_
          refine GO.getI h_x fl_RX12_396 rfl rfl dX12_day_106 (fun l8375 u8376 => ?_)
          have q8377 : -2147483648 ≤ vi Wi8287 x 2 ∧ vi Wi8287 x 2 ≤ 2147483647 := vi_ir
          exact GO.reti rfl rfl dX12_day_109 ⟨rfl, _, rfl, vi_ir, ⟨(by first | exact trivial | omega), (by first | exact Or.inl ⟨rfl, rfl⟩ | exact Or.inr ⟨by omega, hme⟩)⟩⟩
        ·
          refine GO.aload_n dX12_day_94 rfl rfl ?_
          refine GO.iload_n dX12_day_95 rfl rfl ?_
          refine GO.callV (ci := 11) (N := mX12_sledgeGoes) dX12_day_96 (RX12, TX12, 151) rfl gV_RX12_700 h_x (t_X12_sledgeGoes h_x r_i8287 (by omega) (by omega)) rfl [] rfl rfl (Nat.le_of_ble_eq_true rfl) rfl (k_vs fun V8380 h8379 hF8378 => ?_)
          refine GO.iinc (X := i8287) (n := 1) (Y := i8287 + 1) (ls1 := [some (.ref x), some (ti (i8287 + 1))]) dX12_day_99 rfl rfl rfl rfl ?_
          refine GO.goto (tgt := 86) dX12_day_102 (by decide) ?_
          have e8381 : vi V8380 x 2 = vi Wi8287 x 2 := vi_fr hF8378 h_x h_x (by decide +kernel)
          have q8382 : -2147483648 ≤ vi Wi8287 x 2 ∧ vi Wi8287 x 2 ≤ 2147483647 := vi_ir
          exact ih8370 (i8287 + 1) V8380 ⟨by omega, by omega, by omega, (by first | exact MDI.at hmd (by omega) (by omega) | exact hme | exact MDI.fr hme (by assumption) hWl3 h_x (by decide +kernel) (by decide +kernel) (by decide +kernel) | exact MDI.fr hme hF8378 hWl4 h_x (by decide +kernel) (by decide +kernel) (by decide +kernel)), trivial⟩ (by show (2147483647 - (i8287 + 1)).toNat < (2147483647 - i8287).toNat; omega)
      ·
        refine GO.aload_n dX12_day_73 rfl rfl ?_
        refine GO.iload_n dX12_day_74 rfl rfl ?_
        refine GO.callV (ci := 11) (N := mX12_shipGoes) dX12_day_75 (RX12, TX12, 151) rfl gV_RX12_697 h_x (t_X12_shipGoes h_x r_i7566 (by omega) (by omega)) rfl [] rfl rfl (Nat.le_of_ble_eq_true rfl) rfl (k_vs fun V8385 h8384 hF8383 => ?_)
        refine GO.iinc (X := i7566) (n := 1) (Y := i7566 + 1) (ls1 := [some (.ref x), some (ti (i7566 + 1))]) dX12_day_78 rfl rfl rfl rfl ?_
        refine GO.goto (tgt := 65) dX12_day_81 (by decide) ?_
        have e8386 : vi V8385 x 2 = vi Wi7566 x 2 := vi_fr hF8383 h_x h_x (by decide +kernel)
        have q8387 : -2147483648 ≤ vi Wi7566 x 2 ∧ vi Wi7566 x 2 ≤ 2147483647 := vi_ir
        exact ih8282 (i7566 + 1) V8385 ⟨by omega, by omega, by omega, (by first | exact MDI.at hmd (by omega) (by omega) | exact hme | exact MDI.fr hme hF8383 hWl3 h_x (by decide +kernel) (by decide +kernel) (by decide +kernel)), trivial⟩ (by show (2147483647 - (i7566 + 1)).toNat < (2147483647 - i7566).toNat; omega)
    ·
      refine GO.aload_n dX12_day_36 rfl rfl ?_
      refine GO.iload_n dX12_day_37 rfl rfl ?_
      refine GO.callV (ci := 11) (N := mX12_stands) dX12_day_38 (RX12, TX12, 151) rfl gV_RX12_433 h_x (t_X12_stands h_x r_i13) rfl [] rfl rfl (Nat.le_of_ble_eq_true rfl) rfl (k_ip fun X8388 r8389 h8390 => ?_)
      have raw_stands := h8390.2.2.2
      have rw38 := h8390.2.2.2
      refine GO.if_ne (tgt := 47) dX12_day_41 (by decide) r8389 (fun c8391 => ?_) (fun c8391 => ?_)
      ·
        have q8392 := h8390.2.1 (by omega)
        refine GO.aload_n dX12_day_47 rfl rfl ?_
        refine GO.iload_n dX12_day_48 rfl rfl ?_
        have q8393 : -2147483648 ≤ vi Wi13 x 10 ∧ vi Wi13 x 10 ≤ 2147483647 := vi_ir
        refine GO.callV (ci := 11) (N := mX12_burns) dX12_day_49 (RX12, TX12, 151) rfl gV_RX12_691 h_x (t_X12_burns h_x r_i13 (by omega) (by omega)) rfl [] rfl rfl (Nat.le_of_ble_eq_true rfl) rfl (k_vs fun V8396 h8395 hF8394 => ?_)
        have e8397 : vi V8396 x 2 = vi Wi13 x 2 := vi_fr hF8394 h_x h_x (by decide +kernel)
        refine GO.useWT (fun hWb => ?_)
        have smb := MSM.fr hF8394 ext.rf hWl2 h_x (by decide +kernel) (by decide +kernel) (by decide +kernel)
        refine GO.aload_n dX12_day_52 rfl rfl ?_
        refine GO.iload_n dX12_day_53 rfl rfl ?_
        refine GO.callV (ci := 11) (N := mX12_flows) dX12_day_54 (RX12, TX12, 151) rfl gV_RX12_694 h_x (t_X12_flows h_x r_i13 (by omega) (by omega)) rfl [] rfl rfl (Nat.le_of_ble_eq_true rfl) rfl (k_vs fun V8400 h8399 hF8398 => ?_)
        have raw_flows := h8399.2
        have rw54 := h8399.2
        refine GO.iinc (X := i13) (n := 1) (Y := i13 + 1) (ls1 := [some (.ref x), some (ti (i13 + 1))]) dX12_day_57 rfl rfl rfl rfl ?_
        refine GO.goto (tgt := 28) dX12_day_60 (by decide) ?_
        have e8401 : vi V8400 x 2 = vi V8396 x 2 := vi_fr hF8398 h_x h_x (by decide +kernel)
        have q8402 : -2147483648 ≤ vi Wi13 x 2 ∧ vi Wi13 x 2 ≤ 2147483647 := vi_ir
        have e8404 : vi V8396 x 10 = vi Wi13 x 10 := vi_fr hF8394 h_x h_x (by decide +kernel)
        have e8403 : vi V8400 x 10 = vi V8396 x 10 := vi_fr hF8398 h_x h_x (by decide +kernel)
        exact ih7561 (i13 + 1) V8400 ⟨by omega, by omega, by omega, (by first | exact MDI.beg sm1 | exact MDI.skip hmd rw38 (by omega) (by omega) (by omega) (by omega) | exact MDI.step hmd rw38 (by omega) (by omega) smb (by omega) rw54 hF8398 hWb h_x (by decide +kernel) (by decide +kernel) (by omega)), trivial⟩ (by show (2147483647 - (i13 + 1)).toNat < (2147483647 - i13).toNat; omega)
      ·
        refine GO.goto (tgt := 57) dX12_day_44 (by decide) ?_
        refine GO.iinc (X := i13) (n := 1) (Y := i13 + 1) (ls1 := [some (.ref x), some (ti (i13 + 1))]) dX12_day_57 rfl rfl rfl rfl ?_
        refine GO.goto (tgt := 28) dX12_day_60 (by decide) ?_
        have q8405 : -2147483648 ≤ vi Wi13 x 10 ∧ vi Wi13 x 10 ≤ 2147483647 := vi_ir
        have q8406 : -2147483648 ≤ vi Wi13 x 2 ∧ vi Wi13 x 2 ≤ 2147483647 := vi_ir
        exact ih7561 (i13 + 1) Wi13 ⟨by omega, by omega, by omega, (by first | exact MDI.beg sm1 | exact MDI.skip hmd rw38 (by omega) (by omega) (by omega) (by omega)), trivial⟩ (by show (2147483647 - (i13 + 1)).toNat < (2147483647 - i13).toNat; omega)
  ·
    refine GO.iconst dX12_day_10 ?_
    exact GO.reti rfl rfl dX12_day_11 ⟨rfl, _, rfl, (ir_c rfl), ⟨(by first | exact trivial | omega), (by first | exact Or.inl ⟨rfl, rfl⟩)⟩⟩

set_option maxHeartbeats 1000000 in
theorem t_X12_sound {K : Kmap} {V : Vmap} {x : Nat} {p0 : Int} {p1 : Int} {p2 : Int} (h_x : K x = some (0, 11)) (r_p0 : ir p0) (r_p1 : ir p1) (r_p2 : ir p2) : MC mX12_sound K V [.ref x, ti p0, ti p1, ti p2] (IS K (fun X V1 => (X = 0 ∨ X = 1) ∧ (X ≠ 0 → True) ∧ (X = 0 → True))) := by
  refine MC.start 0 (by decide +kernel) rfl rfl rfl (ls0 := [some (.ref x), some (ti p0), some (ti p1), some (ti p2)]) rfl ?_
  refine GO.aload_n dX12_sound_0 rfl rfl ?_
  refine GO.iload_n dX12_sound_1 rfl rfl ?_
  refine GO.iconst dX12_sound_2 ?_
  refine GO.callV (ci := 11) (N := mX12_isPlace) dX12_sound_3 (RX12, TX12, 151) rfl gV_RX12_399 h_x (t_X12_isPlace h_x r_p0 (ir_c rfl)) rfl [] rfl rfl (Nat.le_of_ble_eq_true rfl) rfl (k_ip fun X1 r2 h3 => ?_)
  have raw_isPlace := h3.2.2.2.1
  have rq0_3 := h3.2.2.2.2
  have rw3 := h3.2.2.2.1
  refine GO.if_eq (tgt := 42) dX12_sound_6 (by decide) r2 (fun c4 => ?_) (fun c4 => ?_)
  ·
    refine GO.iconst dX12_sound_42 ?_
    exact GO.retz rfl rfl dX12_sound_43 (Or.inl rfl) ⟨rfl, _, rfl, (ir_c rfl), ⟨Or.inl rfl, fun _ => trivial, fun _ => trivial⟩⟩
  ·
    have q5 := h3.2.1 (by omega)
    refine GO.iload_n dX12_sound_9 rfl rfl ?_
    refine GO.iconst dX12_sound_10 ?_
    refine GO.sipush dX12_sound_11 rfl ?_
    refine GO.callS (N := mX12_in) dX12_sound_14 gS_RX12_371 (t_X12_in r_p1 (ir_c rfl) (ir_c rfl)) rfl [] rfl rfl (Nat.le_of_ble_eq_true rfl) rfl (k_ip fun X6 r7 h8 => ?_)
    have raw_in := h8.2.2.2
    have rw14 := h8.2.2.2
    refine GO.if_eq (tgt := 42) dX12_sound_17 (by decide) r7 (fun c9 => ?_) (fun c9 => ?_)
    ·
      have q10 := h8.2.2.1 (by omega)
      refine GO.iconst dX12_sound_42 ?_
      exact GO.retz rfl rfl dX12_sound_43 (Or.inl rfl) ⟨rfl, _, rfl, (ir_c rfl), ⟨Or.inl rfl, fun _ => trivial, fun _ => trivial⟩⟩
    ·
      have q11 := h8.2.1 (by omega)
      refine GO.iload_n dX12_sound_20 rfl rfl ?_
      refine GO.iconst dX12_sound_21 ?_
      refine GO.sipush dX12_sound_22 rfl ?_
      refine GO.callS (N := mX12_in) dX12_sound_25 gS_RX12_371 (t_X12_in r_p2 (ir_c rfl) (ir_c rfl)) rfl [] rfl rfl (Nat.le_of_ble_eq_true rfl) rfl (k_ip fun X12 r13 h14 => ?_)
      have raw_in := h14.2.2.2
      have rw25 := h14.2.2.2
      refine GO.if_eq (tgt := 42) dX12_sound_28 (by decide) r13 (fun c15 => ?_) (fun c15 => ?_)
      ·
        have q16 := h14.2.2.1 (by omega)
        refine GO.iconst dX12_sound_42 ?_
        exact GO.retz rfl rfl dX12_sound_43 (Or.inl rfl) ⟨rfl, _, rfl, (ir_c rfl), ⟨Or.inl rfl, fun _ => trivial, fun _ => trivial⟩⟩
      ·
        have q17 := h14.2.1 (by omega)
        refine GO.aload_n dX12_sound_31 rfl rfl ?_
        refine GO.getA (n := 60) h_x fl_RX12_283 rfl rfl rfl rfl dX12_sound_32 (fun hv19 h18 => ?_)
        refine GO.iload_n dX12_sound_35 rfl rfl ?_
        have q20 : -2147483648 ≤ p0 ∧ p0 ≤ 2147483647 := r_p0
        refine GO.iald (t := 96) rfl rfl h18 r_p0 (by omega) (by omega) dX12_sound_36 (fun l21 u22 => ?_)
        refine GO.bipush dX12_sound_37 rfl ?_
        refine GO.icmp_ne (tgt := 44) dX12_sound_39 (by decide) vi_ir (ir_c rfl) (fun c23 => ?_) (fun c23 => ?_)
        ·
          refine GO.aload_n dX12_sound_44 rfl rfl ?_
          refine GO.getA (n := 480) h_x fl_RX12_286 rfl rfl rfl rfl dX12_sound_45 (fun hv25 h24 => ?_)
          refine GO.bipush dX12_sound_48 rfl ?_
          refine GO.iload_n dX12_sound_50 rfl rfl ?_
          refine GO.imul dX12_sound_51 ?_
          refine GO.aload_n dX12_sound_52 rfl rfl ?_
          refine GO.getRaw h_x fl_RX12_283 hv19 dX12_sound_53 ?_
          refine GO.iload_n dX12_sound_56 rfl rfl ?_
          refine GO.iald (t := 96) rfl rfl h18 r_p0 (by omega) (by omega) dX12_sound_57 (fun l28 u29 => ?_)
          refine GO.iadd dX12_sound_58 ?_
          refine GO.iload_n dX12_sound_59 rfl rfl ?_
          refine GO.iast (t := 97) rfl rfl (by decide +kernel) h24 ⟨by omega, by omega⟩ (by omega) (by omega) r_p1 (r_p1).1 (r_p1).2 dX12_sound_60 (fun V31 e30 => ?_)
          refine GO.aload_n dX12_sound_61 rfl rfl ?_
          refine GO.getA (n := 480) h_x fl_RX12_289 rfl rfl rfl rfl dX12_sound_62 (fun hv33 h32 => ?_)
          refine GO.bipush dX12_sound_65 rfl ?_
          refine GO.iload_n dX12_sound_67 rfl rfl ?_
          refine GO.imul dX12_sound_68 ?_
          refine GO.aload_n dX12_sound_69 rfl rfl ?_
          refine GO.getRaw h_x fl_RX12_283 (Eq.trans (uq_ne e30 (Or.inl (K_ne h_x h24 (by decide)))) hv19) dX12_sound_70 ?_
          refine GO.iload_n dX12_sound_73 rfl rfl ?_
          refine GO.iald (t := 96) rfl rfl h18 r_p0 (by omega) (by omega) dX12_sound_74 (fun l36 u37 => ?_)
          have e38 : vi V31 (vq V x 121) (p0).toNat = vi V (vq V x 121) (p0).toNat := vi_up e30 (Or.inl (K_ne h18 h24 (by decide)))
          refine GO.iadd dX12_sound_75 ?_
          refine GO.iload_n dX12_sound_76 rfl rfl ?_
          refine GO.iast (t := 98) rfl rfl (by decide +kernel) h32 ⟨by omega, by omega⟩ (by omega) (by omega) r_p2 (r_p2).1 (r_p2).2 dX12_sound_77 (fun V40 e39 => ?_)
          refine GO.aload_n dX12_sound_78 rfl rfl ?_
          refine GO.getRaw h_x fl_RX12_283 (Eq.trans (uq_ne e39 (Or.inl (K_ne h_x h32 (by decide)))) (Eq.trans (uq_ne e30 (Or.inl (K_ne h_x h24 (by decide)))) hv19)) dX12_sound_79 ?_
          refine GO.iload_n dX12_sound_82 rfl rfl ?_
          refine GO.aload_n dX12_sound_83 rfl rfl ?_
          refine GO.getRaw h_x fl_RX12_283 (Eq.trans (uq_ne e39 (Or.inl (K_ne h_x h32 (by decide)))) (Eq.trans (uq_ne e30 (Or.inl (K_ne h_x h24 (by decide)))) hv19)) dX12_sound_84 ?_
          refine GO.iload_n dX12_sound_87 rfl rfl ?_
          refine GO.iald (t := 96) rfl rfl h18 r_p0 (by omega) (by omega) dX12_sound_88 (fun l45 u46 => ?_)
          have e47 : vi V40 (vq V x 121) (p0).toNat = vi V31 (vq V x 121) (p0).toNat := vi_up e39 (Or.inl (K_ne h18 h32 (by decide)))
          refine GO.iconst dX12_sound_89 ?_
          refine GO.iadd dX12_sound_90 ?_
          refine GO.iast (t := 96) rfl rfl (by decide +kernel) h18 r_p0 (by omega) (by omega) ⟨by omega, by omega⟩ (by omega) (by omega) dX12_sound_91 (fun V49 e48 => ?_)
          refine GO.iconst dX12_sound_92 ?_
          exact GO.retz rfl rfl dX12_sound_93 (Or.inr rfl) ⟨rfl, _, rfl, (ir_c rfl), ⟨Or.inr rfl, fun _ => trivial, fun _ => trivial⟩⟩
        ·
          refine GO.iconst dX12_sound_42 ?_
          exact GO.retz rfl rfl dX12_sound_43 (Or.inl rfl) ⟨rfl, _, rfl, (ir_c rfl), ⟨Or.inl rfl, fun _ => trivial, fun _ => trivial⟩⟩

set_option maxHeartbeats 1000000 in
theorem t_X12_sure {K : Kmap} {V : Vmap} {x : Nat} {p0 : Int} (h_x : K x = some (0, 11)) (r_p0 : ir p0) : MC mX12_sure K V [.ref x, ti p0] (IP K V (fun X => True)) := by
  refine MC.start 0 (by decide +kernel) rfl rfl rfl (ls0 := [some (.ref x), some (ti p0)]) rfl ?_
  refine GO.aload_n dX12_sure_0 rfl rfl ?_
  refine GO.iload_n dX12_sure_1 rfl rfl ?_
  refine GO.iconst dX12_sure_2 ?_
  refine GO.callV (ci := 11) (N := mX12_isPlace) dX12_sure_3 (RX12, TX12, 151) rfl gV_RX12_399 h_x (t_X12_isPlace h_x r_p0 (ir_c rfl)) rfl [] rfl rfl (Nat.le_of_ble_eq_true rfl) rfl (k_ip fun X1 r2 h3 => ?_)
  have raw_isPlace := h3.2.2.2.1
  have rq0_3 := h3.2.2.2.2
  have rw3 := h3.2.2.2.1
  refine GO.if_eq (tgt := 17) dX12_sure_6 (by decide) r2 (fun c4 => ?_) (fun c4 => ?_)
  ·
    refine GO.iconst dX12_sure_17 ?_
    exact GO.reti rfl rfl dX12_sure_18 ⟨rfl, rfl, _, rfl, (ir_c rfl), trivial⟩
  ·
    have q5 := h3.2.1 (by omega)
    refine GO.aload_n dX12_sure_9 rfl rfl ?_
    refine GO.iload_n dX12_sure_10 rfl rfl ?_
    have q6 : -2147483648 ≤ p0 ∧ p0 ≤ 2147483647 := r_p0
    refine GO.callV (ci := 11) (N := mX12_sureOf) dX12_sure_11 (RX12, TX12, 151) rfl gV_RX12_703 h_x (t_X12_sureOf h_x r_p0 (by omega) (by omega)) rfl [] rfl rfl (Nat.le_of_ble_eq_true rfl) rfl (k_ip fun X7 r8 h9 => ?_)
    refine GO.goto (tgt := 18) dX12_sure_14 (by decide) ?_
    have q10 : -2147483648 ≤ X7 ∧ X7 ≤ 2147483647 := r8
    exact GO.reti rfl rfl dX12_sure_18 ⟨rfl, rfl, _, rfl, r8, trivial⟩

set_option maxHeartbeats 1000000 in
theorem t_X12_drill {K : Kmap} {V : Vmap} {x : Nat} {p0 : Int} {p1 : Int} (h_x : K x = some (0, 11)) (r_p0 : ir p0) (r_p1 : ir p1) : MC mX12_drill K V [.ref x, ti p0, ti p1] (IS K (fun X V1 => (True) ∧ (MDR V V1 x p0 p1 X))) := by
  refine MC.start 0 (by decide +kernel) rfl rfl rfl (ls0 := [some (.ref x), some (ti p0), some (ti p1)]) rfl ?_
  refine GO.aload_n dX12_drill_0 rfl rfl ?_
  refine GO.iload_n dX12_drill_1 rfl rfl ?_
  refine GO.iconst dX12_drill_2 ?_
  refine GO.callV (ci := 11) (N := mX12_isPlace) dX12_drill_3 (RX12, TX12, 151) rfl gV_RX12_399 h_x (t_X12_isPlace h_x r_p0 (ir_c rfl)) rfl [] rfl rfl (Nat.le_of_ble_eq_true rfl) rfl (k_ip fun X1 r2 h3 => ?_)
  have raw_isPlace := h3.2.2.2.1
  have rq0_3 := h3.2.2.2.2
  have rw3 := h3.2.2.2.1
  refine GO.if_eq (tgt := 51) dX12_drill_6 (by decide) r2 (fun c4 => ?_) (fun c4 => ?_)
  ·
    refine GO.iconst dX12_drill_51 ?_
    exact GO.reti rfl rfl dX12_drill_52 ⟨rfl, _, rfl, (ir_c rfl), ⟨(by first | exact trivial | omega), (by first | exact MDR.no (fun g => by have h0 := rq0_3.mpr g.1.1; have h1 := g.1.2.1; have h2 := g.1.2.2.1; have h3 : vi V (vq V x 67) (p1).toNat = 2 := g.1.2.2.2.1; have h4 : vi V (vq V x 69) (p1).toNat = vi V (vq V x 15) (p0).toNat := g.1.2.2.2.2; have h5 := g.2; omega) rfl | exact MDR.ok ⟨rq0_3.mp (by omega), by omega, by omega, (by show vi V (vq V x 67) (p1).toNat = 2; omega), (by show vi V (vq V x 69) (p1).toNat = vi V (vq V x 15) (p0).toNat; omega)⟩ (by omega) (by omega) (by omega))⟩⟩
  ·
    have q5 := h3.2.1 (by omega)
    refine GO.aload_n dX12_drill_9 rfl rfl ?_
    refine GO.iload_n dX12_drill_10 rfl rfl ?_
    refine GO.callV (ci := 11) (N := mX12_isWork) dX12_drill_11 (RX12, TX12, 151) rfl gV_RX12_566 h_x (t_X12_isWork h_x r_p1) rfl [] rfl rfl (Nat.le_of_ble_eq_true rfl) rfl (k_ip fun X6 r7 h8 => ?_)
    refine GO.if_eq (tgt := 51) dX12_drill_14 (by decide) r7 (fun c9 => ?_) (fun c9 => ?_)
    ·
      have q10 := h8.2.2 (by omega)
      refine GO.iconst dX12_drill_51 ?_
      exact GO.reti rfl rfl dX12_drill_52 ⟨rfl, _, rfl, (ir_c rfl), ⟨(by first | exact trivial | omega), (by first | exact MDR.no (fun g => by have h0 := rq0_3.mpr g.1.1; have h1 := g.1.2.1; have h2 := g.1.2.2.1; have h3 : vi V (vq V x 67) (p1).toNat = 2 := g.1.2.2.2.1; have h4 : vi V (vq V x 69) (p1).toNat = vi V (vq V x 15) (p0).toNat := g.1.2.2.2.2; have h5 := g.2; omega) rfl | exact MDR.ok ⟨rq0_3.mp (by omega), by omega, by omega, (by show vi V (vq V x 67) (p1).toNat = 2; omega), (by show vi V (vq V x 69) (p1).toNat = vi V (vq V x 15) (p0).toNat; omega)⟩ (by omega) (by omega) (by omega))⟩⟩
    ·
      have q11 := h8.2.1 (by omega)
      refine GO.aload_n dX12_drill_17 rfl rfl ?_
      refine GO.getA (n := 100) h_x fl_RX12_163 rfl rfl rfl rfl dX12_drill_18 (fun hv13 h12 => ?_)
      refine GO.iload_n dX12_drill_21 rfl rfl ?_
      have q14 : -2147483648 ≤ p1 ∧ p1 ≤ 2147483647 := r_p1
      have q15 : -2147483648 ≤ vi V x 66 ∧ vi V x 66 ≤ 2147483647 := vi_ir
      refine GO.iald (t := 57) rfl rfl h12 r_p1 (by omega) (by omega) dX12_drill_22 (fun _ _ => ?_)
      refine GO.iconst dX12_drill_23 ?_
      refine GO.icmp_ne (tgt := 51) dX12_drill_24 (by decide) vi_ir (ir_c rfl) (fun c16 => ?_) (fun c16 => ?_)
      ·
        refine GO.iconst dX12_drill_51 ?_
        exact GO.reti rfl rfl dX12_drill_52 ⟨rfl, _, rfl, (ir_c rfl), ⟨(by first | exact trivial | omega), (by first | exact MDR.no (fun g => by have h0 := rq0_3.mpr g.1.1; have h1 := g.1.2.1; have h2 := g.1.2.2.1; have h3 : vi V (vq V x 67) (p1).toNat = 2 := g.1.2.2.2.1; have h4 : vi V (vq V x 69) (p1).toNat = vi V (vq V x 15) (p0).toNat := g.1.2.2.2.2; have h5 := g.2; omega) rfl | exact MDR.ok ⟨rq0_3.mp (by omega), by omega, by omega, (by show vi V (vq V x 67) (p1).toNat = 2; omega), (by show vi V (vq V x 69) (p1).toNat = vi V (vq V x 15) (p0).toNat; omega)⟩ (by omega) (by omega) (by omega))⟩⟩
      ·
        refine GO.aload_n dX12_drill_27 rfl rfl ?_
        refine GO.getA (n := 100) h_x fl_RX12_169 rfl rfl rfl rfl dX12_drill_28 (fun hv18 h17 => ?_)
        refine GO.iload_n dX12_drill_31 rfl rfl ?_
        refine GO.iald (t := 59) rfl rfl h17 r_p1 (by omega) (by omega) dX12_drill_32 (fun l19 u20 => ?_)
        refine GO.aload_n dX12_drill_33 rfl rfl ?_
        refine GO.getA (n := 60) h_x fl_RX12_41 rfl rfl rfl rfl dX12_drill_34 (fun hv22 h21 => ?_)
        refine GO.iload_n dX12_drill_37 rfl rfl ?_
        have q23 : -2147483648 ≤ p0 ∧ p0 ≤ 2147483647 := r_p0
        refine GO.iald (t := 17) rfl rfl h21 r_p0 (by omega) (by omega) dX12_drill_38 (fun l24 u25 => ?_)
        refine GO.icmp_ne (tgt := 51) dX12_drill_39 (by decide) vi_ir vi_ir (fun c26 => ?_) (fun c26 => ?_)
        ·
          refine GO.iconst dX12_drill_51 ?_
          exact GO.reti rfl rfl dX12_drill_52 ⟨rfl, _, rfl, (ir_c rfl), ⟨(by first | exact trivial | omega), (by first | exact MDR.no (fun g => by have h0 := rq0_3.mpr g.1.1; have h1 := g.1.2.1; have h2 := g.1.2.2.1; have h3 : vi V (vq V x 67) (p1).toNat = 2 := g.1.2.2.2.1; have h4 : vi V (vq V x 69) (p1).toNat = vi V (vq V x 15) (p0).toNat := g.1.2.2.2.2; have h5 := g.2; omega) rfl | exact MDR.ok ⟨rq0_3.mp (by omega), by omega, by omega, (by show vi V (vq V x 67) (p1).toNat = 2; omega), (by show vi V (vq V x 69) (p1).toNat = vi V (vq V x 15) (p0).toNat; omega)⟩ (by omega) (by omega) (by omega))⟩⟩
        ·
          refine GO.aload_n dX12_drill_42 rfl rfl ?_
          refine GO.getI h_x fl_RX12_667 rfl rfl dX12_drill_43 (fun l27 u28 => ?_)
          refine GO.bipush dX12_drill_46 rfl ?_
          refine GO.icmp_ne (tgt := 53) dX12_drill_48 (by decide) vi_ir (ir_c rfl) (fun c29 => ?_) (fun c29 => ?_)
          ·
            refine GO.aload_n dX12_drill_53 rfl rfl ?_
            refine GO.getA (n := 10) h_x fl_RX12_292 rfl rfl rfl rfl dX12_drill_54 (fun hv31 h30 => ?_)
            refine GO.aload_n dX12_drill_57 rfl rfl ?_
            refine GO.getI h_x fl_RX12_667 rfl rfl dX12_drill_58 (fun l32 u33 => ?_)
            refine GO.iload_n dX12_drill_61 rfl rfl ?_
            have q34 : -2147483648 ≤ vi V x 118 ∧ vi V x 118 ≤ 2147483647 := vi_ir
            refine GO.iast (t := 99) rfl rfl (by decide +kernel) h30 vi_ir (by omega) (by omega) r_p0 (by omega) (by omega) dX12_drill_62 (fun V36 e35 => ?_)
            refine GO.aload_n dX12_drill_63 rfl rfl ?_
            refine GO.getA (n := 10) h_x fl_RX12_295 rfl rfl rfl rfl dX12_drill_64 (fun hv38 h37 => ?_)
            refine GO.aload_n dX12_drill_67 rfl rfl ?_
            refine GO.getI h_x fl_RX12_667 rfl rfl dX12_drill_68 (fun l39 u40 => ?_)
            have e41 : vi V36 x 118 = vi V x 118 := vi_up e35 (Or.inl (K_ne h_x h30 (by decide)))
            refine GO.iload_n dX12_drill_71 rfl rfl ?_
            refine GO.iast (t := 100) rfl rfl (by decide +kernel) h37 vi_ir (by omega) (by omega) r_p1 (r_p1).1 (r_p1).2 dX12_drill_72 (fun V43 e42 => ?_)
            refine GO.aload_n dX12_drill_73 rfl rfl ?_
            refine GO.aload_n dX12_drill_74 rfl rfl ?_
            refine GO.getI h_x fl_RX12_667 rfl rfl dX12_drill_75 (fun l44 u45 => ?_)
            have e46 : vi V43 x 118 = vi V36 x 118 := vi_up e42 (Or.inl (K_ne h_x h37 (by decide)))
            refine GO.iconst dX12_drill_78 ?_
            refine GO.iadd dX12_drill_79 ?_
            refine GO.putI h_x fp_RX12_667 rfl (by decide +kernel) ⟨by omega, by omega⟩ (by omega) (by omega) dX12_drill_80 (fun V48 e47 => ?_)
            refine GO.aload_n dX12_drill_83 rfl rfl ?_
            refine GO.getI h_x fl_RX12_667 rfl rfl dX12_drill_84 (fun l49 u50 => ?_)
            have e51 : vi V48 x 118 = (vi V43 x 118) + 1 := upd2_int e47 ⟨by omega, by omega⟩
            refine GO.iconst dX12_drill_87 ?_
            refine GO.isub dX12_drill_88 ?_
            exact GO.reti rfl rfl dX12_drill_89 ⟨rfl, _, rfl, ⟨by omega, by omega⟩, ⟨(by first | exact trivial | omega), (by first | exact MDR.no (fun g => by have h0 := rq0_3.mpr g.1.1; have h1 := g.1.2.1; have h2 := g.1.2.2.1; have h3 : vi V (vq V x 67) (p1).toNat = 2 := g.1.2.2.2.1; have h4 : vi V (vq V x 69) (p1).toNat = vi V (vq V x 15) (p0).toNat := g.1.2.2.2.2; have h5 := g.2; omega) rfl | exact MDR.ok ⟨rq0_3.mp (by omega), by omega, by omega, (by show vi V (vq V x 67) (p1).toNat = 2; omega), (by show vi V (vq V x 69) (p1).toNat = vi V (vq V x 15) (p0).toNat; omega)⟩ (by omega) (by omega) (by omega))⟩⟩
          ·
            refine GO.iconst dX12_drill_51 ?_
            exact GO.reti rfl rfl dX12_drill_52 ⟨rfl, _, rfl, (ir_c rfl), ⟨(by first | exact trivial | omega), (by first | exact MDR.no (fun g => by have h0 := rq0_3.mpr g.1.1; have h1 := g.1.2.1; have h2 := g.1.2.2.1; have h3 : vi V (vq V x 67) (p1).toNat = 2 := g.1.2.2.2.1; have h4 : vi V (vq V x 69) (p1).toNat = vi V (vq V x 15) (p0).toNat := g.1.2.2.2.2; have h5 := g.2; omega) rfl | exact MDR.ok ⟨rq0_3.mp (by omega), by omega, by omega, (by show vi V (vq V x 67) (p1).toNat = 2; omega), (by show vi V (vq V x 69) (p1).toNat = vi V (vq V x 15) (p0).toNat; omega)⟩ (by omega) (by omega) (by omega))⟩⟩

set_option maxHeartbeats 1000000 in
theorem t_X12_speed {K : Kmap} {V : Vmap} {x : Nat} {p0 : Int} {p1 : Int} (h_x : K x = some (0, 11)) (r_p0 : ir p0) (r_p1 : ir p1) : MC mX12_speed K V [.ref x, ti p0, ti p1] (IS K (fun X V1 => (X = 0 ∨ X = 1) ∧ (X ≠ 0 → ((p0 = (-1) ∧ p1 ≥ 0 ∧ p1 ≤ 1000) ∨ (p0 ≥ 0 ∧ p0 ≤ 9 ∧ p1 ≥ 1 ∧ p1 ≤ 200))) ∧ (X = 0 → (p0 ≠ (-1) ∨ p1 < 0 ∨ p1 > 1000) ∧ (p0 < 0 ∨ p0 > 9 ∨ p1 < 1 ∨ p1 > 200)))) := by
  refine MC.start 0 (by decide +kernel) rfl rfl rfl (ls0 := [some (.ref x), some (ti p0), some (ti p1)]) rfl ?_
  refine GO.iload_n dX12_speed_0 rfl rfl ?_
  refine GO.iconst dX12_speed_1 ?_
  refine GO.icmp_ne (tgt := 23) dX12_speed_2 (by decide) r_p0 (ir_c rfl) (fun c1 => ?_) (fun c1 => ?_)
  ·
    refine GO.iload_n dX12_speed_23 rfl rfl ?_
    refine GO.iconst dX12_speed_24 ?_
    refine GO.bipush dX12_speed_25 rfl ?_
    refine GO.callS (N := mX12_in) dX12_speed_27 gS_RX12_371 (t_X12_in r_p0 (ir_c rfl) (ir_c rfl)) rfl [] rfl rfl (Nat.le_of_ble_eq_true rfl) rfl (k_ip fun X2 r3 h4 => ?_)
    have raw_in := h4.2.2.2
    have rw27 := h4.2.2.2
    refine GO.if_eq (tgt := 44) dX12_speed_30 (by decide) r3 (fun c5 => ?_) (fun c5 => ?_)
    ·
      have q6 := h4.2.2.1 (by omega)
      refine GO.iconst dX12_speed_44 ?_
      exact GO.retz rfl rfl dX12_speed_45 (Or.inl rfl) ⟨rfl, _, rfl, (ir_c rfl), ⟨Or.inl rfl, fun h => absurd rfl h, fun h => by omega⟩⟩
    ·
      have q7 := h4.2.1 (by omega)
      refine GO.iload_n dX12_speed_33 rfl rfl ?_
      refine GO.iconst dX12_speed_34 ?_
      refine GO.sipush dX12_speed_35 rfl ?_
      refine GO.callS (N := mX12_in) dX12_speed_38 gS_RX12_371 (t_X12_in r_p1 (ir_c rfl) (ir_c rfl)) rfl [] rfl rfl (Nat.le_of_ble_eq_true rfl) rfl (k_ip fun X8 r9 h10 => ?_)
      have raw_in := h10.2.2.2
      have rw38 := h10.2.2.2
      refine GO.if_ne (tgt := 46) dX12_speed_41 (by decide) r9 (fun c11 => ?_) (fun c11 => ?_)
      ·
        have q12 := h10.2.1 (by omega)
        refine GO.aload_n dX12_speed_46 rfl rfl ?_
        refine GO.getA (n := 10) h_x fl_RX12_301 rfl rfl rfl rfl dX12_speed_47 (fun hv14 h13 => ?_)
        refine GO.iload_n dX12_speed_50 rfl rfl ?_
        refine GO.iload_n dX12_speed_51 rfl rfl ?_
        have q15 : -2147483648 ≤ p0 ∧ p0 ≤ 2147483647 := r_p0
        refine GO.iast (t := 102) rfl rfl (by decide +kernel) h13 r_p0 (by omega) (by omega) r_p1 (r_p1).1 (r_p1).2 dX12_speed_52 (fun V17 e16 => ?_)
        refine GO.iconst dX12_speed_53 ?_
        exact GO.retz rfl rfl dX12_speed_54 (Or.inr rfl) ⟨rfl, _, rfl, (ir_c rfl), ⟨Or.inr rfl, fun h => by omega, fun h => absurd h (by decide)⟩⟩
      ·
        have q18 := h10.2.2.1 (by omega)
        refine GO.iconst dX12_speed_44 ?_
        exact GO.retz rfl rfl dX12_speed_45 (Or.inl rfl) ⟨rfl, _, rfl, (ir_c rfl), ⟨Or.inl rfl, fun h => absurd rfl h, fun h => by omega⟩⟩
  ·
    refine GO.iload_n dX12_speed_5 rfl rfl ?_
    refine GO.iconst dX12_speed_6 ?_
    refine GO.sipush dX12_speed_7 rfl ?_
    refine GO.callS (N := mX12_in) dX12_speed_10 gS_RX12_371 (t_X12_in r_p1 (ir_c rfl) (ir_c rfl)) rfl [] rfl rfl (Nat.le_of_ble_eq_true rfl) rfl (k_ip fun X19 r20 h21 => ?_)
    have raw_in := h21.2.2.2
    have rw10 := h21.2.2.2
    refine GO.if_eq (tgt := 23) dX12_speed_13 (by decide) r20 (fun c22 => ?_) (fun c22 => ?_)
    ·
      have q23 := h21.2.2.1 (by omega)
      refine GO.iload_n dX12_speed_23 rfl rfl ?_
      refine GO.iconst dX12_speed_24 ?_
      refine GO.bipush dX12_speed_25 rfl ?_
      refine GO.callS (N := mX12_in) dX12_speed_27 gS_RX12_371 (t_X12_in r_p0 (ir_c rfl) (ir_c rfl)) rfl [] rfl rfl (Nat.le_of_ble_eq_true rfl) rfl (k_ip fun X24 r25 h26 => ?_)
      have raw_in := h26.2.2.2
      have rw27 := h26.2.2.2
      refine GO.if_eq (tgt := 44) dX12_speed_30 (by decide) r25 (fun c27 => ?_) (fun c27 => ?_)
      ·
        have q28 := h26.2.2.1 (by omega)
        refine GO.iconst dX12_speed_44 ?_
        exact GO.retz rfl rfl dX12_speed_45 (Or.inl rfl) ⟨rfl, _, rfl, (ir_c rfl), ⟨Or.inl rfl, fun h => absurd rfl h, fun h => by omega⟩⟩
      ·
        have q29 := h26.2.1 (by omega)
        refine GO.iload_n dX12_speed_33 rfl rfl ?_
        refine GO.iconst dX12_speed_34 ?_
        refine GO.sipush dX12_speed_35 rfl ?_
        refine GO.callS (N := mX12_in) dX12_speed_38 gS_RX12_371 (t_X12_in r_p1 (ir_c rfl) (ir_c rfl)) rfl [] rfl rfl (Nat.le_of_ble_eq_true rfl) rfl (k_ip fun X30 r31 h32 => ?_)
        have raw_in := h32.2.2.2
        have rw38 := h32.2.2.2
        refine GO.if_ne (tgt := 46) dX12_speed_41 (by decide) r31 (fun c33 => ?_) (fun c33 => ?_)
        ·
          have q34 := h32.2.1 (by omega)
          refine GO.aload_n dX12_speed_46 rfl rfl ?_
          refine GO.getA (n := 10) h_x fl_RX12_301 rfl rfl rfl rfl dX12_speed_47 (fun hv36 h35 => ?_)
          refine GO.iload_n dX12_speed_50 rfl rfl ?_
          refine GO.iload_n dX12_speed_51 rfl rfl ?_
          have q37 : -2147483648 ≤ p0 ∧ p0 ≤ 2147483647 := r_p0
          refine GO.iast (t := 102) rfl rfl (by decide +kernel) h35 r_p0 (by omega) (by omega) r_p1 (r_p1).1 (r_p1).2 dX12_speed_52 (fun V39 e38 => ?_)
          refine GO.iconst dX12_speed_53 ?_
          exact GO.retz rfl rfl dX12_speed_54 (Or.inr rfl) ⟨rfl, _, rfl, (ir_c rfl), ⟨Or.inr rfl, fun h => by omega, fun h => absurd h (by decide)⟩⟩
        ·
          have q40 := h32.2.2.1 (by omega)
          refine GO.iconst dX12_speed_44 ?_
          exact GO.retz rfl rfl dX12_speed_45 (Or.inl rfl) ⟨rfl, _, rfl, (ir_c rfl), ⟨Or.inl rfl, fun h => absurd rfl h, fun h => by omega⟩⟩
    ·
      have q41 := h21.2.1 (by omega)
      refine GO.aload_n dX12_speed_16 rfl rfl ?_
      refine GO.iload_n dX12_speed_17 rfl rfl ?_
      refine GO.putI h_x fp_RX12_280 rfl (by decide +kernel) r_p1 (r_p1).1 (r_p1).2 dX12_speed_18 (fun V43 e42 => ?_)
      refine GO.iconst dX12_speed_21 ?_
      exact GO.retz rfl rfl dX12_speed_22 (Or.inr rfl) ⟨rfl, _, rfl, (ir_c rfl), ⟨Or.inr rfl, fun h => by omega, fun h => absurd h (by decide)⟩⟩
