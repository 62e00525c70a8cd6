def mX12_sledge : MRec := (RX12, cX12_sledge, 5, (some .int), yX12_sledge, 3, 73, 0, 0, 154857026551649628463978541194362023415133040303886904360641697038744821782306019398933883165117509493564899328)
def mX12_sledgeGoes : MRec := (RX12, cX12_sledgeGoes, 3, (none : Option Jvm.ClassFile.FieldType), yX12_sledgeGoes, 0, 0, 0, 0, 2348542582773833227905394940354450199924654780874729146298649412766395545550161892364635350189694456413814784)
def mX12_people : MRec := (RX12, cX12_people, 3, (some .boolean), yX12_people, 3, 64, 0, 0, 7957171782556586274486115970349133441607298412757563479047423630290551952200534008528896)
def mX12_hide : MRec := (RX12, cX12_hide, 3, (some .boolean), yX12_hide, 3, 64, 0, 0, 47743030695339517646916695822094800649643790476545380874284541781743311713203204051173376)
def mX12_declare : MRec := (RX12, cX12_declare, 4, (some .boolean), yX12_declare, 2, 43, 0, 0, 763888491125432282350667133153516810394300647624726093988552668507892987411251264818774016)
def mX12_visit : MRec := (RX12, cX12_visit, 3, (some .int), yX12_visit, 3, 64, 0, 0, 145609640131977660129147797000938895697292318038897850213136864403616836287335125514680281362389979041374404608)
def mX12_seen : MRec := (RX12, cX12_seen, 3, (some .int), yX12_seen, 0, 0, 0, 0, 0)
def mX12_sounds : MRec := (RX12, cX12_sounds, 3, (none : Option Jvm.ClassFile.FieldType), yX12_sounds, 2, 44, 0, 0, 1018517988167243043134222844204689080525734196832968125318070224677190649881668353091698688)
set_option maxHeartbeats 1000000 in
theorem t_X12_sledge {K : Kmap} {V : Vmap} {x : Nat} {p0 : Int} {p1 : Int} {p2 : Int} (h_x : K x = some (0, 11)) (r_p0 : ir p0) (r_p1 : ir p1) (r_p2 : ir p2) : MC mX12_sledge K V [.ref x, ti p0, ti p1, ti p2] (IS K (fun X V1 => True)) := by
  refine MC.start 1 (by decide +kernel) rfl rfl rfl (ls0 := [some (.ref x), some (ti p0), some (ti p1), some (ti p2), none]) rfl ?_
  refine GO.aload_n dX12_sledge_0 rfl rfl ?_
  refine GO.iload_n dX12_sledge_1 rfl rfl ?_
  refine GO.callV (ci := 11) (N := mX12_stands) dX12_sledge_2 (RX12, TX12, 151) rfl gV_RX12_433 h_x (t_X12_stands h_x r_p0) rfl [] rfl rfl (Nat.le_of_ble_eq_true rfl) rfl (k_ip fun X1 r2 h3 => ?_)
  have raw_stands := h3.2.2.2
  have rw2 := h3.2.2.2
  refine GO.if_eq (tgt := 66) dX12_sledge_5 (by decide) r2 (fun c4 => ?_) (fun c4 => ?_)
  ·
    refine GO.iconst dX12_sledge_66 ?_
    exact GO.reti rfl rfl dX12_sledge_67 ⟨rfl, _, rfl, (ir_c rfl), trivial⟩
  ·
    have q5 := h3.2.1 (by omega)
    refine GO.aload_n dX12_sledge_8 rfl rfl ?_
    refine GO.iload_n dX12_sledge_9 rfl rfl ?_
    refine GO.callV (ci := 11) (N := mX12_stands) dX12_sledge_10 (RX12, TX12, 151) rfl gV_RX12_433 h_x (t_X12_stands h_x r_p1) rfl [] rfl rfl (Nat.le_of_ble_eq_true rfl) rfl (k_ip fun X6 r7 h8 => ?_)
    have raw_stands := h8.2.2.2
    have rw10 := h8.2.2.2
    refine GO.if_eq (tgt := 66) dX12_sledge_13 (by decide) r7 (fun c9 => ?_) (fun c9 => ?_)
    ·
      refine GO.iconst dX12_sledge_66 ?_
      exact GO.reti rfl rfl dX12_sledge_67 ⟨rfl, _, rfl, (ir_c rfl), trivial⟩
    ·
      have q10 := h8.2.1 (by omega)
      refine GO.iload_n dX12_sledge_16 rfl rfl ?_
      refine GO.iload_n dX12_sledge_17 rfl rfl ?_
      refine GO.icmp_eq (tgt := 66) dX12_sledge_18 (by decide) r_p0 r_p1 (fun c11 => ?_) (fun c11 => ?_)
      ·
        refine GO.iconst dX12_sledge_66 ?_
        exact GO.reti rfl rfl dX12_sledge_67 ⟨rfl, _, rfl, (ir_c rfl), trivial⟩
      ·
        refine GO.aload_n dX12_sledge_21 rfl rfl ?_
        refine GO.getA (n := 60) h_x fl_RX12_38 rfl rfl rfl rfl dX12_sledge_22 (fun hv13 h12 => ?_)
        refine GO.iload_n dX12_sledge_25 rfl rfl ?_
        have q14 : -2147483648 ≤ p0 ∧ p0 ≤ 2147483647 := r_p0
        refine GO.iald (t := 16) rfl rfl h12 r_p0 (by omega) (by omega) dX12_sledge_26 (fun l15 u16 => ?_)
        refine GO.aload_n dX12_sledge_27 rfl rfl ?_
        refine GO.getRaw h_x fl_RX12_38 hv13 dX12_sledge_28 ?_
        refine GO.iload_n dX12_sledge_31 rfl rfl ?_
        have q19 : -2147483648 ≤ p1 ∧ p1 ≤ 2147483647 := r_p1
        refine GO.iald (t := 16) rfl rfl h12 r_p1 (by omega) (by omega) dX12_sledge_32 (fun l20 u21 => ?_)
        refine GO.icmp_ne (tgt := 66) dX12_sledge_33 (by decide) vi_ir vi_ir (fun c22 => ?_) (fun c22 => ?_)
        ·
          refine GO.iconst dX12_sledge_66 ?_
          exact GO.reti rfl rfl dX12_sledge_67 ⟨rfl, _, rfl, (ir_c rfl), trivial⟩
        ·
          refine GO.iload_n dX12_sledge_36 rfl rfl ?_
          refine GO.iconst dX12_sledge_37 ?_
          refine GO.sipush dX12_sledge_38 rfl ?_
          refine GO.callS (N := mX12_in) dX12_sledge_41 gS_RX12_371 (t_X12_in r_p2 (ir_c rfl) (ir_c rfl)) rfl [] rfl rfl (Nat.le_of_ble_eq_true rfl) rfl (k_ip fun X23 r24 h25 => ?_)
          have raw_in := h25.2.2.2
          have rw41 := h25.2.2.2
          refine GO.if_eq (tgt := 66) dX12_sledge_44 (by decide) r24 (fun c26 => ?_) (fun c26 => ?_)
          ·
            have q27 := h25.2.2.1 (by omega)
            refine GO.iconst dX12_sledge_66 ?_
            exact GO.reti rfl rfl dX12_sledge_67 ⟨rfl, _, rfl, (ir_c rfl), trivial⟩
          ·
            have q28 := h25.2.1 (by omega)
            refine GO.iload_n dX12_sledge_47 rfl rfl ?_
            refine GO.aload_n dX12_sledge_48 rfl rfl ?_
            refine GO.getA (n := 60) h_x fl_RX12_56 rfl rfl rfl rfl dX12_sledge_49 (fun hv30 h29 => ?_)
            refine GO.iload_n dX12_sledge_52 rfl rfl ?_
            refine GO.iald (t := 22) rfl rfl h29 r_p0 (by omega) (by omega) dX12_sledge_53 (fun _ _ => ?_)
            refine GO.icmp_gt (tgt := 66) dX12_sledge_54 (by decide) r_p2 vi_ir (fun c31 => ?_) (fun c31 => ?_)
            ·
              refine GO.iconst dX12_sledge_66 ?_
              exact GO.reti rfl rfl dX12_sledge_67 ⟨rfl, _, rfl, (ir_c rfl), trivial⟩
            ·
              refine GO.aload_n dX12_sledge_57 rfl rfl ?_
              refine GO.getI h_x fl_RX12_648 rfl rfl dX12_sledge_58 (fun l32 u33 => ?_)
              refine GO.bipush dX12_sledge_61 rfl ?_
              refine GO.icmp_ne (tgt := 68) dX12_sledge_63 (by decide) vi_ir (ir_c rfl) (fun c34 => ?_) (fun c34 => ?_)
              ·
                refine GO.aload_n dX12_sledge_68 rfl rfl ?_
                refine GO.aload_n dX12_sledge_69 rfl rfl ?_
                refine GO.getA (n := 60) h_x fl_RX12_41 rfl rfl rfl rfl dX12_sledge_70 (fun hv36 h35 => ?_)
                refine GO.iload_n dX12_sledge_73 rfl rfl ?_
                refine GO.iald (t := 17) rfl rfl h35 r_p0 (by omega) (by omega) dX12_sledge_74 (fun l37 u38 => ?_)
                refine GO.callV (ci := 11) (N := mX12_goesOver) dX12_sledge_75 (RX12, TX12, 151) rfl gV_RX12_651 h_x (t_X12_goesOver h_x vi_ir (by omega) (by omega)) rfl [] rfl rfl (Nat.le_of_ble_eq_true rfl) rfl (k_vs fun V41 h40 hF39 => ?_)
                refine GO.aload_n dX12_sledge_78 rfl rfl ?_
                refine GO.getA (n := 144) h_x fl_RX12_277 rfl rfl rfl rfl dX12_sledge_79 (fun hv43 h42 => ?_)
                refine GO.aload_n dX12_sledge_82 rfl rfl ?_
                refine GO.getRaw h_x fl_RX12_41 (Eq.trans (hF39 _ _ _ h_x h_x (by decide +kernel)) hv36) dX12_sledge_83 ?_
                refine GO.iload_n dX12_sledge_86 rfl rfl ?_
                refine GO.iald (t := 17) rfl rfl h35 r_p1 (by omega) (by omega) dX12_sledge_87 (fun l46 u47 => ?_)
                refine GO.iald (t := 95) rfl rfl h42 vi_ir (by omega) (by omega) dX12_sledge_88 (fun l49 u50 => ?_)
                refine GO.name (fun z52 hz53 => ?_)
                have r54 : ir z52 := hz53 ▸ vi_ir
                refine GO.istore (ls1 := [some (.ref x), some (ti p0), some (ti p1), some (ti p2), some (ti z52)]) dX12_sledge_89 rfl rfl ?_
                refine GO.iload dX12_sledge_91 rfl ?_
                refine GO.iload_n dX12_sledge_93 rfl rfl ?_
                refine GO.icmp_lt (tgt := 99) dX12_sledge_94 (by decide) r54 r_p2 (fun c55 => ?_) (fun c55 => ?_)
                ·
                  refine GO.aload_n dX12_sledge_99 rfl rfl ?_
                  refine GO.getRaw h_x fl_RX12_56 (Eq.trans (hF39 _ _ _ h_x h_x (by decide +kernel)) hv30) dX12_sledge_100 ?_
                  refine GO.iload_n dX12_sledge_103 rfl rfl ?_
                  refine GO.aload_n dX12_sledge_104 rfl rfl ?_
                  refine GO.getRaw h_x fl_RX12_56 (Eq.trans (hF39 _ _ _ h_x h_x (by decide +kernel)) hv30) dX12_sledge_105 ?_
                  refine GO.iload_n dX12_sledge_108 rfl rfl ?_
                  refine GO.iald (t := 22) rfl rfl h29 r_p0 (by omega) (by omega) dX12_sledge_109 (fun _ _ => ?_)
                  have e60 : vi V41 (vq V x 20) (p0).toNat = vi V (vq V x 20) (p0).toNat := vi_frA hF39 h29 h29 (by decide +kernel)
                  refine GO.iload_n dX12_sledge_110 rfl rfl ?_
                  refine GO.isub dX12_sledge_111 ?_
                  have q62 : -2147483648 ≤ p2 ∧ p2 ≤ 2147483647 := r_p2
                  have q63 : -2147483648 ≤ vi V (vq V x 20) (p0).toNat ∧ vi V (vq V x 20) (p0).toNat ≤ 2147483647 := vi_ir
                  have q64 : -2147483648 ≤ vi V41 (vq V x 20) (p0).toNat ∧ vi V41 (vq V x 20) (p0).toNat ≤ 2147483647 := vi_ir
                  refine GO.iast (t := 22) rfl rfl (by decide +kernel) h29 r_p0 (by omega) (by omega) ⟨by omega, by omega⟩ (by omega) (by omega) dX12_sledge_112 (fun V65 e61 => ?_)
                  refine GO.aload_n dX12_sledge_113 rfl rfl ?_
                  refine GO.aload_n dX12_sledge_114 rfl rfl ?_
                  refine GO.getL h_x fl_RX12_654 rfl rfl dX12_sledge_115 ?_
                  refine GO.anyL (fun z66 => ?_)
                  refine GO.iload dX12_sledge_118 rfl ?_
                  refine GO.i2l dX12_sledge_120 ?_
                  refine GO.anyL (fun z67 => ?_)
                  refine GO.ladd dX12_sledge_121 ?_
                  refine GO.anyL (fun z68 => ?_)
                  refine GO.putL h_x fp_RX12_654 rfl (by decide +kernel) dX12_sledge_122 (fun V70 e69 => ?_)
                  refine GO.aload_n dX12_sledge_125 rfl rfl ?_
                  refine GO.getA (n := 40) h_x fl_RX12_247 rfl rfl rfl rfl dX12_sledge_126 (fun hv72 h71 => ?_)
                  refine GO.aload_n dX12_sledge_129 rfl rfl ?_
                  refine GO.getI h_x fl_RX12_648 rfl rfl dX12_sledge_130 (fun l73 u74 => ?_)
                  have e77 : vi V41 x 92 = vi V x 92 := vi_fr hF39 h_x h_x (by decide +kernel)
                  have e76 : vi V65 x 92 = vi V41 x 92 := vi_up e61 (Or.inl (K_ne h_x h29 (by decide)))
                  have e75 : vi V70 x 92 = vi V65 x 92 := vi_up e69 (Or.inr (by decide))
                  refine GO.iload_n dX12_sledge_133 rfl rfl ?_
                  refine GO.iast (t := 85) rfl rfl (by decide +kernel) h71 vi_ir (by omega) (by omega) r_p1 (by omega) (by omega) dX12_sledge_134 (fun V79 e78 => ?_)
                  refine GO.aload_n dX12_sledge_135 rfl rfl ?_
                  refine GO.getA (n := 40) h_x fl_RX12_250 rfl rfl rfl rfl dX12_sledge_136 (fun hv81 h80 => ?_)
                  refine GO.aload_n dX12_sledge_139 rfl rfl ?_
                  refine GO.getI h_x fl_RX12_648 rfl rfl dX12_sledge_140 (fun l82 u83 => ?_)
                  have e84 : vi V79 x 92 = vi V70 x 92 := vi_up e78 (Or.inl (K_ne h_x h71 (by decide)))
                  refine GO.aload_n dX12_sledge_143 rfl rfl ?_
                  refine GO.getRaw h_x fl_RX12_41 (Eq.trans (uq_ne e78 (Or.inl (K_ne h_x h71 (by decide)))) (Eq.trans (uq_ne e69 (Or.inr (by decide))) (Eq.trans (uq_ne e61 (Or.inl (K_ne h_x h29 (by decide)))) (Eq.trans (hF39 _ _ _ h_x h_x (by decide +kernel)) hv36)))) dX12_sledge_144 ?_
                  refine GO.iload_n dX12_sledge_147 rfl rfl ?_
                  refine GO.iald (t := 17) rfl rfl h35 r_p1 (by omega) (by omega) dX12_sledge_148 (fun l87 u88 => ?_)
                  have e91 : vi V65 (vq V x 15) (p1).toNat = vi V41 (vq V x 15) (p1).toNat := vi_up e61 (Or.inl (K_ne h35 h29 (by decide)))
                  have e90 : vi V70 (vq V x 15) (p1).toNat = vi V65 (vq V x 15) (p1).toNat := vi_up e69 (Or.inl (K_ne h35 h_x (by decide)))
                  have e89 : vi V79 (vq V x 15) (p1).toNat = vi V70 (vq V x 15) (p1).toNat := vi_up e78 (Or.inl (K_ne h35 h71 (by decide)))
                  refine GO.iast (t := 86) rfl rfl (by decide +kernel) h80 vi_ir (by omega) (by omega) vi_ir (vi_ir).1 (vi_ir).2 dX12_sledge_149 (fun V93 e92 => ?_)
                  refine GO.aload_n dX12_sledge_150 rfl rfl ?_
                  refine GO.getA (n := 40) h_x fl_RX12_253 rfl rfl rfl rfl dX12_sledge_151 (fun hv95 h94 => ?_)
                  refine GO.aload_n dX12_sledge_154 rfl rfl ?_
                  refine GO.getI h_x fl_RX12_648 rfl rfl dX12_sledge_155 (fun l96 u97 => ?_)
                  have e98 : vi V93 x 92 = vi V79 x 92 := vi_up e92 (Or.inl (K_ne h_x h80 (by decide)))
                  refine GO.iload_n dX12_sledge_158 rfl rfl ?_
                  refine GO.iload dX12_sledge_159 rfl ?_
                  refine GO.isub dX12_sledge_161 ?_
                  refine GO.iast (t := 87) rfl rfl (by decide +kernel) h94 vi_ir (by omega) (by omega) ⟨by omega, by omega⟩ (by omega) (by omega) dX12_sledge_162 (fun V100 e99 => ?_)
                  refine GO.aload_n dX12_sledge_163 rfl rfl ?_
                  refine GO.getA (n := 40) h_x fl_RX12_256 rfl rfl rfl rfl dX12_sledge_164 (fun hv102 h101 => ?_)
                  refine GO.aload_n dX12_sledge_167 rfl rfl ?_
                  refine GO.getI h_x fl_RX12_648 rfl rfl dX12_sledge_168 (fun l103 u104 => ?_)
                  have e105 : vi V100 x 92 = vi V93 x 92 := vi_up e99 (Or.inl (K_ne h_x h94 (by decide)))
                  refine GO.aload_n dX12_sledge_171 rfl rfl ?_
                  refine GO.getI h_x fl_RX12_396 rfl rfl dX12_sledge_172 (fun l106 u107 => ?_)
                  refine GO.iload dX12_sledge_175 rfl ?_
                  have hj116 : ∀ (z115 : Int), ∀ (l117 : 1 ≤ z115), ∀ (u118 : z115 ≤ 499), GO mX12_sledge K V (IS K (fun X V1 => True)) K V100 0 0 186 [some (.ref x), some (ti p0), some (ti p1), some (ti p2), some (ti z52)] [ti z115, ti (vi V100 x 2), ti (vi V100 x 92), .ref (vq V100 x 110)] := by
                    intro z115 l117 u118
                    have r119 : ir z115 := ⟨by omega, by omega⟩
                    refine GO.iadd dX12_sledge_186 ?_
                    refine GO.iast (t := 88) rfl rfl (by decide +kernel) h101 vi_ir (by omega) (by omega) ⟨by omega, by omega⟩ (by omega) (by omega) dX12_sledge_187 (fun V121 e120 => ?_)
                    refine GO.aload_n dX12_sledge_188 rfl rfl ?_
                    refine GO.getA (n := 40) h_x fl_RX12_259 rfl rfl rfl rfl dX12_sledge_189 (fun hv123 h122 => ?_)
                    refine GO.aload_n dX12_sledge_192 rfl rfl ?_
                    refine GO.getI h_x fl_RX12_648 rfl rfl dX12_sledge_193 (fun l124 u125 => ?_)
                    have e126 : vi V121 x 92 = vi V100 x 92 := vi_up e120 (Or.inl (K_ne h_x h101 (by decide)))
                    refine GO.iconst dX12_sledge_196 ?_
                    refine GO.zast (t := 89) rfl rfl (by decide +kernel) h122 vi_ir (by omega) (by omega) (by omega) (by omega) (by omega) dX12_sledge_197 (fun V128 e127 => ?_)
                    refine GO.aload_n dX12_sledge_198 rfl rfl ?_
                    refine GO.aload_n dX12_sledge_199 rfl rfl ?_
                    refine GO.getI h_x fl_RX12_648 rfl rfl dX12_sledge_200 (fun l129 u130 => ?_)
                    have e131 : vi V128 x 92 = vi V121 x 92 := vi_up e127 (Or.inl (K_ne h_x h122 (by decide)))
                    refine GO.iconst dX12_sledge_203 ?_
                    refine GO.iadd dX12_sledge_204 ?_
                    refine GO.putI h_x fp_RX12_648 rfl (by decide +kernel) ⟨by omega, by omega⟩ (by omega) (by omega) dX12_sledge_205 (fun V133 e132 => ?_)
                    refine GO.aload_n dX12_sledge_208 rfl rfl ?_
                    refine GO.getRaw h_x fl_RX12_256 (Eq.trans (uq_ne e132 (Or.inr (by decide))) (Eq.trans (uq_ne e127 (Or.inl (K_ne h_x h122 (by decide)))) (Eq.trans (uq_ne e120 (Or.inl (K_ne h_x h101 (by decide)))) hv102))) dX12_sledge_209 ?_
                    refine GO.aload_n dX12_sledge_212 rfl rfl ?_
                    refine GO.getI h_x fl_RX12_648 rfl rfl dX12_sledge_213 (fun l136 u137 => ?_)
                    have e138 : vi V133 x 92 = (vi V128 x 92) + 1 := upd2_int e132 ⟨by omega, by omega⟩
                    refine GO.iconst dX12_sledge_216 ?_
                    refine GO.isub dX12_sledge_217 ?_
                    refine GO.iald (t := 88) rfl rfl h101 ⟨by omega, by omega⟩ (by omega) (by omega) dX12_sledge_218 (fun _ _ => ?_)
                    have q142 : -2147483648 ≤ vi V133 (vq V100 x 110) ((vi V133 x 92) - 1).toNat ∧ vi V133 (vq V100 x 110) ((vi V133 x 92) - 1).toNat ≤ 2147483647 := vi_ir
                    exact GO.reti rfl rfl dX12_sledge_219 ⟨rfl, _, rfl, vi_ir, trivial⟩
                  refine GO.if_le (tgt := 185) dX12_sledge_177 (by decide) r54 (fun c143 => ?_) (fun c143 => ?_)
                  ·
                    refine GO.iconst dX12_sledge_185 ?_
                    exact hj116 1 (by omega) (by omega)
                  ·
                    refine GO.iload dX12_sledge_180 rfl ?_
                    refine GO.goto (tgt := 186) dX12_sledge_182 (by decide) ?_
                    exact hj116 z52 (by omega) (by omega)
                ·
                  refine GO.iconst dX12_sledge_97 ?_
                  exact GO.reti rfl rfl dX12_sledge_98 ⟨rfl, _, rfl, (ir_c rfl), trivial⟩
              ·
                refine GO.iconst dX12_sledge_66 ?_
                exact GO.reti rfl rfl dX12_sledge_67 ⟨rfl, _, rfl, (ir_c rfl), trivial⟩

set_option maxHeartbeats 1000000 in
theorem t_X12_sledgeGoes {K : Kmap} {V : Vmap} {x : Nat} {p0 : Int} (h_x : K x = some (0, 11)) (r_p0 : ir p0) (q_0 : p0 ≥ 0) (q_1 : p0 ≤ 39) : MC mX12_sledgeGoes K V [.ref x, ti p0] (VS K (fun V1 => (True))) := by
  refine MC.start 1 (by decide +kernel) rfl rfl rfl (ls0 := [some (.ref x), some (ti p0), none]) rfl ?_
  refine GO.aload_n dX12_sledgeGoes_0 rfl rfl ?_
  refine GO.getA (n := 40) h_x fl_RX12_259 rfl rfl rfl rfl dX12_sledgeGoes_1 (fun hv2 h1 => ?_)
  refine GO.iload_n dX12_sledgeGoes_4 rfl rfl ?_
  have q3 : -2147483648 ≤ p0 ∧ p0 ≤ 2147483647 := r_p0
  refine GO.zald (t := 89) rfl rfl h1 r_p0 (by omega) (by omega) dX12_sledgeGoes_5 (fun l4 u5 => ?_)
  refine GO.if_eq (tgt := 22) dX12_sledgeGoes_6 (by decide) vi_ir (fun c6 => ?_) (fun c6 => ?_)
  ·
    exact GO.retv rfl rfl dX12_sledgeGoes_22 ⟨rfl, rfl, trivial⟩
  ·
    refine GO.aload_n dX12_sledgeGoes_9 rfl rfl ?_
    refine GO.getI h_x fl_RX12_396 rfl rfl dX12_sledgeGoes_10 (fun l7 u8 => ?_)
    refine GO.aload_n dX12_sledgeGoes_13 rfl rfl ?_
    refine GO.getA (n := 40) h_x fl_RX12_256 rfl rfl rfl rfl dX12_sledgeGoes_14 (fun hv10 h9 => ?_)
    refine GO.iload_n dX12_sledgeGoes_17 rfl rfl ?_
    refine GO.iald (t := 88) rfl rfl h9 r_p0 (by omega) (by omega) dX12_sledgeGoes_18 (fun _ _ => ?_)
    refine GO.icmp_ge (tgt := 23) dX12_sledgeGoes_19 (by decide) vi_ir vi_ir (fun c11 => ?_) (fun c11 => ?_)
    ·
      refine GO.aload_n dX12_sledgeGoes_23 rfl rfl ?_
      refine GO.getRaw h_x fl_RX12_259 hv2 dX12_sledgeGoes_24 ?_
      refine GO.iload_n dX12_sledgeGoes_27 rfl rfl ?_
      refine GO.iconst dX12_sledgeGoes_28 ?_
      refine GO.zast (t := 89) rfl rfl (by decide +kernel) h1 r_p0 (by omega) (by omega) (by omega) (by omega) (by omega) dX12_sledgeGoes_29 (fun V15 e14 => ?_)
      refine GO.aload_n dX12_sledgeGoes_30 rfl rfl ?_
      refine GO.getA (n := 40) h_x fl_RX12_247 rfl rfl rfl rfl dX12_sledgeGoes_31 (fun hv17 h16 => ?_)
      refine GO.iload_n dX12_sledgeGoes_34 rfl rfl ?_
      refine GO.iald (t := 85) rfl rfl h16 r_p0 (by omega) (by omega) dX12_sledgeGoes_35 (fun l18 u19 => ?_)
      refine GO.name (fun z21 hz22 => ?_)
      have r23 : ir z21 := hz22 ▸ vi_ir
      refine GO.istore_n (ls1 := [some (.ref x), some (ti p0), some (ti z21)]) dX12_sledgeGoes_36 rfl rfl rfl ?_
      refine GO.aload_n dX12_sledgeGoes_37 rfl rfl ?_
      refine GO.getA (n := 60) h_x fl_RX12_80 rfl rfl rfl rfl dX12_sledgeGoes_38 (fun hv25 h24 => ?_)
      refine GO.iload_n dX12_sledgeGoes_41 rfl rfl ?_
      refine GO.zald (t := 30) rfl rfl h24 r23 (by omega) (by omega) dX12_sledgeGoes_42 (fun l26 u27 => ?_)
      refine GO.if_ne (tgt := 61) dX12_sledgeGoes_43 (by decide) vi_ir (fun c29 => ?_) (fun c29 => ?_)
      ·
        refine GO.aload_n dX12_sledgeGoes_61 rfl rfl ?_
        refine GO.aload_n dX12_sledgeGoes_62 rfl rfl ?_
        refine GO.getL h_x fl_RX12_657 rfl rfl dX12_sledgeGoes_63 ?_
        refine GO.anyL (fun z30 => ?_)
        refine GO.aload_n dX12_sledgeGoes_66 rfl rfl ?_
        refine GO.getA (n := 40) h_x fl_RX12_253 rfl rfl rfl rfl dX12_sledgeGoes_67 (fun hv32 h31 => ?_)
        refine GO.iload_n dX12_sledgeGoes_70 rfl rfl ?_
        refine GO.iald (t := 87) rfl rfl h31 r_p0 (by omega) (by omega) dX12_sledgeGoes_71 (fun _ _ => ?_)
        refine GO.i2l dX12_sledgeGoes_72 ?_
        refine GO.anyL (fun z34 => ?_)
        refine GO.ladd dX12_sledgeGoes_73 ?_
        refine GO.anyL (fun z35 => ?_)
        refine GO.putL h_x fp_RX12_657 rfl (by decide +kernel) dX12_sledgeGoes_74 (fun V37 e36 => ?_)
        refine GO.goto (tgt := 99) dX12_sledgeGoes_77 (by decide) ?_
        exact GO.retv rfl rfl dX12_sledgeGoes_99 ⟨rfl, rfl, trivial⟩
      ·
        refine GO.aload_n dX12_sledgeGoes_46 rfl rfl ?_
        refine GO.getA (n := 60) h_x fl_RX12_41 rfl rfl rfl rfl dX12_sledgeGoes_47 (fun hv39 h38 => ?_)
        refine GO.iload_n dX12_sledgeGoes_50 rfl rfl ?_
        refine GO.iald (t := 17) rfl rfl h38 r23 (by omega) (by omega) dX12_sledgeGoes_51 (fun l40 u41 => ?_)
        refine GO.aload_n dX12_sledgeGoes_52 rfl rfl ?_
        refine GO.getA (n := 40) h_x fl_RX12_250 rfl rfl rfl rfl dX12_sledgeGoes_53 (fun hv44 h43 => ?_)
        refine GO.iload_n dX12_sledgeGoes_56 rfl rfl ?_
        refine GO.iald (t := 86) rfl rfl h43 r_p0 (by omega) (by omega) dX12_sledgeGoes_57 (fun _ _ => ?_)
        refine GO.icmp_eq (tgt := 80) dX12_sledgeGoes_58 (by decide) vi_ir vi_ir (fun c46 => ?_) (fun c46 => ?_)
        ·
          refine GO.aload_n dX12_sledgeGoes_80 rfl rfl ?_
          refine GO.getA (n := 60) h_x fl_RX12_56 rfl rfl rfl rfl dX12_sledgeGoes_81 (fun hv48 h47 => ?_)
          refine GO.iload_n dX12_sledgeGoes_84 rfl rfl ?_
          refine GO.aload_n dX12_sledgeGoes_85 rfl rfl ?_
          refine GO.getRaw h_x fl_RX12_56 hv48 dX12_sledgeGoes_86 ?_
          refine GO.iload_n dX12_sledgeGoes_89 rfl rfl ?_
          refine GO.iald (t := 22) rfl rfl h47 r23 (by omega) (by omega) dX12_sledgeGoes_90 (fun _ _ => ?_)
          refine GO.aload_n dX12_sledgeGoes_91 rfl rfl ?_
          refine GO.getA (n := 40) h_x fl_RX12_253 rfl rfl rfl rfl dX12_sledgeGoes_92 (fun hv53 h52 => ?_)
          refine GO.iload_n dX12_sledgeGoes_95 rfl rfl ?_
          refine GO.iald (t := 87) rfl rfl h52 r_p0 (by omega) (by omega) dX12_sledgeGoes_96 (fun _ _ => ?_)
          refine GO.iadd dX12_sledgeGoes_97 ?_
          refine GO.norm (fun z55 r56 hn57 => ?_)
          refine GO.iast (t := 22) rfl rfl (by decide +kernel) h47 r23 (by omega) (by omega) r56 (r56).1 (r56).2 dX12_sledgeGoes_98 (fun V59 e58 => ?_)
          exact GO.retv rfl rfl dX12_sledgeGoes_99 ⟨rfl, rfl, trivial⟩
        ·
          refine GO.aload_n dX12_sledgeGoes_61 rfl rfl ?_
          refine GO.aload_n dX12_sledgeGoes_62 rfl rfl ?_
          refine GO.getL h_x fl_RX12_657 rfl rfl dX12_sledgeGoes_63 ?_
          refine GO.anyL (fun z60 => ?_)
          refine GO.aload_n dX12_sledgeGoes_66 rfl rfl ?_
          refine GO.getA (n := 40) h_x fl_RX12_253 rfl rfl rfl rfl dX12_sledgeGoes_67 (fun hv62 h61 => ?_)
          refine GO.iload_n dX12_sledgeGoes_70 rfl rfl ?_
          refine GO.iald (t := 87) rfl rfl h61 r_p0 (by omega) (by omega) dX12_sledgeGoes_71 (fun _ _ => ?_)
          refine GO.i2l dX12_sledgeGoes_72 ?_
          refine GO.anyL (fun z64 => ?_)
          refine GO.ladd dX12_sledgeGoes_73 ?_
          refine GO.anyL (fun z65 => ?_)
          refine GO.putL h_x fp_RX12_657 rfl (by decide +kernel) dX12_sledgeGoes_74 (fun V67 e66 => ?_)
          refine GO.goto (tgt := 99) dX12_sledgeGoes_77 (by decide) ?_
          exact GO.retv rfl rfl dX12_sledgeGoes_99 ⟨rfl, rfl, trivial⟩
    ·
      exact GO.retv rfl rfl dX12_sledgeGoes_22 ⟨rfl, rfl, trivial⟩

set_option maxHeartbeats 1000000 in
theorem t_X12_people {K : Kmap} {V : Vmap} {x : Nat} {p0 : Int} {p1 : Int} (h_x : K x = some (0, 11)) (r_p0 : ir p0) (r_p1 : ir p1) : MC mX12_people K V [.ref x, ti p0, ti p1] (IS K (fun X V1 => (X = 0 ∨ X = 1) ∧ (X ≠ 0 → True) ∧ (X = 0 → True))) := by
  refine MC.start 0 (by decide +kernel) rfl rfl rfl (ls0 := [some (.ref x), some (ti p0), some (ti p1)]) rfl ?_
  refine GO.aload_n dX12_people_0 rfl rfl ?_
  refine GO.iload_n dX12_people_1 rfl rfl ?_
  refine GO.callV (ci := 11) (N := mX12_stands) dX12_people_2 (RX12, TX12, 151) rfl gV_RX12_433 h_x (t_X12_stands h_x r_p0) rfl [] rfl rfl (Nat.le_of_ble_eq_true rfl) rfl (k_ip fun X1 r2 h3 => ?_)
  have raw_stands := h3.2.2.2
  have rw2 := h3.2.2.2
  refine GO.if_eq (tgt := 39) dX12_people_5 (by decide) r2 (fun c4 => ?_) (fun c4 => ?_)
  ·
    refine GO.iconst dX12_people_39 ?_
    exact GO.retz rfl rfl dX12_people_40 (Or.inl rfl) ⟨rfl, _, rfl, (ir_c rfl), ⟨Or.inl rfl, fun _ => trivial, fun _ => trivial⟩⟩
  ·
    have q5 := h3.2.1 (by omega)
    refine GO.iload_n dX12_people_8 rfl rfl ?_
    refine GO.sipush dX12_people_9 rfl ?_
    refine GO.sipush dX12_people_12 rfl ?_
    refine GO.callS (N := mX12_in) dX12_people_15 gS_RX12_371 (t_X12_in r_p1 (ir_c rfl) (ir_c rfl)) rfl [] rfl rfl (Nat.le_of_ble_eq_true rfl) rfl (k_ip fun X6 r7 h8 => ?_)
    have raw_in := h8.2.2.2
    have rw15 := h8.2.2.2
    refine GO.if_eq (tgt := 39) dX12_people_18 (by decide) r7 (fun c9 => ?_) (fun c9 => ?_)
    ·
      have q10 := h8.2.2.1 (by omega)
      refine GO.iconst dX12_people_39 ?_
      exact GO.retz rfl rfl dX12_people_40 (Or.inl rfl) ⟨rfl, _, rfl, (ir_c rfl), ⟨Or.inl rfl, fun _ => trivial, fun _ => trivial⟩⟩
    ·
      have q11 := h8.2.1 (by omega)
      refine GO.aload_n dX12_people_21 rfl rfl ?_
      refine GO.getA (n := 60) h_x fl_RX12_53 rfl rfl rfl rfl dX12_people_22 (fun hv13 h12 => ?_)
      refine GO.iload_n dX12_people_25 rfl rfl ?_
      have q14 : -2147483648 ≤ p0 ∧ p0 ≤ 2147483647 := r_p0
      refine GO.iald (t := 21) rfl rfl h12 r_p0 (by omega) (by omega) dX12_people_26 (fun l15 u16 => ?_)
      refine GO.iload_n dX12_people_27 rfl rfl ?_
      refine GO.iadd dX12_people_28 ?_
      refine GO.iconst dX12_people_29 ?_
      refine GO.sipush dX12_people_30 rfl ?_
      have q17 : -2147483648 ≤ p1 ∧ p1 ≤ 2147483647 := r_p1
      refine GO.callS (N := mX12_in) dX12_people_33 gS_RX12_371 (t_X12_in ⟨by omega, by omega⟩ (ir_c rfl) (ir_c rfl)) rfl [] rfl rfl (Nat.le_of_ble_eq_true rfl) rfl (k_ip fun X18 r19 h20 => ?_)
      have raw_in := h20.2.2.2
      have rw33 := h20.2.2.2
      refine GO.if_ne (tgt := 41) dX12_people_36 (by decide) r19 (fun c21 => ?_) (fun c21 => ?_)
      ·
        have q22 := h20.2.1 (by omega)
        refine GO.aload_n dX12_people_41 rfl rfl ?_
        refine GO.getRaw h_x fl_RX12_53 hv13 dX12_people_42 ?_
        refine GO.iload_n dX12_people_45 rfl rfl ?_
        refine GO.aload_n dX12_people_46 rfl rfl ?_
        refine GO.getRaw h_x fl_RX12_53 hv13 dX12_people_47 ?_
        refine GO.iload_n dX12_people_50 rfl rfl ?_
        refine GO.iald (t := 21) rfl rfl h12 r_p0 (by omega) (by omega) dX12_people_51 (fun l27 u28 => ?_)
        refine GO.iload_n dX12_people_52 rfl rfl ?_
        refine GO.iadd dX12_people_53 ?_
        refine GO.iast (t := 21) rfl rfl (by decide +kernel) h12 r_p0 (by omega) (by omega) ⟨by omega, by omega⟩ (by omega) (by omega) dX12_people_54 (fun V30 e29 => ?_)
        refine GO.iconst dX12_people_55 ?_
        exact GO.retz rfl rfl dX12_people_56 (Or.inr rfl) ⟨rfl, _, rfl, (ir_c rfl), ⟨Or.inr rfl, fun _ => trivial, fun _ => trivial⟩⟩
      ·
        have q31 := h20.2.2.1 (by omega)
        refine GO.iconst dX12_people_39 ?_
        exact GO.retz rfl rfl dX12_people_40 (Or.inl rfl) ⟨rfl, _, rfl, (ir_c rfl), ⟨Or.inl rfl, fun _ => trivial, fun _ => trivial⟩⟩

set_option maxHeartbeats 1000000 in
theorem t_X12_hide {K : Kmap} {V : Vmap} {x : Nat} {p0 : Int} {p1 : Int} (h_x : K x = some (0, 11)) (r_p0 : ir p0) (r_p1 : ir p1) : MC mX12_hide K V [.ref x, ti p0, ti p1] (IS K (fun X V1 => (X = 0 ∨ X = 1) ∧ (X ≠ 0 → True) ∧ (X = 0 → True))) := by
  refine MC.start 0 (by decide +kernel) rfl rfl rfl (ls0 := [some (.ref x), some (ti p0), some (ti p1)]) rfl ?_
  refine GO.aload_n dX12_hide_0 rfl rfl ?_
  refine GO.iload_n dX12_hide_1 rfl rfl ?_
  refine GO.callV (ci := 11) (N := mX12_stands) dX12_hide_2 (RX12, TX12, 151) rfl gV_RX12_433 h_x (t_X12_stands h_x r_p0) rfl [] rfl rfl (Nat.le_of_ble_eq_true rfl) rfl (k_ip fun X1 r2 h3 => ?_)
  have raw_stands := h3.2.2.2
  have rw2 := h3.2.2.2
  refine GO.if_eq (tgt := 29) dX12_hide_5 (by decide) r2 (fun c4 => ?_) (fun c4 => ?_)
  ·
    refine GO.iconst dX12_hide_29 ?_
    exact GO.retz rfl rfl dX12_hide_30 (Or.inl rfl) ⟨rfl, _, rfl, (ir_c rfl), ⟨Or.inl rfl, fun _ => trivial, fun _ => trivial⟩⟩
  ·
    have q5 := h3.2.1 (by omega)
    refine GO.iload_n dX12_hide_8 rfl rfl ?_
    refine GO.aload_n dX12_hide_9 rfl rfl ?_
    refine GO.getA (n := 60) h_x fl_RX12_56 rfl rfl rfl rfl dX12_hide_10 (fun hv7 h6 => ?_)
    refine GO.iload_n dX12_hide_13 rfl rfl ?_
    have q8 : -2147483648 ≤ p0 ∧ p0 ≤ 2147483647 := r_p0
    refine GO.iald (t := 22) rfl rfl h6 r_p0 (by omega) (by omega) dX12_hide_14 (fun _ _ => ?_)
    refine GO.icmp_gt (tgt := 29) dX12_hide_15 (by decide) r_p1 vi_ir (fun c9 => ?_) (fun c9 => ?_)
    ·
      refine GO.iconst dX12_hide_29 ?_
      exact GO.retz rfl rfl dX12_hide_30 (Or.inl rfl) ⟨rfl, _, rfl, (ir_c rfl), ⟨Or.inl rfl, fun _ => trivial, fun _ => trivial⟩⟩
    ·
      refine GO.iload_n dX12_hide_18 rfl rfl ?_
      refine GO.aload_n dX12_hide_19 rfl rfl ?_
      refine GO.getA (n := 60) h_x fl_RX12_59 rfl rfl rfl rfl dX12_hide_20 (fun hv11 h10 => ?_)
      refine GO.iload_n dX12_hide_23 rfl rfl ?_
      refine GO.iald (t := 23) rfl rfl h10 r_p0 (by omega) (by omega) dX12_hide_24 (fun _ _ => ?_)
      refine GO.ineg dX12_hide_25 ?_
      refine GO.norm (fun z12 r13 hn14 => ?_)
      refine GO.icmp_ge (tgt := 31) dX12_hide_26 (by decide) r_p1 r13 (fun c15 => ?_) (fun c15 => ?_)
      ·
        refine GO.aload_n dX12_hide_31 rfl rfl ?_
        refine GO.getRaw h_x fl_RX12_56 hv7 dX12_hide_32 ?_
        refine GO.iload_n dX12_hide_35 rfl rfl ?_
        refine GO.aload_n dX12_hide_36 rfl rfl ?_
        refine GO.getRaw h_x fl_RX12_56 hv7 dX12_hide_37 ?_
        refine GO.iload_n dX12_hide_40 rfl rfl ?_
        refine GO.iald (t := 22) rfl rfl h6 r_p0 (by omega) (by omega) dX12_hide_41 (fun _ _ => ?_)
        refine GO.iload_n dX12_hide_42 rfl rfl ?_
        refine GO.isub dX12_hide_43 ?_
        refine GO.norm (fun z20 r21 hn22 => ?_)
        refine GO.iast (t := 22) rfl rfl (by decide +kernel) h6 r_p0 (by omega) (by omega) r21 (r21).1 (r21).2 dX12_hide_44 (fun V24 e23 => ?_)
        refine GO.aload_n dX12_hide_45 rfl rfl ?_
        refine GO.getRaw h_x fl_RX12_59 (Eq.trans (uq_ne e23 (Or.inl (K_ne h_x h6 (by decide)))) hv11) dX12_hide_46 ?_
        refine GO.iload_n dX12_hide_49 rfl rfl ?_
        refine GO.aload_n dX12_hide_50 rfl rfl ?_
        refine GO.getRaw h_x fl_RX12_59 (Eq.trans (uq_ne e23 (Or.inl (K_ne h_x h6 (by decide)))) hv11) dX12_hide_51 ?_
        refine GO.iload_n dX12_hide_54 rfl rfl ?_
        refine GO.iald (t := 23) rfl rfl h10 r_p0 (by omega) (by omega) dX12_hide_55 (fun _ _ => ?_)
        have e29 : vi V24 (vq V x 21) (p0).toNat = vi V (vq V x 21) (p0).toNat := vi_up e23 (Or.inl (K_ne h10 h6 (by decide)))
        refine GO.iload_n dX12_hide_56 rfl rfl ?_
        refine GO.iadd dX12_hide_57 ?_
        refine GO.norm (fun z30 r31 hn32 => ?_)
        refine GO.iast (t := 23) rfl rfl (by decide +kernel) h10 r_p0 (by omega) (by omega) r31 (r31).1 (r31).2 dX12_hide_58 (fun V34 e33 => ?_)
        refine GO.iconst dX12_hide_59 ?_
        exact GO.retz rfl rfl dX12_hide_60 (Or.inr rfl) ⟨rfl, _, rfl, (ir_c rfl), ⟨Or.inr rfl, fun _ => trivial, fun _ => trivial⟩⟩
      ·
        refine GO.iconst dX12_hide_29 ?_
        exact GO.retz rfl rfl dX12_hide_30 (Or.inl rfl) ⟨rfl, _, rfl, (ir_c rfl), ⟨Or.inl rfl, fun _ => trivial, fun _ => trivial⟩⟩

set_option maxHeartbeats 1000000 in
theorem t_X12_declare {K : Kmap} {V : Vmap} {x : Nat} {p0 : Int} {p1 : Int} {p2 : Int} (h_x : K x = some (0, 11)) (r_p0 : ir p0) (r_p1 : ir p1) (r_p2 : ir p2) : MC mX12_declare K V [.ref x, ti p0, ti p1, ti p2] (IS K (fun X V1 => (X = 0 ∨ X = 1) ∧ (X ≠ 0 → True) ∧ (X = 0 → True) ∧ (MKN V x p0 1 (0 ≤ p1 ∧ p1 ≤ 500 ∧ 0 ≤ p2 ∧ p2 ≤ 1000000) X))) := by
  refine MC.start 0 (by decide +kernel) rfl rfl rfl (ls0 := [some (.ref x), some (ti p0), some (ti p1), some (ti p2)]) rfl ?_
  refine GO.aload_n dX12_declare_0 rfl rfl ?_
  refine GO.iload_n dX12_declare_1 rfl rfl ?_
  refine GO.callV (ci := 11) (N := mX12_isStation) dX12_declare_2 (RX12, TX12, 151) rfl gV_RX12_403 h_x (t_X12_isStation h_x r_p0) rfl [] rfl rfl (Nat.le_of_ble_eq_true rfl) rfl (k_ip fun X1 r2 h3 => ?_)
  have raw_isStation := h3.2.2.2
  have rw2 := h3.2.2.2
  refine GO.if_eq (tgt := 30) dX12_declare_5 (by decide) r2 (fun c4 => ?_) (fun c4 => ?_)
  ·
    refine GO.iconst dX12_declare_30 ?_
    exact GO.retz rfl rfl dX12_declare_31 (Or.inl rfl) ⟨rfl, _, rfl, (ir_c rfl), ⟨Or.inl rfl, fun _ => trivial, fun _ => trivial, (by first | exact MKN.nk rw2 (by omega) rfl | exact MKN.np (by omega) rfl | exact MKN.ok rw2 (by omega) ⟨by omega, by omega, by omega, by omega⟩ (by omega))⟩⟩
  ·
    have q5 := h3.2.1 (by omega)
    refine GO.iload_n dX12_declare_8 rfl rfl ?_
    refine GO.iconst dX12_declare_9 ?_
    refine GO.sipush dX12_declare_10 rfl ?_
    refine GO.callS (N := mX12_in) dX12_declare_13 gS_RX12_371 (t_X12_in r_p1 (ir_c rfl) (ir_c rfl)) rfl [] rfl rfl (Nat.le_of_ble_eq_true rfl) rfl (k_ip fun X6 r7 h8 => ?_)
    have raw_in := h8.2.2.2
    have rw13 := h8.2.2.2
    refine GO.if_eq (tgt := 30) dX12_declare_16 (by decide) r7 (fun c9 => ?_) (fun c9 => ?_)
    ·
      have q10 := h8.2.2.1 (by omega)
      refine GO.iconst dX12_declare_30 ?_
      exact GO.retz rfl rfl dX12_declare_31 (Or.inl rfl) ⟨rfl, _, rfl, (ir_c rfl), ⟨Or.inl rfl, fun _ => trivial, fun _ => trivial, (by first | exact MKN.nk rw2 (by omega) rfl | exact MKN.np (by omega) rfl | exact MKN.ok rw2 (by omega) ⟨by omega, by omega, by omega, by omega⟩ (by omega))⟩⟩
    ·
      have q11 := h8.2.1 (by omega)
      refine GO.iload_n dX12_declare_19 rfl rfl ?_
      refine GO.iconst dX12_declare_20 ?_
      refine GO.ldcw (X := 1000000) dX12_declare_21 gw_2291 rfl ?_
      refine GO.callS (N := mX12_in) dX12_declare_24 gS_RX12_371 (t_X12_in r_p2 (ir_c rfl) (ir_c rfl)) rfl [] rfl rfl (Nat.le_of_ble_eq_true rfl) rfl (k_ip fun X12 r13 h14 => ?_)
      have raw_in := h14.2.2.2
      have rw24 := h14.2.2.2
      refine GO.if_ne (tgt := 32) dX12_declare_27 (by decide) r13 (fun c15 => ?_) (fun c15 => ?_)
      ·
        have q16 := h14.2.1 (by omega)
        refine GO.aload_n dX12_declare_32 rfl rfl ?_
        refine GO.getA (n := 60) h_x fl_RX12_68 rfl rfl rfl rfl dX12_declare_33 (fun hv18 h17 => ?_)
        refine GO.iload_n dX12_declare_36 rfl rfl ?_
        refine GO.iload_n dX12_declare_37 rfl rfl ?_
        have q19 : -2147483648 ≤ p0 ∧ p0 ≤ 2147483647 := r_p0
        refine GO.iast (t := 26) rfl rfl (by decide +kernel) h17 r_p0 (by omega) (by omega) r_p1 (r_p1).1 (r_p1).2 dX12_declare_38 (fun V21 e20 => ?_)
        refine GO.aload_n dX12_declare_39 rfl rfl ?_
        refine GO.getA (n := 60) h_x fl_RX12_71 rfl rfl rfl rfl dX12_declare_40 (fun hv23 h22 => ?_)
        refine GO.iload_n dX12_declare_43 rfl rfl ?_
        refine GO.iload_n dX12_declare_44 rfl rfl ?_
        refine GO.iast (t := 27) rfl rfl (by decide +kernel) h22 r_p0 (by omega) (by omega) r_p2 (r_p2).1 (r_p2).2 dX12_declare_45 (fun V25 e24 => ?_)
        refine GO.iconst dX12_declare_46 ?_
        exact GO.retz rfl rfl dX12_declare_47 (Or.inr rfl) ⟨rfl, _, rfl, (ir_c rfl), ⟨Or.inr rfl, fun _ => trivial, fun _ => trivial, (by first | exact MKN.nk rw2 (by omega) rfl | exact MKN.np (by omega) rfl | exact MKN.ok rw2 (by omega) ⟨by omega, by omega, by omega, by omega⟩ (by omega))⟩⟩
      ·
        have q26 := h14.2.2.1 (by omega)
        refine GO.iconst dX12_declare_30 ?_
        exact GO.retz rfl rfl dX12_declare_31 (Or.inl rfl) ⟨rfl, _, rfl, (ir_c rfl), ⟨Or.inl rfl, fun _ => trivial, fun _ => trivial, (by first | exact MKN.nk rw2 (by omega) rfl | exact MKN.np (by omega) rfl | exact MKN.ok rw2 (by omega) ⟨by omega, by omega, by omega, by omega⟩ (by omega))⟩⟩

set_option maxHeartbeats 1000000 in
theorem t_X12_visit {K : Kmap} {V : Vmap} {x : Nat} {p0 : Int} {p1 : Int} (h_x : K x = some (0, 11)) (r_p0 : ir p0) (r_p1 : ir p1) : MC mX12_visit K V [.ref x, ti p0, ti p1] (IS K (fun X V1 => True)) := by
  refine MC.start 0 (by decide +kernel) rfl rfl rfl (ls0 := [some (.ref x), some (ti p0), some (ti p1)]) rfl ?_
  refine GO.aload_n dX12_visit_0 rfl rfl ?_
  refine GO.iload_n dX12_visit_1 rfl rfl ?_
  refine GO.callV (ci := 11) (N := mX12_isParty) dX12_visit_2 (RX12, TX12, 151) rfl gV_RX12_406 h_x (t_X12_isParty h_x r_p0) rfl [] rfl rfl (Nat.le_of_ble_eq_true rfl) rfl (k_ip fun X1 r2 h3 => ?_)
  refine GO.if_eq (tgt := 47) dX12_visit_5 (by decide) r2 (fun c4 => ?_) (fun c4 => ?_)
  ·
    have q5 := h3.2.2 (by omega)
    refine GO.iconst dX12_visit_47 ?_
    exact GO.reti rfl rfl dX12_visit_48 ⟨rfl, _, rfl, (ir_c rfl), trivial⟩
  ·
    have q6 := h3.2.1 (by omega)
    refine GO.aload_n dX12_visit_8 rfl rfl ?_
    refine GO.iload_n dX12_visit_9 rfl rfl ?_
    refine GO.callV (ci := 11) (N := mX12_stands) dX12_visit_10 (RX12, TX12, 151) rfl gV_RX12_433 h_x (t_X12_stands h_x r_p1) rfl [] rfl rfl (Nat.le_of_ble_eq_true rfl) rfl (k_ip fun X7 r8 h9 => ?_)
    have raw_stands := h9.2.2.2
    have rw10 := h9.2.2.2
    refine GO.if_eq (tgt := 47) dX12_visit_13 (by decide) r8 (fun c10 => ?_) (fun c10 => ?_)
    ·
      refine GO.iconst dX12_visit_47 ?_
      exact GO.reti rfl rfl dX12_visit_48 ⟨rfl, _, rfl, (ir_c rfl), trivial⟩
    ·
      have q11 := h9.2.1 (by omega)
      refine GO.aload_n dX12_visit_16 rfl rfl ?_
      refine GO.getA (n := 60) h_x fl_RX12_38 rfl rfl rfl rfl dX12_visit_17 (fun hv13 h12 => ?_)
      refine GO.iload_n dX12_visit_20 rfl rfl ?_
      have q14 : -2147483648 ≤ p1 ∧ p1 ≤ 2147483647 := r_p1
      refine GO.iald (t := 16) rfl rfl h12 r_p1 (by omega) (by omega) dX12_visit_21 (fun l15 u16 => ?_)
      refine GO.iload_n dX12_visit_22 rfl rfl ?_
      refine GO.icmp_eq (tgt := 47) dX12_visit_23 (by decide) vi_ir r_p0 (fun c17 => ?_) (fun c17 => ?_)
      ·
        refine GO.iconst dX12_visit_47 ?_
        exact GO.reti rfl rfl dX12_visit_48 ⟨rfl, _, rfl, (ir_c rfl), trivial⟩
      ·
        refine GO.aload_n dX12_visit_26 rfl rfl ?_
        refine GO.iload_n dX12_visit_27 rfl rfl ?_
        refine GO.aload_n dX12_visit_28 rfl rfl ?_
        refine GO.getI h_x fl_RX12_396 rfl rfl dX12_visit_29 (fun l18 u19 => ?_)
        have q20 : -2147483648 ≤ p0 ∧ p0 ≤ 2147483647 := r_p0
        have q21 : -2147483648 ≤ vi V x 9 ∧ vi V x 9 ≤ 2147483647 := vi_ir
        refine GO.callV (ci := 11) (N := mX12_decidesOn) dX12_visit_32 (RX12, TX12, 151) rfl gV_RX12_412 h_x (t_X12_decidesOn h_x r_p0 vi_ir (by omega) (by omega)) rfl [] rfl rfl (Nat.le_of_ble_eq_true rfl) rfl (k_ip fun X22 r23 h24 => ?_)
        refine GO.if_eq (tgt := 47) dX12_visit_35 (by decide) r23 (fun c25 => ?_) (fun c25 => ?_)
        ·
          refine GO.iconst dX12_visit_47 ?_
          exact GO.reti rfl rfl dX12_visit_48 ⟨rfl, _, rfl, (ir_c rfl), trivial⟩
        ·
          refine GO.aload_n dX12_visit_38 rfl rfl ?_
          refine GO.getI h_x fl_RX12_660 rfl rfl dX12_visit_39 (fun l26 u27 => ?_)
          refine GO.bipush dX12_visit_42 rfl ?_
          refine GO.icmp_ne (tgt := 49) dX12_visit_44 (by decide) vi_ir (ir_c rfl) (fun c28 => ?_) (fun c28 => ?_)
          ·
            refine GO.aload_n dX12_visit_49 rfl rfl ?_
            refine GO.getA (n := 60) h_x fl_RX12_262 rfl rfl rfl rfl dX12_visit_50 (fun hv30 h29 => ?_)
            refine GO.aload_n dX12_visit_53 rfl rfl ?_
            refine GO.getI h_x fl_RX12_660 rfl rfl dX12_visit_54 (fun l31 u32 => ?_)
            refine GO.iload_n dX12_visit_57 rfl rfl ?_
            refine GO.iast (t := 90) rfl rfl (by decide +kernel) h29 vi_ir (by omega) (by omega) r_p0 (r_p0).1 (r_p0).2 dX12_visit_58 (fun V34 e33 => ?_)
            refine GO.aload_n dX12_visit_59 rfl rfl ?_
            refine GO.getA (n := 60) h_x fl_RX12_265 rfl rfl rfl rfl dX12_visit_60 (fun hv36 h35 => ?_)
            refine GO.aload_n dX12_visit_63 rfl rfl ?_
            refine GO.getI h_x fl_RX12_660 rfl rfl dX12_visit_64 (fun l37 u38 => ?_)
            have e39 : vi V34 x 93 = vi V x 93 := vi_up e33 (Or.inl (K_ne h_x h29 (by decide)))
            refine GO.iload_n dX12_visit_67 rfl rfl ?_
            refine GO.iast (t := 91) rfl rfl (by decide +kernel) h35 vi_ir (by omega) (by omega) r_p1 (r_p1).1 (r_p1).2 dX12_visit_68 (fun V41 e40 => ?_)
            refine GO.aload_n dX12_visit_69 rfl rfl ?_
            refine GO.getA (n := 60) h_x fl_RX12_268 rfl rfl rfl rfl dX12_visit_70 (fun hv43 h42 => ?_)
            refine GO.aload_n dX12_visit_73 rfl rfl ?_
            refine GO.getI h_x fl_RX12_660 rfl rfl dX12_visit_74 (fun l44 u45 => ?_)
            have e46 : vi V41 x 93 = vi V34 x 93 := vi_up e40 (Or.inl (K_ne h_x h35 (by decide)))
            refine GO.aload_n dX12_visit_77 rfl rfl ?_
            refine GO.getI h_x fl_RX12_396 rfl rfl dX12_visit_78 (fun l47 u48 => ?_)
            have e50 : vi V34 x 2 = vi V x 2 := vi_up e33 (Or.inl (K_ne h_x h29 (by decide)))
            have e49 : vi V41 x 2 = vi V34 x 2 := vi_up e40 (Or.inl (K_ne h_x h35 (by decide)))
            refine GO.iast (t := 92) rfl rfl (by decide +kernel) h42 vi_ir (by omega) (by omega) vi_ir (vi_ir).1 (vi_ir).2 dX12_visit_81 (fun V52 e51 => ?_)
            refine GO.aload_n dX12_visit_82 rfl rfl ?_
            refine GO.getA (n := 60) h_x fl_RX12_271 rfl rfl rfl rfl dX12_visit_83 (fun hv54 h53 => ?_)
            refine GO.aload_n dX12_visit_86 rfl rfl ?_
            refine GO.getI h_x fl_RX12_660 rfl rfl dX12_visit_87 (fun l55 u56 => ?_)
            have e57 : vi V52 x 93 = vi V41 x 93 := vi_up e51 (Or.inl (K_ne h_x h42 (by decide)))
            refine GO.aload_n dX12_visit_90 rfl rfl ?_
            refine GO.getA (n := 60) h_x fl_RX12_53 rfl rfl rfl rfl dX12_visit_91 (fun hv59 h58 => ?_)
            refine GO.iload_n dX12_visit_94 rfl rfl ?_
            refine GO.iald (t := 21) rfl rfl h58 r_p1 (by omega) (by omega) dX12_visit_95 (fun l60 u61 => ?_)
            refine GO.aload_n dX12_visit_96 rfl rfl ?_
            refine GO.getA (n := 60) h_x fl_RX12_68 rfl rfl rfl rfl dX12_visit_97 (fun hv66 h65 => ?_)
            refine GO.iload_n dX12_visit_100 rfl rfl ?_
            refine GO.iald (t := 26) rfl rfl h65 r_p1 (by omega) (by omega) dX12_visit_101 (fun _ _ => ?_)
            refine GO.isub dX12_visit_102 ?_
            refine GO.norm (fun z70 r71 hn72 => ?_)
            refine GO.iast (t := 93) rfl rfl (by decide +kernel) h53 vi_ir (by omega) (by omega) r71 (r71).1 (r71).2 dX12_visit_103 (fun V74 e73 => ?_)
            refine GO.aload_n dX12_visit_104 rfl rfl ?_
            refine GO.getA (n := 60) h_x fl_RX12_274 rfl rfl rfl rfl dX12_visit_105 (fun hv76 h75 => ?_)
            refine GO.aload_n dX12_visit_108 rfl rfl ?_
            refine GO.getI h_x fl_RX12_660 rfl rfl dX12_visit_109 (fun l77 u78 => ?_)
            have e79 : vi V74 x 93 = vi V52 x 93 := vi_up e73 (Or.inl (K_ne h_x h53 (by decide)))
            refine GO.aload_n dX12_visit_112 rfl rfl ?_
            refine GO.getA (n := 60) h_x fl_RX12_56 rfl rfl rfl rfl dX12_visit_113 (fun hv81 h80 => ?_)
            refine GO.iload_n dX12_visit_116 rfl rfl ?_
            refine GO.iald (t := 22) rfl rfl h80 r_p1 (by omega) (by omega) dX12_visit_117 (fun _ _ => ?_)
            refine GO.aload_n dX12_visit_118 rfl rfl ?_
            refine GO.getA (n := 60) h_x fl_RX12_71 rfl rfl rfl rfl dX12_visit_119 (fun hv87 h86 => ?_)
            refine GO.iload_n dX12_visit_122 rfl rfl ?_
            refine GO.iald (t := 27) rfl rfl h86 r_p1 (by omega) (by omega) dX12_visit_123 (fun _ _ => ?_)
            refine GO.isub dX12_visit_124 ?_
            refine GO.norm (fun z92 r93 hn94 => ?_)
            refine GO.iast (t := 94) rfl rfl (by decide +kernel) h75 vi_ir (by omega) (by omega) r93 (r93).1 (r93).2 dX12_visit_125 (fun V96 e95 => ?_)
            refine GO.aload_n dX12_visit_126 rfl rfl ?_
            refine GO.aload_n dX12_visit_127 rfl rfl ?_
            refine GO.getI h_x fl_RX12_660 rfl rfl dX12_visit_128 (fun l97 u98 => ?_)
            have e99 : vi V96 x 93 = vi V74 x 93 := vi_up e95 (Or.inl (K_ne h_x h75 (by decide)))
            refine GO.iconst dX12_visit_131 ?_
            refine GO.iadd dX12_visit_132 ?_
            refine GO.putI h_x fp_RX12_660 rfl (by decide +kernel) ⟨by omega, by omega⟩ (by omega) (by omega) dX12_visit_133 (fun V101 e100 => ?_)
            refine GO.aload_n dX12_visit_136 rfl rfl ?_
            refine GO.getI h_x fl_RX12_660 rfl rfl dX12_visit_137 (fun l102 u103 => ?_)
            have e104 : vi V101 x 93 = (vi V96 x 93) + 1 := upd2_int e100 ⟨by omega, by omega⟩
            refine GO.iconst dX12_visit_140 ?_
            refine GO.isub dX12_visit_141 ?_
            exact GO.reti rfl rfl dX12_visit_142 ⟨rfl, _, rfl, ⟨by omega, by omega⟩, trivial⟩
          ·
            refine GO.iconst dX12_visit_47 ?_
            exact GO.reti rfl rfl dX12_visit_48 ⟨rfl, _, rfl, (ir_c rfl), trivial⟩

set_option maxHeartbeats 1000000 in
theorem t_X12_seen {K : Kmap} {V : Vmap} {x : Nat} {p0 : Int} {p1 : Int} (h_x : K x = some (0, 11)) (r_p0 : ir p0) (r_p1 : ir p1) : MC mX12_seen K V [.ref x, ti p0, ti p1] (IP K V (fun X => True)) := by
  refine MC.start 0 (by decide +kernel) rfl rfl rfl (ls0 := [some (.ref x), some (ti p0), some (ti p1)]) rfl ?_
  refine GO.iload_n dX12_seen_0 rfl rfl ?_
  refine GO.if_lt (tgt := 12) dX12_seen_1 (by decide) r_p0 (fun c1 => ?_) (fun c1 => ?_)
  ·
    refine GO.ldcw (X := (-1000000)) dX12_seen_12 gw_2322 rfl ?_
    exact GO.reti rfl rfl dX12_seen_15 ⟨rfl, rfl, _, rfl, (ir_c rfl), trivial⟩
  ·
    refine GO.iload_n dX12_seen_4 rfl rfl ?_
    refine GO.aload_n dX12_seen_5 rfl rfl ?_
    refine GO.getI h_x fl_RX12_660 rfl rfl dX12_seen_6 (fun l2 u3 => ?_)
    refine GO.icmp_lt (tgt := 16) dX12_seen_9 (by decide) r_p0 vi_ir (fun c4 => ?_) (fun c4 => ?_)
    ·
      refine GO.iload_n dX12_seen_16 rfl rfl ?_
      have q5 : -2147483648 ≤ p1 ∧ p1 ≤ 2147483647 := r_p1
      rcases (show (p1 < 0 ∨ 4 < p1) ∨ p1 = 0 ∨ p1 = 1 ∨ p1 = 2 ∨ p1 = 3 ∨ p1 = 4 by omega) with c6 | c6 | c6 | c6 | c6 | c6
      ·
        refine GO.tableOut (tgt := 87) dX12_seen_17 r_p1 c6 (by decide) ?_
        refine GO.ldcw (X := (-1000000)) dX12_seen_87 gw_2322 rfl ?_
        exact GO.reti rfl rfl dX12_seen_90 ⟨rfl, rfl, _, rfl, (ir_c rfl), trivial⟩
      ·
        refine GO.tableAt (n := 0) (tgt := 52) dX12_seen_17 (ir_c rfl) c6 (by decide) (by decide) rfl (by decide) ?_
        refine GO.aload_n dX12_seen_52 rfl rfl ?_
        refine GO.getA (n := 60) h_x fl_RX12_262 rfl rfl rfl rfl dX12_seen_53 (fun hv8 h7 => ?_)
        refine GO.iload_n dX12_seen_56 rfl rfl ?_
        have q9 : -2147483648 ≤ p0 ∧ p0 ≤ 2147483647 := r_p0
        refine GO.iald (t := 90) rfl rfl h7 r_p0 (by omega) (by omega) dX12_seen_57 (fun _ _ => ?_)
        have q10 : -2147483648 ≤ vi V (vq V x 112) (p0).toNat ∧ vi V (vq V x 112) (p0).toNat ≤ 2147483647 := vi_ir
        exact GO.reti rfl rfl dX12_seen_58 ⟨rfl, rfl, _, rfl, vi_ir, trivial⟩
      ·
        refine GO.tableAt (n := 1) (tgt := 59) dX12_seen_17 (ir_c rfl) c6 (by decide) (by decide) rfl (by decide) ?_
        refine GO.aload_n dX12_seen_59 rfl rfl ?_
        refine GO.getA (n := 60) h_x fl_RX12_265 rfl rfl rfl rfl dX12_seen_60 (fun hv12 h11 => ?_)
        refine GO.iload_n dX12_seen_63 rfl rfl ?_
        have q13 : -2147483648 ≤ p0 ∧ p0 ≤ 2147483647 := r_p0
        refine GO.iald (t := 91) rfl rfl h11 r_p0 (by omega) (by omega) dX12_seen_64 (fun _ _ => ?_)
        have q14 : -2147483648 ≤ vi V (vq V x 113) (p0).toNat ∧ vi V (vq V x 113) (p0).toNat ≤ 2147483647 := vi_ir
        exact GO.reti rfl rfl dX12_seen_65 ⟨rfl, rfl, _, rfl, vi_ir, trivial⟩
      ·
        refine GO.tableAt (n := 2) (tgt := 66) dX12_seen_17 (ir_c rfl) c6 (by decide) (by decide) rfl (by decide) ?_
        refine GO.aload_n dX12_seen_66 rfl rfl ?_
        refine GO.getA (n := 60) h_x fl_RX12_268 rfl rfl rfl rfl dX12_seen_67 (fun hv16 h15 => ?_)
        refine GO.iload_n dX12_seen_70 rfl rfl ?_
        have q17 : -2147483648 ≤ p0 ∧ p0 ≤ 2147483647 := r_p0
        refine GO.iald (t := 92) rfl rfl h15 r_p0 (by omega) (by omega) dX12_seen_71 (fun _ _ => ?_)
        have q18 : -2147483648 ≤ vi V (vq V x 114) (p0).toNat ∧ vi V (vq V x 114) (p0).toNat ≤ 2147483647 := vi_ir
        exact GO.reti rfl rfl dX12_seen_72 ⟨rfl, rfl, _, rfl, vi_ir, trivial⟩
      ·
        refine GO.tableAt (n := 3) (tgt := 73) dX12_seen_17 (ir_c rfl) c6 (by decide) (by decide) rfl (by decide) ?_
        refine GO.aload_n dX12_seen_73 rfl rfl ?_
        refine GO.getA (n := 60) h_x fl_RX12_271 rfl rfl rfl rfl dX12_seen_74 (fun hv20 h19 => ?_)
        refine GO.iload_n dX12_seen_77 rfl rfl ?_
        have q21 : -2147483648 ≤ p0 ∧ p0 ≤ 2147483647 := r_p0
        refine GO.iald (t := 93) rfl rfl h19 r_p0 (by omega) (by omega) dX12_seen_78 (fun _ _ => ?_)
        have q22 : -2147483648 ≤ vi V (vq V x 115) (p0).toNat ∧ vi V (vq V x 115) (p0).toNat ≤ 2147483647 := vi_ir
        exact GO.reti rfl rfl dX12_seen_79 ⟨rfl, rfl, _, rfl, vi_ir, trivial⟩
      ·
        refine GO.tableAt (n := 4) (tgt := 80) dX12_seen_17 (ir_c rfl) c6 (by decide) (by decide) rfl (by decide) ?_
        refine GO.aload_n dX12_seen_80 rfl rfl ?_
        refine GO.getA (n := 60) h_x fl_RX12_274 rfl rfl rfl rfl dX12_seen_81 (fun hv24 h23 => ?_)
        refine GO.iload_n dX12_seen_84 rfl rfl ?_
        have q25 : -2147483648 ≤ p0 ∧ p0 ≤ 2147483647 := r_p0
        refine GO.iald (t := 94) rfl rfl h23 r_p0 (by omega) (by omega) dX12_seen_85 (fun _ _ => ?_)
        have q26 : -2147483648 ≤ vi V (vq V x 116) (p0).toNat ∧ vi V (vq V x 116) (p0).toNat ≤ 2147483647 := vi_ir
        exact GO.reti rfl rfl dX12_seen_86 ⟨rfl, rfl, _, rfl, vi_ir, trivial⟩
    ·
      refine GO.ldcw (X := (-1000000)) dX12_seen_12 gw_2322 rfl ?_
      exact GO.reti rfl rfl dX12_seen_15 ⟨rfl, rfl, _, rfl, (ir_c rfl), trivial⟩

set_option maxHeartbeats 1000000 in
theorem t_X12_sounds {K : Kmap} {V : Vmap} {x : Nat} {p0 : Int} (h_x : K x = some (0, 11)) (r_p0 : ir p0) (q_0 : p0 ≥ 0) (q_1 : p0 ≤ 99) : MC mX12_sounds K V [.ref x, ti p0] (VS K (fun V1 => (True))) := by
  refine MC.start 1 (by decide +kernel) rfl rfl rfl (ls0 := [some (.ref x), some (ti p0), none]) rfl ?_
  refine GO.iconst dX12_sounds_0 ?_
  refine GO.istore_n (ls1 := [some (.ref x), some (ti p0), some (ti 0)]) dX12_sounds_1 rfl rfl rfl ?_
  refine GO.loop1 (fun i1 W => 0 ≤ i1 ∧ i1 ≤ 60 ∧ True) (fun i1 => [some (.ref x), some (ti p0), some (ti i1)]) (fun i1 W => (2147483647 - i1).toNat) 0 ⟨by omega, by omega, trivial⟩ rfl (fun i1 Wi1 hp426 ih425 => ?_)
  obtain ⟨l_i1, u_i1, -⟩ := hp426
  have r_i1 : ir i1 := ⟨by omega, by omega⟩
  show GO mX12_sounds K V (VS K (fun V1 => (True))) K Wi1 0 0 2 [some (.ref x), some (ti p0), some (ti i1)] []
  refine GO.iload_n dX12_sounds_2 rfl rfl ?_
  refine GO.aload_n dX12_sounds_3 rfl rfl ?_
  refine GO.getI h_x fl_RX12_375 rfl rfl dX12_sounds_4 (fun l427 u428 => ?_)
  refine GO.icmp_ge (tgt := 111) dX12_sounds_7 (by decide) r_i1 vi_ir (fun c429 => ?_) (fun c429 => ?_)
  ·
    exact GO.retv rfl rfl dX12_sounds_111 ⟨rfl, rfl, trivial⟩
  ·
    refine GO.aload_n dX12_sounds_10 rfl rfl ?_
    refine GO.getA (n := 60) h_x fl_RX12_35 rfl rfl rfl rfl dX12_sounds_11 (fun hv431 h430 => ?_)
    refine GO.iload_n dX12_sounds_14 rfl rfl ?_
    refine GO.iald (t := 15) rfl rfl h430 r_i1 (by omega) (by omega) dX12_sounds_15 (fun l432 u433 => ?_)
    refine GO.iconst dX12_sounds_16 ?_
    refine GO.icmp_ne (tgt := 105) dX12_sounds_17 (by decide) vi_ir (ir_c rfl) (fun c434 => ?_) (fun c434 => ?_)
    ·
      refine GO.iinc (X := i1) (n := 1) (Y := i1 + 1) (ls1 := [some (.ref x), some (ti p0), some (ti (i1 + 1))]) dX12_sounds_105 rfl rfl rfl rfl ?_
      refine GO.goto (tgt := 2) dX12_sounds_108 (by decide) ?_
      exact ih425 (i1 + 1) Wi1 ⟨by omega, by omega, trivial⟩ (by show (2147483647 - (i1 + 1)).toNat < (2147483647 - i1).toNat; omega)
    ·
      refine GO.aload_n dX12_sounds_20 rfl rfl ?_
      refine GO.aload_n dX12_sounds_21 rfl rfl ?_
      refine GO.getA (n := 60) h_x fl_RX12_41 rfl rfl rfl rfl dX12_sounds_22 (fun hv436 h435 => ?_)
      refine GO.iload_n dX12_sounds_25 rfl rfl ?_
      refine GO.iald (t := 17) rfl rfl h435 r_i1 (by omega) (by omega) dX12_sounds_26 (fun l437 u438 => ?_)
      refine GO.aload_n dX12_sounds_27 rfl rfl ?_
      refine GO.getA (n := 100) h_x fl_RX12_169 rfl rfl rfl rfl dX12_sounds_28 (fun hv440 h439 => ?_)
      refine GO.iload_n dX12_sounds_31 rfl rfl ?_
      have q441 : -2147483648 ≤ p0 ∧ p0 ≤ 2147483647 := r_p0
      refine GO.iald (t := 59) rfl rfl h439 r_p0 (by omega) (by omega) dX12_sounds_32 (fun l442 u443 => ?_)
      refine GO.callV (ci := 11) (N := mX12_far) dX12_sounds_33 (RX12, TX12, 151) rfl gV_RX12_389 h_x (t_X12_far h_x vi_ir vi_ir (by omega) (by omega) (by omega) (by omega)) rfl [] rfl rfl (Nat.le_of_ble_eq_true rfl) rfl (k_ip fun X444 r445 h446 => ?_)
      refine GO.iconst dX12_sounds_36 ?_
      refine GO.icmp_le (tgt := 43) dX12_sounds_37 (by decide) r445 (ir_c rfl) (fun c447 => ?_) (fun c447 => ?_)
      ·
        refine GO.aload_n dX12_sounds_43 rfl rfl ?_
        refine GO.getA (n := 600) h_x fl_RX12_74 rfl rfl rfl rfl dX12_sounds_44 (fun hv449 h448 => ?_)
        refine GO.bipush dX12_sounds_47 rfl ?_
        refine GO.iload_n dX12_sounds_49 rfl rfl ?_
        refine GO.imul dX12_sounds_50 ?_
        refine GO.aload_n dX12_sounds_51 rfl rfl ?_
        refine GO.getI h_x fl_RX12_396 rfl rfl dX12_sounds_52 (fun l450 u451 => ?_)
        refine GO.sipush dX12_sounds_55 rfl ?_
        refine GO.idivP dX12_sounds_58 vi_ir (ir_c rfl) (by omega) (by omega) ?_
        refine GO.iadd dX12_sounds_59 ?_
        refine GO.aload_n dX12_sounds_60 rfl rfl ?_
        refine GO.getRaw h_x fl_RX12_74 hv449 dX12_sounds_61 ?_
        refine GO.bipush dX12_sounds_64 rfl ?_
        refine GO.iload_n dX12_sounds_66 rfl rfl ?_
        refine GO.imul dX12_sounds_67 ?_
        refine GO.aload_n dX12_sounds_68 rfl rfl ?_
        refine GO.getI h_x fl_RX12_396 rfl rfl dX12_sounds_69 (fun l454 u455 => ?_)
        refine GO.sipush dX12_sounds_72 rfl ?_
        refine GO.idivP dX12_sounds_75 vi_ir (ir_c rfl) (by omega) (by omega) ?_
        refine GO.iadd dX12_sounds_76 ?_
        refine GO.iald (t := 28) rfl rfl h448 ⟨by omega, by omega⟩ (by omega) (by omega) dX12_sounds_77 (fun _ _ => ?_)
        refine GO.aload_n dX12_sounds_78 rfl rfl ?_
        refine GO.getA (n := 100) h_x fl_RX12_181 rfl rfl rfl rfl dX12_sounds_79 (fun hv457 h456 => ?_)
        refine GO.iload_n dX12_sounds_82 rfl rfl ?_
        refine GO.iald (t := 63) rfl rfl h456 r_p0 (by omega) (by omega) dX12_sounds_83 (fun _ _ => ?_)
        refine GO.aload_n dX12_sounds_84 rfl rfl ?_
        refine GO.aload_n dX12_sounds_85 rfl rfl ?_
        refine GO.getRaw h_x fl_RX12_41 hv436 dX12_sounds_86 ?_
        refine GO.iload_n dX12_sounds_89 rfl rfl ?_
        refine GO.iald (t := 17) rfl rfl h435 r_i1 (by omega) (by omega) dX12_sounds_90 (fun l460 u461 => ?_)
        refine GO.aload_n dX12_sounds_91 rfl rfl ?_
        refine GO.getRaw h_x fl_RX12_169 hv440 dX12_sounds_92 ?_
        refine GO.iload_n dX12_sounds_95 rfl rfl ?_
        refine GO.iald (t := 59) rfl rfl h439 r_p0 (by omega) (by omega) dX12_sounds_96 (fun l464 u465 => ?_)
        refine GO.callV (ci := 11) (N := mX12_far) dX12_sounds_97 (RX12, TX12, 151) rfl gV_RX12_389 h_x (t_X12_far h_x vi_ir vi_ir (by omega) (by omega) (by omega) (by omega)) rfl [ti (vi Wi1 (vq Wi1 x 73) (p0).toNat), ti (vi Wi1 (vq Wi1 x 26) ((10 * i1) + ((vi Wi1 x 2) / 360)).toNat), ti ((10 * i1) + ((vi Wi1 x 2) / 360)), .ref (vq Wi1 x 26)] rfl rfl (Nat.le_of_ble_eq_true rfl) rfl (k_ip fun X466 r467 h468 => ?_)
        refine GO.iconst dX12_sounds_100 ?_
        refine GO.iadd dX12_sounds_101 ?_
        refine GO.idiv dX12_sounds_102 ⟨by omega, by omega⟩ (by omega) ?_
        refine GO.iadd dX12_sounds_103 ?_
        refine GO.norm (fun z469 r470 hn471 => ?_)
        refine GO.iast (t := 28) rfl rfl (by decide +kernel) h448 ⟨by omega, by omega⟩ (by omega) (by omega) r470 (r470).1 (r470).2 dX12_sounds_104 (fun V473 e472 => ?_)
        refine GO.iinc (X := i1) (n := 1) (Y := i1 + 1) (ls1 := [some (.ref x), some (ti p0), some (ti (i1 + 1))]) dX12_sounds_105 rfl rfl rfl rfl ?_
        refine GO.goto (tgt := 2) dX12_sounds_108 (by decide) ?_
        exact ih425 (i1 + 1) V473 ⟨by omega, by omega, trivial⟩ (by show (2147483647 - (i1 + 1)).toNat < (2147483647 - i1).toNat; omega)
      ·
        refine GO.goto (tgt := 105) dX12_sounds_40 (by decide) ?_
        refine GO.iinc (X := i1) (n := 1) (Y := i1 + 1) (ls1 := [some (.ref x), some (ti p0), some (ti (i1 + 1))]) dX12_sounds_105 rfl rfl rfl rfl ?_
        refine GO.goto (tgt := 2) dX12_sounds_108 (by decide) ?_
        exact ih425 (i1 + 1) Wi1 ⟨by omega, by omega, trivial⟩ (by show (2147483647 - (i1 + 1)).toNat < (2147483647 - i1).toNat; omega)
