def mX12_goesDown : MRec := (RX12, cX12_goesDown, 5, (none : Option Jvm.ClassFile.FieldType), yX12_goesDown, 1, 27, 0, 0, 9619630419041620901435312524449124464130795720328478190417063819395928166869436184427311097384012607618805661696)
def mX12_worksGo : MRec := (RX12, cX12_worksGo, 3, (none : Option Jvm.ClassFile.FieldType), yX12_worksGo, 9, 219, 0, 0, 9619630428210986049237613937390747714253578664873347594475224601237500707480860795895322753045859178208909328384)
def mX12_goesHome : MRec := (RX12, cX12_goesHome, 2, (none : Option Jvm.ClassFile.FieldType), yX12_goesHome, 0, 0, 0, 0, 7957171782556586274486116793101412102210319490242154757722676121658484768990465682833408)
def mX12_burns : MRec := (RX12, cX12_burns, 6, (none : Option Jvm.ClassFile.FieldType), yX12_burns, 2, 43, 0, 0, 214843638129027829411125132137878420770647378060960075861519397890811451078565434046283776)
set_option maxHeartbeats 1000000 in
theorem t_X12_goesDown {K : Kmap} {V : Vmap} {x : Nat} {p0 : Int} (h_x : K x = some (0, 11)) (r_p0 : ir p0) (q_0 : p0 ≥ 0) (q_1 : p0 ≤ 9) : MC mX12_goesDown K V [.ref x, ti p0] (VS K (fun V1 => (True))) := by
  refine MC.start 3 (by decide +kernel) rfl rfl rfl (ls0 := [some (.ref x), some (ti p0), none, none, none]) rfl ?_
  refine GO.aload_n dX12_goesDown_0 rfl rfl ?_
  refine GO.getA (n := 10) h_x fl_RX12_298 rfl rfl rfl rfl dX12_goesDown_1 (fun hv2 h1 => ?_)
  refine GO.iload_n dX12_goesDown_4 rfl rfl ?_
  have q3 : -2147483648 ≤ p0 ∧ p0 ≤ 2147483647 := r_p0
  refine GO.iald (t := 101) rfl rfl h1 r_p0 (by omega) (by omega) dX12_goesDown_5 (fun l4 u5 => ?_)
  refine GO.sipush dX12_goesDown_6 rfl ?_
  refine GO.idivP dX12_goesDown_9 vi_ir (ir_c rfl) (by omega) (by omega) ?_
  refine GO.bipush dX12_goesDown_10 rfl ?_
  have hj12 : ∀ (z11 : Int), ∀ (l13 : 0 ≤ z11), ∀ (u14 : z11 ≤ 9), GO mX12_goesDown K V (VS K (fun V1 => (True))) K V 0 0 30 [some (.ref x), some (ti p0), none, none, none] [ti z11] := by
    intro z11 l13 u14
    have r15 : ir z11 := ⟨by omega, by omega⟩
    refine GO.istore_n (ls1 := [some (.ref x), some (ti p0), some (ti z11), none, none]) dX12_goesDown_30 rfl rfl rfl ?_
    refine GO.aload_n dX12_goesDown_31 rfl rfl ?_
    refine GO.getRaw h_x fl_RX12_298 hv2 dX12_goesDown_32 ?_
    refine GO.iload_n dX12_goesDown_35 rfl rfl ?_
    refine GO.iald (t := 101) rfl rfl h1 r_p0 (by omega) (by omega) dX12_goesDown_36 (fun l18 u19 => ?_)
    refine GO.aload_n dX12_goesDown_37 rfl rfl ?_
    refine GO.getA (n := 10) h_x fl_RX12_301 rfl rfl rfl rfl dX12_goesDown_38 (fun hv21 h20 => ?_)
    refine GO.iload_n dX12_goesDown_41 rfl rfl ?_
    refine GO.iald (t := 102) rfl rfl h20 r15 (by omega) (by omega) dX12_goesDown_42 (fun _ _ => ?_)
    refine GO.iadd dX12_goesDown_43 ?_
    refine GO.norm2 (fun z22 r23 hn24 hw25 => ?_)
    refine GO.istore_n (ls1 := [some (.ref x), some (ti p0), some (ti z11), some (ti z22), none]) dX12_goesDown_44 rfl rfl rfl ?_
    refine GO.aload_n dX12_goesDown_45 rfl rfl ?_
    refine GO.aload_n dX12_goesDown_46 rfl rfl ?_
    refine GO.getA (n := 10) h_x fl_RX12_292 rfl rfl rfl rfl dX12_goesDown_47 (fun hv27 h26 => ?_)
    refine GO.iload_n dX12_goesDown_50 rfl rfl ?_
    refine GO.iald (t := 99) rfl rfl h26 r_p0 (by omega) (by omega) dX12_goesDown_51 (fun l28 u29 => ?_)
    refine GO.callV (ci := 11) (N := mX12_sureOf) dX12_goesDown_52 (RX12, TX12, 151) rfl gV_RX12_703 h_x (t_X12_sureOf h_x vi_ir (by omega) (by omega)) rfl [] rfl rfl (Nat.le_of_ble_eq_true rfl) rfl (k_ip fun X30 r31 h32 => ?_)
    refine GO.aload_n dX12_goesDown_55 rfl rfl ?_
    refine GO.getI h_x fl_RX12_280 rfl rfl dX12_goesDown_56 (fun _ _ => ?_)
    refine GO.isub dX12_goesDown_59 ?_
    refine GO.norm2 (fun z33 r34 hn35 hw36 => ?_)
    refine GO.istore (ls1 := [some (.ref x), some (ti p0), some (ti z11), some (ti z22), some (ti z33)]) dX12_goesDown_60 rfl rfl ?_
    refine GO.iload_n dX12_goesDown_62 rfl rfl ?_
    refine GO.iload dX12_goesDown_63 rfl ?_
    have hj39 : ∀ (z38 : Int), ∀ (l40 : (-2147483648) ≤ z38), ∀ (u41 : z38 ≤ 2147483647), GO mX12_goesDown K V (VS K (fun V1 => (True))) K V 0 0 74 [some (.ref x), some (ti p0), some (ti z11), some (ti z22), some (ti z33)] [ti z38] := by
      intro z38 l40 u41
      have r42 : ir z38 := ⟨by omega, by omega⟩
      refine GO.istore_n (ls1 := [some (.ref x), some (ti p0), some (ti z11), some (ti z38), some (ti z33)]) dX12_goesDown_74 rfl rfl rfl ?_
      refine GO.aload_n dX12_goesDown_75 rfl rfl ?_
      refine GO.getRaw h_x fl_RX12_298 hv2 dX12_goesDown_76 ?_
      refine GO.iload_n dX12_goesDown_79 rfl rfl ?_
      refine GO.iload_n dX12_goesDown_80 rfl rfl ?_
      refine GO.aload_n dX12_goesDown_81 rfl rfl ?_
      refine GO.getRaw h_x fl_RX12_298 hv2 dX12_goesDown_82 ?_
      refine GO.iload_n dX12_goesDown_85 rfl rfl ?_
      refine GO.iald (t := 101) rfl rfl h1 r_p0 (by omega) (by omega) dX12_goesDown_86 (fun l47 u48 => ?_)
      refine GO.icmp_le (tgt := 94) dX12_goesDown_87 (by decide) r42 vi_ir (fun c49 => ?_) (fun c49 => ?_)
      ·
        refine GO.aload_n dX12_goesDown_94 rfl rfl ?_
        refine GO.getRaw h_x fl_RX12_298 hv2 dX12_goesDown_95 ?_
        refine GO.iload_n dX12_goesDown_98 rfl rfl ?_
        refine GO.iald (t := 101) rfl rfl h1 r_p0 (by omega) (by omega) dX12_goesDown_99 (fun l52 u53 => ?_)
        refine GO.iast (t := 101) rfl rfl (by decide +kernel) h1 r_p0 (by omega) (by omega) vi_ir (by omega) (by omega) dX12_goesDown_100 (fun V55 e54 => ?_)
        exact GO.retv rfl rfl dX12_goesDown_101 ⟨rfl, rfl, trivial⟩
      ·
        refine GO.iload_n dX12_goesDown_90 rfl rfl ?_
        refine GO.goto (tgt := 100) dX12_goesDown_91 (by decide) ?_
        refine GO.iast (t := 101) rfl rfl (by decide +kernel) h1 r_p0 (by omega) (by omega) r42 (by omega) (by omega) dX12_goesDown_100 (fun V57 e56 => ?_)
        exact GO.retv rfl rfl dX12_goesDown_101 ⟨rfl, rfl, trivial⟩
    refine GO.icmp_ge (tgt := 72) dX12_goesDown_65 (by decide) r23 r34 (fun c58 => ?_) (fun c58 => ?_)
    ·
      refine GO.iload dX12_goesDown_72 rfl ?_
      have q59 : -2147483648 ≤ z33 ∧ z33 ≤ 2147483647 := r34
      have q60 : -2147483648 ≤ z22 ∧ z22 ≤ 2147483647 := r23
      exact hj39 z33 (by omega) (by omega)
    ·
      refine GO.iload_n dX12_goesDown_68 rfl rfl ?_
      refine GO.goto (tgt := 74) dX12_goesDown_69 (by decide) ?_
      have q61 : -2147483648 ≤ z22 ∧ z22 ≤ 2147483647 := r23
      have q62 : -2147483648 ≤ z33 ∧ z33 ≤ 2147483647 := r34
      exact hj39 z22 (by omega) (by omega)
  refine GO.icmp_le (tgt := 20) dX12_goesDown_12 (by decide) ⟨by omega, by omega⟩ (ir_c rfl) (fun c63 => ?_) (fun c63 => ?_)
  ·
    refine GO.aload_n dX12_goesDown_20 rfl rfl ?_
    refine GO.getRaw h_x fl_RX12_298 hv2 dX12_goesDown_21 ?_
    refine GO.iload_n dX12_goesDown_24 rfl rfl ?_
    refine GO.iald (t := 101) rfl rfl h1 r_p0 (by omega) (by omega) dX12_goesDown_25 (fun l66 u67 => ?_)
    refine GO.sipush dX12_goesDown_26 rfl ?_
    refine GO.idivP dX12_goesDown_29 vi_ir (ir_c rfl) (by omega) (by omega) ?_
    exact hj12 ((vi V (vq V x 126) (p0).toNat) / 500) (by omega) (by omega)
  ·
    refine GO.bipush dX12_goesDown_15 rfl ?_
    refine GO.goto (tgt := 30) dX12_goesDown_17 (by decide) ?_
    exact hj12 9 (by omega) (by omega)

set_option maxHeartbeats 1000000 in
theorem t_X12_worksGo {K : Kmap} {V : Vmap} {x : Nat} (h_x : K x = some (0, 11)) (w_0 : GX V x) : MC mX12_worksGo K V [.ref x] (VS K (fun V1 => (True))) := by
  refine MC.start 2 (by decide +kernel) rfl rfl rfl (ls0 := [some (.ref x), none, none]) rfl ?_
  refine GO.useWT (fun hW_0 => ?_)
  refine GO.iconst dX12_worksGo_0 ?_
  refine GO.istore_n (ls1 := [some (.ref x), some (ti 0), none]) dX12_worksGo_1 rfl rfl rfl ?_
  refine GO.loop1 (fun i1 W => 0 ≤ i1 ∧ i1 ≤ 100 ∧ True) (fun i1 => [some (.ref x), some (ti i1), none]) (fun i1 W => (2147483647 - i1).toNat) 0 ⟨by omega, by omega, trivial⟩ rfl (fun i1 Wi1 hp3027 ih3026 => ?_)
  obtain ⟨l_i1, u_i1, -⟩ := hp3027
  have r_i1 : ir i1 := ⟨by omega, by omega⟩
  show GO mX12_worksGo K V (VS K (fun V1 => (True))) K Wi1 0 0 2 [some (.ref x), some (ti i1), none] []
  refine GO.iload_n dX12_worksGo_2 rfl rfl ?_
  refine GO.aload_n dX12_worksGo_3 rfl rfl ?_
  refine GO.getI h_x fl_RX12_378 rfl rfl dX12_worksGo_4 (fun l3028 u3029 => ?_)
  refine GO.icmp_ge (tgt := 158) dX12_worksGo_7 (by decide) r_i1 vi_ir (fun c3030 => ?_) (fun c3030 => ?_)
  ·
    refine GO.iconst dX12_worksGo_158 ?_
    refine GO.istore_n (ls1 := [some (.ref x), some (ti 0), none]) dX12_worksGo_159 rfl rfl rfl ?_
    refine GO.loop1 (fun i3031 W => 0 ≤ i3031 ∧ i3031 ≤ 9 ∧ True) (fun i3031 => [some (.ref x), some (ti i3031), none]) (fun i3031 W => (2147483647 - i3031).toNat) 0 ⟨by omega, by omega, trivial⟩ rfl (fun i3031 Wi3031 hp3183 ih3182 => ?_)
    obtain ⟨l_i3031, u_i3031, -⟩ := hp3183
    have r_i3031 : ir i3031 := ⟨by omega, by omega⟩
    show GO mX12_worksGo K V (VS K (fun V1 => (True))) K Wi3031 0 0 160 [some (.ref x), some (ti i3031), none] []
    refine GO.iload_n dX12_worksGo_160 rfl rfl ?_
    refine GO.aload_n dX12_worksGo_161 rfl rfl ?_
    refine GO.getI h_x fl_RX12_393 rfl rfl dX12_worksGo_162 (fun l3184 u3185 => ?_)
    refine GO.icmp_ge (tgt := 225) dX12_worksGo_165 (by decide) r_i3031 vi_ir (fun c3186 => ?_) (fun c3186 => ?_)
    ·
      exact GO.retv rfl rfl dX12_worksGo_225 ⟨rfl, rfl, trivial⟩
    ·
      refine GO.aload_n dX12_worksGo_168 rfl rfl ?_
      refine GO.getA (n := 9) h_x fl_RX12_29 rfl rfl rfl rfl dX12_worksGo_169 (fun hv3188 h3187 => ?_)
      refine GO.iload_n dX12_worksGo_172 rfl rfl ?_
      refine GO.iald (t := 13) rfl rfl h3187 r_i3031 (by omega) (by omega) dX12_worksGo_173 (fun _ _ => ?_)
      refine GO.iconst dX12_worksGo_174 ?_
      refine GO.icmp_eq (tgt := 181) dX12_worksGo_175 (by decide) vi_ir (ir_c rfl) (fun c3189 => ?_) (fun c3189 => ?_)
      ·
        refine GO.aload_n dX12_worksGo_181 rfl rfl ?_
        refine GO.bipush dX12_worksGo_182 rfl ?_
        refine GO.iload_n dX12_worksGo_184 rfl rfl ?_
        refine GO.aload_n dX12_worksGo_185 rfl rfl ?_
        refine GO.getI h_x fl_RX12_396 rfl rfl dX12_worksGo_186 (fun l3190 u3191 => ?_)
        refine GO.iconst dX12_worksGo_189 ?_
        refine GO.callV (ci := 11) (N := mX12_asked) dX12_worksGo_190 (RX12, TX12, 151) rfl gV_RX12_563 h_x (t_X12_asked h_x (ir_c rfl) r_i3031 vi_ir (ir_c rfl) (by omega) (by omega)) rfl [] rfl rfl (Nat.le_of_ble_eq_true rfl) rfl (k_is fun X3192 V3196 r3193 h3194 hF3195 => ?_)
        have raw_asked := h3194.2
        have rw190 := h3194.2
        refine GO.istore_n (ls1 := [some (.ref x), some (ti i3031), some (ti X3192)]) dX12_worksGo_193 rfl rfl rfl ?_
        refine GO.iload_n dX12_worksGo_194 rfl rfl ?_
        refine GO.iconst dX12_worksGo_195 ?_
        refine GO.icmp_eq (tgt := 219) dX12_worksGo_196 (by decide) r3193 (ir_c rfl) (fun c3197 => ?_) (fun c3197 => ?_)
        ·
          refine GO.iinc (X := i3031) (n := 1) (Y := i3031 + 1) (ls1 := [some (.ref x), some (ti (i3031 + 1)), some (ti X3192)]) dX12_worksGo_219 rfl rfl rfl rfl ?_
          refine GO.goto (tgt := 160) dX12_worksGo_222 (by decide) ?_
          refine GO.drop [true, true, false] rfl ?_
          exact ih3182 (i3031 + 1) V3196 ⟨by omega, by omega, trivial⟩ (by show (2147483647 - (i3031 + 1)).toNat < (2147483647 - i3031).toNat; omega)
        ·
          refine GO.aload_n dX12_worksGo_199 rfl rfl ?_
          refine GO.getA (n := 9) h_x fl_RX12_32 rfl rfl rfl rfl dX12_worksGo_200 (fun hv3199 h3198 => ?_)
          refine GO.iload_n dX12_worksGo_203 rfl rfl ?_
          refine GO.iald (t := 14) rfl rfl h3198 r_i3031 (by omega) (by omega) dX12_worksGo_204 (fun _ _ => ?_)
          refine GO.iload_n dX12_worksGo_205 rfl rfl ?_
          refine GO.icmp_lt (tgt := 219) dX12_worksGo_206 (by decide) vi_ir r3193 (fun c3201 => ?_) (fun c3201 => ?_)
          ·
            refine GO.iinc (X := i3031) (n := 1) (Y := i3031 + 1) (ls1 := [some (.ref x), some (ti (i3031 + 1)), some (ti X3192)]) dX12_worksGo_219 rfl rfl rfl rfl ?_
            refine GO.goto (tgt := 160) dX12_worksGo_222 (by decide) ?_
            refine GO.drop [true, true, false] rfl ?_
            exact ih3182 (i3031 + 1) V3196 ⟨by omega, by omega, trivial⟩ (by show (2147483647 - (i3031 + 1)).toNat < (2147483647 - i3031).toNat; omega)
          ·
            refine GO.aload_n dX12_worksGo_209 rfl rfl ?_
            refine GO.getRaw h_x fl_RX12_29 (Eq.trans (hF3195 _ _ _ h_x h_x (by decide +kernel)) hv3188) dX12_worksGo_210 ?_
            refine GO.iload_n dX12_worksGo_213 rfl rfl ?_
            refine GO.aload_n dX12_worksGo_214 rfl rfl ?_
            refine GO.getI h_x fl_RX12_396 rfl rfl dX12_worksGo_215 (fun l3204 u3205 => ?_)
            have e3206 : vi V3196 x 2 = vi Wi3031 x 2 := vi_fr hF3195 h_x h_x (by decide +kernel)
            refine GO.iast (t := 13) rfl rfl (by decide +kernel) h3187 r_i3031 (by omega) (by omega) vi_ir (vi_ir).1 (vi_ir).2 dX12_worksGo_218 (fun V3208 e3207 => ?_)
            refine GO.iinc (X := i3031) (n := 1) (Y := i3031 + 1) (ls1 := [some (.ref x), some (ti (i3031 + 1)), some (ti X3192)]) dX12_worksGo_219 rfl rfl rfl rfl ?_
            refine GO.goto (tgt := 160) dX12_worksGo_222 (by decide) ?_
            refine GO.drop [true, true, false] rfl ?_
            exact ih3182 (i3031 + 1) V3208 ⟨by omega, by omega, trivial⟩ (by show (2147483647 - (i3031 + 1)).toNat < (2147483647 - i3031).toNat; omega)
      ·
        refine GO.goto (tgt := 219) dX12_worksGo_178 (by decide) ?_
        refine GO.iinc (X := i3031) (n := 1) (Y := i3031 + 1) (ls1 := [some (.ref x), some (ti (i3031 + 1)), none]) dX12_worksGo_219 rfl rfl rfl rfl ?_
        refine GO.goto (tgt := 160) dX12_worksGo_222 (by decide) ?_
        exact ih3182 (i3031 + 1) Wi3031 ⟨by omega, by omega, trivial⟩ (by show (2147483647 - (i3031 + 1)).toNat < (2147483647 - i3031).toNat; omega)
  ·
    refine GO.aload_n dX12_worksGo_10 rfl rfl ?_
    refine GO.getI h_x fl_RX12_396 rfl rfl dX12_worksGo_11 (fun l3209 u3210 => ?_)
    refine GO.aload_n dX12_worksGo_14 rfl rfl ?_
    refine GO.getA (n := 100) h_x fl_RX12_172 rfl rfl rfl rfl dX12_worksGo_15 (fun hv3212 h3211 => ?_)
    refine GO.iload_n dX12_worksGo_18 rfl rfl ?_
    refine GO.iald (t := 60) rfl rfl h3211 r_i1 (by omega) (by omega) dX12_worksGo_19 (fun _ _ => ?_)
    refine GO.aload_n dX12_worksGo_20 rfl rfl ?_
    refine GO.getA (n := 100) h_x fl_RX12_175 rfl rfl rfl rfl dX12_worksGo_21 (fun hv3214 h3213 => ?_)
    refine GO.iload_n dX12_worksGo_24 rfl rfl ?_
    refine GO.iald (t := 61) rfl rfl h3213 r_i1 (by omega) (by omega) dX12_worksGo_25 (fun _ _ => ?_)
    refine GO.callS (N := mX12_in) dX12_worksGo_26 gS_RX12_371 (t_X12_in vi_ir vi_ir vi_ir) rfl [] rfl rfl (Nat.le_of_ble_eq_true rfl) rfl (k_ip fun X3215 r3216 h3217 => ?_)
    have raw_in := h3217.2.2.2
    have rw26 := h3217.2.2.2
    refine GO.if_ne (tgt := 35) dX12_worksGo_29 (by decide) r3216 (fun c3218 => ?_) (fun c3218 => ?_)
    ·
      have q3219 := h3217.2.1 (by omega)
      refine GO.aload_n dX12_worksGo_35 rfl rfl ?_
      refine GO.iload_n dX12_worksGo_36 rfl rfl ?_
      refine GO.aload_n dX12_worksGo_37 rfl rfl ?_
      refine GO.getI h_x fl_RX12_396 rfl rfl dX12_worksGo_38 (fun l3220 u3221 => ?_)
      refine GO.iconst dX12_worksGo_41 ?_
      refine GO.useFR (fun hF3222 => ?_)
      have hg3223 := GX.fr hF3222 w_0 hW_0 h_x (by decide +kernel)
      refine GO.callV (ci := 11) (N := mX12_mayOn) dX12_worksGo_42 (RX12, TX12, 151) rfl gV_RX12_608 h_x (t_X12_mayOn h_x r_i1 vi_ir (ir_c rfl) (by omega) (by omega) (by omega) (hg3223)) rfl [] rfl rfl (Nat.le_of_ble_eq_true rfl) rfl (k_is fun X3224 V3228 r3225 h3226 hF3227 => ?_)
      refine GO.if_eq (tgt := 65) dX12_worksGo_45 (by decide) r3225 (fun c3229 => ?_) (fun c3229 => ?_)
      ·
        refine GO.aload_n dX12_worksGo_65 rfl rfl ?_
        refine GO.getA (n := 100) h_x fl_RX12_184 rfl rfl rfl rfl dX12_worksGo_66 (fun hv3231 h3230 => ?_)
        refine GO.iload_n dX12_worksGo_69 rfl rfl ?_
        refine GO.aload_n dX12_worksGo_70 rfl rfl ?_
        refine GO.getRaw h_x fl_RX12_184 hv3231 dX12_worksGo_71 ?_
        refine GO.iload_n dX12_worksGo_74 rfl rfl ?_
        refine GO.iald (t := 64) rfl rfl h3230 r_i1 (by omega) (by omega) dX12_worksGo_75 (fun _ _ => ?_)
        refine GO.iconst dX12_worksGo_76 ?_
        refine GO.iadd dX12_worksGo_77 ?_
        refine GO.norm2 (fun z3235 r3236 hn3237 hw3238 => ?_)
        refine GO.iast (t := 64) rfl rfl (by decide +kernel) h3230 r_i1 (by omega) (by omega) r3236 (r3236).1 (r3236).2 dX12_worksGo_78 (fun V3240 e3239 => ?_)
        refine GO.aload_n dX12_worksGo_79 rfl rfl ?_
        refine GO.getA (n := 9) h_x fl_RX12_32 rfl rfl rfl rfl dX12_worksGo_80 (fun hv3242 h3241 => ?_)
        refine GO.aload_n dX12_worksGo_83 rfl rfl ?_
        refine GO.getA (n := 100) h_x fl_RX12_166 rfl rfl rfl rfl dX12_worksGo_84 (fun hv3244 h3243 => ?_)
        refine GO.iload_n dX12_worksGo_87 rfl rfl ?_
        refine GO.iald (t := 58) rfl rfl h3243 r_i1 (by omega) (by omega) dX12_worksGo_88 (fun l3245 u3246 => ?_)
        refine GO.aload_n dX12_worksGo_89 rfl rfl ?_
        refine GO.getRaw h_x fl_RX12_32 hv3242 dX12_worksGo_90 ?_
        refine GO.aload_n dX12_worksGo_93 rfl rfl ?_
        refine GO.getRaw h_x fl_RX12_166 hv3244 dX12_worksGo_94 ?_
        refine GO.iload_n dX12_worksGo_97 rfl rfl ?_
        refine GO.iald (t := 58) rfl rfl h3243 r_i1 (by omega) (by omega) dX12_worksGo_98 (fun l3253 u3254 => ?_)
        refine GO.iald (t := 14) rfl rfl h3241 vi_ir (by omega) (by omega) dX12_worksGo_99 (fun _ _ => ?_)
        refine GO.aload_n dX12_worksGo_100 rfl rfl ?_
        refine GO.getA (n := 100) h_x fl_RX12_163 rfl rfl rfl rfl dX12_worksGo_101 (fun hv3258 h3257 => ?_)
        refine GO.iload_n dX12_worksGo_104 rfl rfl ?_
        refine GO.iald (t := 57) rfl rfl h3257 r_i1 (by omega) (by omega) dX12_worksGo_105 (fun _ _ => ?_)
        have hj3263 : ∀ (z3262 : Int), ∀ (l3264 : 0 ≤ z3262), ∀ (u3265 : z3262 ≤ 1), GO mX12_worksGo K V (VS K (fun V1 => (True))) K V3240 0 0 114 [some (.ref x), some (ti i1), none] [ti z3262, ti (vi V3240 (vq V3240 x 12) (vi V3240 (vq V3240 x 68) (i1).toNat).toNat), ti (vi V3240 (vq V3240 x 68) (i1).toNat), .ref (vq V3240 x 12)] := by
          intro z3262 l3264 u3265
          have r3266 : ir z3262 := ⟨by omega, by omega⟩
          refine GO.iadd dX12_worksGo_114 ?_
          refine GO.norm2 (fun z3267 r3268 hn3269 hw3270 => ?_)
          refine GO.iast (t := 14) rfl rfl (by decide +kernel) h3241 vi_ir (by omega) (by omega) r3268 (r3268).1 (r3268).2 dX12_worksGo_115 (fun V3272 e3271 => ?_)
          refine GO.aload_n dX12_worksGo_116 rfl rfl ?_
          refine GO.iload_n dX12_worksGo_117 rfl rfl ?_
          refine GO.callV (ci := 11) (N := mX12_sounds) dX12_worksGo_118 (RX12, TX12, 151) rfl gV_RX12_664 h_x (t_X12_sounds h_x r_i1 (by omega) (by omega)) rfl [] rfl rfl (Nat.le_of_ble_eq_true rfl) rfl (k_vs fun V3275 h3274 hF3273 => ?_)
          refine GO.iconst dX12_worksGo_121 ?_
          refine GO.istore_n (ls1 := [some (.ref x), some (ti i1), some (ti 0)]) dX12_worksGo_122 rfl rfl rfl ?_
          refine GO.loop1 (fun i3276 W => 0 ≤ i3276 ∧ i3276 ≤ 10 ∧ True) (fun i3276 => [some (.ref x), some (ti i1), some (ti i3276)]) (fun i3276 W => (2147483647 - i3276).toNat) 0 ⟨by omega, by omega, trivial⟩ rfl (fun i3276 Wi3276 hp3341 ih3340 => ?_)
          obtain ⟨l_i3276, u_i3276, -⟩ := hp3341
          have r_i3276 : ir i3276 := ⟨by omega, by omega⟩
          show GO mX12_worksGo K V (VS K (fun V1 => (True))) K Wi3276 0 0 123 [some (.ref x), some (ti i1), some (ti i3276)] []
          refine GO.iload_n dX12_worksGo_123 rfl rfl ?_
          refine GO.aload_n dX12_worksGo_124 rfl rfl ?_
          refine GO.getI h_x fl_RX12_667 rfl rfl dX12_worksGo_125 (fun l3342 u3343 => ?_)
          refine GO.icmp_ge (tgt := 152) dX12_worksGo_128 (by decide) r_i3276 vi_ir (fun c3344 => ?_) (fun c3344 => ?_)
          ·
            refine GO.iinc (X := i1) (n := 1) (Y := i1 + 1) (ls1 := [some (.ref x), some (ti (i1 + 1)), some (ti i3276)]) dX12_worksGo_152 rfl rfl rfl rfl ?_
            refine GO.goto (tgt := 2) dX12_worksGo_155 (by decide) ?_
            refine GO.drop [true, true, false] rfl ?_
            exact ih3026 (i1 + 1) Wi3276 ⟨by omega, by omega, trivial⟩ (by show (2147483647 - (i1 + 1)).toNat < (2147483647 - i1).toNat; omega)
          ·
            refine GO.aload_n dX12_worksGo_131 rfl rfl ?_
            refine GO.getA (n := 10) h_x fl_RX12_295 rfl rfl rfl rfl dX12_worksGo_132 (fun hv3346 h3345 => ?_)
            refine GO.iload_n dX12_worksGo_135 rfl rfl ?_
            refine GO.iald (t := 100) rfl rfl h3345 r_i3276 (by omega) (by omega) dX12_worksGo_136 (fun _ _ => ?_)
            refine GO.iload_n dX12_worksGo_137 rfl rfl ?_
            refine GO.icmp_ne (tgt := 146) dX12_worksGo_138 (by decide) vi_ir r_i1 (fun c3347 => ?_) (fun c3347 => ?_)
            ·
              refine GO.iinc (X := i3276) (n := 1) (Y := i3276 + 1) (ls1 := [some (.ref x), some (ti i1), some (ti (i3276 + 1))]) dX12_worksGo_146 rfl rfl rfl rfl ?_
              refine GO.goto (tgt := 123) dX12_worksGo_149 (by decide) ?_
              exact ih3340 (i3276 + 1) Wi3276 ⟨by omega, by omega, trivial⟩ (by show (2147483647 - (i3276 + 1)).toNat < (2147483647 - i3276).toNat; omega)
            ·
              refine GO.aload_n dX12_worksGo_141 rfl rfl ?_
              refine GO.iload_n dX12_worksGo_142 rfl rfl ?_
              refine GO.callV (ci := 11) (N := mX12_goesDown) dX12_worksGo_143 (RX12, TX12, 151) rfl gV_RX12_670 h_x (t_X12_goesDown h_x r_i3276 (by omega) (by omega)) rfl [] rfl rfl (Nat.le_of_ble_eq_true rfl) rfl (k_vs fun V3350 h3349 hF3348 => ?_)
              refine GO.iinc (X := i3276) (n := 1) (Y := i3276 + 1) (ls1 := [some (.ref x), some (ti i1), some (ti (i3276 + 1))]) dX12_worksGo_146 rfl rfl rfl rfl ?_
              refine GO.goto (tgt := 123) dX12_worksGo_149 (by decide) ?_
              exact ih3340 (i3276 + 1) V3350 ⟨by omega, by omega, trivial⟩ (by show (2147483647 - (i3276 + 1)).toNat < (2147483647 - i3276).toNat; omega)
        refine GO.if_ne (tgt := 113) dX12_worksGo_106 (by decide) vi_ir (fun c3351 => ?_) (fun c3351 => ?_)
        ·
          refine GO.iconst dX12_worksGo_113 ?_
          exact hj3263 0 (by omega) (by omega)
        ·
          refine GO.iconst dX12_worksGo_109 ?_
          refine GO.goto (tgt := 114) dX12_worksGo_110 (by decide) ?_
          exact hj3263 1 (by omega) (by omega)
      ·
        refine GO.aload_n dX12_worksGo_48 rfl rfl ?_
        refine GO.getA (n := 100) h_x fl_RX12_187 rfl rfl rfl rfl dX12_worksGo_49 (fun hv3353 h3352 => ?_)
        refine GO.iload_n dX12_worksGo_52 rfl rfl ?_
        refine GO.aload_n dX12_worksGo_53 rfl rfl ?_
        refine GO.getRaw h_x fl_RX12_187 hv3353 dX12_worksGo_54 ?_
        refine GO.iload_n dX12_worksGo_57 rfl rfl ?_
        refine GO.iald (t := 65) rfl rfl h3352 r_i1 (by omega) (by omega) dX12_worksGo_58 (fun _ _ => ?_)
        refine GO.iconst dX12_worksGo_59 ?_
        refine GO.iadd dX12_worksGo_60 ?_
        refine GO.norm2 (fun z3357 r3358 hn3359 hw3360 => ?_)
        refine GO.iast (t := 65) rfl rfl (by decide +kernel) h3352 r_i1 (by omega) (by omega) r3358 (r3358).1 (r3358).2 dX12_worksGo_61 (fun V3362 e3361 => ?_)
        refine GO.goto (tgt := 152) dX12_worksGo_62 (by decide) ?_
        refine GO.iinc (X := i1) (n := 1) (Y := i1 + 1) (ls1 := [some (.ref x), some (ti (i1 + 1)), none]) dX12_worksGo_152 rfl rfl rfl rfl ?_
        refine GO.goto (tgt := 2) dX12_worksGo_155 (by decide) ?_
        exact ih3026 (i1 + 1) V3362 ⟨by omega, by omega, trivial⟩ (by show (2147483647 - (i1 + 1)).toNat < (2147483647 - i1).toNat; omega)
    ·
      have q3363 := h3217.2.2.1 (by omega)
      refine GO.goto (tgt := 152) dX12_worksGo_32 (by decide) ?_
      refine GO.iinc (X := i1) (n := 1) (Y := i1 + 1) (ls1 := [some (.ref x), some (ti (i1 + 1)), none]) dX12_worksGo_152 rfl rfl rfl rfl ?_
      refine GO.goto (tgt := 2) dX12_worksGo_155 (by decide) ?_
      exact ih3026 (i1 + 1) Wi1 ⟨by omega, by omega, trivial⟩ (by show (2147483647 - (i1 + 1)).toNat < (2147483647 - i1).toNat; omega)

set_option maxHeartbeats 1000000 in
theorem t_X12_goesHome {K : Kmap} {V : Vmap} {x : Nat} {p0 : Int} (h_x : K x = some (0, 11)) (r_p0 : ir p0) (q_0 : p0 ≥ 0) (q_1 : p0 ≤ 59) : MC mX12_goesHome K V [.ref x, ti p0] (VS K (fun V1 => (True) ∧ (ar 19 V1 x = updf (ar 19 V x) (p0).toNat 0))) := by
  refine MC.start 0 (by decide +kernel) rfl rfl rfl (ls0 := [some (.ref x), some (ti p0)]) rfl ?_
  refine GO.useWT (fun hW1 => ?_)
  have ak2 := hW1.arr h_x 19 21 (by decide) rfl (by decide)
  refine GO.aload_n dX12_goesHome_0 rfl rfl ?_
  refine GO.aload_n dX12_goesHome_1 rfl rfl ?_
  refine GO.getL h_x fl_RX12_673 rfl rfl dX12_goesHome_2 ?_
  refine GO.anyL (fun z3 => ?_)
  refine GO.aload_n dX12_goesHome_5 rfl rfl ?_
  refine GO.getA (n := 60) h_x fl_RX12_53 rfl rfl rfl rfl dX12_goesHome_6 (fun hv5 h4 => ?_)
  refine GO.iload_n dX12_goesHome_9 rfl rfl ?_
  have q6 : -2147483648 ≤ p0 ∧ p0 ≤ 2147483647 := r_p0
  refine GO.iald (t := 21) rfl rfl h4 r_p0 (by omega) (by omega) dX12_goesHome_10 (fun l7 u8 => ?_)
  refine GO.i2l dX12_goesHome_11 ?_
  refine GO.anyL (fun z9 => ?_)
  refine GO.ladd dX12_goesHome_12 ?_
  refine GO.anyL (fun z10 => ?_)
  refine GO.putL h_x fp_RX12_673 rfl (by decide +kernel) dX12_goesHome_13 (fun V12 e11 => ?_)
  have ak13 := tk_fld e11 ak2 h_x (by decide) (rfl : ar 19 V x = ar 19 V x)
  refine GO.aload_n dX12_goesHome_16 rfl rfl ?_
  refine GO.getRaw h_x fl_RX12_53 (Eq.trans (uq_ne e11 (Or.inr (by decide))) hv5) dX12_goesHome_17 ?_
  refine GO.iload_n dX12_goesHome_20 rfl rfl ?_
  refine GO.iconst dX12_goesHome_21 ?_
  refine GO.iast (t := 21) rfl rfl (by decide +kernel) h4 r_p0 (by omega) (by omega) (ir_c rfl) (by decide) (by decide) dX12_goesHome_22 (fun V17 e16 => ?_)
  have ak18 := tk_put e16 ak13.1 h_x (vq_of (Eq.trans (uq_ne e11 (Or.inr (by decide))) hv5)) (ir_c rfl) ak13.2
  exact GO.retv rfl rfl dX12_goesHome_23 ⟨rfl, rfl, ⟨trivial, ak18.2⟩⟩

set_option maxHeartbeats 8000000 in
theorem t_X12_burns {K : Kmap} {V : Vmap} {x : Nat} {p0 : Int} (h_x : K x = some (0, 11)) (r_p0 : ir p0) (q_0 : p0 ≥ 0) (q_1 : p0 ≤ 59) : MC mX12_burns K V [.ref x, ti p0] (VS K (fun V1 => (True) ∧ (MBU V V1 x p0))) := by
  refine MC.start 4 (by decide +kernel) rfl rfl rfl (ls0 := [some (.ref x), some (ti p0), none, none, none, none]) rfl ?_
  refine GO.useWT (fun hW1 => ?_)
  have ak2 := hW1.arr h_x 19 21 (by decide) rfl (by decide)
  have ak3 := hW1.arr h_x 20 22 (by decide) rfl (by decide)
  have ak4 := hW1.arr h_x 22 24 (by decide) rfl (by decide)
  have ak5 := hW1.arr h_x 23 25 (by decide) rfl (by decide)
  refine GO.useWT (fun hW_0 => ?_)
  refine GO.aload_n dX12_burns_0 rfl rfl ?_
  refine GO.getA (n := 60) h_x fl_RX12_53 rfl rfl rfl rfl dX12_burns_1 (fun hv7 h6 => ?_)
  refine GO.iload_n dX12_burns_4 rfl rfl ?_
  have q8 : -2147483648 ≤ p0 ∧ p0 ≤ 2147483647 := r_p0
  refine GO.iald (t := 21) rfl rfl h6 r_p0 (by omega) (by omega) dX12_burns_5 (fun l9 u10 => ?_)
  refine GO.bipush dX12_burns_6 rfl ?_
  refine GO.iadd dX12_burns_8 ?_
  refine GO.bipush dX12_burns_9 rfl ?_
  refine GO.idivP dX12_burns_11 ⟨by omega, by omega⟩ (ir_c rfl) (by omega) (by omega) ?_
  refine GO.aload_n dX12_burns_12 rfl rfl ?_
  refine GO.aload_n dX12_burns_13 rfl rfl ?_
  refine GO.getI h_x fl_RX12_396 rfl rfl dX12_burns_14 (fun l11 u12 => ?_)
  refine GO.callV (ci := 11) (N := mX12_isDark) dX12_burns_17 (RX12, TX12, 151) rfl gV_RX12_582 h_x (t_X12_isDark h_x vi_ir) rfl [ti (((vi V (vq V x 19) (p0).toNat) + 9) / 10)] rfl rfl (Nat.le_of_ble_eq_true rfl) rfl (k_ip fun X13 r14 h15 => ?_)
  have raw_isDark := h15.2.2.2
  have rw17 := h15.2.2.2
  refine GO.if_eq (tgt := 27) dX12_burns_20 (by decide) r14 (fun c16 => ?_) (fun c16 => ?_)
  ·
    refine GO.iconst dX12_burns_27 ?_
    refine GO.imul dX12_burns_28 ?_
    refine GO.name (fun z17 hz18 => ?_)
    refine GO.istore_n (ls1 := [some (.ref x), some (ti p0), some (ti z17), none, none, none]) dX12_burns_29 rfl rfl rfl ?_
    have hnd : z17 = z17 := rfl
    refine GO.iload_n dX12_burns_30 rfl rfl ?_
    refine GO.aload_n dX12_burns_31 rfl rfl ?_
    refine GO.getA (n := 60) h_x fl_RX12_56 rfl rfl rfl rfl dX12_burns_32 (fun hv20 h19 => ?_)
    refine GO.iload_n dX12_burns_35 rfl rfl ?_
    refine GO.iald (t := 22) rfl rfl h19 r_p0 (by omega) (by omega) dX12_burns_36 (fun _ _ => ?_)
    refine GO.icmp_ge (tgt := 44) dX12_burns_37 (by decide) ⟨by omega, by omega⟩ vi_ir (fun c21 => ?_) (fun c21 => ?_)
    ·
      refine GO.aload_n dX12_burns_44 rfl rfl ?_
      refine GO.getRaw h_x fl_RX12_56 hv20 dX12_burns_45 ?_
      refine GO.iload_n dX12_burns_48 rfl rfl ?_
      refine GO.iald (t := 22) rfl rfl h19 r_p0 (by omega) (by omega) dX12_burns_49 (fun _ _ => ?_)
      refine GO.name (fun z24 hz25 => ?_)
      have r26 : ir z24 := hz25 ▸ vi_ir
      refine GO.istore_n (ls1 := [some (.ref x), some (ti p0), some (ti z17), some (ti z24), none, none]) dX12_burns_50 rfl rfl rfl ?_
      have hnn : z24 = z24 := rfl
      refine GO.aload_n dX12_burns_51 rfl rfl ?_
      refine GO.getRaw h_x fl_RX12_56 hv20 dX12_burns_52 ?_
      refine GO.iload_n dX12_burns_55 rfl rfl ?_
      refine GO.aload_n dX12_burns_56 rfl rfl ?_
      refine GO.getRaw h_x fl_RX12_56 hv20 dX12_burns_57 ?_
      refine GO.iload_n dX12_burns_60 rfl rfl ?_
      refine GO.iald (t := 22) rfl rfl h19 r_p0 (by omega) (by omega) dX12_burns_61 (fun _ _ => ?_)
      refine GO.iload_n dX12_burns_62 rfl rfl ?_
      refine GO.isub dX12_burns_63 ?_
      have q32 : -2147483648 ≤ z24 ∧ z24 ≤ 2147483647 := r26
      have q33 : -2147483648 ≤ vi V (vq V x 20) (p0).toNat ∧ vi V (vq V x 20) (p0).toNat ≤ 2147483647 := vi_ir
      refine GO.iast (t := 22) rfl rfl (by decide +kernel) h19 r_p0 (by omega) (by omega) ⟨by omega, by omega⟩ (by omega) (by omega) dX12_burns_64 (fun V34 e31 => ?_)
      have ak35 := tk_oth e31 ak2 h_x h19 (by decide) (by decide) (rfl : ar 19 V x = ar 19 V x)
      have ak36 := tk_put e31 ak3 h_x (vq_of hv20) ⟨by omega, by omega⟩ (rfl : ar 20 V x = ar 20 V x)
      have ak37 := tk_oth e31 ak4 h_x h19 (by decide) (by decide) (rfl : ar 22 V x = ar 22 V x)
      have ak38 := tk_oth e31 ak5 h_x h19 (by decide) (by decide) (rfl : ar 23 V x = ar 23 V x)
      refine GO.aload_n dX12_burns_65 rfl rfl ?_
      refine GO.aload_n dX12_burns_66 rfl rfl ?_
      refine GO.getL h_x fl_RX12_654 rfl rfl dX12_burns_67 ?_
      refine GO.anyL (fun z39 => ?_)
      refine GO.iload_n dX12_burns_70 rfl rfl ?_
      refine GO.i2l dX12_burns_71 ?_
      refine GO.anyL (fun z40 => ?_)
      refine GO.ladd dX12_burns_72 ?_
      refine GO.anyL (fun z41 => ?_)
      refine GO.putL h_x fp_RX12_654 rfl (by decide +kernel) dX12_burns_73 (fun V43 e42 => ?_)
      have ak44 := tk_fld e42 ak35.1 h_x (by decide) ak35.2
      have ak45 := tk_fld e42 ak36.1 h_x (by decide) ak36.2
      have ak46 := tk_fld e42 ak37.1 h_x (by decide) ak37.2
      have ak47 := tk_fld e42 ak38.1 h_x (by decide) ak38.2
      refine GO.aload_n dX12_burns_76 rfl rfl ?_
      refine GO.getA (n := 60) h_x fl_RX12_62 rfl rfl rfl rfl dX12_burns_77 (fun hv49 h48 => ?_)
      refine GO.iload_n dX12_burns_80 rfl rfl ?_
      refine GO.iload_n dX12_burns_81 rfl rfl ?_
      refine GO.iload_n dX12_burns_82 rfl rfl ?_
      refine GO.icmp_ge (tgt := 97) dX12_burns_83 (by decide) r26 ⟨by omega, by omega⟩ (fun c50 => ?_) (fun c50 => ?_)
      ·
        refine GO.iconst dX12_burns_97 ?_
        refine GO.iast (t := 24) rfl rfl (by decide +kernel) h48 r_p0 (by omega) (by omega) (ir_c rfl) (by decide) (by decide) dX12_burns_98 (fun V52 e51 => ?_)
        have ak53 := tk_oth e51 ak44.1 h_x h48 (by decide) (by decide) ak44.2
        have ak54 := tk_oth e51 ak45.1 h_x h48 (by decide) (by decide) ak45.2
        have ak55 := tk_put e51 ak46.1 h_x (vq_of hv49) (ir_c rfl) ak46.2
        have ak56 := tk_oth e51 ak47.1 h_x h48 (by decide) (by decide) ak47.2
        have hy9 := upd2_int e51 (by first | assumption | exact ir_c rfl)
        refine GO.aload_n dX12_burns_99 rfl rfl ?_
        refine GO.getRaw h_x fl_RX12_62 (Eq.trans (uq_ne e51 (Or.inl (K_ne h_x h48 (by decide)))) hv49) dX12_burns_100 ?_
        refine GO.iload_n dX12_burns_103 rfl rfl ?_
        refine GO.iald (t := 24) rfl rfl h48 r_p0 (by omega) (by omega) dX12_burns_104 (fun _ _ => ?_)
        refine GO.bipush dX12_burns_105 rfl ?_
        refine GO.icmp_ne (tgt := 115) dX12_burns_107 (by decide) vi_ir (ir_c rfl) (fun c60 => ?_) (fun c60 => ?_)
        ·
          refine GO.aload_n dX12_burns_115 rfl rfl ?_
          refine GO.getRaw h_x fl_RX12_53 (Eq.trans (uq_ne e51 (Or.inl (K_ne h_x h48 (by decide)))) (Eq.trans (uq_ne e42 (Or.inr (by decide))) (Eq.trans (uq_ne e31 (Or.inl (K_ne h_x h19 (by decide)))) hv7))) dX12_burns_116 ?_
          refine GO.iload_n dX12_burns_119 rfl rfl ?_
          refine GO.iald (t := 21) rfl rfl h6 r_p0 (by omega) (by omega) dX12_burns_120 (fun l63 u64 => ?_)
          have e67 : vi V34 (vq V x 19) (p0).toNat = vi V (vq V x 19) (p0).toNat := vi_up e31 (Or.inl (K_ne h6 h19 (by decide)))
          have e66 : vi V43 (vq V x 19) (p0).toNat = vi V34 (vq V x 19) (p0).toNat := vi_up e42 (Or.inl (K_ne h6 h_x (by decide)))
          have e65 : vi V52 (vq V x 19) (p0).toNat = vi V43 (vq V x 19) (p0).toNat := vi_up e51 (Or.inl (K_ne h6 h48 (by decide)))
          refine GO.bipush dX12_burns_121 rfl ?_
          refine GO.iadd dX12_burns_123 ?_
          refine GO.bipush dX12_burns_124 rfl ?_
          refine GO.idivP dX12_burns_126 ⟨by omega, by omega⟩ (ir_c rfl) (by omega) (by omega) ?_
          refine GO.name (fun z68 hz69 => ?_)
          refine GO.istore (ls1 := [some (.ref x), some (ti p0), some (ti z17), some (ti z24), some (ti z68), none]) dX12_burns_127 rfl rfl ?_
          refine GO.aload_n dX12_burns_129 rfl rfl ?_
          refine GO.aload_n dX12_burns_130 rfl rfl ?_
          refine GO.getI h_x fl_RX12_396 rfl rfl dX12_burns_131 (fun l70 u71 => ?_)
          have e74 : vi V34 x 2 = vi V x 2 := vi_up e31 (Or.inl (K_ne h_x h19 (by decide)))
          have e73 : vi V43 x 2 = vi V34 x 2 := vi_up e42 (Or.inr (by decide))
          have e72 : vi V52 x 2 = vi V43 x 2 := vi_up e51 (Or.inl (K_ne h_x h48 (by decide)))
          refine GO.useFR (fun hFs => ?_)
          first | (have hP19 : vi V52 (vq V x 19) (p0).toNat = 0 := by rw [← vq_eq (hFs _ _ 19 h_x h_x (by decide +kernel))]; exact (congrFun rw112 _).trans updf_at) | (have hP19 : vi V52 (vq V x 19) (p0).toNat = vi V (vq V x 19) (p0).toNat := by omega) | skip
          have hd2 : vi V52 x 2 = vi V x 2 := vi_fr hFs h_x h_x (by decide +kernel)
          have hd3 : vi V52 x 3 = vi V x 3 := vi_fr hFs h_x h_x (by decide +kernel)
          have hd4 : vi V52 x 4 = vi V x 4 := vi_fr hFs h_x h_x (by decide +kernel)
          refine GO.callV (ci := 11) (N := mX12_isDark) dX12_burns_134 (RX12, TX12, 151) rfl gV_RX12_582 h_x (t_X12_isDark h_x vi_ir) rfl [] rfl rfl (Nat.le_of_ble_eq_true rfl) rfl (k_ip fun X75 r76 h77 => ?_)
          have raw_isDark := h77.2.2.2
          have rw134 := h77.2.2.2
          rw [hd2, hd3, hd4] at rw134
          have hdd := rw134.trans rw17.symm
          refine GO.if_eq (tgt := 144) dX12_burns_137 (by decide) r76 (fun c78 => ?_) (fun c78 => ?_)
          ·
            refine GO.iconst dX12_burns_144 ?_
            refine GO.istore (ls1 := [some (.ref x), some (ti p0), some (ti z17), some (ti z24), some (ti z68), some (ti 0)]) dX12_burns_145 rfl rfl ?_
            refine GO.aload_n dX12_burns_147 rfl rfl ?_
            refine GO.getA (n := 240) h_x fl_RX12_65 rfl rfl rfl rfl dX12_burns_148 (fun hv80 h79 => ?_)
            refine GO.iconst dX12_burns_151 ?_
            refine GO.iload_n dX12_burns_152 rfl rfl ?_
            refine GO.imul dX12_burns_153 ?_
            refine GO.iload dX12_burns_154 rfl ?_
            refine GO.iadd dX12_burns_156 ?_
            refine GO.aload_n dX12_burns_157 rfl rfl ?_
            refine GO.getRaw h_x fl_RX12_65 hv80 dX12_burns_158 ?_
            refine GO.iconst dX12_burns_161 ?_
            refine GO.iload_n dX12_burns_162 rfl rfl ?_
            refine GO.imul dX12_burns_163 ?_
            refine GO.iload dX12_burns_164 rfl ?_
            refine GO.iadd dX12_burns_166 ?_
            refine GO.iald (t := 25) rfl rfl h79 ⟨by omega, by omega⟩ (by omega) (by omega) dX12_burns_167 (fun _ _ => ?_)
            have e23 := ak56.2
            refine GO.iload dX12_burns_168 rfl ?_
            refine GO.iadd dX12_burns_170 ?_
            refine GO.norm2 (fun z86 r87 hn88 hw89 => ?_)
            refine GO.iast (t := 25) rfl rfl (by decide +kernel) h79 ⟨by omega, by omega⟩ (by omega) (by omega) r87 (r87).1 (r87).2 dX12_burns_171 (fun V91 e90 => ?_)
            have ak92 := tk_oth e90 ak53.1 h_x h79 (by decide) (by decide) ak53.2
            have ak93 := tk_oth e90 ak54.1 h_x h79 (by decide) (by decide) ak54.2
            have ak94 := tk_oth e90 ak55.1 h_x h79 (by decide) (by decide) ak55.2
            have ak95 := tk_put e90 ak56.1 h_x (vq_of hv80) r87 ak56.2
            refine GO.aload_n dX12_burns_172 rfl rfl ?_
            refine GO.aload_n dX12_burns_173 rfl rfl ?_
            refine GO.getL h_x fl_RX12_679 rfl rfl dX12_burns_174 ?_
            refine GO.anyL (fun z96 => ?_)
            refine GO.iload dX12_burns_177 rfl ?_
            refine GO.i2l dX12_burns_179 ?_
            refine GO.anyL (fun z97 => ?_)
            refine GO.ladd dX12_burns_180 ?_
            refine GO.anyL (fun z98 => ?_)
            refine GO.putL h_x fp_RX12_679 rfl (by decide +kernel) dX12_burns_181 (fun V100 e99 => ?_)
            have ak101 := tk_fld e99 ak92.1 h_x (by decide) ak92.2
            have ak102 := tk_fld e99 ak93.1 h_x (by decide) ak93.2
            have ak103 := tk_fld e99 ak94.1 h_x (by decide) ak94.2
            have ak104 := tk_fld e99 ak95.1 h_x (by decide) ak95.2
            refine GO.useFR (fun hFs => ?_)
            exact GO.retv rfl rfl dX12_burns_184 ⟨rfl, rfl, ⟨trivial, (by first | exact MBU.mk (Q := 0) hnd hnn rw17 ⟨(by omega), (by omega)⟩ (by omega) (by omega) (by first | assumption | exact (wr_id ⟨by omega, by omega⟩).symm) (Or.inr ⟨(by omega), rfl⟩) (Or.inl ⟨(by omega), hP19, ak101.2⟩) ak102.2 ak103.2 (by omega) (by omega) (by first | assumption | exact (wr_id ⟨by omega, by omega⟩).symm) (by assumption) (congrFun e23 _) (by omega) ak104.2 (arq hFs ext.rf h_x (hW_0.ref h_x (j := 21) (Nat.le_of_ble_eq_true rfl) rfl).2 (by decide +kernel) (by decide +kernel)) (arq hFs ext.rf h_x (hW_0.ref h_x (j := 28) (Nat.le_of_ble_eq_true rfl) rfl).2 (by decide +kernel) (by decide +kernel)) | exact (by exfalso; omega))⟩⟩
          ·
            refine GO.iconst dX12_burns_140 ?_
            refine GO.goto (tgt := 145) dX12_burns_141 (by decide) ?_
            refine GO.istore (ls1 := [some (.ref x), some (ti p0), some (ti z17), some (ti z24), some (ti z68), some (ti 3)]) dX12_burns_145 rfl rfl ?_
            refine GO.aload_n dX12_burns_147 rfl rfl ?_
            refine GO.getA (n := 240) h_x fl_RX12_65 rfl rfl rfl rfl dX12_burns_148 (fun hv106 h105 => ?_)
            refine GO.iconst dX12_burns_151 ?_
            refine GO.iload_n dX12_burns_152 rfl rfl ?_
            refine GO.imul dX12_burns_153 ?_
            refine GO.iload dX12_burns_154 rfl ?_
            refine GO.iadd dX12_burns_156 ?_
            refine GO.aload_n dX12_burns_157 rfl rfl ?_
            refine GO.getRaw h_x fl_RX12_65 hv106 dX12_burns_158 ?_
            refine GO.iconst dX12_burns_161 ?_
            refine GO.iload_n dX12_burns_162 rfl rfl ?_
            refine GO.imul dX12_burns_163 ?_
            refine GO.iload dX12_burns_164 rfl ?_
            refine GO.iadd dX12_burns_166 ?_
            refine GO.iald (t := 25) rfl rfl h105 ⟨by omega, by omega⟩ (by omega) (by omega) dX12_burns_167 (fun _ _ => ?_)
            have e23 := ak56.2
            refine GO.iload dX12_burns_168 rfl ?_
            refine GO.iadd dX12_burns_170 ?_
            refine GO.norm2 (fun z112 r113 hn114 hw115 => ?_)
            refine GO.iast (t := 25) rfl rfl (by decide +kernel) h105 ⟨by omega, by omega⟩ (by omega) (by omega) r113 (r113).1 (r113).2 dX12_burns_171 (fun V117 e116 => ?_)
            have ak118 := tk_oth e116 ak53.1 h_x h105 (by decide) (by decide) ak53.2
            have ak119 := tk_oth e116 ak54.1 h_x h105 (by decide) (by decide) ak54.2
            have ak120 := tk_oth e116 ak55.1 h_x h105 (by decide) (by decide) ak55.2
            have ak121 := tk_put e116 ak56.1 h_x (vq_of hv106) r113 ak56.2
            refine GO.aload_n dX12_burns_172 rfl rfl ?_
            refine GO.aload_n dX12_burns_173 rfl rfl ?_
            refine GO.getL h_x fl_RX12_679 rfl rfl dX12_burns_174 ?_
            refine GO.anyL (fun z122 => ?_)
            refine GO.iload dX12_burns_177 rfl ?_
            refine GO.i2l dX12_burns_179 ?_
            refine GO.anyL (fun z123 => ?_)
            refine GO.ladd dX12_burns_180 ?_
            refine GO.anyL (fun z124 => ?_)
            refine GO.putL h_x fp_RX12_679 rfl (by decide +kernel) dX12_burns_181 (fun V126 e125 => ?_)
            have ak127 := tk_fld e125 ak118.1 h_x (by decide) ak118.2
            have ak128 := tk_fld e125 ak119.1 h_x (by decide) ak119.2
            have ak129 := tk_fld e125 ak120.1 h_x (by decide) ak120.2
            have ak130 := tk_fld e125 ak121.1 h_x (by decide) ak121.2
            refine GO.useFR (fun hFs => ?_)
            exact GO.retv rfl rfl dX12_burns_184 ⟨rfl, rfl, ⟨trivial, (by first | exact MBU.mk (Q := 0) hnd hnn rw17 ⟨(by omega), (by omega)⟩ (by omega) (by omega) (by first | assumption | exact (wr_id ⟨by omega, by omega⟩).symm) (Or.inr ⟨(by omega), rfl⟩) (Or.inl ⟨(by omega), hP19, ak127.2⟩) ak128.2 ak129.2 (by omega) (by omega) (by first | assumption | exact (wr_id ⟨by omega, by omega⟩).symm) (by assumption) (congrFun e23 _) (by omega) ak130.2 (arq hFs ext.rf h_x (hW_0.ref h_x (j := 21) (Nat.le_of_ble_eq_true rfl) rfl).2 (by decide +kernel) (by decide +kernel)) (arq hFs ext.rf h_x (hW_0.ref h_x (j := 28) (Nat.le_of_ble_eq_true rfl) rfl).2 (by decide +kernel) (by decide +kernel)) | exact (by exfalso; omega))⟩⟩
        ·
          have e19h := ak53.2
          refine GO.aload_n dX12_burns_110 rfl rfl ?_
          refine GO.iload_n dX12_burns_111 rfl rfl ?_
          refine GO.callV (ci := 11) (N := mX12_goesHome) dX12_burns_112 (RX12, TX12, 151) rfl gV_RX12_676 h_x (t_X12_goesHome h_x r_p0 (by omega) (by omega)) rfl [] rfl rfl (Nat.le_of_ble_eq_true rfl) rfl (k_vs fun V133 h132 hF131 => ?_)
          have ak134 := tk_fr hF131 ak54.1 h_x (by decide +kernel) (by decide +kernel) ak54.2
          have ak135 := tk_fr hF131 ak55.1 h_x (by decide +kernel) (by decide +kernel) ak55.2
          have ak136 := tk_fr hF131 ak56.1 h_x (by decide +kernel) (by decide +kernel) ak56.2
          refine GO.useWT (fun hW137 => ?_)
          have ak138 := hW137.arr h_x 19 21 (by decide) rfl (by decide)
          have raw_goesHome := h132.2
          have rw112 := h132.2
          refine GO.aload_n dX12_burns_115 rfl rfl ?_
          refine GO.getRaw h_x fl_RX12_53 (Eq.trans (hF131 _ _ _ h_x h_x (by decide +kernel)) (Eq.trans (uq_ne e51 (Or.inl (K_ne h_x h48 (by decide)))) (Eq.trans (uq_ne e42 (Or.inr (by decide))) (Eq.trans (uq_ne e31 (Or.inl (K_ne h_x h19 (by decide)))) hv7)))) dX12_burns_116 ?_
          refine GO.iload_n dX12_burns_119 rfl rfl ?_
          refine GO.iald (t := 21) rfl rfl h6 r_p0 (by omega) (by omega) dX12_burns_120 (fun l141 u142 => ?_)
          refine GO.bipush dX12_burns_121 rfl ?_
          refine GO.iadd dX12_burns_123 ?_
          refine GO.bipush dX12_burns_124 rfl ?_
          refine GO.idivP dX12_burns_126 ⟨by omega, by omega⟩ (ir_c rfl) (by omega) (by omega) ?_
          refine GO.name (fun z144 hz145 => ?_)
          refine GO.istore (ls1 := [some (.ref x), some (ti p0), some (ti z17), some (ti z24), some (ti z144), none]) dX12_burns_127 rfl rfl ?_
          refine GO.aload_n dX12_burns_129 rfl rfl ?_
          refine GO.aload_n dX12_burns_130 rfl rfl ?_
          refine GO.getI h_x fl_RX12_396 rfl rfl dX12_burns_131 (fun l146 u147 => ?_)
          have e151 : vi V34 x 2 = vi V x 2 := vi_up e31 (Or.inl (K_ne h_x h19 (by decide)))
          have e150 : vi V43 x 2 = vi V34 x 2 := vi_up e42 (Or.inr (by decide))
          have e149 : vi V52 x 2 = vi V43 x 2 := vi_up e51 (Or.inl (K_ne h_x h48 (by decide)))
          have e148 : vi V133 x 2 = vi V52 x 2 := vi_fr hF131 h_x h_x (by decide +kernel)
          refine GO.useFR (fun hFs => ?_)
          first | (have hP19 : vi V133 (vq V x 19) (p0).toNat = 0 := by rw [← vq_eq (hFs _ _ 19 h_x h_x (by decide +kernel))]; exact (congrFun rw112 _).trans updf_at) | (have hP19 : vi V133 (vq V x 19) (p0).toNat = vi V (vq V x 19) (p0).toNat := by omega) | skip
          have hd2 : vi V133 x 2 = vi V x 2 := vi_fr hFs h_x h_x (by decide +kernel)
          have hd3 : vi V133 x 3 = vi V x 3 := vi_fr hFs h_x h_x (by decide +kernel)
          have hd4 : vi V133 x 4 = vi V x 4 := vi_fr hFs h_x h_x (by decide +kernel)
          refine GO.callV (ci := 11) (N := mX12_isDark) dX12_burns_134 (RX12, TX12, 151) rfl gV_RX12_582 h_x (t_X12_isDark h_x vi_ir) rfl [] rfl rfl (Nat.le_of_ble_eq_true rfl) rfl (k_ip fun X152 r153 h154 => ?_)
          have raw_isDark := h154.2.2.2
          have rw134 := h154.2.2.2
          rw [hd2, hd3, hd4] at rw134
          have hdd := rw134.trans rw17.symm
          refine GO.if_eq (tgt := 144) dX12_burns_137 (by decide) r153 (fun c155 => ?_) (fun c155 => ?_)
          ·
            refine GO.iconst dX12_burns_144 ?_
            refine GO.istore (ls1 := [some (.ref x), some (ti p0), some (ti z17), some (ti z24), some (ti z144), some (ti 0)]) dX12_burns_145 rfl rfl ?_
            refine GO.aload_n dX12_burns_147 rfl rfl ?_
            refine GO.getA (n := 240) h_x fl_RX12_65 rfl rfl rfl rfl dX12_burns_148 (fun hv157 h156 => ?_)
            refine GO.iconst dX12_burns_151 ?_
            refine GO.iload_n dX12_burns_152 rfl rfl ?_
            refine GO.imul dX12_burns_153 ?_
            refine GO.iload dX12_burns_154 rfl ?_
            refine GO.iadd dX12_burns_156 ?_
            refine GO.aload_n dX12_burns_157 rfl rfl ?_
            refine GO.getRaw h_x fl_RX12_65 hv157 dX12_burns_158 ?_
            refine GO.iconst dX12_burns_161 ?_
            refine GO.iload_n dX12_burns_162 rfl rfl ?_
            refine GO.imul dX12_burns_163 ?_
            refine GO.iload dX12_burns_164 rfl ?_
            refine GO.iadd dX12_burns_166 ?_
            refine GO.iald (t := 25) rfl rfl h156 ⟨by omega, by omega⟩ (by omega) (by omega) dX12_burns_167 (fun _ _ => ?_)
            have e23 := ak136.2
            refine GO.iload dX12_burns_168 rfl ?_
            refine GO.iadd dX12_burns_170 ?_
            refine GO.norm2 (fun z164 r165 hn166 hw167 => ?_)
            refine GO.iast (t := 25) rfl rfl (by decide +kernel) h156 ⟨by omega, by omega⟩ (by omega) (by omega) r165 (r165).1 (r165).2 dX12_burns_171 (fun V169 e168 => ?_)
            have ak170 := tk_oth e168 ak138 h_x h156 (by decide) (by decide) (rfl : ar 19 V133 x = ar 19 V133 x)
            have ak171 := tk_oth e168 ak134.1 h_x h156 (by decide) (by decide) ak134.2
            have ak172 := tk_oth e168 ak135.1 h_x h156 (by decide) (by decide) ak135.2
            have ak173 := tk_put e168 ak136.1 h_x (vq_of hv157) r165 ak136.2
            refine GO.aload_n dX12_burns_172 rfl rfl ?_
            refine GO.aload_n dX12_burns_173 rfl rfl ?_
            refine GO.getL h_x fl_RX12_679 rfl rfl dX12_burns_174 ?_
            refine GO.anyL (fun z174 => ?_)
            refine GO.iload dX12_burns_177 rfl ?_
            refine GO.i2l dX12_burns_179 ?_
            refine GO.anyL (fun z175 => ?_)
            refine GO.ladd dX12_burns_180 ?_
            refine GO.anyL (fun z176 => ?_)
            refine GO.putL h_x fp_RX12_679 rfl (by decide +kernel) dX12_burns_181 (fun V178 e177 => ?_)
            have ak179 := tk_fld e177 ak170.1 h_x (by decide) ak170.2
            have ak180 := tk_fld e177 ak171.1 h_x (by decide) ak171.2
            have ak181 := tk_fld e177 ak172.1 h_x (by decide) ak172.2
            have ak182 := tk_fld e177 ak173.1 h_x (by decide) ak173.2
            refine GO.useFR (fun hFs => ?_)
            exact GO.retv rfl rfl dX12_burns_184 ⟨rfl, rfl, ⟨trivial, (by first | exact MBU.mk (Q := 0) hnd hnn rw17 ⟨(by omega), (by omega)⟩ (by omega) (by omega) (by first | assumption | exact (wr_id ⟨by omega, by omega⟩).symm) (Or.inr ⟨(by omega), rfl⟩) (Or.inl ⟨(by omega), hP19, ak179.2⟩) ak180.2 ak181.2 (by omega) (by omega) (by first | assumption | exact (wr_id ⟨by omega, by omega⟩).symm) (by assumption) (congrFun e23 _) (by omega) ak182.2 (arq hFs ext.rf h_x (hW_0.ref h_x (j := 21) (Nat.le_of_ble_eq_true rfl) rfl).2 (by decide +kernel) (by decide +kernel)) (arq hFs ext.rf h_x (hW_0.ref h_x (j := 28) (Nat.le_of_ble_eq_true rfl) rfl).2 (by decide +kernel) (by decide +kernel)) | exact MBU.mk (Q := 0) hnd hnn rw17 ⟨(by omega), (by omega)⟩ (by omega) (by omega) (by first | assumption | exact (wr_id ⟨by omega, by omega⟩).symm) (Or.inr ⟨(by omega), rfl⟩) (Or.inr ⟨(by omega), hP19, ((ak179.2).trans (rw112.trans (congrArg (fun f => updf f _ 0) e19h)))⟩) ak180.2 ak181.2 (by omega) (by omega) (by first | assumption | exact (wr_id ⟨by omega, by omega⟩).symm) (by assumption) (congrFun e23 _) (by omega) ak182.2 (arq hFs ext.rf h_x (hW_0.ref h_x (j := 21) (Nat.le_of_ble_eq_true rfl) rfl).2 (by decide +kernel) (by decide +kernel)) (arq hFs ext.rf h_x (hW_0.ref h_x (j := 28) (Nat.le_of_ble_eq_true rfl) rfl).2 (by decide +kernel) (by decide +kernel)) | exact (by exfalso; omega))⟩⟩
          ·
            refine GO.iconst dX12_burns_140 ?_
            refine GO.goto (tgt := 145) dX12_burns_141 (by decide) ?_
            refine GO.istore (ls1 := [some (.ref x), some (ti p0), some (ti z17), some (ti z24), some (ti z144), some (ti 3)]) dX12_burns_145 rfl rfl ?_
            refine GO.aload_n dX12_burns_147 rfl rfl ?_
            refine GO.getA (n := 240) h_x fl_RX12_65 rfl rfl rfl rfl dX12_burns_148 (fun hv184 h183 => ?_)
            refine GO.iconst dX12_burns_151 ?_
            refine GO.iload_n dX12_burns_152 rfl rfl ?_
            refine GO.imul dX12_burns_153 ?_
            refine GO.iload dX12_burns_154 rfl ?_
            refine GO.iadd dX12_burns_156 ?_
            refine GO.aload_n dX12_burns_157 rfl rfl ?_
            refine GO.getRaw h_x fl_RX12_65 hv184 dX12_burns_158 ?_
            refine GO.iconst dX12_burns_161 ?_
            refine GO.iload_n dX12_burns_162 rfl rfl ?_
            refine GO.imul dX12_burns_163 ?_
            refine GO.iload dX12_burns_164 rfl ?_
            refine GO.iadd dX12_burns_166 ?_
            refine GO.iald (t := 25) rfl rfl h183 ⟨by omega, by omega⟩ (by omega) (by omega) dX12_burns_167 (fun _ _ => ?_)
            have e23 := ak136.2
            refine GO.iload dX12_burns_168 rfl ?_
            refine GO.iadd dX12_burns_170 ?_
            refine GO.norm2 (fun z191 r192 hn193 hw194 => ?_)
            refine GO.iast (t := 25) rfl rfl (by decide +kernel) h183 ⟨by omega, by omega⟩ (by omega) (by omega) r192 (r192).1 (r192).2 dX12_burns_171 (fun V196 e195 => ?_)
            have ak197 := tk_oth e195 ak138 h_x h183 (by decide) (by decide) (rfl : ar 19 V133 x = ar 19 V133 x)
            have ak198 := tk_oth e195 ak134.1 h_x h183 (by decide) (by decide) ak134.2
            have ak199 := tk_oth e195 ak135.1 h_x h183 (by decide) (by decide) ak135.2
            have ak200 := tk_put e195 ak136.1 h_x (vq_of hv184) r192 ak136.2
            refine GO.aload_n dX12_burns_172 rfl rfl ?_
            refine GO.aload_n dX12_burns_173 rfl rfl ?_
            refine GO.getL h_x fl_RX12_679 rfl rfl dX12_burns_174 ?_
            refine GO.anyL (fun z201 => ?_)
            refine GO.iload dX12_burns_177 rfl ?_
            refine GO.i2l dX12_burns_179 ?_
            refine GO.anyL (fun z202 => ?_)
            refine GO.ladd dX12_burns_180 ?_
            refine GO.anyL (fun z203 => ?_)
            refine GO.putL h_x fp_RX12_679 rfl (by decide +kernel) dX12_burns_181 (fun V205 e204 => ?_)
            have ak206 := tk_fld e204 ak197.1 h_x (by decide) ak197.2
            have ak207 := tk_fld e204 ak198.1 h_x (by decide) ak198.2
            have ak208 := tk_fld e204 ak199.1 h_x (by decide) ak199.2
            have ak209 := tk_fld e204 ak200.1 h_x (by decide) ak200.2
            refine GO.useFR (fun hFs => ?_)
            exact GO.retv rfl rfl dX12_burns_184 ⟨rfl, rfl, ⟨trivial, (by first | exact MBU.mk (Q := 0) hnd hnn rw17 ⟨(by omega), (by omega)⟩ (by omega) (by omega) (by first | assumption | exact (wr_id ⟨by omega, by omega⟩).symm) (Or.inr ⟨(by omega), rfl⟩) (Or.inl ⟨(by omega), hP19, ak206.2⟩) ak207.2 ak208.2 (by omega) (by omega) (by first | assumption | exact (wr_id ⟨by omega, by omega⟩).symm) (by assumption) (congrFun e23 _) (by omega) ak209.2 (arq hFs ext.rf h_x (hW_0.ref h_x (j := 21) (Nat.le_of_ble_eq_true rfl) rfl).2 (by decide +kernel) (by decide +kernel)) (arq hFs ext.rf h_x (hW_0.ref h_x (j := 28) (Nat.le_of_ble_eq_true rfl) rfl).2 (by decide +kernel) (by decide +kernel)) | exact MBU.mk (Q := 0) hnd hnn rw17 ⟨(by omega), (by omega)⟩ (by omega) (by omega) (by first | assumption | exact (wr_id ⟨by omega, by omega⟩).symm) (Or.inr ⟨(by omega), rfl⟩) (Or.inr ⟨(by omega), hP19, ((ak206.2).trans (rw112.trans (congrArg (fun f => updf f _ 0) e19h)))⟩) ak207.2 ak208.2 (by omega) (by omega) (by first | assumption | exact (wr_id ⟨by omega, by omega⟩).symm) (by assumption) (congrFun e23 _) (by omega) ak209.2 (arq hFs ext.rf h_x (hW_0.ref h_x (j := 21) (Nat.le_of_ble_eq_true rfl) rfl).2 (by decide +kernel) (by decide +kernel)) (arq hFs ext.rf h_x (hW_0.ref h_x (j := 28) (Nat.le_of_ble_eq_true rfl) rfl).2 (by decide +kernel) (by decide +kernel)) | exact (by exfalso; omega))⟩⟩
      ·
        refine GO.aload_n dX12_burns_86 rfl rfl ?_
        refine GO.getRaw h_x fl_RX12_62 hv49 dX12_burns_87 ?_
        refine GO.iload_n dX12_burns_90 rfl rfl ?_
        refine GO.iald (t := 24) rfl rfl h48 r_p0 (by omega) (by omega) dX12_burns_91 (fun _ _ => ?_)
        have e22 := ak46.2
        refine GO.iconst dX12_burns_92 ?_
        refine GO.iadd dX12_burns_93 ?_
        refine GO.norm2 (fun z214 r215 hn216 hw217 => ?_)
        refine GO.goto (tgt := 98) dX12_burns_94 (by decide) ?_
        refine GO.iast (t := 24) rfl rfl (by decide +kernel) h48 r_p0 (by omega) (by omega) r215 (r215).1 (r215).2 dX12_burns_98 (fun V219 e218 => ?_)
        have ak220 := tk_oth e218 ak44.1 h_x h48 (by decide) (by decide) ak44.2
        have ak221 := tk_oth e218 ak45.1 h_x h48 (by decide) (by decide) ak45.2
        have ak222 := tk_put e218 ak46.1 h_x (vq_of hv49) r215 ak46.2
        have ak223 := tk_oth e218 ak47.1 h_x h48 (by decide) (by decide) ak47.2
        have hy9 := upd2_int e218 (by first | assumption | exact ir_c rfl)
        refine GO.aload_n dX12_burns_99 rfl rfl ?_
        refine GO.getRaw h_x fl_RX12_62 (Eq.trans (uq_ne e218 (Or.inl (K_ne h_x h48 (by decide)))) hv49) dX12_burns_100 ?_
        refine GO.iload_n dX12_burns_103 rfl rfl ?_
        refine GO.iald (t := 24) rfl rfl h48 r_p0 (by omega) (by omega) dX12_burns_104 (fun _ _ => ?_)
        refine GO.bipush dX12_burns_105 rfl ?_
        refine GO.icmp_ne (tgt := 115) dX12_burns_107 (by decide) vi_ir (ir_c rfl) (fun c227 => ?_) (fun c227 => ?_)
        ·
          refine GO.aload_n dX12_burns_115 rfl rfl ?_
          refine GO.getRaw h_x fl_RX12_53 (Eq.trans (uq_ne e218 (Or.inl (K_ne h_x h48 (by decide)))) (Eq.trans (uq_ne e42 (Or.inr (by decide))) (Eq.trans (uq_ne e31 (Or.inl (K_ne h_x h19 (by decide)))) hv7))) dX12_burns_116 ?_
          refine GO.iload_n dX12_burns_119 rfl rfl ?_
          refine GO.iald (t := 21) rfl rfl h6 r_p0 (by omega) (by omega) dX12_burns_120 (fun l230 u231 => ?_)
          have e234 : vi V34 (vq V x 19) (p0).toNat = vi V (vq V x 19) (p0).toNat := vi_up e31 (Or.inl (K_ne h6 h19 (by decide)))
          have e233 : vi V43 (vq V x 19) (p0).toNat = vi V34 (vq V x 19) (p0).toNat := vi_up e42 (Or.inl (K_ne h6 h_x (by decide)))
          have e232 : vi V219 (vq V x 19) (p0).toNat = vi V43 (vq V x 19) (p0).toNat := vi_up e218 (Or.inl (K_ne h6 h48 (by decide)))
          refine GO.bipush dX12_burns_121 rfl ?_
          refine GO.iadd dX12_burns_123 ?_
          refine GO.bipush dX12_burns_124 rfl ?_
          refine GO.idivP dX12_burns_126 ⟨by omega, by omega⟩ (ir_c rfl) (by omega) (by omega) ?_
          refine GO.name (fun z235 hz236 => ?_)
          refine GO.istore (ls1 := [some (.ref x), some (ti p0), some (ti z17), some (ti z24), some (ti z235), none]) dX12_burns_127 rfl rfl ?_
          refine GO.aload_n dX12_burns_129 rfl rfl ?_
          refine GO.aload_n dX12_burns_130 rfl rfl ?_
          refine GO.getI h_x fl_RX12_396 rfl rfl dX12_burns_131 (fun l237 u238 => ?_)
          have e241 : vi V34 x 2 = vi V x 2 := vi_up e31 (Or.inl (K_ne h_x h19 (by decide)))
          have e240 : vi V43 x 2 = vi V34 x 2 := vi_up e42 (Or.inr (by decide))
          have e239 : vi V219 x 2 = vi V43 x 2 := vi_up e218 (Or.inl (K_ne h_x h48 (by decide)))
          refine GO.useFR (fun hFs => ?_)
          first | (have hP19 : vi V219 (vq V x 19) (p0).toNat = 0 := by rw [← vq_eq (hFs _ _ 19 h_x h_x (by decide +kernel))]; exact (congrFun rw112 _).trans updf_at) | (have hP19 : vi V219 (vq V x 19) (p0).toNat = vi V (vq V x 19) (p0).toNat := by omega) | skip
          have hd2 : vi V219 x 2 = vi V x 2 := vi_fr hFs h_x h_x (by decide +kernel)
          have hd3 : vi V219 x 3 = vi V x 3 := vi_fr hFs h_x h_x (by decide +kernel)
          have hd4 : vi V219 x 4 = vi V x 4 := vi_fr hFs h_x h_x (by decide +kernel)
          refine GO.callV (ci := 11) (N := mX12_isDark) dX12_burns_134 (RX12, TX12, 151) rfl gV_RX12_582 h_x (t_X12_isDark h_x vi_ir) rfl [] rfl rfl (Nat.le_of_ble_eq_true rfl) rfl (k_ip fun X242 r243 h244 => ?_)
          have raw_isDark := h244.2.2.2
          have rw134 := h244.2.2.2
          rw [hd2, hd3, hd4] at rw134
          have hdd := rw134.trans rw17.symm
          refine GO.if_eq (tgt := 144) dX12_burns_137 (by decide) r243 (fun c245 => ?_) (fun c245 => ?_)
          ·
            refine GO.iconst dX12_burns_144 ?_
            refine GO.istore (ls1 := [some (.ref x), some (ti p0), some (ti z17), some (ti z24), some (ti z235), some (ti 0)]) dX12_burns_145 rfl rfl ?_
            refine GO.aload_n dX12_burns_147 rfl rfl ?_
            refine GO.getA (n := 240) h_x fl_RX12_65 rfl rfl rfl rfl dX12_burns_148 (fun hv247 h246 => ?_)
            refine GO.iconst dX12_burns_151 ?_
            refine GO.iload_n dX12_burns_152 rfl rfl ?_
            refine GO.imul dX12_burns_153 ?_
            refine GO.iload dX12_burns_154 rfl ?_
            refine GO.iadd dX12_burns_156 ?_
            refine GO.aload_n dX12_burns_157 rfl rfl ?_
            refine GO.getRaw h_x fl_RX12_65 hv247 dX12_burns_158 ?_
            refine GO.iconst dX12_burns_161 ?_
            refine GO.iload_n dX12_burns_162 rfl rfl ?_
            refine GO.imul dX12_burns_163 ?_
            refine GO.iload dX12_burns_164 rfl ?_
            refine GO.iadd dX12_burns_166 ?_
            refine GO.iald (t := 25) rfl rfl h246 ⟨by omega, by omega⟩ (by omega) (by omega) dX12_burns_167 (fun _ _ => ?_)
            have e23 := ak223.2
            refine GO.iload dX12_burns_168 rfl ?_
            refine GO.iadd dX12_burns_170 ?_
            refine GO.norm2 (fun z253 r254 hn255 hw256 => ?_)
            refine GO.iast (t := 25) rfl rfl (by decide +kernel) h246 ⟨by omega, by omega⟩ (by omega) (by omega) r254 (r254).1 (r254).2 dX12_burns_171 (fun V258 e257 => ?_)
            have ak259 := tk_oth e257 ak220.1 h_x h246 (by decide) (by decide) ak220.2
            have ak260 := tk_oth e257 ak221.1 h_x h246 (by decide) (by decide) ak221.2
            have ak261 := tk_oth e257 ak222.1 h_x h246 (by decide) (by decide) ak222.2
            have ak262 := tk_put e257 ak223.1 h_x (vq_of hv247) r254 ak223.2
            refine GO.aload_n dX12_burns_172 rfl rfl ?_
            refine GO.aload_n dX12_burns_173 rfl rfl ?_
            refine GO.getL h_x fl_RX12_679 rfl rfl dX12_burns_174 ?_
            refine GO.anyL (fun z263 => ?_)
            refine GO.iload dX12_burns_177 rfl ?_
            refine GO.i2l dX12_burns_179 ?_
            refine GO.anyL (fun z264 => ?_)
            refine GO.ladd dX12_burns_180 ?_
            refine GO.anyL (fun z265 => ?_)
            refine GO.putL h_x fp_RX12_679 rfl (by decide +kernel) dX12_burns_181 (fun V267 e266 => ?_)
            have ak268 := tk_fld e266 ak259.1 h_x (by decide) ak259.2
            have ak269 := tk_fld e266 ak260.1 h_x (by decide) ak260.2
            have ak270 := tk_fld e266 ak261.1 h_x (by decide) ak261.2
            have ak271 := tk_fld e266 ak262.1 h_x (by decide) ak262.2
            refine GO.useFR (fun hFs => ?_)
            exact GO.retv rfl rfl dX12_burns_184 ⟨rfl, rfl, ⟨trivial, (by first | exact MBU.mk hnd hnn rw17 ⟨(by omega), (by omega)⟩ (by omega) (by omega) (by first | assumption | exact (wr_id ⟨by omega, by omega⟩).symm) (Or.inl ⟨(by omega), congrFun e22 _, (by assumption)⟩) (Or.inl ⟨(by omega), hP19, ak268.2⟩) ak269.2 ak270.2 (by omega) (by omega) (by first | assumption | exact (wr_id ⟨by omega, by omega⟩).symm) (by assumption) (congrFun e23 _) (by omega) ak271.2 (arq hFs ext.rf h_x (hW_0.ref h_x (j := 21) (Nat.le_of_ble_eq_true rfl) rfl).2 (by decide +kernel) (by decide +kernel)) (arq hFs ext.rf h_x (hW_0.ref h_x (j := 28) (Nat.le_of_ble_eq_true rfl) rfl).2 (by decide +kernel) (by decide +kernel)) | exact MBU.mk (Q := 0) hnd hnn rw17 ⟨(by omega), (by omega)⟩ (by omega) (by omega) (by first | assumption | exact (wr_id ⟨by omega, by omega⟩).symm) (Or.inr ⟨(by omega), rfl⟩) (Or.inl ⟨(by omega), hP19, ak268.2⟩) ak269.2 ak270.2 (by omega) (by omega) (by first | assumption | exact (wr_id ⟨by omega, by omega⟩).symm) (by assumption) (congrFun e23 _) (by omega) ak271.2 (arq hFs ext.rf h_x (hW_0.ref h_x (j := 21) (Nat.le_of_ble_eq_true rfl) rfl).2 (by decide +kernel) (by decide +kernel)) (arq hFs ext.rf h_x (hW_0.ref h_x (j := 28) (Nat.le_of_ble_eq_true rfl) rfl).2 (by decide +kernel) (by decide +kernel)) | exact (by exfalso; omega))⟩⟩
          ·
            refine GO.iconst dX12_burns_140 ?_
            refine GO.goto (tgt := 145) dX12_burns_141 (by decide) ?_
            refine GO.istore (ls1 := [some (.ref x), some (ti p0), some (ti z17), some (ti z24), some (ti z235), some (ti 3)]) dX12_burns_145 rfl rfl ?_
            refine GO.aload_n dX12_burns_147 rfl rfl ?_
            refine GO.getA (n := 240) h_x fl_RX12_65 rfl rfl rfl rfl dX12_burns_148 (fun hv273 h272 => ?_)
            refine GO.iconst dX12_burns_151 ?_
            refine GO.iload_n dX12_burns_152 rfl rfl ?_
            refine GO.imul dX12_burns_153 ?_
            refine GO.iload dX12_burns_154 rfl ?_
            refine GO.iadd dX12_burns_156 ?_
            refine GO.aload_n dX12_burns_157 rfl rfl ?_
            refine GO.getRaw h_x fl_RX12_65 hv273 dX12_burns_158 ?_
            refine GO.iconst dX12_burns_161 ?_
            refine GO.iload_n dX12_burns_162 rfl rfl ?_
            refine GO.imul dX12_burns_163 ?_
            refine GO.iload dX12_burns_164 rfl ?_
            refine GO.iadd dX12_burns_166 ?_
            refine GO.iald (t := 25) rfl rfl h272 ⟨by omega, by omega⟩ (by omega) (by omega) dX12_burns_167 (fun _ _ => ?_)
            have e23 := ak223.2
            refine GO.iload dX12_burns_168 rfl ?_
            refine GO.iadd dX12_burns_170 ?_
            refine GO.norm2 (fun z279 r280 hn281 hw282 => ?_)
            refine GO.iast (t := 25) rfl rfl (by decide +kernel) h272 ⟨by omega, by omega⟩ (by omega) (by omega) r280 (r280).1 (r280).2 dX12_burns_171 (fun V284 e283 => ?_)
            have ak285 := tk_oth e283 ak220.1 h_x h272 (by decide) (by decide) ak220.2
            have ak286 := tk_oth e283 ak221.1 h_x h272 (by decide) (by decide) ak221.2
            have ak287 := tk_oth e283 ak222.1 h_x h272 (by decide) (by decide) ak222.2
            have ak288 := tk_put e283 ak223.1 h_x (vq_of hv273) r280 ak223.2
            refine GO.aload_n dX12_burns_172 rfl rfl ?_
            refine GO.aload_n dX12_burns_173 rfl rfl ?_
            refine GO.getL h_x fl_RX12_679 rfl rfl dX12_burns_174 ?_
            refine GO.anyL (fun z289 => ?_)
            refine GO.iload dX12_burns_177 rfl ?_
            refine GO.i2l dX12_burns_179 ?_
            refine GO.anyL (fun z290 => ?_)
            refine GO.ladd dX12_burns_180 ?_
            refine GO.anyL (fun z291 => ?_)
            refine GO.putL h_x fp_RX12_679 rfl (by decide +kernel) dX12_burns_181 (fun V293 e292 => ?_)
            have ak294 := tk_fld e292 ak285.1 h_x (by decide) ak285.2
            have ak295 := tk_fld e292 ak286.1 h_x (by decide) ak286.2
            have ak296 := tk_fld e292 ak287.1 h_x (by decide) ak287.2
            have ak297 := tk_fld e292 ak288.1 h_x (by decide) ak288.2
            refine GO.useFR (fun hFs => ?_)
            exact GO.retv rfl rfl dX12_burns_184 ⟨rfl, rfl, ⟨trivial, (by first | exact MBU.mk hnd hnn rw17 ⟨(by omega), (by omega)⟩ (by omega) (by omega) (by first | assumption | exact (wr_id ⟨by omega, by omega⟩).symm) (Or.inl ⟨(by omega), congrFun e22 _, (by assumption)⟩) (Or.inl ⟨(by omega), hP19, ak294.2⟩) ak295.2 ak296.2 (by omega) (by omega) (by first | assumption | exact (wr_id ⟨by omega, by omega⟩).symm) (by assumption) (congrFun e23 _) (by omega) ak297.2 (arq hFs ext.rf h_x (hW_0.ref h_x (j := 21) (Nat.le_of_ble_eq_true rfl) rfl).2 (by decide +kernel) (by decide +kernel)) (arq hFs ext.rf h_x (hW_0.ref h_x (j := 28) (Nat.le_of_ble_eq_true rfl) rfl).2 (by decide +kernel) (by decide +kernel)) | exact MBU.mk (Q := 0) hnd hnn rw17 ⟨(by omega), (by omega)⟩ (by omega) (by omega) (by first | assumption | exact (wr_id ⟨by omega, by omega⟩).symm) (Or.inr ⟨(by omega), rfl⟩) (Or.inl ⟨(by omega), hP19, ak294.2⟩) ak295.2 ak296.2 (by omega) (by omega) (by first | assumption | exact (wr_id ⟨by omega, by omega⟩).symm) (by assumption) (congrFun e23 _) (by omega) ak297.2 (arq hFs ext.rf h_x (hW_0.ref h_x (j := 21) (Nat.le_of_ble_eq_true rfl) rfl).2 (by decide +kernel) (by decide +kernel)) (arq hFs ext.rf h_x (hW_0.ref h_x (j := 28) (Nat.le_of_ble_eq_true rfl) rfl).2 (by decide +kernel) (by decide +kernel)) | exact (by exfalso; omega))⟩⟩
        ·
          have e19h := ak220.2
          refine GO.aload_n dX12_burns_110 rfl rfl ?_
          refine GO.iload_n dX12_burns_111 rfl rfl ?_
          refine GO.callV (ci := 11) (N := mX12_goesHome) dX12_burns_112 (RX12, TX12, 151) rfl gV_RX12_676 h_x (t_X12_goesHome h_x r_p0 (by omega) (by omega)) rfl [] rfl rfl (Nat.le_of_ble_eq_true rfl) rfl (k_vs fun V300 h299 hF298 => ?_)
          have ak301 := tk_fr hF298 ak221.1 h_x (by decide +kernel) (by decide +kernel) ak221.2
          have ak302 := tk_fr hF298 ak222.1 h_x (by decide +kernel) (by decide +kernel) ak222.2
          have ak303 := tk_fr hF298 ak223.1 h_x (by decide +kernel) (by decide +kernel) ak223.2
          refine GO.useWT (fun hW304 => ?_)
          have ak305 := hW304.arr h_x 19 21 (by decide) rfl (by decide)
          have raw_goesHome := h299.2
          have rw112 := h299.2
          refine GO.aload_n dX12_burns_115 rfl rfl ?_
          refine GO.getRaw h_x fl_RX12_53 (Eq.trans (hF298 _ _ _ h_x h_x (by decide +kernel)) (Eq.trans (uq_ne e218 (Or.inl (K_ne h_x h48 (by decide)))) (Eq.trans (uq_ne e42 (Or.inr (by decide))) (Eq.trans (uq_ne e31 (Or.inl (K_ne h_x h19 (by decide)))) hv7)))) dX12_burns_116 ?_
          refine GO.iload_n dX12_burns_119 rfl rfl ?_
          refine GO.iald (t := 21) rfl rfl h6 r_p0 (by omega) (by omega) dX12_burns_120 (fun l308 u309 => ?_)
          refine GO.bipush dX12_burns_121 rfl ?_
          refine GO.iadd dX12_burns_123 ?_
          refine GO.bipush dX12_burns_124 rfl ?_
          refine GO.idivP dX12_burns_126 ⟨by omega, by omega⟩ (ir_c rfl) (by omega) (by omega) ?_
          refine GO.name (fun z311 hz312 => ?_)
          refine GO.istore (ls1 := [some (.ref x), some (ti p0), some (ti z17), some (ti z24), some (ti z311), none]) dX12_burns_127 rfl rfl ?_
          refine GO.aload_n dX12_burns_129 rfl rfl ?_
          refine GO.aload_n dX12_burns_130 rfl rfl ?_
          refine GO.getI h_x fl_RX12_396 rfl rfl dX12_burns_131 (fun l313 u314 => ?_)
          have e318 : vi V34 x 2 = vi V x 2 := vi_up e31 (Or.inl (K_ne h_x h19 (by decide)))
          have e317 : vi V43 x 2 = vi V34 x 2 := vi_up e42 (Or.inr (by decide))
          have e316 : vi V219 x 2 = vi V43 x 2 := vi_up e218 (Or.inl (K_ne h_x h48 (by decide)))
          have e315 : vi V300 x 2 = vi V219 x 2 := vi_fr hF298 h_x h_x (by decide +kernel)
          refine GO.useFR (fun hFs => ?_)
          first | (have hP19 : vi V300 (vq V x 19) (p0).toNat = 0 := by rw [← vq_eq (hFs _ _ 19 h_x h_x (by decide +kernel))]; exact (congrFun rw112 _).trans updf_at) | (have hP19 : vi V300 (vq V x 19) (p0).toNat = vi V (vq V x 19) (p0).toNat := by omega) | skip
          have hd2 : vi V300 x 2 = vi V x 2 := vi_fr hFs h_x h_x (by decide +kernel)
          have hd3 : vi V300 x 3 = vi V x 3 := vi_fr hFs h_x h_x (by decide +kernel)
          have hd4 : vi V300 x 4 = vi V x 4 := vi_fr hFs h_x h_x (by decide +kernel)
          refine GO.callV (ci := 11) (N := mX12_isDark) dX12_burns_134 (RX12, TX12, 151) rfl gV_RX12_582 h_x (t_X12_isDark h_x vi_ir) rfl [] rfl rfl (Nat.le_of_ble_eq_true rfl) rfl (k_ip fun X319 r320 h321 => ?_)
          have raw_isDark := h321.2.2.2
          have rw134 := h321.2.2.2
          rw [hd2, hd3, hd4] at rw134
          have hdd := rw134.trans rw17.symm
          refine GO.if_eq (tgt := 144) dX12_burns_137 (by decide) r320 (fun c322 => ?_) (fun c322 => ?_)
          ·
            refine GO.iconst dX12_burns_144 ?_
            refine GO.istore (ls1 := [some (.ref x), some (ti p0), some (ti z17), some (ti z24), some (ti z311), some (ti 0)]) dX12_burns_145 rfl rfl ?_
            refine GO.aload_n dX12_burns_147 rfl rfl ?_
            refine GO.getA (n := 240) h_x fl_RX12_65 rfl rfl rfl rfl dX12_burns_148 (fun hv324 h323 => ?_)
            refine GO.iconst dX12_burns_151 ?_
            refine GO.iload_n dX12_burns_152 rfl rfl ?_
            refine GO.imul dX12_burns_153 ?_
            refine GO.iload dX12_burns_154 rfl ?_
            refine GO.iadd dX12_burns_156 ?_
            refine GO.aload_n dX12_burns_157 rfl rfl ?_
            refine GO.getRaw h_x fl_RX12_65 hv324 dX12_burns_158 ?_
            refine GO.iconst dX12_burns_161 ?_
            refine GO.iload_n dX12_burns_162 rfl rfl ?_
            refine GO.imul dX12_burns_163 ?_
            refine GO.iload dX12_burns_164 rfl ?_
            refine GO.iadd dX12_burns_166 ?_
            refine GO.iald (t := 25) rfl rfl h323 ⟨by omega, by omega⟩ (by omega) (by omega) dX12_burns_167 (fun _ _ => ?_)
            have e23 := ak303.2
            refine GO.iload dX12_burns_168 rfl ?_
            refine GO.iadd dX12_burns_170 ?_
            refine GO.norm2 (fun z331 r332 hn333 hw334 => ?_)
            refine GO.iast (t := 25) rfl rfl (by decide +kernel) h323 ⟨by omega, by omega⟩ (by omega) (by omega) r332 (r332).1 (r332).2 dX12_burns_171 (fun V336 e335 => ?_)
            have ak337 := tk_oth e335 ak305 h_x h323 (by decide) (by decide) (rfl : ar 19 V300 x = ar 19 V300 x)
            have ak338 := tk_oth e335 ak301.1 h_x h323 (by decide) (by decide) ak301.2
            have ak339 := tk_oth e335 ak302.1 h_x h323 (by decide) (by decide) ak302.2
            have ak340 := tk_put e335 ak303.1 h_x (vq_of hv324) r332 ak303.2
            refine GO.aload_n dX12_burns_172 rfl rfl ?_
            refine GO.aload_n dX12_burns_173 rfl rfl ?_
            refine GO.getL h_x fl_RX12_679 rfl rfl dX12_burns_174 ?_
            refine GO.anyL (fun z341 => ?_)
            refine GO.iload dX12_burns_177 rfl ?_
            refine GO.i2l dX12_burns_179 ?_
            refine GO.anyL (fun z342 => ?_)
            refine GO.ladd dX12_burns_180 ?_
            refine GO.anyL (fun z343 => ?_)
            refine GO.putL h_x fp_RX12_679 rfl (by decide +kernel) dX12_burns_181 (fun V345 e344 => ?_)
            have ak346 := tk_fld e344 ak337.1 h_x (by decide) ak337.2
            have ak347 := tk_fld e344 ak338.1 h_x (by decide) ak338.2
            have ak348 := tk_fld e344 ak339.1 h_x (by decide) ak339.2
            have ak349 := tk_fld e344 ak340.1 h_x (by decide) ak340.2
            refine GO.useFR (fun hFs => ?_)
            exact GO.retv rfl rfl dX12_burns_184 ⟨rfl, rfl, ⟨trivial, (by first | exact MBU.mk hnd hnn rw17 ⟨(by omega), (by omega)⟩ (by omega) (by omega) (by first | assumption | exact (wr_id ⟨by omega, by omega⟩).symm) (Or.inl ⟨(by omega), congrFun e22 _, (by assumption)⟩) (Or.inl ⟨(by omega), hP19, ak346.2⟩) ak347.2 ak348.2 (by omega) (by omega) (by first | assumption | exact (wr_id ⟨by omega, by omega⟩).symm) (by assumption) (congrFun e23 _) (by omega) ak349.2 (arq hFs ext.rf h_x (hW_0.ref h_x (j := 21) (Nat.le_of_ble_eq_true rfl) rfl).2 (by decide +kernel) (by decide +kernel)) (arq hFs ext.rf h_x (hW_0.ref h_x (j := 28) (Nat.le_of_ble_eq_true rfl) rfl).2 (by decide +kernel) (by decide +kernel)) | exact MBU.mk (Q := 0) hnd hnn rw17 ⟨(by omega), (by omega)⟩ (by omega) (by omega) (by first | assumption | exact (wr_id ⟨by omega, by omega⟩).symm) (Or.inr ⟨(by omega), rfl⟩) (Or.inl ⟨(by omega), hP19, ak346.2⟩) ak347.2 ak348.2 (by omega) (by omega) (by first | assumption | exact (wr_id ⟨by omega, by omega⟩).symm) (by assumption) (congrFun e23 _) (by omega) ak349.2 (arq hFs ext.rf h_x (hW_0.ref h_x (j := 21) (Nat.le_of_ble_eq_true rfl) rfl).2 (by decide +kernel) (by decide +kernel)) (arq hFs ext.rf h_x (hW_0.ref h_x (j := 28) (Nat.le_of_ble_eq_true rfl) rfl).2 (by decide +kernel) (by decide +kernel)) | exact MBU.mk hnd hnn rw17 ⟨(by omega), (by omega)⟩ (by omega) (by omega) (by first | assumption | exact (wr_id ⟨by omega, by omega⟩).symm) (Or.inl ⟨(by omega), congrFun e22 _, (by assumption)⟩) (Or.inr ⟨(by omega), hP19, ((ak346.2).trans (rw112.trans (congrArg (fun f => updf f _ 0) e19h)))⟩) ak347.2 ak348.2 (by omega) (by omega) (by first | assumption | exact (wr_id ⟨by omega, by omega⟩).symm) (by assumption) (congrFun e23 _) (by omega) ak349.2 (arq hFs ext.rf h_x (hW_0.ref h_x (j := 21) (Nat.le_of_ble_eq_true rfl) rfl).2 (by decide +kernel) (by decide +kernel)) (arq hFs ext.rf h_x (hW_0.ref h_x (j := 28) (Nat.le_of_ble_eq_true rfl) rfl).2 (by decide +kernel) (by decide +kernel)) | exact MBU.mk (Q := 0) hnd hnn rw17 ⟨(by omega), (by omega)⟩ (by omega) (by omega) (by first | assumption | exact (wr_id ⟨by omega, by omega⟩).symm) (Or.inr ⟨(by omega), rfl⟩) (Or.inr ⟨(by omega), hP19, ((ak346.2).trans (rw112.trans (congrArg (fun f => updf f _ 0) e19h)))⟩) ak347.2 ak348.2 (by omega) (by omega) (by first | assumption | exact (wr_id ⟨by omega, by omega⟩).symm) (by assumption) (congrFun e23 _) (by omega) ak349.2 (arq hFs ext.rf h_x (hW_0.ref h_x (j := 21) (Nat.le_of_ble_eq_true rfl) rfl).2 (by decide +kernel) (by decide +kernel)) (arq hFs ext.rf h_x (hW_0.ref h_x (j := 28) (Nat.le_of_ble_eq_true rfl) rfl).2 (by decide +kernel) (by decide +kernel)) | exact (by exfalso; omega))⟩⟩
          ·
            refine GO.iconst dX12_burns_140 ?_
            refine GO.goto (tgt := 145) dX12_burns_141 (by decide) ?_
            refine GO.istore (ls1 := [some (.ref x), some (ti p0), some (ti z17), some (ti z24), some (ti z311), some (ti 3)]) dX12_burns_145 rfl rfl ?_
            refine GO.aload_n dX12_burns_147 rfl rfl ?_
            refine GO.getA (n := 240) h_x fl_RX12_65 rfl rfl rfl rfl dX12_burns_148 (fun hv351 h350 => ?_)
            refine GO.iconst dX12_burns_151 ?_
            refine GO.iload_n dX12_burns_152 rfl rfl ?_
            refine GO.imul dX12_burns_153 ?_
            refine GO.iload dX12_burns_154 rfl ?_
            refine GO.iadd dX12_burns_156 ?_
            refine GO.aload_n dX12_burns_157 rfl rfl ?_
            refine GO.getRaw h_x fl_RX12_65 hv351 dX12_burns_158 ?_
            refine GO.iconst dX12_burns_161 ?_
            refine GO.iload_n dX12_burns_162 rfl rfl ?_
            refine GO.imul dX12_burns_163 ?_
            refine GO.iload dX12_burns_164 rfl ?_
            refine GO.iadd dX12_burns_166 ?_
            refine GO.iald (t := 25) rfl rfl h350 ⟨by omega, by omega⟩ (by omega) (by omega) dX12_burns_167 (fun _ _ => ?_)
            have e23 := ak303.2
            refine GO.iload dX12_burns_168 rfl ?_
            refine GO.iadd dX12_burns_170 ?_
            refine GO.norm2 (fun z358 r359 hn360 hw361 => ?_)
            refine GO.iast (t := 25) rfl rfl (by decide +kernel) h350 ⟨by omega, by omega⟩ (by omega) (by omega) r359 (r359).1 (r359).2 dX12_burns_171 (fun V363 e362 => ?_)
            have ak364 := tk_oth e362 ak305 h_x h350 (by decide) (by decide) (rfl : ar 19 V300 x = ar 19 V300 x)
            have ak365 := tk_oth e362 ak301.1 h_x h350 (by decide) (by decide) ak301.2
            have ak366 := tk_oth e362 ak302.1 h_x h350 (by decide) (by decide) ak302.2
            have ak367 := tk_put e362 ak303.1 h_x (vq_of hv351) r359 ak303.2
            refine GO.aload_n dX12_burns_172 rfl rfl ?_
            refine GO.aload_n dX12_burns_173 rfl rfl ?_
            refine GO.getL h_x fl_RX12_679 rfl rfl dX12_burns_174 ?_
            refine GO.anyL (fun z368 => ?_)
            refine GO.iload dX12_burns_177 rfl ?_
            refine GO.i2l dX12_burns_179 ?_
            refine GO.anyL (fun z369 => ?_)
            refine GO.ladd dX12_burns_180 ?_
            refine GO.anyL (fun z370 => ?_)
            refine GO.putL h_x fp_RX12_679 rfl (by decide +kernel) dX12_burns_181 (fun V372 e371 => ?_)
            have ak373 := tk_fld e371 ak364.1 h_x (by decide) ak364.2
            have ak374 := tk_fld e371 ak365.1 h_x (by decide) ak365.2
            have ak375 := tk_fld e371 ak366.1 h_x (by decide) ak366.2
            have ak376 := tk_fld e371 ak367.1 h_x (by decide) ak367.2
            refine GO.useFR (fun hFs => ?_)
            exact GO.retv rfl rfl dX12_burns_184 ⟨rfl, rfl, ⟨trivial, (by first | exact MBU.mk hnd hnn rw17 ⟨(by omega), (by omega)⟩ (by omega) (by omega) (by first | assumption | exact (wr_id ⟨by omega, by omega⟩).symm) (Or.inl ⟨(by omega), congrFun e22 _, (by assumption)⟩) (Or.inl ⟨(by omega), hP19, ak373.2⟩) ak374.2 ak375.2 (by omega) (by omega) (by first | assumption | exact (wr_id ⟨by omega, by omega⟩).symm) (by assumption) (congrFun e23 _) (by omega) ak376.2 (arq hFs ext.rf h_x (hW_0.ref h_x (j := 21) (Nat.le_of_ble_eq_true rfl) rfl).2 (by decide +kernel) (by decide +kernel)) (arq hFs ext.rf h_x (hW_0.ref h_x (j := 28) (Nat.le_of_ble_eq_true rfl) rfl).2 (by decide +kernel) (by decide +kernel)) | exact MBU.mk (Q := 0) hnd hnn rw17 ⟨(by omega), (by omega)⟩ (by omega) (by omega) (by first | assumption | exact (wr_id ⟨by omega, by omega⟩).symm) (Or.inr ⟨(by omega), rfl⟩) (Or.inl ⟨(by omega), hP19, ak373.2⟩) ak374.2 ak375.2 (by omega) (by omega) (by first | assumption | exact (wr_id ⟨by omega, by omega⟩).symm) (by assumption) (congrFun e23 _) (by omega) ak376.2 (arq hFs ext.rf h_x (hW_0.ref h_x (j := 21) (Nat.le_of_ble_eq_true rfl) rfl).2 (by decide +kernel) (by decide +kernel)) (arq hFs ext.rf h_x (hW_0.ref h_x (j := 28) (Nat.le_of_ble_eq_true rfl) rfl).2 (by decide +kernel) (by decide +kernel)) | exact MBU.mk hnd hnn rw17 ⟨(by omega), (by omega)⟩ (by omega) (by omega) (by first | assumption | exact (wr_id ⟨by omega, by omega⟩).symm) (Or.inl ⟨(by omega), congrFun e22 _, (by assumption)⟩) (Or.inr ⟨(by omega), hP19, ((ak373.2).trans (rw112.trans (congrArg (fun f => updf f _ 0) e19h)))⟩) ak374.2 ak375.2 (by omega) (by omega) (by first | assumption | exact (wr_id ⟨by omega, by omega⟩).symm) (by assumption) (congrFun e23 _) (by omega) ak376.2 (arq hFs ext.rf h_x (hW_0.ref h_x (j := 21) (Nat.le_of_ble_eq_true rfl) rfl).2 (by decide +kernel) (by decide +kernel)) (arq hFs ext.rf h_x (hW_0.ref h_x (j := 28) (Nat.le_of_ble_eq_true rfl) rfl).2 (by decide +kernel) (by decide +kernel)) | exact MBU.mk (Q := 0) hnd hnn rw17 ⟨(by omega), (by omega)⟩ (by omega) (by omega) (by first | assumption | exact (wr_id ⟨by omega, by omega⟩).symm) (Or.inr ⟨(by omega), rfl⟩) (Or.inr ⟨(by omega), hP19, ((ak373.2).trans (rw112.trans (congrArg (fun f => updf f _ 0) e19h)))⟩) ak374.2 ak375.2 (by omega) (by omega) (by first | assumption | exact (wr_id ⟨by omega, by omega⟩).symm) (by assumption) (congrFun e23 _) (by omega) ak376.2 (arq hFs ext.rf h_x (hW_0.ref h_x (j := 21) (Nat.le_of_ble_eq_true rfl) rfl).2 (by decide +kernel) (by decide +kernel)) (arq hFs ext.rf h_x (hW_0.ref h_x (j := 28) (Nat.le_of_ble_eq_true rfl) rfl).2 (by decide +kernel) (by decide +kernel)) | exact (by exfalso; omega))⟩⟩
    ·
      refine GO.iload_n dX12_burns_40 rfl rfl ?_
      refine GO.goto (tgt := 50) dX12_burns_41 (by decide) ?_
      refine GO.istore_n (ls1 := [some (.ref x), some (ti p0), some (ti z17), some (ti z17), none, none]) dX12_burns_50 rfl rfl rfl ?_
      have hnn : z17 = z17 := rfl
      refine GO.aload_n dX12_burns_51 rfl rfl ?_
      refine GO.getRaw h_x fl_RX12_56 hv20 dX12_burns_52 ?_
      refine GO.iload_n dX12_burns_55 rfl rfl ?_
      refine GO.aload_n dX12_burns_56 rfl rfl ?_
      refine GO.getRaw h_x fl_RX12_56 hv20 dX12_burns_57 ?_
      refine GO.iload_n dX12_burns_60 rfl rfl ?_
      refine GO.iald (t := 22) rfl rfl h19 r_p0 (by omega) (by omega) dX12_burns_61 (fun _ _ => ?_)
      refine GO.iload_n dX12_burns_62 rfl rfl ?_
      refine GO.isub dX12_burns_63 ?_
      have q382 : -2147483648 ≤ vi V (vq V x 20) (p0).toNat ∧ vi V (vq V x 20) (p0).toNat ≤ 2147483647 := vi_ir
      refine GO.iast (t := 22) rfl rfl (by decide +kernel) h19 r_p0 (by omega) (by omega) ⟨by omega, by omega⟩ (by omega) (by omega) dX12_burns_64 (fun V383 e381 => ?_)
      have ak384 := tk_oth e381 ak2 h_x h19 (by decide) (by decide) (rfl : ar 19 V x = ar 19 V x)
      have ak385 := tk_put e381 ak3 h_x (vq_of hv20) ⟨by omega, by omega⟩ (rfl : ar 20 V x = ar 20 V x)
      have ak386 := tk_oth e381 ak4 h_x h19 (by decide) (by decide) (rfl : ar 22 V x = ar 22 V x)
      have ak387 := tk_oth e381 ak5 h_x h19 (by decide) (by decide) (rfl : ar 23 V x = ar 23 V x)
      refine GO.aload_n dX12_burns_65 rfl rfl ?_
      refine GO.aload_n dX12_burns_66 rfl rfl ?_
      refine GO.getL h_x fl_RX12_654 rfl rfl dX12_burns_67 ?_
      refine GO.anyL (fun z388 => ?_)
      refine GO.iload_n dX12_burns_70 rfl rfl ?_
      refine GO.i2l dX12_burns_71 ?_
      refine GO.anyL (fun z389 => ?_)
      refine GO.ladd dX12_burns_72 ?_
      refine GO.anyL (fun z390 => ?_)
      refine GO.putL h_x fp_RX12_654 rfl (by decide +kernel) dX12_burns_73 (fun V392 e391 => ?_)
      have ak393 := tk_fld e391 ak384.1 h_x (by decide) ak384.2
      have ak394 := tk_fld e391 ak385.1 h_x (by decide) ak385.2
      have ak395 := tk_fld e391 ak386.1 h_x (by decide) ak386.2
      have ak396 := tk_fld e391 ak387.1 h_x (by decide) ak387.2
      refine GO.aload_n dX12_burns_76 rfl rfl ?_
      refine GO.getA (n := 60) h_x fl_RX12_62 rfl rfl rfl rfl dX12_burns_77 (fun hv398 h397 => ?_)
      refine GO.iload_n dX12_burns_80 rfl rfl ?_
      refine GO.iload_n dX12_burns_81 rfl rfl ?_
      refine GO.iload_n dX12_burns_82 rfl rfl ?_
      refine GO.icmp_ge (tgt := 97) dX12_burns_83 (by decide) ⟨by omega, by omega⟩ ⟨by omega, by omega⟩ (fun c399 => ?_) (fun h => by exfalso; omega)
      refine GO.iconst dX12_burns_97 ?_
      refine GO.iast (t := 24) rfl rfl (by decide +kernel) h397 r_p0 (by omega) (by omega) (ir_c rfl) (by decide) (by decide) dX12_burns_98 (fun V401 e400 => ?_)
      have ak402 := tk_oth e400 ak393.1 h_x h397 (by decide) (by decide) ak393.2
      have ak403 := tk_oth e400 ak394.1 h_x h397 (by decide) (by decide) ak394.2
      have ak404 := tk_put e400 ak395.1 h_x (vq_of hv398) (ir_c rfl) ak395.2
      have ak405 := tk_oth e400 ak396.1 h_x h397 (by decide) (by decide) ak396.2
      have hy9 := upd2_int e400 (by first | assumption | exact ir_c rfl)
      refine GO.aload_n dX12_burns_99 rfl rfl ?_
      refine GO.getRaw h_x fl_RX12_62 (Eq.trans (uq_ne e400 (Or.inl (K_ne h_x h397 (by decide)))) hv398) dX12_burns_100 ?_
      refine GO.iload_n dX12_burns_103 rfl rfl ?_
      refine GO.iald (t := 24) rfl rfl h397 r_p0 (by omega) (by omega) dX12_burns_104 (fun _ _ => ?_)
      refine GO.bipush dX12_burns_105 rfl ?_
      refine GO.icmp_ne (tgt := 115) dX12_burns_107 (by decide) vi_ir (ir_c rfl) (fun c409 => ?_) (fun c409 => ?_)
      ·
        refine GO.aload_n dX12_burns_115 rfl rfl ?_
        refine GO.getRaw h_x fl_RX12_53 (Eq.trans (uq_ne e400 (Or.inl (K_ne h_x h397 (by decide)))) (Eq.trans (uq_ne e391 (Or.inr (by decide))) (Eq.trans (uq_ne e381 (Or.inl (K_ne h_x h19 (by decide)))) hv7))) dX12_burns_116 ?_
        refine GO.iload_n dX12_burns_119 rfl rfl ?_
        refine GO.iald (t := 21) rfl rfl h6 r_p0 (by omega) (by omega) dX12_burns_120 (fun l412 u413 => ?_)
        have e416 : vi V383 (vq V x 19) (p0).toNat = vi V (vq V x 19) (p0).toNat := vi_up e381 (Or.inl (K_ne h6 h19 (by decide)))
        have e415 : vi V392 (vq V x 19) (p0).toNat = vi V383 (vq V x 19) (p0).toNat := vi_up e391 (Or.inl (K_ne h6 h_x (by decide)))
        have e414 : vi V401 (vq V x 19) (p0).toNat = vi V392 (vq V x 19) (p0).toNat := vi_up e400 (Or.inl (K_ne h6 h397 (by decide)))
        refine GO.bipush dX12_burns_121 rfl ?_
        refine GO.iadd dX12_burns_123 ?_
        refine GO.bipush dX12_burns_124 rfl ?_
        refine GO.idivP dX12_burns_126 ⟨by omega, by omega⟩ (ir_c rfl) (by omega) (by omega) ?_
        refine GO.name (fun z417 hz418 => ?_)
        refine GO.istore (ls1 := [some (.ref x), some (ti p0), some (ti z17), some (ti z17), some (ti z417), none]) dX12_burns_127 rfl rfl ?_
        refine GO.aload_n dX12_burns_129 rfl rfl ?_
        refine GO.aload_n dX12_burns_130 rfl rfl ?_
        refine GO.getI h_x fl_RX12_396 rfl rfl dX12_burns_131 (fun l419 u420 => ?_)
        have e423 : vi V383 x 2 = vi V x 2 := vi_up e381 (Or.inl (K_ne h_x h19 (by decide)))
        have e422 : vi V392 x 2 = vi V383 x 2 := vi_up e391 (Or.inr (by decide))
        have e421 : vi V401 x 2 = vi V392 x 2 := vi_up e400 (Or.inl (K_ne h_x h397 (by decide)))
        refine GO.useFR (fun hFs => ?_)
        first | (have hP19 : vi V401 (vq V x 19) (p0).toNat = 0 := by rw [← vq_eq (hFs _ _ 19 h_x h_x (by decide +kernel))]; exact (congrFun rw112 _).trans updf_at) | (have hP19 : vi V401 (vq V x 19) (p0).toNat = vi V (vq V x 19) (p0).toNat := by omega) | skip
        have hd2 : vi V401 x 2 = vi V x 2 := vi_fr hFs h_x h_x (by decide +kernel)
        have hd3 : vi V401 x 3 = vi V x 3 := vi_fr hFs h_x h_x (by decide +kernel)
        have hd4 : vi V401 x 4 = vi V x 4 := vi_fr hFs h_x h_x (by decide +kernel)
        refine GO.callV (ci := 11) (N := mX12_isDark) dX12_burns_134 (RX12, TX12, 151) rfl gV_RX12_582 h_x (t_X12_isDark h_x vi_ir) rfl [] rfl rfl (Nat.le_of_ble_eq_true rfl) rfl (k_ip fun X424 r425 h426 => ?_)
        have raw_isDark := h426.2.2.2
        have rw134 := h426.2.2.2
        rw [hd2, hd3, hd4] at rw134
        have hdd := rw134.trans rw17.symm
        refine GO.if_eq (tgt := 144) dX12_burns_137 (by decide) r425 (fun c427 => ?_) (fun c427 => ?_)
        ·
          refine GO.iconst dX12_burns_144 ?_
          refine GO.istore (ls1 := [some (.ref x), some (ti p0), some (ti z17), some (ti z17), some (ti z417), some (ti 0)]) dX12_burns_145 rfl rfl ?_
          refine GO.aload_n dX12_burns_147 rfl rfl ?_
          refine GO.getA (n := 240) h_x fl_RX12_65 rfl rfl rfl rfl dX12_burns_148 (fun hv429 h428 => ?_)
          refine GO.iconst dX12_burns_151 ?_
          refine GO.iload_n dX12_burns_152 rfl rfl ?_
          refine GO.imul dX12_burns_153 ?_
          refine GO.iload dX12_burns_154 rfl ?_
          refine GO.iadd dX12_burns_156 ?_
          refine GO.aload_n dX12_burns_157 rfl rfl ?_
          refine GO.getRaw h_x fl_RX12_65 hv429 dX12_burns_158 ?_
          refine GO.iconst dX12_burns_161 ?_
          refine GO.iload_n dX12_burns_162 rfl rfl ?_
          refine GO.imul dX12_burns_163 ?_
          refine GO.iload dX12_burns_164 rfl ?_
          refine GO.iadd dX12_burns_166 ?_
          refine GO.iald (t := 25) rfl rfl h428 ⟨by omega, by omega⟩ (by omega) (by omega) dX12_burns_167 (fun _ _ => ?_)
          have e23 := ak405.2
          refine GO.iload dX12_burns_168 rfl ?_
          refine GO.iadd dX12_burns_170 ?_
          refine GO.norm2 (fun z435 r436 hn437 hw438 => ?_)
          refine GO.iast (t := 25) rfl rfl (by decide +kernel) h428 ⟨by omega, by omega⟩ (by omega) (by omega) r436 (r436).1 (r436).2 dX12_burns_171 (fun V440 e439 => ?_)
          have ak441 := tk_oth e439 ak402.1 h_x h428 (by decide) (by decide) ak402.2
          have ak442 := tk_oth e439 ak403.1 h_x h428 (by decide) (by decide) ak403.2
          have ak443 := tk_oth e439 ak404.1 h_x h428 (by decide) (by decide) ak404.2
          have ak444 := tk_put e439 ak405.1 h_x (vq_of hv429) r436 ak405.2
          refine GO.aload_n dX12_burns_172 rfl rfl ?_
          refine GO.aload_n dX12_burns_173 rfl rfl ?_
          refine GO.getL h_x fl_RX12_679 rfl rfl dX12_burns_174 ?_
          refine GO.anyL (fun z445 => ?_)
          refine GO.iload dX12_burns_177 rfl ?_
          refine GO.i2l dX12_burns_179 ?_
          refine GO.anyL (fun z446 => ?_)
          refine GO.ladd dX12_burns_180 ?_
          refine GO.anyL (fun z447 => ?_)
          refine GO.putL h_x fp_RX12_679 rfl (by decide +kernel) dX12_burns_181 (fun V449 e448 => ?_)
          have ak450 := tk_fld e448 ak441.1 h_x (by decide) ak441.2
          have ak451 := tk_fld e448 ak442.1 h_x (by decide) ak442.2
          have ak452 := tk_fld e448 ak443.1 h_x (by decide) ak443.2
          have ak453 := tk_fld e448 ak444.1 h_x (by decide) ak444.2
          refine GO.useFR (fun hFs => ?_)
          exact GO.retv rfl rfl dX12_burns_184 ⟨rfl, rfl, ⟨trivial, (by first | exact MBU.mk (Q := 0) hnd hnn rw17 ⟨(by omega), (by omega)⟩ (by omega) (by omega) (by first | assumption | exact (wr_id ⟨by omega, by omega⟩).symm) (Or.inr ⟨(by omega), rfl⟩) (Or.inl ⟨(by omega), hP19, ak450.2⟩) ak451.2 ak452.2 (by omega) (by omega) (by first | assumption | exact (wr_id ⟨by omega, by omega⟩).symm) (by assumption) (congrFun e23 _) (by omega) ak453.2 (arq hFs ext.rf h_x (hW_0.ref h_x (j := 21) (Nat.le_of_ble_eq_true rfl) rfl).2 (by decide +kernel) (by decide +kernel)) (arq hFs ext.rf h_x (hW_0.ref h_x (j := 28) (Nat.le_of_ble_eq_true rfl) rfl).2 (by decide +kernel) (by decide +kernel)) | exact (by exfalso; omega))⟩⟩
        ·
          refine GO.iconst dX12_burns_140 ?_
          refine GO.goto (tgt := 145) dX12_burns_141 (by decide) ?_
          refine GO.istore (ls1 := [some (.ref x), some (ti p0), some (ti z17), some (ti z17), some (ti z417), some (ti 3)]) dX12_burns_145 rfl rfl ?_
          refine GO.aload_n dX12_burns_147 rfl rfl ?_
          refine GO.getA (n := 240) h_x fl_RX12_65 rfl rfl rfl rfl dX12_burns_148 (fun hv455 h454 => ?_)
          refine GO.iconst dX12_burns_151 ?_
          refine GO.iload_n dX12_burns_152 rfl rfl ?_
          refine GO.imul dX12_burns_153 ?_
          refine GO.iload dX12_burns_154 rfl ?_
          refine GO.iadd dX12_burns_156 ?_
          refine GO.aload_n dX12_burns_157 rfl rfl ?_
          refine GO.getRaw h_x fl_RX12_65 hv455 dX12_burns_158 ?_
          refine GO.iconst dX12_burns_161 ?_
          refine GO.iload_n dX12_burns_162 rfl rfl ?_
          refine GO.imul dX12_burns_163 ?_
          refine GO.iload dX12_burns_164 rfl ?_
          refine GO.iadd dX12_burns_166 ?_
          refine GO.iald (t := 25) rfl rfl h454 ⟨by omega, by omega⟩ (by omega) (by omega) dX12_burns_167 (fun _ _ => ?_)
          have e23 := ak405.2
          refine GO.iload dX12_burns_168 rfl ?_
          refine GO.iadd dX12_burns_170 ?_
          refine GO.norm2 (fun z461 r462 hn463 hw464 => ?_)
          refine GO.iast (t := 25) rfl rfl (by decide +kernel) h454 ⟨by omega, by omega⟩ (by omega) (by omega) r462 (r462).1 (r462).2 dX12_burns_171 (fun V466 e465 => ?_)
          have ak467 := tk_oth e465 ak402.1 h_x h454 (by decide) (by decide) ak402.2
          have ak468 := tk_oth e465 ak403.1 h_x h454 (by decide) (by decide) ak403.2
          have ak469 := tk_oth e465 ak404.1 h_x h454 (by decide) (by decide) ak404.2
          have ak470 := tk_put e465 ak405.1 h_x (vq_of hv455) r462 ak405.2
          refine GO.aload_n dX12_burns_172 rfl rfl ?_
          refine GO.aload_n dX12_burns_173 rfl rfl ?_
          refine GO.getL h_x fl_RX12_679 rfl rfl dX12_burns_174 ?_
          refine GO.anyL (fun z471 => ?_)
          refine GO.iload dX12_burns_177 rfl ?_
          refine GO.i2l dX12_burns_179 ?_
          refine GO.anyL (fun z472 => ?_)
          refine GO.ladd dX12_burns_180 ?_
          refine GO.anyL (fun z473 => ?_)
          refine GO.putL h_x fp_RX12_679 rfl (by decide +kernel) dX12_burns_181 (fun V475 e474 => ?_)
          have ak476 := tk_fld e474 ak467.1 h_x (by decide) ak467.2
          have ak477 := tk_fld e474 ak468.1 h_x (by decide) ak468.2
          have ak478 := tk_fld e474 ak469.1 h_x (by decide) ak469.2
          have ak479 := tk_fld e474 ak470.1 h_x (by decide) ak470.2
          refine GO.useFR (fun hFs => ?_)
          exact GO.retv rfl rfl dX12_burns_184 ⟨rfl, rfl, ⟨trivial, (by first | exact MBU.mk (Q := 0) hnd hnn rw17 ⟨(by omega), (by omega)⟩ (by omega) (by omega) (by first | assumption | exact (wr_id ⟨by omega, by omega⟩).symm) (Or.inr ⟨(by omega), rfl⟩) (Or.inl ⟨(by omega), hP19, ak476.2⟩) ak477.2 ak478.2 (by omega) (by omega) (by first | assumption | exact (wr_id ⟨by omega, by omega⟩).symm) (by assumption) (congrFun e23 _) (by omega) ak479.2 (arq hFs ext.rf h_x (hW_0.ref h_x (j := 21) (Nat.le_of_ble_eq_true rfl) rfl).2 (by decide +kernel) (by decide +kernel)) (arq hFs ext.rf h_x (hW_0.ref h_x (j := 28) (Nat.le_of_ble_eq_true rfl) rfl).2 (by decide +kernel) (by decide +kernel)) | exact (by exfalso; omega))⟩⟩
      ·
        have e19h := ak402.2
        refine GO.aload_n dX12_burns_110 rfl rfl ?_
        refine GO.iload_n dX12_burns_111 rfl rfl ?_
        refine GO.callV (ci := 11) (N := mX12_goesHome) dX12_burns_112 (RX12, TX12, 151) rfl gV_RX12_676 h_x (t_X12_goesHome h_x r_p0 (by omega) (by omega)) rfl [] rfl rfl (Nat.le_of_ble_eq_true rfl) rfl (k_vs fun V482 h481 hF480 => ?_)
        have ak483 := tk_fr hF480 ak403.1 h_x (by decide +kernel) (by decide +kernel) ak403.2
        have ak484 := tk_fr hF480 ak404.1 h_x (by decide +kernel) (by decide +kernel) ak404.2
        have ak485 := tk_fr hF480 ak405.1 h_x (by decide +kernel) (by decide +kernel) ak405.2
        refine GO.useWT (fun hW486 => ?_)
        have ak487 := hW486.arr h_x 19 21 (by decide) rfl (by decide)
        have raw_goesHome := h481.2
        have rw112 := h481.2
        refine GO.aload_n dX12_burns_115 rfl rfl ?_
        refine GO.getRaw h_x fl_RX12_53 (Eq.trans (hF480 _ _ _ h_x h_x (by decide +kernel)) (Eq.trans (uq_ne e400 (Or.inl (K_ne h_x h397 (by decide)))) (Eq.trans (uq_ne e391 (Or.inr (by decide))) (Eq.trans (uq_ne e381 (Or.inl (K_ne h_x h19 (by decide)))) hv7)))) dX12_burns_116 ?_
        refine GO.iload_n dX12_burns_119 rfl rfl ?_
        refine GO.iald (t := 21) rfl rfl h6 r_p0 (by omega) (by omega) dX12_burns_120 (fun l490 u491 => ?_)
        refine GO.bipush dX12_burns_121 rfl ?_
        refine GO.iadd dX12_burns_123 ?_
        refine GO.bipush dX12_burns_124 rfl ?_
        refine GO.idivP dX12_burns_126 ⟨by omega, by omega⟩ (ir_c rfl) (by omega) (by omega) ?_
        refine GO.name (fun z493 hz494 => ?_)
        refine GO.istore (ls1 := [some (.ref x), some (ti p0), some (ti z17), some (ti z17), some (ti z493), none]) dX12_burns_127 rfl rfl ?_
        refine GO.aload_n dX12_burns_129 rfl rfl ?_
        refine GO.aload_n dX12_burns_130 rfl rfl ?_
        refine GO.getI h_x fl_RX12_396 rfl rfl dX12_burns_131 (fun l495 u496 => ?_)
        have e500 : vi V383 x 2 = vi V x 2 := vi_up e381 (Or.inl (K_ne h_x h19 (by decide)))
        have e499 : vi V392 x 2 = vi V383 x 2 := vi_up e391 (Or.inr (by decide))
        have e498 : vi V401 x 2 = vi V392 x 2 := vi_up e400 (Or.inl (K_ne h_x h397 (by decide)))
        have e497 : vi V482 x 2 = vi V401 x 2 := vi_fr hF480 h_x h_x (by decide +kernel)
        refine GO.useFR (fun hFs => ?_)
        first | (have hP19 : vi V482 (vq V x 19) (p0).toNat = 0 := by rw [← vq_eq (hFs _ _ 19 h_x h_x (by decide +kernel))]; exact (congrFun rw112 _).trans updf_at) | (have hP19 : vi V482 (vq V x 19) (p0).toNat = vi V (vq V x 19) (p0).toNat := by omega) | skip
        have hd2 : vi V482 x 2 = vi V x 2 := vi_fr hFs h_x h_x (by decide +kernel)
        have hd3 : vi V482 x 3 = vi V x 3 := vi_fr hFs h_x h_x (by decide +kernel)
        have hd4 : vi V482 x 4 = vi V x 4 := vi_fr hFs h_x h_x (by decide +kernel)
        refine GO.callV (ci := 11) (N := mX12_isDark) dX12_burns_134 (RX12, TX12, 151) rfl gV_RX12_582 h_x (t_X12_isDark h_x vi_ir) rfl [] rfl rfl (Nat.le_of_ble_eq_true rfl) rfl (k_ip fun X501 r502 h503 => ?_)
        have raw_isDark := h503.2.2.2
        have rw134 := h503.2.2.2
        rw [hd2, hd3, hd4] at rw134
        have hdd := rw134.trans rw17.symm
        refine GO.if_eq (tgt := 144) dX12_burns_137 (by decide) r502 (fun c504 => ?_) (fun c504 => ?_)
        ·
          refine GO.iconst dX12_burns_144 ?_
          refine GO.istore (ls1 := [some (.ref x), some (ti p0), some (ti z17), some (ti z17), some (ti z493), some (ti 0)]) dX12_burns_145 rfl rfl ?_
          refine GO.aload_n dX12_burns_147 rfl rfl ?_
          refine GO.getA (n := 240) h_x fl_RX12_65 rfl rfl rfl rfl dX12_burns_148 (fun hv506 h505 => ?_)
          refine GO.iconst dX12_burns_151 ?_
          refine GO.iload_n dX12_burns_152 rfl rfl ?_
          refine GO.imul dX12_burns_153 ?_
          refine GO.iload dX12_burns_154 rfl ?_
          refine GO.iadd dX12_burns_156 ?_
          refine GO.aload_n dX12_burns_157 rfl rfl ?_
          refine GO.getRaw h_x fl_RX12_65 hv506 dX12_burns_158 ?_
          refine GO.iconst dX12_burns_161 ?_
          refine GO.iload_n dX12_burns_162 rfl rfl ?_
          refine GO.imul dX12_burns_163 ?_
          refine GO.iload dX12_burns_164 rfl ?_
          refine GO.iadd dX12_burns_166 ?_
          refine GO.iald (t := 25) rfl rfl h505 ⟨by omega, by omega⟩ (by omega) (by omega) dX12_burns_167 (fun _ _ => ?_)
          have e23 := ak485.2
          refine GO.iload dX12_burns_168 rfl ?_
          refine GO.iadd dX12_burns_170 ?_
          refine GO.norm2 (fun z513 r514 hn515 hw516 => ?_)
          refine GO.iast (t := 25) rfl rfl (by decide +kernel) h505 ⟨by omega, by omega⟩ (by omega) (by omega) r514 (r514).1 (r514).2 dX12_burns_171 (fun V518 e517 => ?_)
          have ak519 := tk_oth e517 ak487 h_x h505 (by decide) (by decide) (rfl : ar 19 V482 x = ar 19 V482 x)
          have ak520 := tk_oth e517 ak483.1 h_x h505 (by decide) (by decide) ak483.2
          have ak521 := tk_oth e517 ak484.1 h_x h505 (by decide) (by decide) ak484.2
          have ak522 := tk_put e517 ak485.1 h_x (vq_of hv506) r514 ak485.2
          refine GO.aload_n dX12_burns_172 rfl rfl ?_
          refine GO.aload_n dX12_burns_173 rfl rfl ?_
          refine GO.getL h_x fl_RX12_679 rfl rfl dX12_burns_174 ?_
          refine GO.anyL (fun z523 => ?_)
          refine GO.iload dX12_burns_177 rfl ?_
          refine GO.i2l dX12_burns_179 ?_
          refine GO.anyL (fun z524 => ?_)
          refine GO.ladd dX12_burns_180 ?_
          refine GO.anyL (fun z525 => ?_)
          refine GO.putL h_x fp_RX12_679 rfl (by decide +kernel) dX12_burns_181 (fun V527 e526 => ?_)
          have ak528 := tk_fld e526 ak519.1 h_x (by decide) ak519.2
          have ak529 := tk_fld e526 ak520.1 h_x (by decide) ak520.2
          have ak530 := tk_fld e526 ak521.1 h_x (by decide) ak521.2
          have ak531 := tk_fld e526 ak522.1 h_x (by decide) ak522.2
          refine GO.useFR (fun hFs => ?_)
          exact GO.retv rfl rfl dX12_burns_184 ⟨rfl, rfl, ⟨trivial, (by first | exact MBU.mk (Q := 0) hnd hnn rw17 ⟨(by omega), (by omega)⟩ (by omega) (by omega) (by first | assumption | exact (wr_id ⟨by omega, by omega⟩).symm) (Or.inr ⟨(by omega), rfl⟩) (Or.inl ⟨(by omega), hP19, ak528.2⟩) ak529.2 ak530.2 (by omega) (by omega) (by first | assumption | exact (wr_id ⟨by omega, by omega⟩).symm) (by assumption) (congrFun e23 _) (by omega) ak531.2 (arq hFs ext.rf h_x (hW_0.ref h_x (j := 21) (Nat.le_of_ble_eq_true rfl) rfl).2 (by decide +kernel) (by decide +kernel)) (arq hFs ext.rf h_x (hW_0.ref h_x (j := 28) (Nat.le_of_ble_eq_true rfl) rfl).2 (by decide +kernel) (by decide +kernel)) | exact MBU.mk (Q := 0) hnd hnn rw17 ⟨(by omega), (by omega)⟩ (by omega) (by omega) (by first | assumption | exact (wr_id ⟨by omega, by omega⟩).symm) (Or.inr ⟨(by omega), rfl⟩) (Or.inr ⟨(by omega), hP19, ((ak528.2).trans (rw112.trans (congrArg (fun f => updf f _ 0) e19h)))⟩) ak529.2 ak530.2 (by omega) (by omega) (by first | assumption | exact (wr_id ⟨by omega, by omega⟩).symm) (by assumption) (congrFun e23 _) (by omega) ak531.2 (arq hFs ext.rf h_x (hW_0.ref h_x (j := 21) (Nat.le_of_ble_eq_true rfl) rfl).2 (by decide +kernel) (by decide +kernel)) (arq hFs ext.rf h_x (hW_0.ref h_x (j := 28) (Nat.le_of_ble_eq_true rfl) rfl).2 (by decide +kernel) (by decide +kernel)) | exact (by exfalso; omega))⟩⟩
        ·
          refine GO.iconst dX12_burns_140 ?_
          refine GO.goto (tgt := 145) dX12_burns_141 (by decide) ?_
          refine GO.istore (ls1 := [some (.ref x), some (ti p0), some (ti z17), some (ti z17), some (ti z493), some (ti 3)]) dX12_burns_145 rfl rfl ?_
          refine GO.aload_n dX12_burns_147 rfl rfl ?_
          refine GO.getA (n := 240) h_x fl_RX12_65 rfl rfl rfl rfl dX12_burns_148 (fun hv533 h532 => ?_)
          refine GO.iconst dX12_burns_151 ?_
          refine GO.iload_n dX12_burns_152 rfl rfl ?_
          refine GO.imul dX12_burns_153 ?_
          refine GO.iload dX12_burns_154 rfl ?_
          refine GO.iadd dX12_burns_156 ?_
          refine GO.aload_n dX12_burns_157 rfl rfl ?_
          refine GO.getRaw h_x fl_RX12_65 hv533 dX12_burns_158 ?_
          refine GO.iconst dX12_burns_161 ?_
          refine GO.iload_n dX12_burns_162 rfl rfl ?_
          refine GO.imul dX12_burns_163 ?_
          refine GO.iload dX12_burns_164 rfl ?_
          refine GO.iadd dX12_burns_166 ?_
          refine GO.iald (t := 25) rfl rfl h532 ⟨by omega, by omega⟩ (by omega) (by omega) dX12_burns_167 (fun _ _ => ?_)
          have e23 := ak485.2
          refine GO.iload dX12_burns_168 rfl ?_
          refine GO.iadd dX12_burns_170 ?_
          refine GO.norm2 (fun z540 r541 hn542 hw543 => ?_)
          refine GO.iast (t := 25) rfl rfl (by decide +kernel) h532 ⟨by omega, by omega⟩ (by omega) (by omega) r541 (r541).1 (r541).2 dX12_burns_171 (fun V545 e544 => ?_)
          have ak546 := tk_oth e544 ak487 h_x h532 (by decide) (by decide) (rfl : ar 19 V482 x = ar 19 V482 x)
          have ak547 := tk_oth e544 ak483.1 h_x h532 (by decide) (by decide) ak483.2
          have ak548 := tk_oth e544 ak484.1 h_x h532 (by decide) (by decide) ak484.2
          have ak549 := tk_put e544 ak485.1 h_x (vq_of hv533) r541 ak485.2
          refine GO.aload_n dX12_burns_172 rfl rfl ?_
          refine GO.aload_n dX12_burns_173 rfl rfl ?_
          refine GO.getL h_x fl_RX12_679 rfl rfl dX12_burns_174 ?_
          refine GO.anyL (fun z550 => ?_)
          refine GO.iload dX12_burns_177 rfl ?_
          refine GO.i2l dX12_burns_179 ?_
          refine GO.anyL (fun z551 => ?_)
          refine GO.ladd dX12_burns_180 ?_
          refine GO.anyL (fun z552 => ?_)
          refine GO.putL h_x fp_RX12_679 rfl (by decide +kernel) dX12_burns_181 (fun V554 e553 => ?_)
          have ak555 := tk_fld e553 ak546.1 h_x (by decide) ak546.2
          have ak556 := tk_fld e553 ak547.1 h_x (by decide) ak547.2
          have ak557 := tk_fld e553 ak548.1 h_x (by decide) ak548.2
          have ak558 := tk_fld e553 ak549.1 h_x (by decide) ak549.2
          refine GO.useFR (fun hFs => ?_)
          exact GO.retv rfl rfl dX12_burns_184 ⟨rfl, rfl, ⟨trivial, (by first | exact MBU.mk (Q := 0) hnd hnn rw17 ⟨(by omega), (by omega)⟩ (by omega) (by omega) (by first | assumption | exact (wr_id ⟨by omega, by omega⟩).symm) (Or.inr ⟨(by omega), rfl⟩) (Or.inl ⟨(by omega), hP19, ak555.2⟩) ak556.2 ak557.2 (by omega) (by omega) (by first | assumption | exact (wr_id ⟨by omega, by omega⟩).symm) (by assumption) (congrFun e23 _) (by omega) ak558.2 (arq hFs ext.rf h_x (hW_0.ref h_x (j := 21) (Nat.le_of_ble_eq_true rfl) rfl).2 (by decide +kernel) (by decide +kernel)) (arq hFs ext.rf h_x (hW_0.ref h_x (j := 28) (Nat.le_of_ble_eq_true rfl) rfl).2 (by decide +kernel) (by decide +kernel)) | exact MBU.mk (Q := 0) hnd hnn rw17 ⟨(by omega), (by omega)⟩ (by omega) (by omega) (by first | assumption | exact (wr_id ⟨by omega, by omega⟩).symm) (Or.inr ⟨(by omega), rfl⟩) (Or.inr ⟨(by omega), hP19, ((ak555.2).trans (rw112.trans (congrArg (fun f => updf f _ 0) e19h)))⟩) ak556.2 ak557.2 (by omega) (by omega) (by first | assumption | exact (wr_id ⟨by omega, by omega⟩).symm) (by assumption) (congrFun e23 _) (by omega) ak558.2 (arq hFs ext.rf h_x (hW_0.ref h_x (j := 21) (Nat.le_of_ble_eq_true rfl) rfl).2 (by decide +kernel) (by decide +kernel)) (arq hFs ext.rf h_x (hW_0.ref h_x (j := 28) (Nat.le_of_ble_eq_true rfl) rfl).2 (by decide +kernel) (by decide +kernel)) | exact (by exfalso; omega))⟩⟩
  ·
    refine GO.iconst dX12_burns_23 ?_
    refine GO.goto (tgt := 28) dX12_burns_24 (by decide) ?_
    refine GO.imul dX12_burns_28 ?_
    refine GO.name (fun z559 hz560 => ?_)
    refine GO.istore_n (ls1 := [some (.ref x), some (ti p0), some (ti z559), none, none, none]) dX12_burns_29 rfl rfl rfl ?_
    have hnd : z559 = z559 := rfl
    refine GO.iload_n dX12_burns_30 rfl rfl ?_
    refine GO.aload_n dX12_burns_31 rfl rfl ?_
    refine GO.getA (n := 60) h_x fl_RX12_56 rfl rfl rfl rfl dX12_burns_32 (fun hv562 h561 => ?_)
    refine GO.iload_n dX12_burns_35 rfl rfl ?_
    refine GO.iald (t := 22) rfl rfl h561 r_p0 (by omega) (by omega) dX12_burns_36 (fun _ _ => ?_)
    refine GO.icmp_ge (tgt := 44) dX12_burns_37 (by decide) ⟨by omega, by omega⟩ vi_ir (fun c563 => ?_) (fun c563 => ?_)
    ·
      refine GO.aload_n dX12_burns_44 rfl rfl ?_
      refine GO.getRaw h_x fl_RX12_56 hv562 dX12_burns_45 ?_
      refine GO.iload_n dX12_burns_48 rfl rfl ?_
      refine GO.iald (t := 22) rfl rfl h561 r_p0 (by omega) (by omega) dX12_burns_49 (fun _ _ => ?_)
      refine GO.name (fun z566 hz567 => ?_)
      have r568 : ir z566 := hz567 ▸ vi_ir
      refine GO.istore_n (ls1 := [some (.ref x), some (ti p0), some (ti z559), some (ti z566), none, none]) dX12_burns_50 rfl rfl rfl ?_
      have hnn : z566 = z566 := rfl
      refine GO.aload_n dX12_burns_51 rfl rfl ?_
      refine GO.getRaw h_x fl_RX12_56 hv562 dX12_burns_52 ?_
      refine GO.iload_n dX12_burns_55 rfl rfl ?_
      refine GO.aload_n dX12_burns_56 rfl rfl ?_
      refine GO.getRaw h_x fl_RX12_56 hv562 dX12_burns_57 ?_
      refine GO.iload_n dX12_burns_60 rfl rfl ?_
      refine GO.iald (t := 22) rfl rfl h561 r_p0 (by omega) (by omega) dX12_burns_61 (fun _ _ => ?_)
      refine GO.iload_n dX12_burns_62 rfl rfl ?_
      refine GO.isub dX12_burns_63 ?_
      have q574 : -2147483648 ≤ z566 ∧ z566 ≤ 2147483647 := r568
      have q575 : -2147483648 ≤ vi V (vq V x 20) (p0).toNat ∧ vi V (vq V x 20) (p0).toNat ≤ 2147483647 := vi_ir
      refine GO.iast (t := 22) rfl rfl (by decide +kernel) h561 r_p0 (by omega) (by omega) ⟨by omega, by omega⟩ (by omega) (by omega) dX12_burns_64 (fun V576 e573 => ?_)
      have ak577 := tk_oth e573 ak2 h_x h561 (by decide) (by decide) (rfl : ar 19 V x = ar 19 V x)
      have ak578 := tk_put e573 ak3 h_x (vq_of hv562) ⟨by omega, by omega⟩ (rfl : ar 20 V x = ar 20 V x)
      have ak579 := tk_oth e573 ak4 h_x h561 (by decide) (by decide) (rfl : ar 22 V x = ar 22 V x)
      have ak580 := tk_oth e573 ak5 h_x h561 (by decide) (by decide) (rfl : ar 23 V x = ar 23 V x)
      refine GO.aload_n dX12_burns_65 rfl rfl ?_
      refine GO.aload_n dX12_burns_66 rfl rfl ?_
      refine GO.getL h_x fl_RX12_654 rfl rfl dX12_burns_67 ?_
      refine GO.anyL (fun z581 => ?_)
      refine GO.iload_n dX12_burns_70 rfl rfl ?_
      refine GO.i2l dX12_burns_71 ?_
      refine GO.anyL (fun z582 => ?_)
      refine GO.ladd dX12_burns_72 ?_
      refine GO.anyL (fun z583 => ?_)
      refine GO.putL h_x fp_RX12_654 rfl (by decide +kernel) dX12_burns_73 (fun V585 e584 => ?_)
      have ak586 := tk_fld e584 ak577.1 h_x (by decide) ak577.2
      have ak587 := tk_fld e584 ak578.1 h_x (by decide) ak578.2
      have ak588 := tk_fld e584 ak579.1 h_x (by decide) ak579.2
      have ak589 := tk_fld e584 ak580.1 h_x (by decide) ak580.2
      refine GO.aload_n dX12_burns_76 rfl rfl ?_
      refine GO.getA (n := 60) h_x fl_RX12_62 rfl rfl rfl rfl dX12_burns_77 (fun hv591 h590 => ?_)
      refine GO.iload_n dX12_burns_80 rfl rfl ?_
      refine GO.iload_n dX12_burns_81 rfl rfl ?_
      refine GO.iload_n dX12_burns_82 rfl rfl ?_
      refine GO.icmp_ge (tgt := 97) dX12_burns_83 (by decide) r568 ⟨by omega, by omega⟩ (fun c592 => ?_) (fun c592 => ?_)
      ·
        refine GO.iconst dX12_burns_97 ?_
        refine GO.iast (t := 24) rfl rfl (by decide +kernel) h590 r_p0 (by omega) (by omega) (ir_c rfl) (by decide) (by decide) dX12_burns_98 (fun V594 e593 => ?_)
        have ak595 := tk_oth e593 ak586.1 h_x h590 (by decide) (by decide) ak586.2
        have ak596 := tk_oth e593 ak587.1 h_x h590 (by decide) (by decide) ak587.2
        have ak597 := tk_put e593 ak588.1 h_x (vq_of hv591) (ir_c rfl) ak588.2
        have ak598 := tk_oth e593 ak589.1 h_x h590 (by decide) (by decide) ak589.2
        have hy9 := upd2_int e593 (by first | assumption | exact ir_c rfl)
        refine GO.aload_n dX12_burns_99 rfl rfl ?_
        refine GO.getRaw h_x fl_RX12_62 (Eq.trans (uq_ne e593 (Or.inl (K_ne h_x h590 (by decide)))) hv591) dX12_burns_100 ?_
        refine GO.iload_n dX12_burns_103 rfl rfl ?_
        refine GO.iald (t := 24) rfl rfl h590 r_p0 (by omega) (by omega) dX12_burns_104 (fun _ _ => ?_)
        refine GO.bipush dX12_burns_105 rfl ?_
        refine GO.icmp_ne (tgt := 115) dX12_burns_107 (by decide) vi_ir (ir_c rfl) (fun c602 => ?_) (fun c602 => ?_)
        ·
          refine GO.aload_n dX12_burns_115 rfl rfl ?_
          refine GO.getRaw h_x fl_RX12_53 (Eq.trans (uq_ne e593 (Or.inl (K_ne h_x h590 (by decide)))) (Eq.trans (uq_ne e584 (Or.inr (by decide))) (Eq.trans (uq_ne e573 (Or.inl (K_ne h_x h561 (by decide)))) hv7))) dX12_burns_116 ?_
          refine GO.iload_n dX12_burns_119 rfl rfl ?_
          refine GO.iald (t := 21) rfl rfl h6 r_p0 (by omega) (by omega) dX12_burns_120 (fun l605 u606 => ?_)
          have e609 : vi V576 (vq V x 19) (p0).toNat = vi V (vq V x 19) (p0).toNat := vi_up e573 (Or.inl (K_ne h6 h561 (by decide)))
          have e608 : vi V585 (vq V x 19) (p0).toNat = vi V576 (vq V x 19) (p0).toNat := vi_up e584 (Or.inl (K_ne h6 h_x (by decide)))
          have e607 : vi V594 (vq V x 19) (p0).toNat = vi V585 (vq V x 19) (p0).toNat := vi_up e593 (Or.inl (K_ne h6 h590 (by decide)))
          refine GO.bipush dX12_burns_121 rfl ?_
          refine GO.iadd dX12_burns_123 ?_
          refine GO.bipush dX12_burns_124 rfl ?_
          refine GO.idivP dX12_burns_126 ⟨by omega, by omega⟩ (ir_c rfl) (by omega) (by omega) ?_
          refine GO.name (fun z610 hz611 => ?_)
          refine GO.istore (ls1 := [some (.ref x), some (ti p0), some (ti z559), some (ti z566), some (ti z610), none]) dX12_burns_127 rfl rfl ?_
          refine GO.aload_n dX12_burns_129 rfl rfl ?_
          refine GO.aload_n dX12_burns_130 rfl rfl ?_
          refine GO.getI h_x fl_RX12_396 rfl rfl dX12_burns_131 (fun l612 u613 => ?_)
          have e616 : vi V576 x 2 = vi V x 2 := vi_up e573 (Or.inl (K_ne h_x h561 (by decide)))
          have e615 : vi V585 x 2 = vi V576 x 2 := vi_up e584 (Or.inr (by decide))
          have e614 : vi V594 x 2 = vi V585 x 2 := vi_up e593 (Or.inl (K_ne h_x h590 (by decide)))
          refine GO.useFR (fun hFs => ?_)
          first | (have hP19 : vi V594 (vq V x 19) (p0).toNat = 0 := by rw [← vq_eq (hFs _ _ 19 h_x h_x (by decide +kernel))]; exact (congrFun rw112 _).trans updf_at) | (have hP19 : vi V594 (vq V x 19) (p0).toNat = vi V (vq V x 19) (p0).toNat := by omega) | skip
          have hd2 : vi V594 x 2 = vi V x 2 := vi_fr hFs h_x h_x (by decide +kernel)
          have hd3 : vi V594 x 3 = vi V x 3 := vi_fr hFs h_x h_x (by decide +kernel)
          have hd4 : vi V594 x 4 = vi V x 4 := vi_fr hFs h_x h_x (by decide +kernel)
          refine GO.callV (ci := 11) (N := mX12_isDark) dX12_burns_134 (RX12, TX12, 151) rfl gV_RX12_582 h_x (t_X12_isDark h_x vi_ir) rfl [] rfl rfl (Nat.le_of_ble_eq_true rfl) rfl (k_ip fun X617 r618 h619 => ?_)
          have raw_isDark := h619.2.2.2
          have rw134 := h619.2.2.2
          rw [hd2, hd3, hd4] at rw134
          have hdd := rw134.trans rw17.symm
          refine GO.if_eq (tgt := 144) dX12_burns_137 (by decide) r618 (fun c620 => ?_) (fun c620 => ?_)
          ·
            refine GO.iconst dX12_burns_144 ?_
            refine GO.istore (ls1 := [some (.ref x), some (ti p0), some (ti z559), some (ti z566), some (ti z610), some (ti 0)]) dX12_burns_145 rfl rfl ?_
            refine GO.aload_n dX12_burns_147 rfl rfl ?_
            refine GO.getA (n := 240) h_x fl_RX12_65 rfl rfl rfl rfl dX12_burns_148 (fun hv622 h621 => ?_)
            refine GO.iconst dX12_burns_151 ?_
            refine GO.iload_n dX12_burns_152 rfl rfl ?_
            refine GO.imul dX12_burns_153 ?_
            refine GO.iload dX12_burns_154 rfl ?_
            refine GO.iadd dX12_burns_156 ?_
            refine GO.aload_n dX12_burns_157 rfl rfl ?_
            refine GO.getRaw h_x fl_RX12_65 hv622 dX12_burns_158 ?_
            refine GO.iconst dX12_burns_161 ?_
            refine GO.iload_n dX12_burns_162 rfl rfl ?_
            refine GO.imul dX12_burns_163 ?_
            refine GO.iload dX12_burns_164 rfl ?_
            refine GO.iadd dX12_burns_166 ?_
            refine GO.iald (t := 25) rfl rfl h621 ⟨by omega, by omega⟩ (by omega) (by omega) dX12_burns_167 (fun _ _ => ?_)
            have e23 := ak598.2
            refine GO.iload dX12_burns_168 rfl ?_
            refine GO.iadd dX12_burns_170 ?_
            refine GO.norm2 (fun z628 r629 hn630 hw631 => ?_)
            refine GO.iast (t := 25) rfl rfl (by decide +kernel) h621 ⟨by omega, by omega⟩ (by omega) (by omega) r629 (r629).1 (r629).2 dX12_burns_171 (fun V633 e632 => ?_)
            have ak634 := tk_oth e632 ak595.1 h_x h621 (by decide) (by decide) ak595.2
            have ak635 := tk_oth e632 ak596.1 h_x h621 (by decide) (by decide) ak596.2
            have ak636 := tk_oth e632 ak597.1 h_x h621 (by decide) (by decide) ak597.2
            have ak637 := tk_put e632 ak598.1 h_x (vq_of hv622) r629 ak598.2
            refine GO.aload_n dX12_burns_172 rfl rfl ?_
            refine GO.aload_n dX12_burns_173 rfl rfl ?_
            refine GO.getL h_x fl_RX12_679 rfl rfl dX12_burns_174 ?_
            refine GO.anyL (fun z638 => ?_)
            refine GO.iload dX12_burns_177 rfl ?_
            refine GO.i2l dX12_burns_179 ?_
            refine GO.anyL (fun z639 => ?_)
            refine GO.ladd dX12_burns_180 ?_
            refine GO.anyL (fun z640 => ?_)
            refine GO.putL h_x fp_RX12_679 rfl (by decide +kernel) dX12_burns_181 (fun V642 e641 => ?_)
            have ak643 := tk_fld e641 ak634.1 h_x (by decide) ak634.2
            have ak644 := tk_fld e641 ak635.1 h_x (by decide) ak635.2
            have ak645 := tk_fld e641 ak636.1 h_x (by decide) ak636.2
            have ak646 := tk_fld e641 ak637.1 h_x (by decide) ak637.2
            refine GO.useFR (fun hFs => ?_)
            exact GO.retv rfl rfl dX12_burns_184 ⟨rfl, rfl, ⟨trivial, (by first | exact MBU.mk (Q := 0) hnd hnn rw17 ⟨(by omega), (by omega)⟩ (by omega) (by omega) (by first | assumption | exact (wr_id ⟨by omega, by omega⟩).symm) (Or.inr ⟨(by omega), rfl⟩) (Or.inl ⟨(by omega), hP19, ak643.2⟩) ak644.2 ak645.2 (by omega) (by omega) (by first | assumption | exact (wr_id ⟨by omega, by omega⟩).symm) (by assumption) (congrFun e23 _) (by omega) ak646.2 (arq hFs ext.rf h_x (hW_0.ref h_x (j := 21) (Nat.le_of_ble_eq_true rfl) rfl).2 (by decide +kernel) (by decide +kernel)) (arq hFs ext.rf h_x (hW_0.ref h_x (j := 28) (Nat.le_of_ble_eq_true rfl) rfl).2 (by decide +kernel) (by decide +kernel)) | exact (by exfalso; omega))⟩⟩
          ·
            refine GO.iconst dX12_burns_140 ?_
            refine GO.goto (tgt := 145) dX12_burns_141 (by decide) ?_
            refine GO.istore (ls1 := [some (.ref x), some (ti p0), some (ti z559), some (ti z566), some (ti z610), some (ti 3)]) dX12_burns_145 rfl rfl ?_
            refine GO.aload_n dX12_burns_147 rfl rfl ?_
            refine GO.getA (n := 240) h_x fl_RX12_65 rfl rfl rfl rfl dX12_burns_148 (fun hv648 h647 => ?_)
            refine GO.iconst dX12_burns_151 ?_
            refine GO.iload_n dX12_burns_152 rfl rfl ?_
            refine GO.imul dX12_burns_153 ?_
            refine GO.iload dX12_burns_154 rfl ?_
            refine GO.iadd dX12_burns_156 ?_
            refine GO.aload_n dX12_burns_157 rfl rfl ?_
            refine GO.getRaw h_x fl_RX12_65 hv648 dX12_burns_158 ?_
            refine GO.iconst dX12_burns_161 ?_
            refine GO.iload_n dX12_burns_162 rfl rfl ?_
            refine GO.imul dX12_burns_163 ?_
            refine GO.iload dX12_burns_164 rfl ?_
            refine GO.iadd dX12_burns_166 ?_
            refine GO.iald (t := 25) rfl rfl h647 ⟨by omega, by omega⟩ (by omega) (by omega) dX12_burns_167 (fun _ _ => ?_)
            have e23 := ak598.2
            refine GO.iload dX12_burns_168 rfl ?_
            refine GO.iadd dX12_burns_170 ?_
            refine GO.norm2 (fun z654 r655 hn656 hw657 => ?_)
            refine GO.iast (t := 25) rfl rfl (by decide +kernel) h647 ⟨by omega, by omega⟩ (by omega) (by omega) r655 (r655).1 (r655).2 dX12_burns_171 (fun V659 e658 => ?_)
            have ak660 := tk_oth e658 ak595.1 h_x h647 (by decide) (by decide) ak595.2
            have ak661 := tk_oth e658 ak596.1 h_x h647 (by decide) (by decide) ak596.2
            have ak662 := tk_oth e658 ak597.1 h_x h647 (by decide) (by decide) ak597.2
            have ak663 := tk_put e658 ak598.1 h_x (vq_of hv648) r655 ak598.2
            refine GO.aload_n dX12_burns_172 rfl rfl ?_
            refine GO.aload_n dX12_burns_173 rfl rfl ?_
            refine GO.getL h_x fl_RX12_679 rfl rfl dX12_burns_174 ?_
            refine GO.anyL (fun z664 => ?_)
            refine GO.iload dX12_burns_177 rfl ?_
            refine GO.i2l dX12_burns_179 ?_
            refine GO.anyL (fun z665 => ?_)
            refine GO.ladd dX12_burns_180 ?_
            refine GO.anyL (fun z666 => ?_)
            refine GO.putL h_x fp_RX12_679 rfl (by decide +kernel) dX12_burns_181 (fun V668 e667 => ?_)
            have ak669 := tk_fld e667 ak660.1 h_x (by decide) ak660.2
            have ak670 := tk_fld e667 ak661.1 h_x (by decide) ak661.2
            have ak671 := tk_fld e667 ak662.1 h_x (by decide) ak662.2
            have ak672 := tk_fld e667 ak663.1 h_x (by decide) ak663.2
            refine GO.useFR (fun hFs => ?_)
            exact GO.retv rfl rfl dX12_burns_184 ⟨rfl, rfl, ⟨trivial, (by first | exact MBU.mk (Q := 0) hnd hnn rw17 ⟨(by omega), (by omega)⟩ (by omega) (by omega) (by first | assumption | exact (wr_id ⟨by omega, by omega⟩).symm) (Or.inr ⟨(by omega), rfl⟩) (Or.inl ⟨(by omega), hP19, ak669.2⟩) ak670.2 ak671.2 (by omega) (by omega) (by first | assumption | exact (wr_id ⟨by omega, by omega⟩).symm) (by assumption) (congrFun e23 _) (by omega) ak672.2 (arq hFs ext.rf h_x (hW_0.ref h_x (j := 21) (Nat.le_of_ble_eq_true rfl) rfl).2 (by decide +kernel) (by decide +kernel)) (arq hFs ext.rf h_x (hW_0.ref h_x (j := 28) (Nat.le_of_ble_eq_true rfl) rfl).2 (by decide +kernel) (by decide +kernel)) | exact (by exfalso; omega))⟩⟩
        ·
          have e19h := ak595.2
          refine GO.aload_n dX12_burns_110 rfl rfl ?_
          refine GO.iload_n dX12_burns_111 rfl rfl ?_
          refine GO.callV (ci := 11) (N := mX12_goesHome) dX12_burns_112 (RX12, TX12, 151) rfl gV_RX12_676 h_x (t_X12_goesHome h_x r_p0 (by omega) (by omega)) rfl [] rfl rfl (Nat.le_of_ble_eq_true rfl) rfl (k_vs fun V675 h674 hF673 => ?_)
          have ak676 := tk_fr hF673 ak596.1 h_x (by decide +kernel) (by decide +kernel) ak596.2
          have ak677 := tk_fr hF673 ak597.1 h_x (by decide +kernel) (by decide +kernel) ak597.2
          have ak678 := tk_fr hF673 ak598.1 h_x (by decide +kernel) (by decide +kernel) ak598.2
          refine GO.useWT (fun hW679 => ?_)
          have ak680 := hW679.arr h_x 19 21 (by decide) rfl (by decide)
          have raw_goesHome := h674.2
          have rw112 := h674.2
          refine GO.aload_n dX12_burns_115 rfl rfl ?_
          refine GO.getRaw h_x fl_RX12_53 (Eq.trans (hF673 _ _ _ h_x h_x (by decide +kernel)) (Eq.trans (uq_ne e593 (Or.inl (K_ne h_x h590 (by decide)))) (Eq.trans (uq_ne e584 (Or.inr (by decide))) (Eq.trans (uq_ne e573 (Or.inl (K_ne h_x h561 (by decide)))) hv7)))) dX12_burns_116 ?_
          refine GO.iload_n dX12_burns_119 rfl rfl ?_
          refine GO.iald (t := 21) rfl rfl h6 r_p0 (by omega) (by omega) dX12_burns_120 (fun l683 u684 => ?_)
          refine GO.bipush dX12_burns_121 rfl ?_
          refine GO.iadd dX12_burns_123 ?_
          refine GO.bipush dX12_burns_124 rfl ?_
          refine GO.idivP dX12_burns_126 ⟨by omega, by omega⟩ (ir_c rfl) (by omega) (by omega) ?_
          refine GO.name (fun z686 hz687 => ?_)
          refine GO.istore (ls1 := [some (.ref x), some (ti p0), some (ti z559), some (ti z566), some (ti z686), none]) dX12_burns_127 rfl rfl ?_
          refine GO.aload_n dX12_burns_129 rfl rfl ?_
          refine GO.aload_n dX12_burns_130 rfl rfl ?_
          refine GO.getI h_x fl_RX12_396 rfl rfl dX12_burns_131 (fun l688 u689 => ?_)
          have e693 : vi V576 x 2 = vi V x 2 := vi_up e573 (Or.inl (K_ne h_x h561 (by decide)))
          have e692 : vi V585 x 2 = vi V576 x 2 := vi_up e584 (Or.inr (by decide))
          have e691 : vi V594 x 2 = vi V585 x 2 := vi_up e593 (Or.inl (K_ne h_x h590 (by decide)))
          have e690 : vi V675 x 2 = vi V594 x 2 := vi_fr hF673 h_x h_x (by decide +kernel)
          refine GO.useFR (fun hFs => ?_)
          first | (have hP19 : vi V675 (vq V x 19) (p0).toNat = 0 := by rw [← vq_eq (hFs _ _ 19 h_x h_x (by decide +kernel))]; exact (congrFun rw112 _).trans updf_at) | (have hP19 : vi V675 (vq V x 19) (p0).toNat = vi V (vq V x 19) (p0).toNat := by omega) | skip
          have hd2 : vi V675 x 2 = vi V x 2 := vi_fr hFs h_x h_x (by decide +kernel)
          have hd3 : vi V675 x 3 = vi V x 3 := vi_fr hFs h_x h_x (by decide +kernel)
          have hd4 : vi V675 x 4 = vi V x 4 := vi_fr hFs h_x h_x (by decide +kernel)
          refine GO.callV (ci := 11) (N := mX12_isDark) dX12_burns_134 (RX12, TX12, 151) rfl gV_RX12_582 h_x (t_X12_isDark h_x vi_ir) rfl [] rfl rfl (Nat.le_of_ble_eq_true rfl) rfl (k_ip fun X694 r695 h696 => ?_)
          have raw_isDark := h696.2.2.2
          have rw134 := h696.2.2.2
          rw [hd2, hd3, hd4] at rw134
          have hdd := rw134.trans rw17.symm
          refine GO.if_eq (tgt := 144) dX12_burns_137 (by decide) r695 (fun c697 => ?_) (fun c697 => ?_)
          ·
            refine GO.iconst dX12_burns_144 ?_
            refine GO.istore (ls1 := [some (.ref x), some (ti p0), some (ti z559), some (ti z566), some (ti z686), some (ti 0)]) dX12_burns_145 rfl rfl ?_
            refine GO.aload_n dX12_burns_147 rfl rfl ?_
            refine GO.getA (n := 240) h_x fl_RX12_65 rfl rfl rfl rfl dX12_burns_148 (fun hv699 h698 => ?_)
            refine GO.iconst dX12_burns_151 ?_
            refine GO.iload_n dX12_burns_152 rfl rfl ?_
            refine GO.imul dX12_burns_153 ?_
            refine GO.iload dX12_burns_154 rfl ?_
            refine GO.iadd dX12_burns_156 ?_
            refine GO.aload_n dX12_burns_157 rfl rfl ?_
            refine GO.getRaw h_x fl_RX12_65 hv699 dX12_burns_158 ?_
            refine GO.iconst dX12_burns_161 ?_
            refine GO.iload_n dX12_burns_162 rfl rfl ?_
            refine GO.imul dX12_burns_163 ?_
            refine GO.iload dX12_burns_164 rfl ?_
            refine GO.iadd dX12_burns_166 ?_
            refine GO.iald (t := 25) rfl rfl h698 ⟨by omega, by omega⟩ (by omega) (by omega) dX12_burns_167 (fun _ _ => ?_)
            have e23 := ak678.2
            refine GO.iload dX12_burns_168 rfl ?_
            refine GO.iadd dX12_burns_170 ?_
            refine GO.norm2 (fun z706 r707 hn708 hw709 => ?_)
            refine GO.iast (t := 25) rfl rfl (by decide +kernel) h698 ⟨by omega, by omega⟩ (by omega) (by omega) r707 (r707).1 (r707).2 dX12_burns_171 (fun V711 e710 => ?_)
            have ak712 := tk_oth e710 ak680 h_x h698 (by decide) (by decide) (rfl : ar 19 V675 x = ar 19 V675 x)
            have ak713 := tk_oth e710 ak676.1 h_x h698 (by decide) (by decide) ak676.2
            have ak714 := tk_oth e710 ak677.1 h_x h698 (by decide) (by decide) ak677.2
            have ak715 := tk_put e710 ak678.1 h_x (vq_of hv699) r707 ak678.2
            refine GO.aload_n dX12_burns_172 rfl rfl ?_
            refine GO.aload_n dX12_burns_173 rfl rfl ?_
            refine GO.getL h_x fl_RX12_679 rfl rfl dX12_burns_174 ?_
            refine GO.anyL (fun z716 => ?_)
            refine GO.iload dX12_burns_177 rfl ?_
            refine GO.i2l dX12_burns_179 ?_
            refine GO.anyL (fun z717 => ?_)
            refine GO.ladd dX12_burns_180 ?_
            refine GO.anyL (fun z718 => ?_)
            refine GO.putL h_x fp_RX12_679 rfl (by decide +kernel) dX12_burns_181 (fun V720 e719 => ?_)
            have ak721 := tk_fld e719 ak712.1 h_x (by decide) ak712.2
            have ak722 := tk_fld e719 ak713.1 h_x (by decide) ak713.2
            have ak723 := tk_fld e719 ak714.1 h_x (by decide) ak714.2
            have ak724 := tk_fld e719 ak715.1 h_x (by decide) ak715.2
            refine GO.useFR (fun hFs => ?_)
            exact GO.retv rfl rfl dX12_burns_184 ⟨rfl, rfl, ⟨trivial, (by first | exact MBU.mk (Q := 0) hnd hnn rw17 ⟨(by omega), (by omega)⟩ (by omega) (by omega) (by first | assumption | exact (wr_id ⟨by omega, by omega⟩).symm) (Or.inr ⟨(by omega), rfl⟩) (Or.inl ⟨(by omega), hP19, ak721.2⟩) ak722.2 ak723.2 (by omega) (by omega) (by first | assumption | exact (wr_id ⟨by omega, by omega⟩).symm) (by assumption) (congrFun e23 _) (by omega) ak724.2 (arq hFs ext.rf h_x (hW_0.ref h_x (j := 21) (Nat.le_of_ble_eq_true rfl) rfl).2 (by decide +kernel) (by decide +kernel)) (arq hFs ext.rf h_x (hW_0.ref h_x (j := 28) (Nat.le_of_ble_eq_true rfl) rfl).2 (by decide +kernel) (by decide +kernel)) | exact MBU.mk (Q := 0) hnd hnn rw17 ⟨(by omega), (by omega)⟩ (by omega) (by omega) (by first | assumption | exact (wr_id ⟨by omega, by omega⟩).symm) (Or.inr ⟨(by omega), rfl⟩) (Or.inr ⟨(by omega), hP19, ((ak721.2).trans (rw112.trans (congrArg (fun f => updf f _ 0) e19h)))⟩) ak722.2 ak723.2 (by omega) (by omega) (by first | assumption | exact (wr_id ⟨by omega, by omega⟩).symm) (by assumption) (congrFun e23 _) (by omega) ak724.2 (arq hFs ext.rf h_x (hW_0.ref h_x (j := 21) (Nat.le_of_ble_eq_true rfl) rfl).2 (by decide +kernel) (by decide +kernel)) (arq hFs ext.rf h_x (hW_0.ref h_x (j := 28) (Nat.le_of_ble_eq_true rfl) rfl).2 (by decide +kernel) (by decide +kernel)) | exact (by exfalso; omega))⟩⟩
          ·
            refine GO.iconst dX12_burns_140 ?_
            refine GO.goto (tgt := 145) dX12_burns_141 (by decide) ?_
            refine GO.istore (ls1 := [some (.ref x), some (ti p0), some (ti z559), some (ti z566), some (ti z686), some (ti 3)]) dX12_burns_145 rfl rfl ?_
            refine GO.aload_n dX12_burns_147 rfl rfl ?_
            refine GO.getA (n := 240) h_x fl_RX12_65 rfl rfl rfl rfl dX12_burns_148 (fun hv726 h725 => ?_)
            refine GO.iconst dX12_burns_151 ?_
            refine GO.iload_n dX12_burns_152 rfl rfl ?_
            refine GO.imul dX12_burns_153 ?_
            refine GO.iload dX12_burns_154 rfl ?_
            refine GO.iadd dX12_burns_156 ?_
            refine GO.aload_n dX12_burns_157 rfl rfl ?_
            refine GO.getRaw h_x fl_RX12_65 hv726 dX12_burns_158 ?_
            refine GO.iconst dX12_burns_161 ?_
            refine GO.iload_n dX12_burns_162 rfl rfl ?_
            refine GO.imul dX12_burns_163 ?_
            refine GO.iload dX12_burns_164 rfl ?_
            refine GO.iadd dX12_burns_166 ?_
            refine GO.iald (t := 25) rfl rfl h725 ⟨by omega, by omega⟩ (by omega) (by omega) dX12_burns_167 (fun _ _ => ?_)
            have e23 := ak678.2
            refine GO.iload dX12_burns_168 rfl ?_
            refine GO.iadd dX12_burns_170 ?_
            refine GO.norm2 (fun z733 r734 hn735 hw736 => ?_)
            refine GO.iast (t := 25) rfl rfl (by decide +kernel) h725 ⟨by omega, by omega⟩ (by omega) (by omega) r734 (r734).1 (r734).2 dX12_burns_171 (fun V738 e737 => ?_)
            have ak739 := tk_oth e737 ak680 h_x h725 (by decide) (by decide) (rfl : ar 19 V675 x = ar 19 V675 x)
            have ak740 := tk_oth e737 ak676.1 h_x h725 (by decide) (by decide) ak676.2
            have ak741 := tk_oth e737 ak677.1 h_x h725 (by decide) (by decide) ak677.2
            have ak742 := tk_put e737 ak678.1 h_x (vq_of hv726) r734 ak678.2
            refine GO.aload_n dX12_burns_172 rfl rfl ?_
            refine GO.aload_n dX12_burns_173 rfl rfl ?_
            refine GO.getL h_x fl_RX12_679 rfl rfl dX12_burns_174 ?_
            refine GO.anyL (fun z743 => ?_)
            refine GO.iload dX12_burns_177 rfl ?_
            refine GO.i2l dX12_burns_179 ?_
            refine GO.anyL (fun z744 => ?_)
            refine GO.ladd dX12_burns_180 ?_
            refine GO.anyL (fun z745 => ?_)
            refine GO.putL h_x fp_RX12_679 rfl (by decide +kernel) dX12_burns_181 (fun V747 e746 => ?_)
            have ak748 := tk_fld e746 ak739.1 h_x (by decide) ak739.2
            have ak749 := tk_fld e746 ak740.1 h_x (by decide) ak740.2
            have ak750 := tk_fld e746 ak741.1 h_x (by decide) ak741.2
            have ak751 := tk_fld e746 ak742.1 h_x (by decide) ak742.2
            refine GO.useFR (fun hFs => ?_)
            exact GO.retv rfl rfl dX12_burns_184 ⟨rfl, rfl, ⟨trivial, (by first | exact MBU.mk (Q := 0) hnd hnn rw17 ⟨(by omega), (by omega)⟩ (by omega) (by omega) (by first | assumption | exact (wr_id ⟨by omega, by omega⟩).symm) (Or.inr ⟨(by omega), rfl⟩) (Or.inl ⟨(by omega), hP19, ak748.2⟩) ak749.2 ak750.2 (by omega) (by omega) (by first | assumption | exact (wr_id ⟨by omega, by omega⟩).symm) (by assumption) (congrFun e23 _) (by omega) ak751.2 (arq hFs ext.rf h_x (hW_0.ref h_x (j := 21) (Nat.le_of_ble_eq_true rfl) rfl).2 (by decide +kernel) (by decide +kernel)) (arq hFs ext.rf h_x (hW_0.ref h_x (j := 28) (Nat.le_of_ble_eq_true rfl) rfl).2 (by decide +kernel) (by decide +kernel)) | exact MBU.mk (Q := 0) hnd hnn rw17 ⟨(by omega), (by omega)⟩ (by omega) (by omega) (by first | assumption | exact (wr_id ⟨by omega, by omega⟩).symm) (Or.inr ⟨(by omega), rfl⟩) (Or.inr ⟨(by omega), hP19, ((ak748.2).trans (rw112.trans (congrArg (fun f => updf f _ 0) e19h)))⟩) ak749.2 ak750.2 (by omega) (by omega) (by first | assumption | exact (wr_id ⟨by omega, by omega⟩).symm) (by assumption) (congrFun e23 _) (by omega) ak751.2 (arq hFs ext.rf h_x (hW_0.ref h_x (j := 21) (Nat.le_of_ble_eq_true rfl) rfl).2 (by decide +kernel) (by decide +kernel)) (arq hFs ext.rf h_x (hW_0.ref h_x (j := 28) (Nat.le_of_ble_eq_true rfl) rfl).2 (by decide +kernel) (by decide +kernel)) | exact (by exfalso; omega))⟩⟩
      ·
        refine GO.aload_n dX12_burns_86 rfl rfl ?_
        refine GO.getRaw h_x fl_RX12_62 hv591 dX12_burns_87 ?_
        refine GO.iload_n dX12_burns_90 rfl rfl ?_
        refine GO.iald (t := 24) rfl rfl h590 r_p0 (by omega) (by omega) dX12_burns_91 (fun _ _ => ?_)
        have e22 := ak588.2
        refine GO.iconst dX12_burns_92 ?_
        refine GO.iadd dX12_burns_93 ?_
        refine GO.norm2 (fun z756 r757 hn758 hw759 => ?_)
        refine GO.goto (tgt := 98) dX12_burns_94 (by decide) ?_
        refine GO.iast (t := 24) rfl rfl (by decide +kernel) h590 r_p0 (by omega) (by omega) r757 (r757).1 (r757).2 dX12_burns_98 (fun V761 e760 => ?_)
        have ak762 := tk_oth e760 ak586.1 h_x h590 (by decide) (by decide) ak586.2
        have ak763 := tk_oth e760 ak587.1 h_x h590 (by decide) (by decide) ak587.2
        have ak764 := tk_put e760 ak588.1 h_x (vq_of hv591) r757 ak588.2
        have ak765 := tk_oth e760 ak589.1 h_x h590 (by decide) (by decide) ak589.2
        have hy9 := upd2_int e760 (by first | assumption | exact ir_c rfl)
        refine GO.aload_n dX12_burns_99 rfl rfl ?_
        refine GO.getRaw h_x fl_RX12_62 (Eq.trans (uq_ne e760 (Or.inl (K_ne h_x h590 (by decide)))) hv591) dX12_burns_100 ?_
        refine GO.iload_n dX12_burns_103 rfl rfl ?_
        refine GO.iald (t := 24) rfl rfl h590 r_p0 (by omega) (by omega) dX12_burns_104 (fun _ _ => ?_)
        refine GO.bipush dX12_burns_105 rfl ?_
        refine GO.icmp_ne (tgt := 115) dX12_burns_107 (by decide) vi_ir (ir_c rfl) (fun c769 => ?_) (fun c769 => ?_)
        ·
          refine GO.aload_n dX12_burns_115 rfl rfl ?_
          refine GO.getRaw h_x fl_RX12_53 (Eq.trans (uq_ne e760 (Or.inl (K_ne h_x h590 (by decide)))) (Eq.trans (uq_ne e584 (Or.inr (by decide))) (Eq.trans (uq_ne e573 (Or.inl (K_ne h_x h561 (by decide)))) hv7))) dX12_burns_116 ?_
          refine GO.iload_n dX12_burns_119 rfl rfl ?_
          refine GO.iald (t := 21) rfl rfl h6 r_p0 (by omega) (by omega) dX12_burns_120 (fun l772 u773 => ?_)
          have e776 : vi V576 (vq V x 19) (p0).toNat = vi V (vq V x 19) (p0).toNat := vi_up e573 (Or.inl (K_ne h6 h561 (by decide)))
          have e775 : vi V585 (vq V x 19) (p0).toNat = vi V576 (vq V x 19) (p0).toNat := vi_up e584 (Or.inl (K_ne h6 h_x (by decide)))
          have e774 : vi V761 (vq V x 19) (p0).toNat = vi V585 (vq V x 19) (p0).toNat := vi_up e760 (Or.inl (K_ne h6 h590 (by decide)))
          refine GO.bipush dX12_burns_121 rfl ?_
          refine GO.iadd dX12_burns_123 ?_
          refine GO.bipush dX12_burns_124 rfl ?_
          refine GO.idivP dX12_burns_126 ⟨by omega, by omega⟩ (ir_c rfl) (by omega) (by omega) ?_
          refine GO.name (fun z777 hz778 => ?_)
          refine GO.istore (ls1 := [some (.ref x), some (ti p0), some (ti z559), some (ti z566), some (ti z777), none]) dX12_burns_127 rfl rfl ?_
          refine GO.aload_n dX12_burns_129 rfl rfl ?_
          refine GO.aload_n dX12_burns_130 rfl rfl ?_
          refine GO.getI h_x fl_RX12_396 rfl rfl dX12_burns_131 (fun l779 u780 => ?_)
          have e783 : vi V576 x 2 = vi V x 2 := vi_up e573 (Or.inl (K_ne h_x h561 (by decide)))
          have e782 : vi V585 x 2 = vi V576 x 2 := vi_up e584 (Or.inr (by decide))
          have e781 : vi V761 x 2 = vi V585 x 2 := vi_up e760 (Or.inl (K_ne h_x h590 (by decide)))
          refine GO.useFR (fun hFs => ?_)
          first | (have hP19 : vi V761 (vq V x 19) (p0).toNat = 0 := by rw [← vq_eq (hFs _ _ 19 h_x h_x (by decide +kernel))]; exact (congrFun rw112 _).trans updf_at) | (have hP19 : vi V761 (vq V x 19) (p0).toNat = vi V (vq V x 19) (p0).toNat := by omega) | skip
          have hd2 : vi V761 x 2 = vi V x 2 := vi_fr hFs h_x h_x (by decide +kernel)
          have hd3 : vi V761 x 3 = vi V x 3 := vi_fr hFs h_x h_x (by decide +kernel)
          have hd4 : vi V761 x 4 = vi V x 4 := vi_fr hFs h_x h_x (by decide +kernel)
          refine GO.callV (ci := 11) (N := mX12_isDark) dX12_burns_134 (RX12, TX12, 151) rfl gV_RX12_582 h_x (t_X12_isDark h_x vi_ir) rfl [] rfl rfl (Nat.le_of_ble_eq_true rfl) rfl (k_ip fun X784 r785 h786 => ?_)
          have raw_isDark := h786.2.2.2
          have rw134 := h786.2.2.2
          rw [hd2, hd3, hd4] at rw134
          have hdd := rw134.trans rw17.symm
          refine GO.if_eq (tgt := 144) dX12_burns_137 (by decide) r785 (fun c787 => ?_) (fun c787 => ?_)
          ·
            refine GO.iconst dX12_burns_144 ?_
            refine GO.istore (ls1 := [some (.ref x), some (ti p0), some (ti z559), some (ti z566), some (ti z777), some (ti 0)]) dX12_burns_145 rfl rfl ?_
            refine GO.aload_n dX12_burns_147 rfl rfl ?_
            refine GO.getA (n := 240) h_x fl_RX12_65 rfl rfl rfl rfl dX12_burns_148 (fun hv789 h788 => ?_)
            refine GO.iconst dX12_burns_151 ?_
            refine GO.iload_n dX12_burns_152 rfl rfl ?_
            refine GO.imul dX12_burns_153 ?_
            refine GO.iload dX12_burns_154 rfl ?_
            refine GO.iadd dX12_burns_156 ?_
            refine GO.aload_n dX12_burns_157 rfl rfl ?_
            refine GO.getRaw h_x fl_RX12_65 hv789 dX12_burns_158 ?_
            refine GO.iconst dX12_burns_161 ?_
            refine GO.iload_n dX12_burns_162 rfl rfl ?_
            refine GO.imul dX12_burns_163 ?_
            refine GO.iload dX12_burns_164 rfl ?_
            refine GO.iadd dX12_burns_166 ?_
            refine GO.iald (t := 25) rfl rfl h788 ⟨by omega, by omega⟩ (by omega) (by omega) dX12_burns_167 (fun _ _ => ?_)
            have e23 := ak765.2
            refine GO.iload dX12_burns_168 rfl ?_
            refine GO.iadd dX12_burns_170 ?_
            refine GO.norm2 (fun z795 r796 hn797 hw798 => ?_)
            refine GO.iast (t := 25) rfl rfl (by decide +kernel) h788 ⟨by omega, by omega⟩ (by omega) (by omega) r796 (r796).1 (r796).2 dX12_burns_171 (fun V800 e799 => ?_)
            have ak801 := tk_oth e799 ak762.1 h_x h788 (by decide) (by decide) ak762.2
            have ak802 := tk_oth e799 ak763.1 h_x h788 (by decide) (by decide) ak763.2
            have ak803 := tk_oth e799 ak764.1 h_x h788 (by decide) (by decide) ak764.2
            have ak804 := tk_put e799 ak765.1 h_x (vq_of hv789) r796 ak765.2
            refine GO.aload_n dX12_burns_172 rfl rfl ?_
            refine GO.aload_n dX12_burns_173 rfl rfl ?_
            refine GO.getL h_x fl_RX12_679 rfl rfl dX12_burns_174 ?_
            refine GO.anyL (fun z805 => ?_)
            refine GO.iload dX12_burns_177 rfl ?_
            refine GO.i2l dX12_burns_179 ?_
            refine GO.anyL (fun z806 => ?_)
            refine GO.ladd dX12_burns_180 ?_
            refine GO.anyL (fun z807 => ?_)
            refine GO.putL h_x fp_RX12_679 rfl (by decide +kernel) dX12_burns_181 (fun V809 e808 => ?_)
            have ak810 := tk_fld e808 ak801.1 h_x (by decide) ak801.2
            have ak811 := tk_fld e808 ak802.1 h_x (by decide) ak802.2
            have ak812 := tk_fld e808 ak803.1 h_x (by decide) ak803.2
            have ak813 := tk_fld e808 ak804.1 h_x (by decide) ak804.2
            refine GO.useFR (fun hFs => ?_)
            exact GO.retv rfl rfl dX12_burns_184 ⟨rfl, rfl, ⟨trivial, (by first | exact MBU.mk hnd hnn rw17 ⟨(by omega), (by omega)⟩ (by omega) (by omega) (by first | assumption | exact (wr_id ⟨by omega, by omega⟩).symm) (Or.inl ⟨(by omega), congrFun e22 _, (by assumption)⟩) (Or.inl ⟨(by omega), hP19, ak810.2⟩) ak811.2 ak812.2 (by omega) (by omega) (by first | assumption | exact (wr_id ⟨by omega, by omega⟩).symm) (by assumption) (congrFun e23 _) (by omega) ak813.2 (arq hFs ext.rf h_x (hW_0.ref h_x (j := 21) (Nat.le_of_ble_eq_true rfl) rfl).2 (by decide +kernel) (by decide +kernel)) (arq hFs ext.rf h_x (hW_0.ref h_x (j := 28) (Nat.le_of_ble_eq_true rfl) rfl).2 (by decide +kernel) (by decide +kernel)) | exact MBU.mk (Q := 0) hnd hnn rw17 ⟨(by omega), (by omega)⟩ (by omega) (by omega) (by first | assumption | exact (wr_id ⟨by omega, by omega⟩).symm) (Or.inr ⟨(by omega), rfl⟩) (Or.inl ⟨(by omega), hP19, ak810.2⟩) ak811.2 ak812.2 (by omega) (by omega) (by first | assumption | exact (wr_id ⟨by omega, by omega⟩).symm) (by assumption) (congrFun e23 _) (by omega) ak813.2 (arq hFs ext.rf h_x (hW_0.ref h_x (j := 21) (Nat.le_of_ble_eq_true rfl) rfl).2 (by decide +kernel) (by decide +kernel)) (arq hFs ext.rf h_x (hW_0.ref h_x (j := 28) (Nat.le_of_ble_eq_true rfl) rfl).2 (by decide +kernel) (by decide +kernel)) | exact (by exfalso; omega))⟩⟩
          ·
            refine GO.iconst dX12_burns_140 ?_
            refine GO.goto (tgt := 145) dX12_burns_141 (by decide) ?_
            refine GO.istore (ls1 := [some (.ref x), some (ti p0), some (ti z559), some (ti z566), some (ti z777), some (ti 3)]) dX12_burns_145 rfl rfl ?_
            refine GO.aload_n dX12_burns_147 rfl rfl ?_
            refine GO.getA (n := 240) h_x fl_RX12_65 rfl rfl rfl rfl dX12_burns_148 (fun hv815 h814 => ?_)
            refine GO.iconst dX12_burns_151 ?_
            refine GO.iload_n dX12_burns_152 rfl rfl ?_
            refine GO.imul dX12_burns_153 ?_
            refine GO.iload dX12_burns_154 rfl ?_
            refine GO.iadd dX12_burns_156 ?_
            refine GO.aload_n dX12_burns_157 rfl rfl ?_
            refine GO.getRaw h_x fl_RX12_65 hv815 dX12_burns_158 ?_
            refine GO.iconst dX12_burns_161 ?_
            refine GO.iload_n dX12_burns_162 rfl rfl ?_
            refine GO.imul dX12_burns_163 ?_
            refine GO.iload dX12_burns_164 rfl ?_
            refine GO.iadd dX12_burns_166 ?_
            refine GO.iald (t := 25) rfl rfl h814 ⟨by omega, by omega⟩ (by omega) (by omega) dX12_burns_167 (fun _ _ => ?_)
            have e23 := ak765.2
            refine GO.iload dX12_burns_168 rfl ?_
            refine GO.iadd dX12_burns_170 ?_
            refine GO.norm2 (fun z821 r822 hn823 hw824 => ?_)
            refine GO.iast (t := 25) rfl rfl (by decide +kernel) h814 ⟨by omega, by omega⟩ (by omega) (by omega) r822 (r822).1 (r822).2 dX12_burns_171 (fun V826 e825 => ?_)
            have ak827 := tk_oth e825 ak762.1 h_x h814 (by decide) (by decide) ak762.2
            have ak828 := tk_oth e825 ak763.1 h_x h814 (by decide) (by decide) ak763.2
            have ak829 := tk_oth e825 ak764.1 h_x h814 (by decide) (by decide) ak764.2
            have ak830 := tk_put e825 ak765.1 h_x (vq_of hv815) r822 ak765.2
            refine GO.aload_n dX12_burns_172 rfl rfl ?_
            refine GO.aload_n dX12_burns_173 rfl rfl ?_
            refine GO.getL h_x fl_RX12_679 rfl rfl dX12_burns_174 ?_
            refine GO.anyL (fun z831 => ?_)
            refine GO.iload dX12_burns_177 rfl ?_
            refine GO.i2l dX12_burns_179 ?_
            refine GO.anyL (fun z832 => ?_)
            refine GO.ladd dX12_burns_180 ?_
            refine GO.anyL (fun z833 => ?_)
            refine GO.putL h_x fp_RX12_679 rfl (by decide +kernel) dX12_burns_181 (fun V835 e834 => ?_)
            have ak836 := tk_fld e834 ak827.1 h_x (by decide) ak827.2
            have ak837 := tk_fld e834 ak828.1 h_x (by decide) ak828.2
            have ak838 := tk_fld e834 ak829.1 h_x (by decide) ak829.2
            have ak839 := tk_fld e834 ak830.1 h_x (by decide) ak830.2
            refine GO.useFR (fun hFs => ?_)
            exact GO.retv rfl rfl dX12_burns_184 ⟨rfl, rfl, ⟨trivial, (by first | exact MBU.mk hnd hnn rw17 ⟨(by omega), (by omega)⟩ (by omega) (by omega) (by first | assumption | exact (wr_id ⟨by omega, by omega⟩).symm) (Or.inl ⟨(by omega), congrFun e22 _, (by assumption)⟩) (Or.inl ⟨(by omega), hP19, ak836.2⟩) ak837.2 ak838.2 (by omega) (by omega) (by first | assumption | exact (wr_id ⟨by omega, by omega⟩).symm) (by assumption) (congrFun e23 _) (by omega) ak839.2 (arq hFs ext.rf h_x (hW_0.ref h_x (j := 21) (Nat.le_of_ble_eq_true rfl) rfl).2 (by decide +kernel) (by decide +kernel)) (arq hFs ext.rf h_x (hW_0.ref h_x (j := 28) (Nat.le_of_ble_eq_true rfl) rfl).2 (by decide +kernel) (by decide +kernel)) | exact MBU.mk (Q := 0) hnd hnn rw17 ⟨(by omega), (by omega)⟩ (by omega) (by omega) (by first | assumption | exact (wr_id ⟨by omega, by omega⟩).symm) (Or.inr ⟨(by omega), rfl⟩) (Or.inl ⟨(by omega), hP19, ak836.2⟩) ak837.2 ak838.2 (by omega) (by omega) (by first | assumption | exact (wr_id ⟨by omega, by omega⟩).symm) (by assumption) (congrFun e23 _) (by omega) ak839.2 (arq hFs ext.rf h_x (hW_0.ref h_x (j := 21) (Nat.le_of_ble_eq_true rfl) rfl).2 (by decide +kernel) (by decide +kernel)) (arq hFs ext.rf h_x (hW_0.ref h_x (j := 28) (Nat.le_of_ble_eq_true rfl) rfl).2 (by decide +kernel) (by decide +kernel)) | exact (by exfalso; omega))⟩⟩
        ·
          have e19h := ak762.2
          refine GO.aload_n dX12_burns_110 rfl rfl ?_
          refine GO.iload_n dX12_burns_111 rfl rfl ?_
          refine GO.callV (ci := 11) (N := mX12_goesHome) dX12_burns_112 (RX12, TX12, 151) rfl gV_RX12_676 h_x (t_X12_goesHome h_x r_p0 (by omega) (by omega)) rfl [] rfl rfl (Nat.le_of_ble_eq_true rfl) rfl (k_vs fun V842 h841 hF840 => ?_)
          have ak843 := tk_fr hF840 ak763.1 h_x (by decide +kernel) (by decide +kernel) ak763.2
          have ak844 := tk_fr hF840 ak764.1 h_x (by decide +kernel) (by decide +kernel) ak764.2
          have ak845 := tk_fr hF840 ak765.1 h_x (by decide +kernel) (by decide +kernel) ak765.2
          refine GO.useWT (fun hW846 => ?_)
          have ak847 := hW846.arr h_x 19 21 (by decide) rfl (by decide)
          have raw_goesHome := h841.2
          have rw112 := h841.2
          refine GO.aload_n dX12_burns_115 rfl rfl ?_
          refine GO.getRaw h_x fl_RX12_53 (Eq.trans (hF840 _ _ _ h_x h_x (by decide +kernel)) (Eq.trans (uq_ne e760 (Or.inl (K_ne h_x h590 (by decide)))) (Eq.trans (uq_ne e584 (Or.inr (by decide))) (Eq.trans (uq_ne e573 (Or.inl (K_ne h_x h561 (by decide)))) hv7)))) dX12_burns_116 ?_
          refine GO.iload_n dX12_burns_119 rfl rfl ?_
          refine GO.iald (t := 21) rfl rfl h6 r_p0 (by omega) (by omega) dX12_burns_120 (fun l850 u851 => ?_)
          refine GO.bipush dX12_burns_121 rfl ?_
          refine GO.iadd dX12_burns_123 ?_
          refine GO.bipush dX12_burns_124 rfl ?_
          refine GO.idivP dX12_burns_126 ⟨by omega, by omega⟩ (ir_c rfl) (by omega) (by omega) ?_
          refine GO.name (fun z853 hz854 => ?_)
          refine GO.istore (ls1 := [some (.ref x), some (ti p0), some (ti z559), some (ti z566), some (ti z853), none]) dX12_burns_127 rfl rfl ?_
          refine GO.aload_n dX12_burns_129 rfl rfl ?_
          refine GO.aload_n dX12_burns_130 rfl rfl ?_
          refine GO.getI h_x fl_RX12_396 rfl rfl dX12_burns_131 (fun l855 u856 => ?_)
          have e860 : vi V576 x 2 = vi V x 2 := vi_up e573 (Or.inl (K_ne h_x h561 (by decide)))
          have e859 : vi V585 x 2 = vi V576 x 2 := vi_up e584 (Or.inr (by decide))
          have e858 : vi V761 x 2 = vi V585 x 2 := vi_up e760 (Or.inl (K_ne h_x h590 (by decide)))
          have e857 : vi V842 x 2 = vi V761 x 2 := vi_fr hF840 h_x h_x (by decide +kernel)
          refine GO.useFR (fun hFs => ?_)
          first | (have hP19 : vi V842 (vq V x 19) (p0).toNat = 0 := by rw [← vq_eq (hFs _ _ 19 h_x h_x (by decide +kernel))]; exact (congrFun rw112 _).trans updf_at) | (have hP19 : vi V842 (vq V x 19) (p0).toNat = vi V (vq V x 19) (p0).toNat := by omega) | skip
          have hd2 : vi V842 x 2 = vi V x 2 := vi_fr hFs h_x h_x (by decide +kernel)
          have hd3 : vi V842 x 3 = vi V x 3 := vi_fr hFs h_x h_x (by decide +kernel)
          have hd4 : vi V842 x 4 = vi V x 4 := vi_fr hFs h_x h_x (by decide +kernel)
          refine GO.callV (ci := 11) (N := mX12_isDark) dX12_burns_134 (RX12, TX12, 151) rfl gV_RX12_582 h_x (t_X12_isDark h_x vi_ir) rfl [] rfl rfl (Nat.le_of_ble_eq_true rfl) rfl (k_ip fun X861 r862 h863 => ?_)
          have raw_isDark := h863.2.2.2
          have rw134 := h863.2.2.2
          rw [hd2, hd3, hd4] at rw134
          have hdd := rw134.trans rw17.symm
          refine GO.if_eq (tgt := 144) dX12_burns_137 (by decide) r862 (fun c864 => ?_) (fun c864 => ?_)
          ·
            refine GO.iconst dX12_burns_144 ?_
            refine GO.istore (ls1 := [some (.ref x), some (ti p0), some (ti z559), some (ti z566), some (ti z853), some (ti 0)]) dX12_burns_145 rfl rfl ?_
            refine GO.aload_n dX12_burns_147 rfl rfl ?_
            refine GO.getA (n := 240) h_x fl_RX12_65 rfl rfl rfl rfl dX12_burns_148 (fun hv866 h865 => ?_)
            refine GO.iconst dX12_burns_151 ?_
            refine GO.iload_n dX12_burns_152 rfl rfl ?_
            refine GO.imul dX12_burns_153 ?_
            refine GO.iload dX12_burns_154 rfl ?_
            refine GO.iadd dX12_burns_156 ?_
            refine GO.aload_n dX12_burns_157 rfl rfl ?_
            refine GO.getRaw h_x fl_RX12_65 hv866 dX12_burns_158 ?_
            refine GO.iconst dX12_burns_161 ?_
            refine GO.iload_n dX12_burns_162 rfl rfl ?_
            refine GO.imul dX12_burns_163 ?_
            refine GO.iload dX12_burns_164 rfl ?_
            refine GO.iadd dX12_burns_166 ?_
            refine GO.iald (t := 25) rfl rfl h865 ⟨by omega, by omega⟩ (by omega) (by omega) dX12_burns_167 (fun _ _ => ?_)
            have e23 := ak845.2
            refine GO.iload dX12_burns_168 rfl ?_
            refine GO.iadd dX12_burns_170 ?_
            refine GO.norm2 (fun z873 r874 hn875 hw876 => ?_)
            refine GO.iast (t := 25) rfl rfl (by decide +kernel) h865 ⟨by omega, by omega⟩ (by omega) (by omega) r874 (r874).1 (r874).2 dX12_burns_171 (fun V878 e877 => ?_)
            have ak879 := tk_oth e877 ak847 h_x h865 (by decide) (by decide) (rfl : ar 19 V842 x = ar 19 V842 x)
            have ak880 := tk_oth e877 ak843.1 h_x h865 (by decide) (by decide) ak843.2
            have ak881 := tk_oth e877 ak844.1 h_x h865 (by decide) (by decide) ak844.2
            have ak882 := tk_put e877 ak845.1 h_x (vq_of hv866) r874 ak845.2
            refine GO.aload_n dX12_burns_172 rfl rfl ?_
            refine GO.aload_n dX12_burns_173 rfl rfl ?_
            refine GO.getL h_x fl_RX12_679 rfl rfl dX12_burns_174 ?_
            refine GO.anyL (fun z883 => ?_)
            refine GO.iload dX12_burns_177 rfl ?_
            refine GO.i2l dX12_burns_179 ?_
            refine GO.anyL (fun z884 => ?_)
            refine GO.ladd dX12_burns_180 ?_
            refine GO.anyL (fun z885 => ?_)
            refine GO.putL h_x fp_RX12_679 rfl (by decide +kernel) dX12_burns_181 (fun V887 e886 => ?_)
            have ak888 := tk_fld e886 ak879.1 h_x (by decide) ak879.2
            have ak889 := tk_fld e886 ak880.1 h_x (by decide) ak880.2
            have ak890 := tk_fld e886 ak881.1 h_x (by decide) ak881.2
            have ak891 := tk_fld e886 ak882.1 h_x (by decide) ak882.2
            refine GO.useFR (fun hFs => ?_)
            exact GO.retv rfl rfl dX12_burns_184 ⟨rfl, rfl, ⟨trivial, (by first | exact MBU.mk hnd hnn rw17 ⟨(by omega), (by omega)⟩ (by omega) (by omega) (by first | assumption | exact (wr_id ⟨by omega, by omega⟩).symm) (Or.inl ⟨(by omega), congrFun e22 _, (by assumption)⟩) (Or.inl ⟨(by omega), hP19, ak888.2⟩) ak889.2 ak890.2 (by omega) (by omega) (by first | assumption | exact (wr_id ⟨by omega, by omega⟩).symm) (by assumption) (congrFun e23 _) (by omega) ak891.2 (arq hFs ext.rf h_x (hW_0.ref h_x (j := 21) (Nat.le_of_ble_eq_true rfl) rfl).2 (by decide +kernel) (by decide +kernel)) (arq hFs ext.rf h_x (hW_0.ref h_x (j := 28) (Nat.le_of_ble_eq_true rfl) rfl).2 (by decide +kernel) (by decide +kernel)) | exact MBU.mk (Q := 0) hnd hnn rw17 ⟨(by omega), (by omega)⟩ (by omega) (by omega) (by first | assumption | exact (wr_id ⟨by omega, by omega⟩).symm) (Or.inr ⟨(by omega), rfl⟩) (Or.inl ⟨(by omega), hP19, ak888.2⟩) ak889.2 ak890.2 (by omega) (by omega) (by first | assumption | exact (wr_id ⟨by omega, by omega⟩).symm) (by assumption) (congrFun e23 _) (by omega) ak891.2 (arq hFs ext.rf h_x (hW_0.ref h_x (j := 21) (Nat.le_of_ble_eq_true rfl) rfl).2 (by decide +kernel) (by decide +kernel)) (arq hFs ext.rf h_x (hW_0.ref h_x (j := 28) (Nat.le_of_ble_eq_true rfl) rfl).2 (by decide +kernel) (by decide +kernel)) | exact MBU.mk hnd hnn rw17 ⟨(by omega), (by omega)⟩ (by omega) (by omega) (by first | assumption | exact (wr_id ⟨by omega, by omega⟩).symm) (Or.inl ⟨(by omega), congrFun e22 _, (by assumption)⟩) (Or.inr ⟨(by omega), hP19, ((ak888.2).trans (rw112.trans (congrArg (fun f => updf f _ 0) e19h)))⟩) ak889.2 ak890.2 (by omega) (by omega) (by first | assumption | exact (wr_id ⟨by omega, by omega⟩).symm) (by assumption) (congrFun e23 _) (by omega) ak891.2 (arq hFs ext.rf h_x (hW_0.ref h_x (j := 21) (Nat.le_of_ble_eq_true rfl) rfl).2 (by decide +kernel) (by decide +kernel)) (arq hFs ext.rf h_x (hW_0.ref h_x (j := 28) (Nat.le_of_ble_eq_true rfl) rfl).2 (by decide +kernel) (by decide +kernel)) | exact MBU.mk (Q := 0) hnd hnn rw17 ⟨(by omega), (by omega)⟩ (by omega) (by omega) (by first | assumption | exact (wr_id ⟨by omega, by omega⟩).symm) (Or.inr ⟨(by omega), rfl⟩) (Or.inr ⟨(by omega), hP19, ((ak888.2).trans (rw112.trans (congrArg (fun f => updf f _ 0) e19h)))⟩) ak889.2 ak890.2 (by omega) (by omega) (by first | assumption | exact (wr_id ⟨by omega, by omega⟩).symm) (by assumption) (congrFun e23 _) (by omega) ak891.2 (arq hFs ext.rf h_x (hW_0.ref h_x (j := 21) (Nat.le_of_ble_eq_true rfl) rfl).2 (by decide +kernel) (by decide +kernel)) (arq hFs ext.rf h_x (hW_0.ref h_x (j := 28) (Nat.le_of_ble_eq_true rfl) rfl).2 (by decide +kernel) (by decide +kernel)) | exact (by exfalso; omega))⟩⟩
          ·
            refine GO.iconst dX12_burns_140 ?_
            refine GO.goto (tgt := 145) dX12_burns_141 (by decide) ?_
            refine GO.istore (ls1 := [some (.ref x), some (ti p0), some (ti z559), some (ti z566), some (ti z853), some (ti 3)]) dX12_burns_145 rfl rfl ?_
            refine GO.aload_n dX12_burns_147 rfl rfl ?_
            refine GO.getA (n := 240) h_x fl_RX12_65 rfl rfl rfl rfl dX12_burns_148 (fun hv893 h892 => ?_)
            refine GO.iconst dX12_burns_151 ?_
            refine GO.iload_n dX12_burns_152 rfl rfl ?_
            refine GO.imul dX12_burns_153 ?_
            refine GO.iload dX12_burns_154 rfl ?_
            refine GO.iadd dX12_burns_156 ?_
            refine GO.aload_n dX12_burns_157 rfl rfl ?_
            refine GO.getRaw h_x fl_RX12_65 hv893 dX12_burns_158 ?_
            refine GO.iconst dX12_burns_161 ?_
            refine GO.iload_n dX12_burns_162 rfl rfl ?_
            refine GO.imul dX12_burns_163 ?_
            refine GO.iload dX12_burns_164 rfl ?_
            refine GO.iadd dX12_burns_166 ?_
            refine GO.iald (t := 25) rfl rfl h892 ⟨by omega, by omega⟩ (by omega) (by omega) dX12_burns_167 (fun _ _ => ?_)
            have e23 := ak845.2
            refine GO.iload dX12_burns_168 rfl ?_
            refine GO.iadd dX12_burns_170 ?_
            refine GO.norm2 (fun z900 r901 hn902 hw903 => ?_)
            refine GO.iast (t := 25) rfl rfl (by decide +kernel) h892 ⟨by omega, by omega⟩ (by omega) (by omega) r901 (r901).1 (r901).2 dX12_burns_171 (fun V905 e904 => ?_)
            have ak906 := tk_oth e904 ak847 h_x h892 (by decide) (by decide) (rfl : ar 19 V842 x = ar 19 V842 x)
            have ak907 := tk_oth e904 ak843.1 h_x h892 (by decide) (by decide) ak843.2
            have ak908 := tk_oth e904 ak844.1 h_x h892 (by decide) (by decide) ak844.2
            have ak909 := tk_put e904 ak845.1 h_x (vq_of hv893) r901 ak845.2
            refine GO.aload_n dX12_burns_172 rfl rfl ?_
            refine GO.aload_n dX12_burns_173 rfl rfl ?_
            refine GO.getL h_x fl_RX12_679 rfl rfl dX12_burns_174 ?_
            refine GO.anyL (fun z910 => ?_)
            refine GO.iload dX12_burns_177 rfl ?_
            refine GO.i2l dX12_burns_179 ?_
            refine GO.anyL (fun z911 => ?_)
            refine GO.ladd dX12_burns_180 ?_
            refine GO.anyL (fun z912 => ?_)
            refine GO.putL h_x fp_RX12_679 rfl (by decide +kernel) dX12_burns_181 (fun V914 e913 => ?_)
            have ak915 := tk_fld e913 ak906.1 h_x (by decide) ak906.2
            have ak916 := tk_fld e913 ak907.1 h_x (by decide) ak907.2
            have ak917 := tk_fld e913 ak908.1 h_x (by decide) ak908.2
            have ak918 := tk_fld e913 ak909.1 h_x (by decide) ak909.2
            refine GO.useFR (fun hFs => ?_)
            exact GO.retv rfl rfl dX12_burns_184 ⟨rfl, rfl, ⟨trivial, (by first | exact MBU.mk hnd hnn rw17 ⟨(by omega), (by omega)⟩ (by omega) (by omega) (by first | assumption | exact (wr_id ⟨by omega, by omega⟩).symm) (Or.inl ⟨(by omega), congrFun e22 _, (by assumption)⟩) (Or.inl ⟨(by omega), hP19, ak915.2⟩) ak916.2 ak917.2 (by omega) (by omega) (by first | assumption | exact (wr_id ⟨by omega, by omega⟩).symm) (by assumption) (congrFun e23 _) (by omega) ak918.2 (arq hFs ext.rf h_x (hW_0.ref h_x (j := 21) (Nat.le_of_ble_eq_true rfl) rfl).2 (by decide +kernel) (by decide +kernel)) (arq hFs ext.rf h_x (hW_0.ref h_x (j := 28) (Nat.le_of_ble_eq_true rfl) rfl).2 (by decide +kernel) (by decide +kernel)) | exact MBU.mk (Q := 0) hnd hnn rw17 ⟨(by omega), (by omega)⟩ (by omega) (by omega) (by first | assumption | exact (wr_id ⟨by omega, by omega⟩).symm) (Or.inr ⟨(by omega), rfl⟩) (Or.inl ⟨(by omega), hP19, ak915.2⟩) ak916.2 ak917.2 (by omega) (by omega) (by first | assumption | exact (wr_id ⟨by omega, by omega⟩).symm) (by assumption) (congrFun e23 _) (by omega) ak918.2 (arq hFs ext.rf h_x (hW_0.ref h_x (j := 21) (Nat.le_of_ble_eq_true rfl) rfl).2 (by decide +kernel) (by decide +kernel)) (arq hFs ext.rf h_x (hW_0.ref h_x (j := 28) (Nat.le_of_ble_eq_true rfl) rfl).2 (by decide +kernel) (by decide +kernel)) | exact MBU.mk hnd hnn rw17 ⟨(by omega), (by omega)⟩ (by omega) (by omega) (by first | assumption | exact (wr_id ⟨by omega, by omega⟩).symm) (Or.inl ⟨(by omega), congrFun e22 _, (by assumption)⟩) (Or.inr ⟨(by omega), hP19, ((ak915.2).trans (rw112.trans (congrArg (fun f => updf f _ 0) e19h)))⟩) ak916.2 ak917.2 (by omega) (by omega) (by first | assumption | exact (wr_id ⟨by omega, by omega⟩).symm) (by assumption) (congrFun e23 _) (by omega) ak918.2 (arq hFs ext.rf h_x (hW_0.ref h_x (j := 21) (Nat.le_of_ble_eq_true rfl) rfl).2 (by decide +kernel) (by decide +kernel)) (arq hFs ext.rf h_x (hW_0.ref h_x (j := 28) (Nat.le_of_ble_eq_true rfl) rfl).2 (by decide +kernel) (by decide +kernel)) | exact MBU.mk (Q := 0) hnd hnn rw17 ⟨(by omega), (by omega)⟩ (by omega) (by omega) (by first | assumption | exact (wr_id ⟨by omega, by omega⟩).symm) (Or.inr ⟨(by omega), rfl⟩) (Or.inr ⟨(by omega), hP19, ((ak915.2).trans (rw112.trans (congrArg (fun f => updf f _ 0) e19h)))⟩) ak916.2 ak917.2 (by omega) (by omega) (by first | assumption | exact (wr_id ⟨by omega, by omega⟩).symm) (by assumption) (congrFun e23 _) (by omega) ak918.2 (arq hFs ext.rf h_x (hW_0.ref h_x (j := 21) (Nat.le_of_ble_eq_true rfl) rfl).2 (by decide +kernel) (by decide +kernel)) (arq hFs ext.rf h_x (hW_0.ref h_x (j := 28) (Nat.le_of_ble_eq_true rfl) rfl).2 (by decide +kernel) (by decide +kernel)) | exact (by exfalso; omega))⟩⟩
    ·
      refine GO.iload_n dX12_burns_40 rfl rfl ?_
      refine GO.goto (tgt := 50) dX12_burns_41 (by decide) ?_
      refine GO.istore_n (ls1 := [some (.ref x), some (ti p0), some (ti z559), some (ti z559), none, none]) dX12_burns_50 rfl rfl rfl ?_
      have hnn : z559 = z559 := rfl
      refine GO.aload_n dX12_burns_51 rfl rfl ?_
      refine GO.getRaw h_x fl_RX12_56 hv562 dX12_burns_52 ?_
      refine GO.iload_n dX12_burns_55 rfl rfl ?_
      refine GO.aload_n dX12_burns_56 rfl rfl ?_
      refine GO.getRaw h_x fl_RX12_56 hv562 dX12_burns_57 ?_
      refine GO.iload_n dX12_burns_60 rfl rfl ?_
      refine GO.iald (t := 22) rfl rfl h561 r_p0 (by omega) (by omega) dX12_burns_61 (fun _ _ => ?_)
      refine GO.iload_n dX12_burns_62 rfl rfl ?_
      refine GO.isub dX12_burns_63 ?_
      have q924 : -2147483648 ≤ vi V (vq V x 20) (p0).toNat ∧ vi V (vq V x 20) (p0).toNat ≤ 2147483647 := vi_ir
      refine GO.iast (t := 22) rfl rfl (by decide +kernel) h561 r_p0 (by omega) (by omega) ⟨by omega, by omega⟩ (by omega) (by omega) dX12_burns_64 (fun V925 e923 => ?_)
      have ak926 := tk_oth e923 ak2 h_x h561 (by decide) (by decide) (rfl : ar 19 V x = ar 19 V x)
      have ak927 := tk_put e923 ak3 h_x (vq_of hv562) ⟨by omega, by omega⟩ (rfl : ar 20 V x = ar 20 V x)
      have ak928 := tk_oth e923 ak4 h_x h561 (by decide) (by decide) (rfl : ar 22 V x = ar 22 V x)
      have ak929 := tk_oth e923 ak5 h_x h561 (by decide) (by decide) (rfl : ar 23 V x = ar 23 V x)
      refine GO.aload_n dX12_burns_65 rfl rfl ?_
      refine GO.aload_n dX12_burns_66 rfl rfl ?_
      refine GO.getL h_x fl_RX12_654 rfl rfl dX12_burns_67 ?_
      refine GO.anyL (fun z930 => ?_)
      refine GO.iload_n dX12_burns_70 rfl rfl ?_
      refine GO.i2l dX12_burns_71 ?_
      refine GO.anyL (fun z931 => ?_)
      refine GO.ladd dX12_burns_72 ?_
      refine GO.anyL (fun z932 => ?_)
      refine GO.putL h_x fp_RX12_654 rfl (by decide +kernel) dX12_burns_73 (fun V934 e933 => ?_)
      have ak935 := tk_fld e933 ak926.1 h_x (by decide) ak926.2
      have ak936 := tk_fld e933 ak927.1 h_x (by decide) ak927.2
      have ak937 := tk_fld e933 ak928.1 h_x (by decide) ak928.2
      have ak938 := tk_fld e933 ak929.1 h_x (by decide) ak929.2
      refine GO.aload_n dX12_burns_76 rfl rfl ?_
      refine GO.getA (n := 60) h_x fl_RX12_62 rfl rfl rfl rfl dX12_burns_77 (fun hv940 h939 => ?_)
      refine GO.iload_n dX12_burns_80 rfl rfl ?_
      refine GO.iload_n dX12_burns_81 rfl rfl ?_
      refine GO.iload_n dX12_burns_82 rfl rfl ?_
      refine GO.icmp_ge (tgt := 97) dX12_burns_83 (by decide) ⟨by omega, by omega⟩ ⟨by omega, by omega⟩ (fun c941 => ?_) (fun h => by exfalso; omega)
      refine GO.iconst dX12_burns_97 ?_
      refine GO.iast (t := 24) rfl rfl (by decide +kernel) h939 r_p0 (by omega) (by omega) (ir_c rfl) (by decide) (by decide) dX12_burns_98 (fun V943 e942 => ?_)
      have ak944 := tk_oth e942 ak935.1 h_x h939 (by decide) (by decide) ak935.2
      have ak945 := tk_oth e942 ak936.1 h_x h939 (by decide) (by decide) ak936.2
      have ak946 := tk_put e942 ak937.1 h_x (vq_of hv940) (ir_c rfl) ak937.2
      have ak947 := tk_oth e942 ak938.1 h_x h939 (by decide) (by decide) ak938.2
      have hy9 := upd2_int e942 (by first | assumption | exact ir_c rfl)
      refine GO.aload_n dX12_burns_99 rfl rfl ?_
      refine GO.getRaw h_x fl_RX12_62 (Eq.trans (uq_ne e942 (Or.inl (K_ne h_x h939 (by decide)))) hv940) dX12_burns_100 ?_
      refine GO.iload_n dX12_burns_103 rfl rfl ?_
      refine GO.iald (t := 24) rfl rfl h939 r_p0 (by omega) (by omega) dX12_burns_104 (fun _ _ => ?_)
      refine GO.bipush dX12_burns_105 rfl ?_
      refine GO.icmp_ne (tgt := 115) dX12_burns_107 (by decide) vi_ir (ir_c rfl) (fun c951 => ?_) (fun c951 => ?_)
      ·
        refine GO.aload_n dX12_burns_115 rfl rfl ?_
        refine GO.getRaw h_x fl_RX12_53 (Eq.trans (uq_ne e942 (Or.inl (K_ne h_x h939 (by decide)))) (Eq.trans (uq_ne e933 (Or.inr (by decide))) (Eq.trans (uq_ne e923 (Or.inl (K_ne h_x h561 (by decide)))) hv7))) dX12_burns_116 ?_
        refine GO.iload_n dX12_burns_119 rfl rfl ?_
        refine GO.iald (t := 21) rfl rfl h6 r_p0 (by omega) (by omega) dX12_burns_120 (fun l954 u955 => ?_)
        have e958 : vi V925 (vq V x 19) (p0).toNat = vi V (vq V x 19) (p0).toNat := vi_up e923 (Or.inl (K_ne h6 h561 (by decide)))
        have e957 : vi V934 (vq V x 19) (p0).toNat = vi V925 (vq V x 19) (p0).toNat := vi_up e933 (Or.inl (K_ne h6 h_x (by decide)))
        have e956 : vi V943 (vq V x 19) (p0).toNat = vi V934 (vq V x 19) (p0).toNat := vi_up e942 (Or.inl (K_ne h6 h939 (by decide)))
        refine GO.bipush dX12_burns_121 rfl ?_
        refine GO.iadd dX12_burns_123 ?_
        refine GO.bipush dX12_burns_124 rfl ?_
        refine GO.idivP dX12_burns_126 ⟨by omega, by omega⟩ (ir_c rfl) (by omega) (by omega) ?_
        refine GO.name (fun z959 hz960 => ?_)
        refine GO.istore (ls1 := [some (.ref x), some (ti p0), some (ti z559), some (ti z559), some (ti z959), none]) dX12_burns_127 rfl rfl ?_
        refine GO.aload_n dX12_burns_129 rfl rfl ?_
        refine GO.aload_n dX12_burns_130 rfl rfl ?_
        refine GO.getI h_x fl_RX12_396 rfl rfl dX12_burns_131 (fun l961 u962 => ?_)
        have e965 : vi V925 x 2 = vi V x 2 := vi_up e923 (Or.inl (K_ne h_x h561 (by decide)))
        have e964 : vi V934 x 2 = vi V925 x 2 := vi_up e933 (Or.inr (by decide))
        have e963 : vi V943 x 2 = vi V934 x 2 := vi_up e942 (Or.inl (K_ne h_x h939 (by decide)))
        refine GO.useFR (fun hFs => ?_)
        first | (have hP19 : vi V943 (vq V x 19) (p0).toNat = 0 := by rw [← vq_eq (hFs _ _ 19 h_x h_x (by decide +kernel))]; exact (congrFun rw112 _).trans updf_at) | (have hP19 : vi V943 (vq V x 19) (p0).toNat = vi V (vq V x 19) (p0).toNat := by omega) | skip
        have hd2 : vi V943 x 2 = vi V x 2 := vi_fr hFs h_x h_x (by decide +kernel)
        have hd3 : vi V943 x 3 = vi V x 3 := vi_fr hFs h_x h_x (by decide +kernel)
        have hd4 : vi V943 x 4 = vi V x 4 := vi_fr hFs h_x h_x (by decide +kernel)
        refine GO.callV (ci := 11) (N := mX12_isDark) dX12_burns_134 (RX12, TX12, 151) rfl gV_RX12_582 h_x (t_X12_isDark h_x vi_ir) rfl [] rfl rfl (Nat.le_of_ble_eq_true rfl) rfl (k_ip fun X966 r967 h968 => ?_)
        have raw_isDark := h968.2.2.2
        have rw134 := h968.2.2.2
        rw [hd2, hd3, hd4] at rw134
        have hdd := rw134.trans rw17.symm
        refine GO.if_eq (tgt := 144) dX12_burns_137 (by decide) r967 (fun c969 => ?_) (fun c969 => ?_)
        ·
          refine GO.iconst dX12_burns_144 ?_
          refine GO.istore (ls1 := [some (.ref x), some (ti p0), some (ti z559), some (ti z559), some (ti z959), some (ti 0)]) dX12_burns_145 rfl rfl ?_
          refine GO.aload_n dX12_burns_147 rfl rfl ?_
          refine GO.getA (n := 240) h_x fl_RX12_65 rfl rfl rfl rfl dX12_burns_148 (fun hv971 h970 => ?_)
          refine GO.iconst dX12_burns_151 ?_
          refine GO.iload_n dX12_burns_152 rfl rfl ?_
          refine GO.imul dX12_burns_153 ?_
          refine GO.iload dX12_burns_154 rfl ?_
          refine GO.iadd dX12_burns_156 ?_
          refine GO.aload_n dX12_burns_157 rfl rfl ?_
          refine GO.getRaw h_x fl_RX12_65 hv971 dX12_burns_158 ?_
          refine GO.iconst dX12_burns_161 ?_
          refine GO.iload_n dX12_burns_162 rfl rfl ?_
          refine GO.imul dX12_burns_163 ?_
          refine GO.iload dX12_burns_164 rfl ?_
          refine GO.iadd dX12_burns_166 ?_
          refine GO.iald (t := 25) rfl rfl h970 ⟨by omega, by omega⟩ (by omega) (by omega) dX12_burns_167 (fun _ _ => ?_)
          have e23 := ak947.2
          refine GO.iload dX12_burns_168 rfl ?_
          refine GO.iadd dX12_burns_170 ?_
          refine GO.norm2 (fun z977 r978 hn979 hw980 => ?_)
          refine GO.iast (t := 25) rfl rfl (by decide +kernel) h970 ⟨by omega, by omega⟩ (by omega) (by omega) r978 (r978).1 (r978).2 dX12_burns_171 (fun V982 e981 => ?_)
          have ak983 := tk_oth e981 ak944.1 h_x h970 (by decide) (by decide) ak944.2
          have ak984 := tk_oth e981 ak945.1 h_x h970 (by decide) (by decide) ak945.2
          have ak985 := tk_oth e981 ak946.1 h_x h970 (by decide) (by decide) ak946.2
          have ak986 := tk_put e981 ak947.1 h_x (vq_of hv971) r978 ak947.2
          refine GO.aload_n dX12_burns_172 rfl rfl ?_
          refine GO.aload_n dX12_burns_173 rfl rfl ?_
          refine GO.getL h_x fl_RX12_679 rfl rfl dX12_burns_174 ?_
          refine GO.anyL (fun z987 => ?_)
          refine GO.iload dX12_burns_177 rfl ?_
          refine GO.i2l dX12_burns_179 ?_
          refine GO.anyL (fun z988 => ?_)
          refine GO.ladd dX12_burns_180 ?_
          refine GO.anyL (fun z989 => ?_)
          refine GO.putL h_x fp_RX12_679 rfl (by decide +kernel) dX12_burns_181 (fun V991 e990 => ?_)
          have ak992 := tk_fld e990 ak983.1 h_x (by decide) ak983.2
          have ak993 := tk_fld e990 ak984.1 h_x (by decide) ak984.2
          have ak994 := tk_fld e990 ak985.1 h_x (by decide) ak985.2
          have ak995 := tk_fld e990 ak986.1 h_x (by decide) ak986.2
          refine GO.useFR (fun hFs => ?_)
          exact GO.retv rfl rfl dX12_burns_184 ⟨rfl, rfl, ⟨trivial, (by first | exact MBU.mk (Q := 0) hnd hnn rw17 ⟨(by omega), (by omega)⟩ (by omega) (by omega) (by first | assumption | exact (wr_id ⟨by omega, by omega⟩).symm) (Or.inr ⟨(by omega), rfl⟩) (Or.inl ⟨(by omega), hP19, ak992.2⟩) ak993.2 ak994.2 (by omega) (by omega) (by first | assumption | exact (wr_id ⟨by omega, by omega⟩).symm) (by assumption) (congrFun e23 _) (by omega) ak995.2 (arq hFs ext.rf h_x (hW_0.ref h_x (j := 21) (Nat.le_of_ble_eq_true rfl) rfl).2 (by decide +kernel) (by decide +kernel)) (arq hFs ext.rf h_x (hW_0.ref h_x (j := 28) (Nat.le_of_ble_eq_true rfl) rfl).2 (by decide +kernel) (by decide +kernel)) | exact (by exfalso; omega))⟩⟩
        ·
          refine GO.iconst dX12_burns_140 ?_
          refine GO.goto (tgt := 145) dX12_burns_141 (by decide) ?_
          refine GO.istore (ls1 := [some (.ref x), some (ti p0), some (ti z559), some (ti z559), some (ti z959), some (ti 3)]) dX12_burns_145 rfl rfl ?_
          refine GO.aload_n dX12_burns_147 rfl rfl ?_
          refine GO.getA (n := 240) h_x fl_RX12_65 rfl rfl rfl rfl dX12_burns_148 (fun hv997 h996 => ?_)
          refine GO.iconst dX12_burns_151 ?_
          refine GO.iload_n dX12_burns_152 rfl rfl ?_
          refine GO.imul dX12_burns_153 ?_
          refine GO.iload dX12_burns_154 rfl ?_
          refine GO.iadd dX12_burns_156 ?_
          refine GO.aload_n dX12_burns_157 rfl rfl ?_
          refine GO.getRaw h_x fl_RX12_65 hv997 dX12_burns_158 ?_
          refine GO.iconst dX12_burns_161 ?_
          refine GO.iload_n dX12_burns_162 rfl rfl ?_
          refine GO.imul dX12_burns_163 ?_
          refine GO.iload dX12_burns_164 rfl ?_
          refine GO.iadd dX12_burns_166 ?_
          refine GO.iald (t := 25) rfl rfl h996 ⟨by omega, by omega⟩ (by omega) (by omega) dX12_burns_167 (fun _ _ => ?_)
          have e23 := ak947.2
          refine GO.iload dX12_burns_168 rfl ?_
          refine GO.iadd dX12_burns_170 ?_
          refine GO.norm2 (fun z1003 r1004 hn1005 hw1006 => ?_)
          refine GO.iast (t := 25) rfl rfl (by decide +kernel) h996 ⟨by omega, by omega⟩ (by omega) (by omega) r1004 (r1004).1 (r1004).2 dX12_burns_171 (fun V1008 e1007 => ?_)
          have ak1009 := tk_oth e1007 ak944.1 h_x h996 (by decide) (by decide) ak944.2
          have ak1010 := tk_oth e1007 ak945.1 h_x h996 (by decide) (by decide) ak945.2
          have ak1011 := tk_oth e1007 ak946.1 h_x h996 (by decide) (by decide) ak946.2
          have ak1012 := tk_put e1007 ak947.1 h_x (vq_of hv997) r1004 ak947.2
          refine GO.aload_n dX12_burns_172 rfl rfl ?_
          refine GO.aload_n dX12_burns_173 rfl rfl ?_
          refine GO.getL h_x fl_RX12_679 rfl rfl dX12_burns_174 ?_
          refine GO.anyL (fun z1013 => ?_)
          refine GO.iload dX12_burns_177 rfl ?_
          refine GO.i2l dX12_burns_179 ?_
          refine GO.anyL (fun z1014 => ?_)
          refine GO.ladd dX12_burns_180 ?_
          refine GO.anyL (fun z1015 => ?_)
          refine GO.putL h_x fp_RX12_679 rfl (by decide +kernel) dX12_burns_181 (fun V1017 e1016 => ?_)
          have ak1018 := tk_fld e1016 ak1009.1 h_x (by decide) ak1009.2
          have ak1019 := tk_fld e1016 ak1010.1 h_x (by decide) ak1010.2
          have ak1020 := tk_fld e1016 ak1011.1 h_x (by decide) ak1011.2
          have ak1021 := tk_fld e1016 ak1012.1 h_x (by decide) ak1012.2
          refine GO.useFR (fun hFs => ?_)
          exact GO.retv rfl rfl dX12_burns_184 ⟨rfl, rfl, ⟨trivial, (by first | exact MBU.mk (Q := 0) hnd hnn rw17 ⟨(by omega), (by omega)⟩ (by omega) (by omega) (by first | assumption | exact (wr_id ⟨by omega, by omega⟩).symm) (Or.inr ⟨(by omega), rfl⟩) (Or.inl ⟨(by omega), hP19, ak1018.2⟩) ak1019.2 ak1020.2 (by omega) (by omega) (by first | assumption | exact (wr_id ⟨by omega, by omega⟩).symm) (by assumption) (congrFun e23 _) (by omega) ak1021.2 (arq hFs ext.rf h_x (hW_0.ref h_x (j := 21) (Nat.le_of_ble_eq_true rfl) rfl).2 (by decide +kernel) (by decide +kernel)) (arq hFs ext.rf h_x (hW_0.ref h_x (j := 28) (Nat.le_of_ble_eq_true rfl) rfl).2 (by decide +kernel) (by decide +kernel)) | exact (by exfalso; omega))⟩⟩
      ·
        have e19h := ak944.2
        refine GO.aload_n dX12_burns_110 rfl rfl ?_
        refine GO.iload_n dX12_burns_111 rfl rfl ?_
        refine GO.callV (ci := 11) (N := mX12_goesHome) dX12_burns_112 (RX12, TX12, 151) rfl gV_RX12_676 h_x (t_X12_goesHome h_x r_p0 (by omega) (by omega)) rfl [] rfl rfl (Nat.le_of_ble_eq_true rfl) rfl (k_vs fun V1024 h1023 hF1022 => ?_)
        have ak1025 := tk_fr hF1022 ak945.1 h_x (by decide +kernel) (by decide +kernel) ak945.2
        have ak1026 := tk_fr hF1022 ak946.1 h_x (by decide +kernel) (by decide +kernel) ak946.2
        have ak1027 := tk_fr hF1022 ak947.1 h_x (by decide +kernel) (by decide +kernel) ak947.2
        refine GO.useWT (fun hW1028 => ?_)
        have ak1029 := hW1028.arr h_x 19 21 (by decide) rfl (by decide)
        have raw_goesHome := h1023.2
        have rw112 := h1023.2
        refine GO.aload_n dX12_burns_115 rfl rfl ?_
        refine GO.getRaw h_x fl_RX12_53 (Eq.trans (hF1022 _ _ _ h_x h_x (by decide +kernel)) (Eq.trans (uq_ne e942 (Or.inl (K_ne h_x h939 (by decide)))) (Eq.trans (uq_ne e933 (Or.inr (by decide))) (Eq.trans (uq_ne e923 (Or.inl (K_ne h_x h561 (by decide)))) hv7)))) dX12_burns_116 ?_
        refine GO.iload_n dX12_burns_119 rfl rfl ?_
        refine GO.iald (t := 21) rfl rfl h6 r_p0 (by omega) (by omega) dX12_burns_120 (fun l1032 u1033 => ?_)
        refine GO.bipush dX12_burns_121 rfl ?_
        refine GO.iadd dX12_burns_123 ?_
        refine GO.bipush dX12_burns_124 rfl ?_
        refine GO.idivP dX12_burns_126 ⟨by omega, by omega⟩ (ir_c rfl) (by omega) (by omega) ?_
        refine GO.name (fun z1035 hz1036 => ?_)
        refine GO.istore (ls1 := [some (.ref x), some (ti p0), some (ti z559), some (ti z559), some (ti z1035), none]) dX12_burns_127 rfl rfl ?_
        refine GO.aload_n dX12_burns_129 rfl rfl ?_
        refine GO.aload_n dX12_burns_130 rfl rfl ?_
        refine GO.getI h_x fl_RX12_396 rfl rfl dX12_burns_131 (fun l1037 u1038 => ?_)
        have e1042 : vi V925 x 2 = vi V x 2 := vi_up e923 (Or.inl (K_ne h_x h561 (by decide)))
        have e1041 : vi V934 x 2 = vi V925 x 2 := vi_up e933 (Or.inr (by decide))
        have e1040 : vi V943 x 2 = vi V934 x 2 := vi_up e942 (Or.inl (K_ne h_x h939 (by decide)))
        have e1039 : vi V1024 x 2 = vi V943 x 2 := vi_fr hF1022 h_x h_x (by decide +kernel)
        refine GO.useFR (fun hFs => ?_)
        first | (have hP19 : vi V1024 (vq V x 19) (p0).toNat = 0 := by rw [← vq_eq (hFs _ _ 19 h_x h_x (by decide +kernel))]; exact (congrFun rw112 _).trans updf_at) | (have hP19 : vi V1024 (vq V x 19) (p0).toNat = vi V (vq V x 19) (p0).toNat := by omega) | skip
        have hd2 : vi V1024 x 2 = vi V x 2 := vi_fr hFs h_x h_x (by decide +kernel)
        have hd3 : vi V1024 x 3 = vi V x 3 := vi_fr hFs h_x h_x (by decide +kernel)
        have hd4 : vi V1024 x 4 = vi V x 4 := vi_fr hFs h_x h_x (by decide +kernel)
        refine GO.callV (ci := 11) (N := mX12_isDark) dX12_burns_134 (RX12, TX12, 151) rfl gV_RX12_582 h_x (t_X12_isDark h_x vi_ir) rfl [] rfl rfl (Nat.le_of_ble_eq_true rfl) rfl (k_ip fun X1043 r1044 h1045 => ?_)
        have raw_isDark := h1045.2.2.2
        have rw134 := h1045.2.2.2
        rw [hd2, hd3, hd4] at rw134
        have hdd := rw134.trans rw17.symm
        refine GO.if_eq (tgt := 144) dX12_burns_137 (by decide) r1044 (fun c1046 => ?_) (fun c1046 => ?_)
        ·
          refine GO.iconst dX12_burns_144 ?_
          refine GO.istore (ls1 := [some (.ref x), some (ti p0), some (ti z559), some (ti z559), some (ti z1035), some (ti 0)]) dX12_burns_145 rfl rfl ?_
          refine GO.aload_n dX12_burns_147 rfl rfl ?_
          refine GO.getA (n := 240) h_x fl_RX12_65 rfl rfl rfl rfl dX12_burns_148 (fun hv1048 h1047 => ?_)
          refine GO.iconst dX12_burns_151 ?_
          refine GO.iload_n dX12_burns_152 rfl rfl ?_
          refine GO.imul dX12_burns_153 ?_
          refine GO.iload dX12_burns_154 rfl ?_
          refine GO.iadd dX12_burns_156 ?_
          refine GO.aload_n dX12_burns_157 rfl rfl ?_
          refine GO.getRaw h_x fl_RX12_65 hv1048 dX12_burns_158 ?_
          refine GO.iconst dX12_burns_161 ?_
          refine GO.iload_n dX12_burns_162 rfl rfl ?_
          refine GO.imul dX12_burns_163 ?_
          refine GO.iload dX12_burns_164 rfl ?_
          refine GO.iadd dX12_burns_166 ?_
          refine GO.iald (t := 25) rfl rfl h1047 ⟨by omega, by omega⟩ (by omega) (by omega) dX12_burns_167 (fun _ _ => ?_)
          have e23 := ak1027.2
          refine GO.iload dX12_burns_168 rfl ?_
          refine GO.iadd dX12_burns_170 ?_
          refine GO.norm2 (fun z1055 r1056 hn1057 hw1058 => ?_)
          refine GO.iast (t := 25) rfl rfl (by decide +kernel) h1047 ⟨by omega, by omega⟩ (by omega) (by omega) r1056 (r1056).1 (r1056).2 dX12_burns_171 (fun V1060 e1059 => ?_)
          have ak1061 := tk_oth e1059 ak1029 h_x h1047 (by decide) (by decide) (rfl : ar 19 V1024 x = ar 19 V1024 x)
          have ak1062 := tk_oth e1059 ak1025.1 h_x h1047 (by decide) (by decide) ak1025.2
          have ak1063 := tk_oth e1059 ak1026.1 h_x h1047 (by decide) (by decide) ak1026.2
          have ak1064 := tk_put e1059 ak1027.1 h_x (vq_of hv1048) r1056 ak1027.2
          refine GO.aload_n dX12_burns_172 rfl rfl ?_
          refine GO.aload_n dX12_burns_173 rfl rfl ?_
          refine GO.getL h_x fl_RX12_679 rfl rfl dX12_burns_174 ?_
          refine GO.anyL (fun z1065 => ?_)
          refine GO.iload dX12_burns_177 rfl ?_
          refine GO.i2l dX12_burns_179 ?_
          refine GO.anyL (fun z1066 => ?_)
          refine GO.ladd dX12_burns_180 ?_
          refine GO.anyL (fun z1067 => ?_)
          refine GO.putL h_x fp_RX12_679 rfl (by decide +kernel) dX12_burns_181 (fun V1069 e1068 => ?_)
          have ak1070 := tk_fld e1068 ak1061.1 h_x (by decide) ak1061.2
          have ak1071 := tk_fld e1068 ak1062.1 h_x (by decide) ak1062.2
          have ak1072 := tk_fld e1068 ak1063.1 h_x (by decide) ak1063.2
          have ak1073 := tk_fld e1068 ak1064.1 h_x (by decide) ak1064.2
          refine GO.useFR (fun hFs => ?_)
          exact GO.retv rfl rfl dX12_burns_184 ⟨rfl, rfl, ⟨trivial, (by first | exact MBU.mk (Q := 0) hnd hnn rw17 ⟨(by omega), (by omega)⟩ (by omega) (by omega) (by first | assumption | exact (wr_id ⟨by omega, by omega⟩).symm) (Or.inr ⟨(by omega), rfl⟩) (Or.inl ⟨(by omega), hP19, ak1070.2⟩) ak1071.2 ak1072.2 (by omega) (by omega) (by first | assumption | exact (wr_id ⟨by omega, by omega⟩).symm) (by assumption) (congrFun e23 _) (by omega) ak1073.2 (arq hFs ext.rf h_x (hW_0.ref h_x (j := 21) (Nat.le_of_ble_eq_true rfl) rfl).2 (by decide +kernel) (by decide +kernel)) (arq hFs ext.rf h_x (hW_0.ref h_x (j := 28) (Nat.le_of_ble_eq_true rfl) rfl).2 (by decide +kernel) (by decide +kernel)) | exact MBU.mk (Q := 0) hnd hnn rw17 ⟨(by omega), (by omega)⟩ (by omega) (by omega) (by first | assumption | exact (wr_id ⟨by omega, by omega⟩).symm) (Or.inr ⟨(by omega), rfl⟩) (Or.inr ⟨(by omega), hP19, ((ak1070.2).trans (rw112.trans (congrArg (fun f => updf f _ 0) e19h)))⟩) ak1071.2 ak1072.2 (by omega) (by omega) (by first | assumption | exact (wr_id ⟨by omega, by omega⟩).symm) (by assumption) (congrFun e23 _) (by omega) ak1073.2 (arq hFs ext.rf h_x (hW_0.ref h_x (j := 21) (Nat.le_of_ble_eq_true rfl) rfl).2 (by decide +kernel) (by decide +kernel)) (arq hFs ext.rf h_x (hW_0.ref h_x (j := 28) (Nat.le_of_ble_eq_true rfl) rfl).2 (by decide +kernel) (by decide +kernel)) | exact (by exfalso; omega))⟩⟩
        ·
          refine GO.iconst dX12_burns_140 ?_
          refine GO.goto (tgt := 145) dX12_burns_141 (by decide) ?_
          refine GO.istore (ls1 := [some (.ref x), some (ti p0), some (ti z559), some (ti z559), some (ti z1035), some (ti 3)]) dX12_burns_145 rfl rfl ?_
          refine GO.aload_n dX12_burns_147 rfl rfl ?_
          refine GO.getA (n := 240) h_x fl_RX12_65 rfl rfl rfl rfl dX12_burns_148 (fun hv1075 h1074 => ?_)
          refine GO.iconst dX12_burns_151 ?_
          refine GO.iload_n dX12_burns_152 rfl rfl ?_
          refine GO.imul dX12_burns_153 ?_
          refine GO.iload dX12_burns_154 rfl ?_
          refine GO.iadd dX12_burns_156 ?_
          refine GO.aload_n dX12_burns_157 rfl rfl ?_
          refine GO.getRaw h_x fl_RX12_65 hv1075 dX12_burns_158 ?_
          refine GO.iconst dX12_burns_161 ?_
          refine GO.iload_n dX12_burns_162 rfl rfl ?_
          refine GO.imul dX12_burns_163 ?_
          refine GO.iload dX12_burns_164 rfl ?_
          refine GO.iadd dX12_burns_166 ?_
          refine GO.iald (t := 25) rfl rfl h1074 ⟨by omega, by omega⟩ (by omega) (by omega) dX12_burns_167 (fun _ _ => ?_)
          have e23 := ak1027.2
          refine GO.iload dX12_burns_168 rfl ?_
          refine GO.iadd dX12_burns_170 ?_
          refine GO.norm2 (fun z1082 r1083 hn1084 hw1085 => ?_)
          refine GO.iast (t := 25) rfl rfl (by decide +kernel) h1074 ⟨by omega, by omega⟩ (by omega) (by omega) r1083 (r1083).1 (r1083).2 dX12_burns_171 (fun V1087 e1086 => ?_)
          have ak1088 := tk_oth e1086 ak1029 h_x h1074 (by decide) (by decide) (rfl : ar 19 V1024 x = ar 19 V1024 x)
          have ak1089 := tk_oth e1086 ak1025.1 h_x h1074 (by decide) (by decide) ak1025.2
          have ak1090 := tk_oth e1086 ak1026.1 h_x h1074 (by decide) (by decide) ak1026.2
          have ak1091 := tk_put e1086 ak1027.1 h_x (vq_of hv1075) r1083 ak1027.2
          refine GO.aload_n dX12_burns_172 rfl rfl ?_
          refine GO.aload_n dX12_burns_173 rfl rfl ?_
          refine GO.getL h_x fl_RX12_679 rfl rfl dX12_burns_174 ?_
          refine GO.anyL (fun z1092 => ?_)
          refine GO.iload dX12_burns_177 rfl ?_
          refine GO.i2l dX12_burns_179 ?_
          refine GO.anyL (fun z1093 => ?_)
          refine GO.ladd dX12_burns_180 ?_
          refine GO.anyL (fun z1094 => ?_)
          refine GO.putL h_x fp_RX12_679 rfl (by decide +kernel) dX12_burns_181 (fun V1096 e1095 => ?_)
          have ak1097 := tk_fld e1095 ak1088.1 h_x (by decide) ak1088.2
          have ak1098 := tk_fld e1095 ak1089.1 h_x (by decide) ak1089.2
          have ak1099 := tk_fld e1095 ak1090.1 h_x (by decide) ak1090.2
          have ak1100 := tk_fld e1095 ak1091.1 h_x (by decide) ak1091.2
          refine GO.useFR (fun hFs => ?_)
          exact GO.retv rfl rfl dX12_burns_184 ⟨rfl, rfl, ⟨trivial, (by first | exact MBU.mk (Q := 0) hnd hnn rw17 ⟨(by omega), (by omega)⟩ (by omega) (by omega) (by first | assumption | exact (wr_id ⟨by omega, by omega⟩).symm) (Or.inr ⟨(by omega), rfl⟩) (Or.inl ⟨(by omega), hP19, ak1097.2⟩) ak1098.2 ak1099.2 (by omega) (by omega) (by first | assumption | exact (wr_id ⟨by omega, by omega⟩).symm) (by assumption) (congrFun e23 _) (by omega) ak1100.2 (arq hFs ext.rf h_x (hW_0.ref h_x (j := 21) (Nat.le_of_ble_eq_true rfl) rfl).2 (by decide +kernel) (by decide +kernel)) (arq hFs ext.rf h_x (hW_0.ref h_x (j := 28) (Nat.le_of_ble_eq_true rfl) rfl).2 (by decide +kernel) (by decide +kernel)) | exact MBU.mk (Q := 0) hnd hnn rw17 ⟨(by omega), (by omega)⟩ (by omega) (by omega) (by first | assumption | exact (wr_id ⟨by omega, by omega⟩).symm) (Or.inr ⟨(by omega), rfl⟩) (Or.inr ⟨(by omega), hP19, ((ak1097.2).trans (rw112.trans (congrArg (fun f => updf f _ 0) e19h)))⟩) ak1098.2 ak1099.2 (by omega) (by omega) (by first | assumption | exact (wr_id ⟨by omega, by omega⟩).symm) (by assumption) (congrFun e23 _) (by omega) ak1100.2 (arq hFs ext.rf h_x (hW_0.ref h_x (j := 21) (Nat.le_of_ble_eq_true rfl) rfl).2 (by decide +kernel) (by decide +kernel)) (arq hFs ext.rf h_x (hW_0.ref h_x (j := 28) (Nat.le_of_ble_eq_true rfl) rfl).2 (by decide +kernel) (by decide +kernel)) | exact (by exfalso; omega))⟩⟩
