def mX11_tellNeighbours : MRec := (RX11, cX11_tellNeighbours, 8, (none : Option Jvm.ClassFile.FieldType), yX11_tellNeighbours, 3, 66, 0, 0, 165263992197562149737978827008192759957101170741070304821162198818601447809077836456297302609928821211897803006255839576064)
def mX11_decidingOn : MRec := (RX11, cX11_decidingOn, 5, (some .int), yX11_decidingOn, 1, 21, 0, 0, 0)
def mX11_hasConsent : MRec := (RX11, cX11_hasConsent, 4, (some .boolean), yX11_hasConsent, 2, 45, 0, 0, 0)
def mX11_judge : MRec := (RX11, cX11_judge, 5, (some .int), yX11_judge, 5, 127, 0, 0, 619739970740858061517420601280722849839129390279013643079358245569755429284041886711114884787233079544616761273459458703360)
def mX11_may : MRec := (RX11, cX11_may, 5, (some .int), yX11_may, 6, 151, 0, 0, 619739970740858061517420601280722849839129390279013643079358245569755429284041886711114884787233079544616761273459458703360)
def mX11_why : MRec := (RX11, cX11_why, 6, (some .int), yX11_why, 6, 151, 0, 0, 619739970740858061517420601280722849839129390279013643079358245569755429284041886711114884787233079544616761273459458703360)
def mX11_whose : MRec := (RX11, cX11_whose, 9, (some .int), yX11_whose, 5, 127, 0, 0, 123947994148171612303484120256144569967825878055802728615871649113951085856808377342222976957446615908923352254691881254912)
def mX11_ship : MRec := (RX11, cX11_ship, 4, (some .int), yX11_ship, 2, 35, 1, 11, 265568996408383549344794103276234313664796558863515961599722069100201779930426121369581251132614643320111887799555518237538766374706080280306469752418823026032334923597334222859141120)
set_option maxHeartbeats 1000000 in
theorem t_X11_tellNeighbours {K : Kmap} {V : Vmap} {x : Nat} {p0 : Nat} (h_x : K x = some (0, 10)) (h_p0 : K p0 = some (0, 9)) : MC mX11_tellNeighbours K V [.ref x, .ref p0] (VS K (fun V1 => (True))) := by
  refine MC.start 6 (by decide +kernel) rfl rfl rfl (ls0 := [some (.ref x), some (.ref p0), none, none, none, none, none, none]) rfl ?_
  refine GO.iconst dX11_tellNeighbours_0 ?_
  refine GO.istore_n (ls1 := [some (.ref x), some (.ref p0), some (ti 0), none, none, none, none, none]) dX11_tellNeighbours_1 rfl rfl rfl ?_
  refine GO.iconst dX11_tellNeighbours_2 ?_
  refine GO.istore_n (ls1 := [some (.ref x), some (.ref p0), some (ti 0), some (ti 0), none, none, none, none]) dX11_tellNeighbours_3 rfl rfl rfl ?_
  refine GO.iconst dX11_tellNeighbours_4 ?_
  refine GO.istore (ls1 := [some (.ref x), some (.ref p0), some (ti 0), some (ti 0), some (ti 0), none, none, none]) dX11_tellNeighbours_5 rfl rfl ?_
  refine GO.iconst dX11_tellNeighbours_7 ?_
  refine GO.istore (ls1 := [some (.ref x), some (.ref p0), some (ti 0), some (ti 0), some (ti 0), some (ti 0), none, none]) dX11_tellNeighbours_8 rfl rfl ?_
  refine GO.iconst dX11_tellNeighbours_10 ?_
  refine GO.istore (ls1 := [some (.ref x), some (.ref p0), some (ti 0), some (ti 0), some (ti 0), some (ti 0), some (ti 0), none]) dX11_tellNeighbours_11 rfl rfl ?_
  refine GO.loop5 (fun i1 i2 i3 i4 i5 W => 0 ≤ i1 ∧ i1 ≤ 2147483647 ∧ (-2147483648) ≤ i2 ∧ i2 ≤ 2147483647 ∧ (-2147483648) ≤ i3 ∧ i3 ≤ 2147483647 ∧ (-2147483648) ≤ i4 ∧ i4 ≤ 2147483647 ∧ 0 ≤ i5 ∧ i5 ≤ 60 ∧ V = W) (fun i1 i2 i3 i4 i5 => [some (.ref x), some (.ref p0), some (ti i1), some (ti i2), some (ti i3), some (ti i4), some (ti i5), none]) (fun i1 i2 i3 i4 i5 W => (2147483647 - i5).toNat) 0 0 0 0 0 ⟨by omega, by omega, by omega, by omega, by omega, by omega, by omega, by omega, by omega, by omega, rfl⟩ rfl (fun i1 i2 i3 i4 i5 V9911 hp9913 ih9912 => ?_)
  obtain ⟨l_i1, u_i1, l_i2, u_i2, l_i3, u_i3, l_i4, u_i4, l_i5, u_i5, rfl⟩ := hp9913
  have r_i1 : ir i1 := ⟨by omega, by omega⟩
  have r_i2 : ir i2 := ⟨by omega, by omega⟩
  have r_i3 : ir i3 := ⟨by omega, by omega⟩
  have r_i4 : ir i4 := ⟨by omega, by omega⟩
  have r_i5 : ir i5 := ⟨by omega, by omega⟩
  show GO mX11_tellNeighbours K V (VS K (fun V1 => (True))) K V 0 0 13 [some (.ref x), some (.ref p0), some (ti i1), some (ti i2), some (ti i3), some (ti i4), some (ti i5), none] []
  refine GO.iload dX11_tellNeighbours_13 rfl ?_
  refine GO.aload_n dX11_tellNeighbours_15 rfl rfl ?_
  refine GO.getI h_x fl_RX11_46 rfl rfl dX11_tellNeighbours_16 (fun l9914 u9915 => ?_)
  refine GO.icmp_ge (tgt := 204) dX11_tellNeighbours_19 (by decide) r_i5 vi_ir (fun c9916 => ?_) (fun c9916 => ?_)
  ·
    refine GO.aload_n dX11_tellNeighbours_204 rfl rfl ?_
    refine GO.getR h_x fl_RX11_19 rfl rfl dX11_tellNeighbours_205 (fun hv9918 h9917 => ?_)
    refine GO.getA (n := 14) h9917 fl_RX11_372 rfl rfl rfl rfl dX11_tellNeighbours_208 (fun hv9920 h9919 => ?_)
    refine GO.iconst dX11_tellNeighbours_211 ?_
    refine GO.iload_n dX11_tellNeighbours_212 rfl rfl ?_
    refine GO.callS (N := mX4_put_t135) dX11_tellNeighbours_213 gS_RX11_108 (t_X4_put_t135 h9919 (ir_c rfl) r_i1) rfl [] rfl rfl (Nat.le_of_ble_eq_true rfl) rfl (k_vs fun V9923 h9922 hF9921 => ?_)
    have raw_put := h9922.2
    have rw213 := h9922.2
    refine GO.aload_n dX11_tellNeighbours_216 rfl rfl ?_
    refine GO.getRaw h_x fl_RX11_19 (Eq.trans (hF9921 _ _ _ h_x h_x (by decide +kernel)) hv9918) dX11_tellNeighbours_217 ?_
    refine GO.getA (n := 14) h9917 fl_RX11_372 rfl rfl rfl rfl dX11_tellNeighbours_220 (fun hv9927 h9926 => ?_)
    refine GO.bipush dX11_tellNeighbours_223 rfl ?_
    refine GO.iload_n dX11_tellNeighbours_225 rfl rfl ?_
    refine GO.callS (N := mX4_put_t135) dX11_tellNeighbours_226 gS_RX11_108 (t_X4_put_t135 h9926 (ir_c rfl) r_i2) rfl [] rfl rfl (Nat.le_of_ble_eq_true rfl) rfl (k_vs fun V9930 h9929 hF9928 => ?_)
    have raw_put := h9929.2
    have rw226 := h9929.2
    refine GO.aload_n dX11_tellNeighbours_229 rfl rfl ?_
    refine GO.getRaw h_x fl_RX11_19 (Eq.trans (hF9928 _ _ _ h_x h_x (by decide +kernel)) (Eq.trans (hF9921 _ _ _ h_x h_x (by decide +kernel)) hv9918)) dX11_tellNeighbours_230 ?_
    refine GO.getA (n := 14) h9917 fl_RX11_372 rfl rfl rfl rfl dX11_tellNeighbours_233 (fun hv9934 h9933 => ?_)
    refine GO.bipush dX11_tellNeighbours_236 rfl ?_
    refine GO.iload dX11_tellNeighbours_238 rfl ?_
    refine GO.callS (N := mX4_put_t135) dX11_tellNeighbours_240 gS_RX11_108 (t_X4_put_t135 h9933 (ir_c rfl) r_i3) rfl [] rfl rfl (Nat.le_of_ble_eq_true rfl) rfl (k_vs fun V9937 h9936 hF9935 => ?_)
    have raw_put := h9936.2
    have rw240 := h9936.2
    refine GO.aload_n dX11_tellNeighbours_243 rfl rfl ?_
    refine GO.getRaw h_x fl_RX11_19 (Eq.trans (hF9935 _ _ _ h_x h_x (by decide +kernel)) (Eq.trans (hF9928 _ _ _ h_x h_x (by decide +kernel)) (Eq.trans (hF9921 _ _ _ h_x h_x (by decide +kernel)) hv9918))) dX11_tellNeighbours_244 ?_
    refine GO.getA (n := 14) h9917 fl_RX11_372 rfl rfl rfl rfl dX11_tellNeighbours_247 (fun hv9941 h9940 => ?_)
    refine GO.bipush dX11_tellNeighbours_250 rfl ?_
    refine GO.iload dX11_tellNeighbours_252 rfl ?_
    refine GO.callS (N := mX4_put_t135) dX11_tellNeighbours_254 gS_RX11_108 (t_X4_put_t135 h9940 (ir_c rfl) r_i4) rfl [] rfl rfl (Nat.le_of_ble_eq_true rfl) rfl (k_vs fun V9944 h9943 hF9942 => ?_)
    have raw_put := h9943.2
    have rw254 := h9943.2
    exact GO.retv rfl rfl dX11_tellNeighbours_257 ⟨rfl, rfl, trivial⟩
  ·
    refine GO.aload_n dX11_tellNeighbours_22 rfl rfl ?_
    refine GO.iload dX11_tellNeighbours_23 rfl ?_
    refine GO.callV (ci := 10) (N := mX11_anyPlace) dX11_tellNeighbours_25 (RX11, TX11, 20) rfl gV_RX11_384 h_x (t_X11_anyPlace h_x r_i5) rfl [] rfl rfl (Nat.le_of_ble_eq_true rfl) rfl (k_rp (fun h9947 => ?_) (fun o9945 h9946 h9947 => ?_))
    ·
      refine GO.astoreN (ls1 := [some (.ref x), some (.ref p0), some (ti i1), some (ti i2), some (ti i3), some (ti i4), some (ti i5), some (.null)]) dX11_tellNeighbours_28 rfl rfl ?_
      refine GO.aloadN dX11_tellNeighbours_30 rfl ?_
      refine GO.ifnonnullN dX11_tellNeighbours_32 ?_
      refine GO.goto (tgt := 198) dX11_tellNeighbours_35 (by decide) ?_
      refine GO.iinc (X := i5) (n := 1) (Y := i5 + 1) (ls1 := [some (.ref x), some (.ref p0), some (ti i1), some (ti i2), some (ti i3), some (ti i4), some (ti (i5 + 1)), some (.null)]) dX11_tellNeighbours_198 rfl rfl rfl rfl ?_
      refine GO.goto (tgt := 13) dX11_tellNeighbours_201 (by decide) ?_
      refine GO.drop [true, true, true, true, true, true, true, false] rfl ?_
      exact ih9912 i1 i2 i3 i4 (i5 + 1) V ⟨by omega, by omega, by omega, by omega, by omega, by omega, by omega, by omega, by omega, by omega, rfl⟩ (by show (2147483647 - (i5 + 1)).toNat < (2147483647 - i5).toNat; omega)
    ·
      refine GO.astore (ls1 := [some (.ref x), some (.ref p0), some (ti i1), some (ti i2), some (ti i3), some (ti i4), some (ti i5), some (.ref o9945)]) dX11_tellNeighbours_28 rfl rfl ?_
      refine GO.aload dX11_tellNeighbours_30 rfl ?_
      refine GO.ifnonnull (tgt := 38) dX11_tellNeighbours_32 (by decide) ?_
      refine GO.aload dX11_tellNeighbours_38 rfl ?_
      refine GO.getI h9946 fl_RX11_387 rfl rfl dX11_tellNeighbours_40 (fun _ _ => ?_)
      refine GO.iconst dX11_tellNeighbours_43 ?_
      have hj9960 : GO mX11_tellNeighbours K V (VS K (fun V1 => (True))) K V 0 0 84 [some (.ref x), some (.ref p0), some (ti i1), some (ti i2), some (ti i3), some (ti i4), some (ti i5), some (.ref o9945)] [] := by
        skip
        refine GO.aload dX11_tellNeighbours_84 rfl ?_
        refine GO.getI h9946 fl_RX11_387 rfl rfl dX11_tellNeighbours_86 (fun _ _ => ?_)
        refine GO.iconst dX11_tellNeighbours_89 ?_
        have hj9970 : GO mX11_tellNeighbours K V (VS K (fun V1 => (True))) K V 0 0 119 [some (.ref x), some (.ref p0), some (ti i1), some (ti i2), some (ti i3), some (ti i4), some (ti i5), some (.ref o9945)] [] := by
          skip
          refine GO.aload dX11_tellNeighbours_119 rfl ?_
          refine GO.getI h9946 fl_RX11_387 rfl rfl dX11_tellNeighbours_121 (fun _ _ => ?_)
          refine GO.iconst dX11_tellNeighbours_124 ?_
          have hj9980 : GO mX11_tellNeighbours K V (VS K (fun V1 => (True))) K V 0 0 154 [some (.ref x), some (.ref p0), some (ti i1), some (ti i2), some (ti i3), some (ti i4), some (ti i5), some (.ref o9945)] [] := by
            skip
            refine GO.aload dX11_tellNeighbours_154 rfl ?_
            refine GO.getI h9946 fl_RX11_387 rfl rfl dX11_tellNeighbours_156 (fun _ _ => ?_)
            refine GO.iconst dX11_tellNeighbours_159 ?_
            refine GO.icmp_ne (tgt := 198) dX11_tellNeighbours_160 (by decide) vi_ir (ir_c rfl) (fun c9981 => ?_) (fun c9981 => ?_)
            ·
              refine GO.iinc (X := i5) (n := 1) (Y := i5 + 1) (ls1 := [some (.ref x), some (.ref p0), some (ti i1), some (ti i2), some (ti i3), some (ti i4), some (ti (i5 + 1)), some (.ref o9945)]) dX11_tellNeighbours_198 rfl rfl rfl rfl ?_
              refine GO.goto (tgt := 13) dX11_tellNeighbours_201 (by decide) ?_
              refine GO.drop [true, true, true, true, true, true, true, false] rfl ?_
              exact ih9912 i1 i2 i3 i4 (i5 + 1) V ⟨by omega, by omega, by omega, by omega, by omega, by omega, by omega, by omega, by omega, by omega, rfl⟩ (by show (2147483647 - (i5 + 1)).toNat < (2147483647 - i5).toNat; omega)
            ·
              refine GO.aload dX11_tellNeighbours_163 rfl ?_
              refine GO.getI h9946 fl_RX11_173 rfl rfl dX11_tellNeighbours_165 (fun _ _ => ?_)
              refine GO.aload_n dX11_tellNeighbours_168 rfl rfl ?_
              refine GO.getI h_p0 fl_RX11_353 rfl rfl dX11_tellNeighbours_169 (fun _ _ => ?_)
              refine GO.icmp_eq (tgt := 198) dX11_tellNeighbours_172 (by decide) vi_ir vi_ir (fun c9982 => ?_) (fun c9982 => ?_)
              ·
                refine GO.iinc (X := i5) (n := 1) (Y := i5 + 1) (ls1 := [some (.ref x), some (.ref p0), some (ti i1), some (ti i2), some (ti i3), some (ti i4), some (ti (i5 + 1)), some (.ref o9945)]) dX11_tellNeighbours_198 rfl rfl rfl rfl ?_
                refine GO.goto (tgt := 13) dX11_tellNeighbours_201 (by decide) ?_
                refine GO.drop [true, true, true, true, true, true, true, false] rfl ?_
                exact ih9912 i1 i2 i3 i4 (i5 + 1) V ⟨by omega, by omega, by omega, by omega, by omega, by omega, by omega, by omega, by omega, by omega, rfl⟩ (by show (2147483647 - (i5 + 1)).toNat < (2147483647 - i5).toNat; omega)
              ·
                refine GO.aload_n dX11_tellNeighbours_175 rfl rfl ?_
                refine GO.getR h_x fl_RX11_12 rfl rfl dX11_tellNeighbours_176 (fun hv9984 h9983 => ?_)
                refine GO.aload_n dX11_tellNeighbours_179 rfl rfl ?_
                refine GO.getI h_p0 fl_RX11_378 rfl rfl dX11_tellNeighbours_180 (fun _ _ => ?_)
                refine GO.aload dX11_tellNeighbours_183 rfl ?_
                refine GO.getI h9946 fl_RX11_344 rfl rfl dX11_tellNeighbours_185 (fun _ _ => ?_)
                refine GO.callV (ci := 0) (N := mX0_far) dX11_tellNeighbours_188 (RX0, TX0, 13) rfl gV_RX11_388 h9983 (t_X0_far h9983 vi_ir vi_ir) rfl [] rfl rfl (Nat.le_of_ble_eq_true rfl) rfl (k_ip fun X9985 r9986 h9987 => ?_)
                refine GO.iconst dX11_tellNeighbours_191 ?_
                refine GO.icmp_gt (tgt := 198) dX11_tellNeighbours_192 (by decide) r9986 (ir_c rfl) (fun c9988 => ?_) (fun c9988 => ?_)
                ·
                  refine GO.iinc (X := i5) (n := 1) (Y := i5 + 1) (ls1 := [some (.ref x), some (.ref p0), some (ti i1), some (ti i2), some (ti i3), some (ti i4), some (ti (i5 + 1)), some (.ref o9945)]) dX11_tellNeighbours_198 rfl rfl rfl rfl ?_
                  refine GO.goto (tgt := 13) dX11_tellNeighbours_201 (by decide) ?_
                  refine GO.drop [true, true, true, true, true, true, true, false] rfl ?_
                  exact ih9912 i1 i2 i3 i4 (i5 + 1) V ⟨by omega, by omega, by omega, by omega, by omega, by omega, by omega, by omega, by omega, by omega, rfl⟩ (by show (2147483647 - (i5 + 1)).toNat < (2147483647 - i5).toNat; omega)
                ·
                  refine GO.iincN (X := i4) (n := 1) dX11_tellNeighbours_195 rfl rfl (fun z9989 r9990 => ?_)
                  show GO mX11_tellNeighbours K V (VS K (fun V1 => (True))) K V 0 0 198 [some (.ref x), some (.ref p0), some (ti i1), some (ti i2), some (ti i3), some (ti z9989), some (ti i5), some (.ref o9945)] []
                  refine GO.iinc (X := i5) (n := 1) (Y := i5 + 1) (ls1 := [some (.ref x), some (.ref p0), some (ti i1), some (ti i2), some (ti i3), some (ti z9989), some (ti (i5 + 1)), some (.ref o9945)]) dX11_tellNeighbours_198 rfl rfl rfl rfl ?_
                  refine GO.goto (tgt := 13) dX11_tellNeighbours_201 (by decide) ?_
                  refine GO.drop [true, true, true, true, true, true, true, false] rfl ?_
                  have q9991 : -2147483648 ≤ z9989 ∧ z9989 ≤ 2147483647 := r9990
                  exact ih9912 i1 i2 i3 z9989 (i5 + 1) V ⟨by omega, by omega, by omega, by omega, by omega, by omega, by omega, by omega, by omega, by omega, rfl⟩ (by show (2147483647 - (i5 + 1)).toNat < (2147483647 - i5).toNat; omega)
          refine GO.icmp_ne (tgt := 154) dX11_tellNeighbours_125 (by decide) vi_ir (ir_c rfl) (fun c9992 => ?_) (fun c9992 => ?_)
          ·
            exact hj9980 
          ·
            refine GO.aload_n dX11_tellNeighbours_128 rfl rfl ?_
            refine GO.getR h_x fl_RX11_12 rfl rfl dX11_tellNeighbours_129 (fun hv9994 h9993 => ?_)
            refine GO.aload_n dX11_tellNeighbours_132 rfl rfl ?_
            refine GO.getI h_p0 fl_RX11_378 rfl rfl dX11_tellNeighbours_133 (fun _ _ => ?_)
            refine GO.aload dX11_tellNeighbours_136 rfl ?_
            refine GO.getI h9946 fl_RX11_344 rfl rfl dX11_tellNeighbours_138 (fun _ _ => ?_)
            refine GO.callV (ci := 0) (N := mX0_far) dX11_tellNeighbours_141 (RX0, TX0, 13) rfl gV_RX11_388 h9993 (t_X0_far h9993 vi_ir vi_ir) rfl [] rfl rfl (Nat.le_of_ble_eq_true rfl) rfl (k_ip fun X9995 r9996 h9997 => ?_)
            refine GO.iconst dX11_tellNeighbours_144 ?_
            refine GO.icmp_gt (tgt := 154) dX11_tellNeighbours_145 (by decide) r9996 (ir_c rfl) (fun c9998 => ?_) (fun c9998 => ?_)
            ·
              exact hj9980 
            ·
              refine GO.iincN (X := i3) (n := 1) dX11_tellNeighbours_148 rfl rfl (fun z9999 r10000 => ?_)
              show GO mX11_tellNeighbours K V (VS K (fun V1 => (True))) K V 0 0 151 [some (.ref x), some (.ref p0), some (ti i1), some (ti i2), some (ti z9999), some (ti i4), some (ti i5), some (.ref o9945)] []
              refine GO.goto (tgt := 198) dX11_tellNeighbours_151 (by decide) ?_
              refine GO.iinc (X := i5) (n := 1) (Y := i5 + 1) (ls1 := [some (.ref x), some (.ref p0), some (ti i1), some (ti i2), some (ti z9999), some (ti i4), some (ti (i5 + 1)), some (.ref o9945)]) dX11_tellNeighbours_198 rfl rfl rfl rfl ?_
              refine GO.goto (tgt := 13) dX11_tellNeighbours_201 (by decide) ?_
              refine GO.drop [true, true, true, true, true, true, true, false] rfl ?_
              have q10001 : -2147483648 ≤ z9999 ∧ z9999 ≤ 2147483647 := r10000
              exact ih9912 i1 i2 z9999 i4 (i5 + 1) V ⟨by omega, by omega, by omega, by omega, by omega, by omega, by omega, by omega, by omega, by omega, rfl⟩ (by show (2147483647 - (i5 + 1)).toNat < (2147483647 - i5).toNat; omega)
        refine GO.icmp_ne (tgt := 119) dX11_tellNeighbours_90 (by decide) vi_ir (ir_c rfl) (fun c10002 => ?_) (fun c10002 => ?_)
        ·
          exact hj9970 
        ·
          refine GO.aload_n dX11_tellNeighbours_93 rfl rfl ?_
          refine GO.getR h_x fl_RX11_12 rfl rfl dX11_tellNeighbours_94 (fun hv10004 h10003 => ?_)
          refine GO.aload_n dX11_tellNeighbours_97 rfl rfl ?_
          refine GO.getI h_p0 fl_RX11_378 rfl rfl dX11_tellNeighbours_98 (fun _ _ => ?_)
          refine GO.aload dX11_tellNeighbours_101 rfl ?_
          refine GO.getI h9946 fl_RX11_344 rfl rfl dX11_tellNeighbours_103 (fun _ _ => ?_)
          refine GO.callV (ci := 0) (N := mX0_far) dX11_tellNeighbours_106 (RX0, TX0, 13) rfl gV_RX11_388 h10003 (t_X0_far h10003 vi_ir vi_ir) rfl [] rfl rfl (Nat.le_of_ble_eq_true rfl) rfl (k_ip fun X10005 r10006 h10007 => ?_)
          refine GO.iconst dX11_tellNeighbours_109 ?_
          refine GO.icmp_gt (tgt := 119) dX11_tellNeighbours_110 (by decide) r10006 (ir_c rfl) (fun c10008 => ?_) (fun c10008 => ?_)
          ·
            exact hj9970 
          ·
            refine GO.iincN (X := i2) (n := 1) dX11_tellNeighbours_113 rfl rfl (fun z10009 r10010 => ?_)
            show GO mX11_tellNeighbours K V (VS K (fun V1 => (True))) K V 0 0 116 [some (.ref x), some (.ref p0), some (ti i1), some (ti z10009), some (ti i3), some (ti i4), some (ti i5), some (.ref o9945)] []
            refine GO.goto (tgt := 198) dX11_tellNeighbours_116 (by decide) ?_
            refine GO.iinc (X := i5) (n := 1) (Y := i5 + 1) (ls1 := [some (.ref x), some (.ref p0), some (ti i1), some (ti z10009), some (ti i3), some (ti i4), some (ti (i5 + 1)), some (.ref o9945)]) dX11_tellNeighbours_198 rfl rfl rfl rfl ?_
            refine GO.goto (tgt := 13) dX11_tellNeighbours_201 (by decide) ?_
            refine GO.drop [true, true, true, true, true, true, true, false] rfl ?_
            have q10011 : -2147483648 ≤ z10009 ∧ z10009 ≤ 2147483647 := r10010
            exact ih9912 i1 z10009 i3 i4 (i5 + 1) V ⟨by omega, by omega, by omega, by omega, by omega, by omega, by omega, by omega, by omega, by omega, rfl⟩ (by show (2147483647 - (i5 + 1)).toNat < (2147483647 - i5).toNat; omega)
      refine GO.icmp_ne (tgt := 84) dX11_tellNeighbours_44 (by decide) vi_ir (ir_c rfl) (fun c10012 => ?_) (fun c10012 => ?_)
      ·
        exact hj9960 
      ·
        refine GO.aload_n dX11_tellNeighbours_47 rfl rfl ?_
        refine GO.getR h_x fl_RX11_12 rfl rfl dX11_tellNeighbours_48 (fun hv10014 h10013 => ?_)
        refine GO.aload_n dX11_tellNeighbours_51 rfl rfl ?_
        refine GO.getI h_p0 fl_RX11_378 rfl rfl dX11_tellNeighbours_52 (fun _ _ => ?_)
        refine GO.aload dX11_tellNeighbours_55 rfl ?_
        refine GO.getI h9946 fl_RX11_344 rfl rfl dX11_tellNeighbours_57 (fun _ _ => ?_)
        refine GO.aload dX11_tellNeighbours_60 rfl ?_
        refine GO.getI h9946 fl_RX11_347 rfl rfl dX11_tellNeighbours_62 (fun _ _ => ?_)
        refine GO.callV (ci := 0) (N := mX0_isWithin) dX11_tellNeighbours_65 (RX0, TX0, 13) rfl gV_RX11_350 h10013 (t_X0_isWithin h10013 vi_ir vi_ir vi_ir) rfl [] rfl rfl (Nat.le_of_ble_eq_true rfl) rfl (k_ip fun X10015 r10016 h10017 => ?_)
        refine GO.if_eq (tgt := 84) dX11_tellNeighbours_68 (by decide) r10016 (fun c10018 => ?_) (fun c10018 => ?_)
        ·
          exact hj9960 
        ·
          refine GO.iload_n dX11_tellNeighbours_71 rfl rfl ?_
          refine GO.aload dX11_tellNeighbours_72 rfl ?_
          refine GO.getI h9946 fl_RX11_176 rfl rfl dX11_tellNeighbours_74 (fun _ _ => ?_)
          refine GO.callS (N := mJ9_max_7cf53) dX11_tellNeighbours_77 gS_RX11_296 (t_J9_max_7cf53 r_i1 vi_ir) rfl [] rfl rfl (Nat.le_of_ble_eq_true rfl) rfl (k_ip fun X10019 r10020 h10021 => ?_)
          have q10022 : -2147483648 ≤ vi V o9945 4 ∧ vi V o9945 4 ≤ 2147483647 := vi_ir
          have q10023 : -2147483648 ≤ X10019 ∧ X10019 ≤ 2147483647 := r10020
          refine GO.istore_n (ls1 := [some (.ref x), some (.ref p0), some (ti X10019), some (ti i2), some (ti i3), some (ti i4), some (ti i5), some (.ref o9945)]) dX11_tellNeighbours_80 rfl rfl rfl ?_
          refine GO.goto (tgt := 198) dX11_tellNeighbours_81 (by decide) ?_
          refine GO.iinc (X := i5) (n := 1) (Y := i5 + 1) (ls1 := [some (.ref x), some (.ref p0), some (ti X10019), some (ti i2), some (ti i3), some (ti i4), some (ti (i5 + 1)), some (.ref o9945)]) dX11_tellNeighbours_198 rfl rfl rfl rfl ?_
          refine GO.goto (tgt := 13) dX11_tellNeighbours_201 (by decide) ?_
          refine GO.drop [true, true, true, true, true, true, true, false] rfl ?_
          exact ih9912 X10019 i2 i3 i4 (i5 + 1) V ⟨by omega, by omega, by omega, by omega, by omega, by omega, by omega, by omega, by omega, by omega, rfl⟩ (by show (2147483647 - (i5 + 1)).toNat < (2147483647 - i5).toNat; omega)

set_option maxHeartbeats 1000000 in
theorem t_X11_decidingOn {K : Kmap} {V : Vmap} {x : Nat} {p0 : Int} (h_x : K x = some (0, 10)) (r_p0 : ir p0) : MC mX11_decidingOn K V [.ref x, ti p0] (IP K V (fun X => True)) := by
  refine MC.start 3 (by decide +kernel) rfl rfl rfl (ls0 := [some (.ref x), some (ti p0), none, none, none]) rfl ?_
  refine GO.iconst dX11_decidingOn_0 ?_
  refine GO.istore_n (ls1 := [some (.ref x), some (ti p0), some (ti 0), none, none]) dX11_decidingOn_1 rfl rfl rfl ?_
  refine GO.iconst dX11_decidingOn_2 ?_
  refine GO.istore_n (ls1 := [some (.ref x), some (ti p0), some (ti 0), some (ti 0), none]) dX11_decidingOn_3 rfl rfl rfl ?_
  refine GO.loop2 (fun i1 i2 W => (-2147483648) ≤ i1 ∧ i1 ≤ 2147483647 ∧ 0 ≤ i2 ∧ i2 ≤ 9 ∧ V = W) (fun i1 i2 => [some (.ref x), some (ti p0), some (ti i1), some (ti i2), none]) (fun i1 i2 W => (2147483647 - i2).toNat) 0 0 ⟨by omega, by omega, by omega, by omega, rfl⟩ rfl (fun i1 i2 V451 hp453 ih452 => ?_)
  obtain ⟨l_i1, u_i1, l_i2, u_i2, rfl⟩ := hp453
  have r_i1 : ir i1 := ⟨by omega, by omega⟩
  have r_i2 : ir i2 := ⟨by omega, by omega⟩
  show GO mX11_decidingOn K V (IP K V (fun X => True)) K V 0 0 4 [some (.ref x), some (ti p0), some (ti i1), some (ti i2), none] []
  refine GO.iload_n dX11_decidingOn_4 rfl rfl ?_
  refine GO.aload_n dX11_decidingOn_5 rfl rfl ?_
  refine GO.getI h_x fl_RX11_36 rfl rfl dX11_decidingOn_6 (fun l454 u455 => ?_)
  refine GO.icmp_ge (tgt := 45) dX11_decidingOn_9 (by decide) r_i2 vi_ir (fun c456 => ?_) (fun c456 => ?_)
  ·
    refine GO.iload_n dX11_decidingOn_45 rfl rfl ?_
    exact GO.reti rfl rfl dX11_decidingOn_46 ⟨rfl, rfl, _, rfl, r_i1, trivial⟩
  ·
    refine GO.aload_n dX11_decidingOn_12 rfl rfl ?_
    refine GO.iload_n dX11_decidingOn_13 rfl rfl ?_
    refine GO.callV (ci := 10) (N := mX11_partyOf) dX11_decidingOn_14 (RX11, TX11, 20) rfl gV_RX11_151 h_x (t_X11_partyOf h_x r_i2) rfl [] rfl rfl (Nat.le_of_ble_eq_true rfl) rfl (k_rp (fun h459 => ?_) (fun o457 h458 h459 => ?_))
    ·
      have rwn14 := h459.2
      have hn460 : PN V x → i2 < 0 ∨ vi V x 4 ≤ i2 := h459.2
      refine GO.astoreN (ls1 := [some (.ref x), some (ti p0), some (ti i1), some (ti i2), some (.null)]) dX11_decidingOn_17 rfl rfl ?_
      refine GO.aloadN dX11_decidingOn_19 rfl ?_
      refine GO.ifnullN (tgt := 39) dX11_decidingOn_21 (by decide) ?_
      refine GO.iinc (X := i2) (n := 1) (Y := i2 + 1) (ls1 := [some (.ref x), some (ti p0), some (ti i1), some (ti (i2 + 1)), some (.null)]) dX11_decidingOn_39 rfl rfl rfl rfl ?_
      refine GO.goto (tgt := 4) dX11_decidingOn_42 (by decide) ?_
      refine GO.drop [true, true, true, true, false] rfl ?_
      exact ih452 i1 (i2 + 1) V ⟨by omega, by omega, by omega, by omega, rfl⟩ (by show (2147483647 - (i2 + 1)).toNat < (2147483647 - i2).toNat; omega)
    ·
      have hp461 : i2 ≥ 0 ∧ i2 < vi V x 4 := h459.1
      have rwp14 := h459.2
      have hq462 : o457 = vq V (vq V x 3) (i2).toNat := h459.2
      refine GO.astore (ls1 := [some (.ref x), some (ti p0), some (ti i1), some (ti i2), some (.ref o457)]) dX11_decidingOn_17 rfl rfl ?_
      refine GO.aload dX11_decidingOn_19 rfl ?_
      refine GO.ifnull dX11_decidingOn_21 ?_
      refine GO.aload dX11_decidingOn_24 rfl ?_
      refine GO.iload_n dX11_decidingOn_26 rfl rfl ?_
      refine GO.callV (ci := 2) (N := mX2_decidesOn) dX11_decidingOn_27 (RX2, TX2, 5) rfl gV_RX11_301 h458 (t_X2_decidesOn h458 r_p0) rfl [] rfl rfl (Nat.le_of_ble_eq_true rfl) rfl (k_ip fun X463 r464 h465 => ?_)
      refine GO.if_eq (tgt := 39) dX11_decidingOn_30 (by decide) r464 (fun c466 => ?_) (fun c466 => ?_)
      ·
        refine GO.iinc (X := i2) (n := 1) (Y := i2 + 1) (ls1 := [some (.ref x), some (ti p0), some (ti i1), some (ti (i2 + 1)), some (.ref o457)]) dX11_decidingOn_39 rfl rfl rfl rfl ?_
        refine GO.goto (tgt := 4) dX11_decidingOn_42 (by decide) ?_
        refine GO.drop [true, true, true, true, false] rfl ?_
        exact ih452 i1 (i2 + 1) V ⟨by omega, by omega, by omega, by omega, rfl⟩ (by show (2147483647 - (i2 + 1)).toNat < (2147483647 - i2).toNat; omega)
      ·
        refine GO.iload_n dX11_decidingOn_33 rfl rfl ?_
        refine GO.iconst dX11_decidingOn_34 ?_
        refine GO.iload_n dX11_decidingOn_35 rfl rfl ?_
        refine GO.ishl dX11_decidingOn_36 ?_
        refine GO.ior dX11_decidingOn_37 ?_
        refine GO.name (fun z467 hz468 => ?_)
        have r469 : ir z467 := hz468 ▸ wor_ir
        refine GO.istore_n (ls1 := [some (.ref x), some (ti p0), some (ti z467), some (ti i2), some (.ref o457)]) dX11_decidingOn_38 rfl rfl rfl ?_
        refine GO.iinc (X := i2) (n := 1) (Y := i2 + 1) (ls1 := [some (.ref x), some (ti p0), some (ti z467), some (ti (i2 + 1)), some (.ref o457)]) dX11_decidingOn_39 rfl rfl rfl rfl ?_
        refine GO.goto (tgt := 4) dX11_decidingOn_42 (by decide) ?_
        refine GO.drop [true, true, true, true, false] rfl ?_
        have q470 : -2147483648 ≤ z467 ∧ z467 ≤ 2147483647 := r469
        have q471 : -2147483648 ≤ wor i1 (wshl 1 i2) ∧ wor i1 (wshl 1 i2) ≤ 2147483647 := wor_ir
        exact ih452 z467 (i2 + 1) V ⟨by omega, by omega, by omega, by omega, rfl⟩ (by show (2147483647 - (i2 + 1)).toNat < (2147483647 - i2).toNat; omega)

set_option maxHeartbeats 1000000 in
theorem t_X11_hasConsent {K : Kmap} {V : Vmap} {x : Nat} {p0 : Nat} {p1 : Int} (h_x : K x = some (0, 10)) (h_p0 : K p0 = some (0, 9)) (r_p1 : ir p1) : MC mX11_hasConsent K V [.ref x, .ref p0, ti p1] (IP K V (fun X => (X = 0 ∨ X = 1) ∧ (X ≠ 0 → True) ∧ (X = 0 → True))) := by
  refine MC.start 1 (by decide +kernel) rfl rfl rfl (ls0 := [some (.ref x), some (.ref p0), some (ti p1), none]) rfl ?_
  refine GO.aload_n dX11_hasConsent_0 rfl rfl ?_
  refine GO.iload_n dX11_hasConsent_1 rfl rfl ?_
  refine GO.callV (ci := 10) (N := mX11_decidingOn) dX11_hasConsent_2 (RX11, TX11, 20) rfl gV_RX11_369 h_x (t_X11_decidingOn h_x r_p1) rfl [] rfl rfl (Nat.le_of_ble_eq_true rfl) rfl (k_ip fun X1 r2 h3 => ?_)
  refine GO.istore_n (ls1 := [some (.ref x), some (.ref p0), some (ti p1), some (ti X1)]) dX11_hasConsent_5 rfl rfl rfl ?_
  refine GO.aload_n dX11_hasConsent_6 rfl rfl ?_
  refine GO.getI h_p0 fl_RX11_328 rfl rfl dX11_hasConsent_7 (fun _ _ => ?_)
  refine GO.iload_n dX11_hasConsent_10 rfl rfl ?_
  refine GO.iand dX11_hasConsent_11 ?_
  refine GO.if_eq (tgt := 17) dX11_hasConsent_12 (by decide) wand_ir (fun c4 => ?_) (fun c4 => ?_)
  ·
    refine GO.iconst dX11_hasConsent_17 ?_
    refine GO.aload_n dX11_hasConsent_18 rfl rfl ?_
    refine GO.getI h_p0 fl_RX11_325 rfl rfl dX11_hasConsent_19 (fun _ _ => ?_)
    refine GO.iload_n dX11_hasConsent_22 rfl rfl ?_
    refine GO.iand dX11_hasConsent_23 ?_
    refine GO.callS (N := mJ6_bitCount_0f7a4) dX11_hasConsent_24 gS_RX11_286 (t_J6_bitCount_0f7a4 wand_ir) rfl [ti 2] rfl rfl (Nat.le_of_ble_eq_true rfl) rfl (k_ip fun X5 r6 h7 => ?_)
    have raw_bitCount := h7.2
    have rw24 := h7.2
    refine GO.imul dX11_hasConsent_27 ?_
    refine GO.norm (fun z8 r9 hn10 => ?_)
    refine GO.iload_n dX11_hasConsent_28 rfl rfl ?_
    refine GO.callS (N := mJ6_bitCount_0f7a4) dX11_hasConsent_29 gS_RX11_286 (t_J6_bitCount_0f7a4 r2) rfl [ti z8] rfl rfl (Nat.le_of_ble_eq_true rfl) rfl (k_ip fun X11 r12 h13 => ?_)
    have raw_bitCount := h13.2
    have rw29 := h13.2
    refine GO.icmp_le (tgt := 39) dX11_hasConsent_32 (by decide) r9 r12 (fun c14 => ?_) (fun c14 => ?_)
    ·
      refine GO.iconst dX11_hasConsent_39 ?_
      exact GO.retz rfl rfl dX11_hasConsent_40 (Or.inl rfl) ⟨rfl, rfl, _, rfl, (ir_c rfl), ⟨Or.inl rfl, fun _ => trivial, fun _ => trivial⟩⟩
    ·
      refine GO.iconst dX11_hasConsent_35 ?_
      refine GO.goto (tgt := 40) dX11_hasConsent_36 (by decide) ?_
      exact GO.retz rfl rfl dX11_hasConsent_40 (Or.inr rfl) ⟨rfl, rfl, _, rfl, (ir_c rfl), ⟨Or.inr rfl, fun _ => trivial, fun _ => trivial⟩⟩
  ·
    refine GO.iconst dX11_hasConsent_15 ?_
    exact GO.retz rfl rfl dX11_hasConsent_16 (Or.inl rfl) ⟨rfl, rfl, _, rfl, (ir_c rfl), ⟨Or.inl rfl, fun _ => trivial, fun _ => trivial⟩⟩

set_option maxHeartbeats 1000000 in
theorem t_X11_judge {K : Kmap} {V : Vmap} {x : Nat} {p0 : Nat} {p1 : Int} {p2 : Int} (h_x : K x = some (0, 10)) (h_p0 : K p0 = some (0, 9)) (r_p1 : ir p1) (r_p2 : ir p2) (z_p2 : p2 = 0 ∨ p2 = 1) (w_0 : CWI K V x) : MC mX11_judge K V [.ref x, .ref p0, ti p1, ti p2] (IS K (fun X V1 => (True) ∧ (CWI K V1 x))) := by
  refine MC.start 1 (by decide +kernel) rfl rfl rfl (ls0 := [some (.ref x), some (.ref p0), some (ti p1), some (ti p2), none]) rfl ?_
  refine GO.useWT (fun hW_0 => ?_)
  refine GO.aload_n dX11_judge_0 rfl rfl ?_
  refine GO.aload_n dX11_judge_1 rfl rfl ?_
  refine GO.getI h_p0 fl_RX11_353 rfl rfl dX11_judge_2 (fun _ _ => ?_)
  refine GO.callV (ci := 10) (N := mX11_partyOf) dX11_judge_5 (RX11, TX11, 20) rfl gV_RX11_151 h_x (t_X11_partyOf h_x vi_ir) rfl [] rfl rfl (Nat.le_of_ble_eq_true rfl) rfl (k_rp (fun h3 => ?_) (fun o1 h2 h3 => ?_))
  ·
    have rwn5 := h3.2
    have hn4 : PN V x → (vi V p0 1) < 0 ∨ vi V x 4 ≤ (vi V p0 1) := h3.2
    refine GO.astoreN (ls1 := [some (.ref x), some (.ref p0), some (ti p1), some (ti p2), some (.null)]) dX11_judge_8 rfl rfl ?_
    refine GO.aloadN dX11_judge_10 rfl ?_
    refine GO.ifnonnullN dX11_judge_12 ?_
    refine GO.iconst dX11_judge_15 ?_
    exact GO.reti rfl rfl dX11_judge_16 ⟨rfl, _, rfl, (ir_c rfl), ⟨(by first | exact trivial | omega), (by first | exact w_0)⟩⟩
  ·
    have hp5 : (vi V p0 1) ≥ 0 ∧ (vi V p0 1) < vi V x 4 := h3.1
    have rwp5 := h3.2
    have hq6 : o1 = vq V (vq V x 3) ((vi V p0 1)).toNat := h3.2
    refine GO.astore (ls1 := [some (.ref x), some (.ref p0), some (ti p1), some (ti p2), some (.ref o1)]) dX11_judge_8 rfl rfl ?_
    refine GO.aload dX11_judge_10 rfl ?_
    refine GO.ifnonnull (tgt := 17) dX11_judge_12 (by decide) ?_
    refine GO.aload_n dX11_judge_17 rfl rfl ?_
    refine GO.aload_n dX11_judge_18 rfl rfl ?_
    refine GO.aload dX11_judge_19 rfl ?_
    refine GO.iload_n dX11_judge_21 rfl rfl ?_
    refine GO.callV (ci := 10) (N := mX11_tellLetters) dX11_judge_22 (RX11, TX11, 20) rfl gV_RX11_354 h_x (t_X11_tellLetters h_x h_p0 h2 r_p1) rfl [] rfl rfl (Nat.le_of_ble_eq_true rfl) rfl (k_vs fun V9 h8 hF7 => ?_)
    refine GO.useWT (fun hWa => ?_)
    have hc1 := CWI.fr w_0 hF7 ext.rf hW_0 h_x (by decide +kernel) (by decide +kernel) (by decide +kernel)
    have hq1 := pty_k rwp5 ⟨by omega, by omega⟩ hF7 hW_0 h_x w_0.1 (by decide +kernel)
    have ho1 : vi V9 p0 1 = vi V p0 1 := vi_fr hF7 h_p0 h_p0 (by decide +kernel)
    refine GO.aload_n dX11_judge_25 rfl rfl ?_
    refine GO.aload_n dX11_judge_26 rfl rfl ?_
    refine GO.callV (ci := 10) (N := mX11_tellNeighbours) dX11_judge_27 (RX11, TX11, 20) rfl gV_RX11_358 h_x (t_X11_tellNeighbours h_x h_p0) rfl [] rfl rfl (Nat.le_of_ble_eq_true rfl) rfl (k_vs fun V12 h11 hF10 => ?_)
    refine GO.useWT (fun hWb => ?_)
    have hc2 := CWI.fr hc1 hF10 ext.rf hWa h_x (by decide +kernel) (by decide +kernel) (by decide +kernel)
    have hq2 := pty_k hq1.1 ⟨by omega, by have h9 := hq1.2; omega⟩ hF10 hWa h_x hc1.1 (by decide +kernel)
    have ho2 := (vi_fr (k := 1) hF10 h_p0 h_p0 (by decide +kernel)).trans ho1
    refine GO.aload_n dX11_judge_30 rfl rfl ?_
    refine GO.getR h_x fl_RX11_19 rfl rfl dX11_judge_31 (fun hv14 h13 => ?_)
    refine GO.aload_n dX11_judge_34 rfl rfl ?_
    refine GO.getI h_p0 fl_RX11_353 rfl rfl dX11_judge_35 (fun _ _ => ?_)
    refine GO.aload dX11_judge_38 rfl ?_
    refine GO.iload_n dX11_judge_40 rfl rfl ?_
    refine GO.callV (ci := 1) (N := mX1_weigh) dX11_judge_41 (RX1, TX1, 13) rfl gV_RX11_279 h13 (t_X1_weigh h13 vi_ir h2 r_p1) rfl [] rfl rfl (Nat.le_of_ble_eq_true rfl) rfl (k_vs fun V17 h16 hF15 => ?_)
    have raw_weigh := h16.2
    have rw41 := h16.2
    refine GO.useWT (fun hWc => ?_)
    have hcw := CWI.weigh hc2 rw41 rfl (by rw [ho2]; exact hq2.1) ⟨by omega, by have h9 := hq1.2; have h8 := hq2.2; omega⟩ hF15 hWb h_x (by decide +kernel) (by decide +kernel)
    refine GO.aload_n dX11_judge_44 rfl rfl ?_
    refine GO.getRaw h_x fl_RX11_19 (Eq.trans (hF15 _ _ _ h_x h_x (by decide +kernel)) hv14) dX11_judge_45 ?_
    refine GO.aload_n dX11_judge_48 rfl rfl ?_
    refine GO.iload_n dX11_judge_49 rfl rfl ?_
    refine GO.iload_n dX11_judge_50 rfl rfl ?_
    refine GO.aload_n dX11_judge_51 rfl rfl ?_
    refine GO.aload_n dX11_judge_52 rfl rfl ?_
    refine GO.iload_n dX11_judge_53 rfl rfl ?_
    refine GO.callV (ci := 10) (N := mX11_hasConsent) dX11_judge_54 (RX11, TX11, 20) rfl gV_RX11_362 h_x (t_X11_hasConsent h_x h_p0 r_p1) rfl [ti p2, ti p1, .ref p0, .ref (vq V12 x 1)] rfl rfl (Nat.le_of_ble_eq_true rfl) rfl (k_ip fun X20 r21 h22 => ?_)
    refine GO.callV (ci := 1) (N := mX1_judge) dX11_judge_57 (RX1, TX1, 13) rfl gV_RX11_366 h13 (t_X1_judge h13 h_p0 r_p1 r_p2 (by omega) r21 (by omega)) rfl [] rfl rfl (Nat.le_of_ble_eq_true rfl) rfl (k_is fun X23 V27 r24 h25 hF26 => ?_)
    have q28 : -2147483648 ≤ X23 ∧ X23 ≤ 2147483647 := r24
    exact GO.reti rfl rfl dX11_judge_60 ⟨rfl, _, rfl, r24, ⟨(by first | exact trivial | omega), (by first | exact w_0 | exact CWI.fr hcw.1 hF26 ext.rf hWc h_x (by decide +kernel) (by decide +kernel) (by decide +kernel))⟩⟩

set_option maxHeartbeats 1000000 in
theorem t_X11_may {K : Kmap} {V : Vmap} {x : Nat} {p0 : Int} {p1 : Int} {p2 : Int} (h_x : K x = some (0, 10)) (r_p0 : ir p0) (r_p1 : ir p1) (r_p2 : ir p2) (z_p2 : p2 = 0 ∨ p2 = 1) (w_0 : CWI K V x) : MC mX11_may K V [.ref x, ti p0, ti p1, ti p2] (IS K (fun X V1 => (True) ∧ (CWI K V1 x))) := by
  refine MC.start 1 (by decide +kernel) rfl rfl rfl (ls0 := [some (.ref x), some (ti p0), some (ti p1), some (ti p2), none]) rfl ?_
  refine GO.useWT (fun hW_0 => ?_)
  refine GO.aload_n dX11_may_0 rfl rfl ?_
  refine GO.iload_n dX11_may_1 rfl rfl ?_
  refine GO.callV (ci := 10) (N := mX11_workOf) dX11_may_2 (RX11, TX11, 20) rfl gV_RX11_309 h_x (t_X11_workOf h_x r_p0) rfl [] rfl rfl (Nat.le_of_ble_eq_true rfl) rfl (k_rp (fun h3 => ?_) (fun o1 h2 h3 => ?_))
  ·
    refine GO.astoreN (ls1 := [some (.ref x), some (ti p0), some (ti p1), some (ti p2), some (.null)]) dX11_may_5 rfl rfl ?_
    refine GO.aloadN dX11_may_7 rfl ?_
    refine GO.ifnullN (tgt := 19) dX11_may_9 (by decide) ?_
    refine GO.iconst dX11_may_19 ?_
    exact GO.reti rfl rfl dX11_may_20 ⟨rfl, _, rfl, (ir_c rfl), ⟨(by first | exact trivial | omega), (by first | exact w_0)⟩⟩
  ·
    refine GO.astore (ls1 := [some (.ref x), some (ti p0), some (ti p1), some (ti p2), some (.ref o1)]) dX11_may_5 rfl rfl ?_
    refine GO.aload dX11_may_7 rfl ?_
    refine GO.ifnull dX11_may_9 ?_
    refine GO.iload_n dX11_may_12 rfl rfl ?_
    refine GO.callS (N := mX11_isDay) dX11_may_13 gS_RX11_276 (t_X11_isDay r_p1) rfl [] rfl rfl (Nat.le_of_ble_eq_true rfl) rfl (k_ip fun X4 r5 h6 => ?_)
    refine GO.if_ne (tgt := 21) dX11_may_16 (by decide) r5 (fun c7 => ?_) (fun c7 => ?_)
    ·
      have q8 := h6.2.1 (by omega)
      refine GO.aload_n dX11_may_21 rfl rfl ?_
      refine GO.aload dX11_may_22 rfl ?_
      refine GO.iload_n dX11_may_24 rfl rfl ?_
      refine GO.iload_n dX11_may_25 rfl rfl ?_
      refine GO.callV (ci := 10) (N := mX11_judge) dX11_may_26 (RX11, TX11, 20) rfl gV_RX11_331 h_x (t_X11_judge h_x h2 r_p1 r_p2 (by omega) (w_0)) rfl [] rfl rfl (Nat.le_of_ble_eq_true rfl) rfl (k_is fun X9 V13 r10 h11 hF12 => ?_)
      have raw_judge := h11.2
      have rw26 := h11.2
      have q14 : -2147483648 ≤ X9 ∧ X9 ≤ 2147483647 := r10
      exact GO.reti rfl rfl dX11_may_29 ⟨rfl, _, rfl, r10, ⟨(by first | exact trivial | omega), (by first | exact w_0 | exact rw26)⟩⟩
    ·
      have q15 := h6.2.2 (by omega)
      refine GO.iconst dX11_may_19 ?_
      exact GO.reti rfl rfl dX11_may_20 ⟨rfl, _, rfl, (ir_c rfl), ⟨(by first | exact trivial | omega), (by first | exact w_0)⟩⟩

set_option maxHeartbeats 1000000 in
theorem t_X11_why {K : Kmap} {V : Vmap} {x : Nat} {p0 : Int} {p1 : Int} {p2 : Int} {p3 : Int} (h_x : K x = some (0, 10)) (r_p0 : ir p0) (r_p1 : ir p1) (r_p2 : ir p2) (z_p2 : p2 = 0 ∨ p2 = 1) (r_p3 : ir p3) (w_0 : CWI K V x) : MC mX11_why K V [.ref x, ti p0, ti p1, ti p2, ti p3] (IS K (fun X V1 => (True) ∧ (CWI K V1 x))) := by
  refine MC.start 1 (by decide +kernel) rfl rfl rfl (ls0 := [some (.ref x), some (ti p0), some (ti p1), some (ti p2), some (ti p3), none]) rfl ?_
  refine GO.useWT (fun hW_0 => ?_)
  refine GO.aload_n dX11_why_0 rfl rfl ?_
  refine GO.iload_n dX11_why_1 rfl rfl ?_
  refine GO.callV (ci := 10) (N := mX11_workOf) dX11_why_2 (RX11, TX11, 20) rfl gV_RX11_309 h_x (t_X11_workOf h_x r_p0) rfl [] rfl rfl (Nat.le_of_ble_eq_true rfl) rfl (k_rp (fun h3 => ?_) (fun o1 h2 h3 => ?_))
  ·
    refine GO.astoreN (ls1 := [some (.ref x), some (ti p0), some (ti p1), some (ti p2), some (ti p3), some (.null)]) dX11_why_5 rfl rfl ?_
    refine GO.aloadN dX11_why_7 rfl ?_
    refine GO.ifnullN (tgt := 29) dX11_why_9 (by decide) ?_
    refine GO.iconst dX11_why_29 ?_
    exact GO.reti rfl rfl dX11_why_30 ⟨rfl, _, rfl, (ir_c rfl), ⟨(by first | exact trivial | omega), (by first | exact w_0)⟩⟩
  ·
    refine GO.astore (ls1 := [some (.ref x), some (ti p0), some (ti p1), some (ti p2), some (ti p3), some (.ref o1)]) dX11_why_5 rfl rfl ?_
    refine GO.aload dX11_why_7 rfl ?_
    refine GO.ifnull dX11_why_9 ?_
    refine GO.iload_n dX11_why_12 rfl rfl ?_
    refine GO.callS (N := mX11_isDay) dX11_why_13 gS_RX11_276 (t_X11_isDay r_p1) rfl [] rfl rfl (Nat.le_of_ble_eq_true rfl) rfl (k_ip fun X4 r5 h6 => ?_)
    refine GO.if_eq (tgt := 29) dX11_why_16 (by decide) r5 (fun c7 => ?_) (fun c7 => ?_)
    ·
      have q8 := h6.2.2 (by omega)
      refine GO.iconst dX11_why_29 ?_
      exact GO.reti rfl rfl dX11_why_30 ⟨rfl, _, rfl, (ir_c rfl), ⟨(by first | exact trivial | omega), (by first | exact w_0)⟩⟩
    ·
      have q9 := h6.2.1 (by omega)
      refine GO.iload dX11_why_19 rfl ?_
      refine GO.iconst dX11_why_21 ?_
      refine GO.iconst dX11_why_22 ?_
      refine GO.callS (N := mX11_between) dX11_why_23 gS_RX11_112 (t_X11_between r_p3 (ir_c rfl) (ir_c rfl)) rfl [] rfl rfl (Nat.le_of_ble_eq_true rfl) rfl (k_ip fun X10 r11 h12 => ?_)
      refine GO.if_ne (tgt := 31) dX11_why_26 (by decide) r11 (fun c13 => ?_) (fun c13 => ?_)
      ·
        have q14 := h12.2.1 (by omega)
        refine GO.aload_n dX11_why_31 rfl rfl ?_
        refine GO.aload dX11_why_32 rfl ?_
        refine GO.iload_n dX11_why_34 rfl rfl ?_
        refine GO.iload_n dX11_why_35 rfl rfl ?_
        refine GO.callV (ci := 10) (N := mX11_judge) dX11_why_36 (RX11, TX11, 20) rfl gV_RX11_331 h_x (t_X11_judge h_x h2 r_p1 r_p2 (by omega) (w_0)) rfl [] rfl rfl (Nat.le_of_ble_eq_true rfl) rfl (k_is fun X15 V19 r16 h17 hF18 => ?_)
        have raw_judge := h17.2
        have rw36 := h17.2
        refine GO.pop dX11_why_39 rfl ?_
        refine GO.iload dX11_why_40 rfl ?_
        refine GO.if_ne (tgt := 55) dX11_why_42 (by decide) r_p3 (fun c20 => ?_) (fun c20 => ?_)
        ·
          refine GO.aload_n dX11_why_55 rfl rfl ?_
          refine GO.getR h_x fl_RX11_19 rfl rfl dX11_why_56 (fun hv22 h21 => ?_)
          refine GO.getI h21 fl_RX11_338 rfl rfl dX11_why_59 (fun _ _ => ?_)
          have q23 : -2147483648 ≤ vi V19 (vq V19 x 1) 12 ∧ vi V19 (vq V19 x 1) 12 ≤ 2147483647 := vi_ir
          exact GO.reti rfl rfl dX11_why_62 ⟨rfl, _, rfl, vi_ir, ⟨(by first | exact trivial | omega), (by first | exact w_0 | exact rw36)⟩⟩
        ·
          refine GO.aload_n dX11_why_45 rfl rfl ?_
          refine GO.getR h_x fl_RX11_19 rfl rfl dX11_why_46 (fun hv25 h24 => ?_)
          refine GO.getI h24 fl_RX11_335 rfl rfl dX11_why_49 (fun _ _ => ?_)
          refine GO.goto (tgt := 62) dX11_why_52 (by decide) ?_
          have q26 : -2147483648 ≤ vi V19 (vq V19 x 1) 11 ∧ vi V19 (vq V19 x 1) 11 ≤ 2147483647 := vi_ir
          exact GO.reti rfl rfl dX11_why_62 ⟨rfl, _, rfl, vi_ir, ⟨(by first | exact trivial | omega), (by first | exact w_0 | exact rw36)⟩⟩
      ·
        have q27 := h12.2.2 (by omega)
        refine GO.iconst dX11_why_29 ?_
        exact GO.reti rfl rfl dX11_why_30 ⟨rfl, _, rfl, (ir_c rfl), ⟨(by first | exact trivial | omega), (by first | exact w_0)⟩⟩

set_option maxHeartbeats 1000000 in
theorem t_X11_whose {K : Kmap} {V : Vmap} {x : Nat} {p0 : Int} {p1 : Int} (h_x : K x = some (0, 10)) (r_p0 : ir p0) (r_p1 : ir p1) (w_0 : CWI K V x) : MC mX11_whose K V [.ref x, ti p0, ti p1] (IS K (fun X V1 => (True) ∧ (CWI K V1 x))) := by
  refine MC.start 6 (by decide +kernel) rfl rfl rfl (ls0 := [some (.ref x), some (ti p0), some (ti p1), none, none, none, none, none, none]) rfl ?_
  refine GO.useWT (fun hW_0 => ?_)
  refine GO.aload_n dX11_whose_0 rfl rfl ?_
  refine GO.iload_n dX11_whose_1 rfl rfl ?_
  refine GO.callV (ci := 10) (N := mX11_partyOf) dX11_whose_2 (RX11, TX11, 20) rfl gV_RX11_151 h_x (t_X11_partyOf h_x r_p0) rfl [] rfl rfl (Nat.le_of_ble_eq_true rfl) rfl (k_rp (fun h3 => ?_) (fun o1 h2 h3 => ?_))
  ·
    have rwn2 := h3.2
    have hn4 : PN V x → p0 < 0 ∨ vi V x 4 ≤ p0 := h3.2
    refine GO.astore_nN (ls1 := [some (.ref x), some (ti p0), some (ti p1), some (.null), none, none, none, none, none]) dX11_whose_5 rfl rfl rfl ?_
    refine GO.aload_nN dX11_whose_6 rfl rfl ?_
    refine GO.ifnullN (tgt := 21) dX11_whose_7 (by decide) ?_
    refine GO.iconst dX11_whose_21 ?_
    exact GO.reti rfl rfl dX11_whose_22 ⟨rfl, _, rfl, (ir_c rfl), ⟨(by first | exact trivial | omega), (by first | exact w_0)⟩⟩
  ·
    have hp5 : p0 ≥ 0 ∧ p0 < vi V x 4 := h3.1
    have rwp2 := h3.2
    have hq6 : o1 = vq V (vq V x 3) (p0).toNat := h3.2
    refine GO.astore_n (ls1 := [some (.ref x), some (ti p0), some (ti p1), some (.ref o1), none, none, none, none, none]) dX11_whose_5 rfl rfl rfl ?_
    refine GO.aload_n dX11_whose_6 rfl rfl ?_
    refine GO.ifnull dX11_whose_7 ?_
    refine GO.aload_n dX11_whose_10 rfl rfl ?_
    refine GO.getR h_x fl_RX11_12 rfl rfl dX11_whose_11 (fun hv8 h7 => ?_)
    refine GO.iload_n dX11_whose_14 rfl rfl ?_
    refine GO.callV (ci := 0) (N := mX0_isCell) dX11_whose_15 (RX0, TX0, 13) rfl gV_RX11_119 h7 (t_X0_isCell h7 r_p1) rfl [] rfl rfl (Nat.le_of_ble_eq_true rfl) rfl (k_ip fun X9 r10 h11 => ?_)
    refine GO.if_ne (tgt := 23) dX11_whose_18 (by decide) r10 (fun c12 => ?_) (fun c12 => ?_)
    ·
      refine GO.aload_n dX11_whose_23 rfl rfl ?_
      refine GO.getR h_x fl_RX11_19 rfl rfl dX11_whose_24 (fun hv14 h13 => ?_)
      refine GO.iload_n dX11_whose_27 rfl rfl ?_
      refine GO.aload_n dX11_whose_28 rfl rfl ?_
      refine GO.aload_n dX11_whose_29 rfl rfl ?_
      refine GO.getRaw h_x fl_RX11_12 hv8 dX11_whose_30 ?_
      refine GO.getI h7 fl_RX11_145 rfl rfl dX11_whose_33 (fun l17 u18 => ?_)
      refine GO.callV (ci := 1) (N := mX1_weigh) dX11_whose_36 (RX1, TX1, 13) rfl gV_RX11_279 h13 (t_X1_weigh h13 r_p0 h2 vi_ir) rfl [] rfl rfl (Nat.le_of_ble_eq_true rfl) rfl (k_vs fun V21 h20 hF19 => ?_)
      have raw_weigh := h20.2
      have rw36 := h20.2
      have hcw := CWI.weigh w_0 rw36 rfl rwp2 ⟨by omega, by omega⟩ hF19 hW_0 h_x (by decide +kernel) (by decide +kernel)
      refine GO.iconst dX11_whose_39 ?_
      refine GO.aload_n dX11_whose_40 rfl rfl ?_
      refine GO.getRaw h_x fl_RX11_19 (Eq.trans (hF19 _ _ _ h_x h_x (by decide +kernel)) hv14) dX11_whose_41 ?_
      refine GO.bipush dX11_whose_44 rfl ?_
      refine GO.iconst dX11_whose_46 ?_
      refine GO.iconst dX11_whose_47 ?_
      refine GO.callV (ci := 1) (N := mX1_numberOf) dX11_whose_48 (RX1, TX1, 13) rfl gV_RX11_292 h13 (t_X1_numberOf h13 (ir_c rfl) (ir_c rfl) (ir_c rfl)) rfl [ti 0] rfl rfl (Nat.le_of_ble_eq_true rfl) rfl (k_ip fun X24 r25 h26 => ?_)
      have raw_numberOf := h26.2
      have rw48 := h26.2
      refine GO.callS (N := mJ9_max_7cf53) dX11_whose_51 gS_RX11_296 (t_J9_max_7cf53 (ir_c rfl) r25) rfl [] rfl rfl (Nat.le_of_ble_eq_true rfl) rfl (k_ip fun X27 r28 h29 => ?_)
      have q30 : -2147483648 ≤ X27 ∧ X27 ≤ 2147483647 := r28
      refine GO.istore (ls1 := [some (.ref x), some (ti p0), some (ti p1), some (.ref o1), some (ti X27), none, none, none, none]) dX11_whose_54 rfl rfl ?_
      refine GO.aload_n dX11_whose_56 rfl rfl ?_
      refine GO.aload_n dX11_whose_57 rfl rfl ?_
      refine GO.getRaw h_x fl_RX11_12 (Eq.trans (hF19 _ _ _ h_x h_x (by decide +kernel)) hv8) dX11_whose_58 ?_
      refine GO.getI h7 fl_RX11_145 rfl rfl dX11_whose_61 (fun l33 u34 => ?_)
      refine GO.callV (ci := 2) (N := mX2_decidesOn) dX11_whose_64 (RX2, TX2, 5) rfl gV_RX11_301 h2 (t_X2_decidesOn h2 vi_ir) rfl [] rfl rfl (Nat.le_of_ble_eq_true rfl) rfl (k_ip fun X35 r36 h37 => ?_)
      refine GO.if_eq (tgt := 87) dX11_whose_67 (by decide) r36 (fun c38 => ?_) (fun c38 => ?_)
      ·
        refine GO.bipush dX11_whose_87 rfl ?_
        exact GO.reti rfl rfl dX11_whose_89 ⟨rfl, _, rfl, (ir_c rfl), ⟨(by first | exact trivial | omega), (by first | exact w_0 | exact hcw.1)⟩⟩
      ·
        refine GO.aload_n dX11_whose_70 rfl rfl ?_
        refine GO.getRaw h_x fl_RX11_12 (Eq.trans (hF19 _ _ _ h_x h_x (by decide +kernel)) hv8) dX11_whose_71 ?_
        refine GO.getI h7 fl_RX11_145 rfl rfl dX11_whose_74 (fun l41 u42 => ?_)
        refine GO.aload_n dX11_whose_77 rfl rfl ?_
        refine GO.getI h2 fl_RX11_341 rfl rfl dX11_whose_78 (fun _ _ => ?_)
        refine GO.isub dX11_whose_81 ?_
        refine GO.norm (fun z43 r44 hn45 => ?_)
        refine GO.iload dX11_whose_82 rfl ?_
        refine GO.icmp_ge (tgt := 90) dX11_whose_84 (by decide) r44 r28 (fun c46 => ?_) (fun c46 => ?_)
        ·
          refine GO.iconst dX11_whose_90 ?_
          refine GO.istore (ls1 := [some (.ref x), some (ti p0), some (ti p1), some (.ref o1), some (ti X27), some (ti (-1)), none, none, none]) dX11_whose_91 rfl rfl ?_
          refine GO.iconst dX11_whose_93 ?_
          refine GO.istore (ls1 := [some (.ref x), some (ti p0), some (ti p1), some (.ref o1), some (ti X27), some (ti (-1)), some (ti (-1)), none, none]) dX11_whose_94 rfl rfl ?_
          refine GO.iconst dX11_whose_96 ?_
          refine GO.istore (ls1 := [some (.ref x), some (ti p0), some (ti p1), some (.ref o1), some (ti X27), some (ti (-1)), some (ti (-1)), some (ti 0), none]) dX11_whose_97 rfl rfl ?_
          refine GO.loop3 (fun i47 i48 i49 W => (-1) ≤ i47 ∧ i47 ≤ 59 ∧ (-1) ≤ i48 ∧ i48 ≤ 2147483647 ∧ 0 ≤ i49 ∧ i49 ≤ 60 ∧ V21 = W) (fun i47 i48 i49 => [some (.ref x), some (ti p0), some (ti p1), some (.ref o1), some (ti X27), some (ti i47), some (ti i48), some (ti i49), none]) (fun i47 i48 i49 W => (2147483647 - i49).toNat) (-1) (-1) 0 ⟨by omega, by omega, by omega, by omega, by omega, by omega, rfl⟩ rfl (fun i47 i48 i49 V526 hp528 ih527 => ?_)
          obtain ⟨l_i47, u_i47, l_i48, u_i48, l_i49, u_i49, rfl⟩ := hp528
          have r_i47 : ir i47 := ⟨by omega, by omega⟩
          have r_i48 : ir i48 := ⟨by omega, by omega⟩
          have r_i49 : ir i49 := ⟨by omega, by omega⟩
          show GO mX11_whose K V (IS K (fun X V1 => (True) ∧ (CWI K V1 x))) K V21 0 0 99 [some (.ref x), some (ti p0), some (ti p1), some (.ref o1), some (ti X27), some (ti i47), some (ti i48), some (ti i49), none] []
          refine GO.iload dX11_whose_99 rfl ?_
          refine GO.aload_n dX11_whose_101 rfl rfl ?_
          refine GO.getI h_x fl_RX11_46 rfl rfl dX11_whose_102 (fun l529 u530 => ?_)
          refine GO.icmp_ge (tgt := 170) dX11_whose_105 (by decide) r_i49 vi_ir (fun c532 => ?_) (fun c532 => ?_)
          ·
            refine GO.iload dX11_whose_170 rfl ?_
            exact GO.reti rfl rfl dX11_whose_172 ⟨rfl, _, rfl, r_i47, ⟨(by first | exact trivial | omega), (by first | exact w_0 | exact hcw.1)⟩⟩
          ·
            refine GO.aload_n dX11_whose_108 rfl rfl ?_
            refine GO.iload dX11_whose_109 rfl ?_
            refine GO.iconst dX11_whose_111 ?_
            refine GO.callV (ci := 10) (N := mX11_placeOf) dX11_whose_112 (RX11, TX11, 20) rfl gV_RX11_169 h_x (t_X11_placeOf h_x r_i49 (ir_c rfl)) rfl [] rfl rfl (Nat.le_of_ble_eq_true rfl) rfl (k_rp (fun h535 => ?_) (fun o533 h534 h535 => ?_))
            ·
              refine GO.astoreN (ls1 := [some (.ref x), some (ti p0), some (ti p1), some (.ref o1), some (ti X27), some (ti i47), some (ti i48), some (ti i49), some (.null)]) dX11_whose_115 rfl rfl ?_
              refine GO.aloadN dX11_whose_117 rfl ?_
              refine GO.ifnullN (tgt := 164) dX11_whose_119 (by decide) ?_
              refine GO.iinc (X := i49) (n := 1) (Y := i49 + 1) (ls1 := [some (.ref x), some (ti p0), some (ti p1), some (.ref o1), some (ti X27), some (ti i47), some (ti i48), some (ti (i49 + 1)), some (.null)]) dX11_whose_164 rfl rfl rfl rfl ?_
              refine GO.goto (tgt := 99) dX11_whose_167 (by decide) ?_
              refine GO.drop [true, true, true, true, true, true, true, true, false] rfl ?_
              exact ih527 i47 i48 (i49 + 1) V21 ⟨by omega, by omega, by omega, by omega, by omega, by omega, rfl⟩ (by show (2147483647 - (i49 + 1)).toNat < (2147483647 - i49).toNat; omega)
            ·
              refine GO.astore (ls1 := [some (.ref x), some (ti p0), some (ti p1), some (.ref o1), some (ti X27), some (ti i47), some (ti i48), some (ti i49), some (.ref o533)]) dX11_whose_115 rfl rfl ?_
              refine GO.aload dX11_whose_117 rfl ?_
              refine GO.ifnull dX11_whose_119 ?_
              refine GO.aload dX11_whose_122 rfl ?_
              refine GO.getI h534 fl_RX11_176 rfl rfl dX11_whose_124 (fun _ _ => ?_)
              refine GO.iload dX11_whose_127 rfl ?_
              refine GO.icmp_le (tgt := 164) dX11_whose_129 (by decide) vi_ir r_i48 (fun c536 => ?_) (fun c536 => ?_)
              ·
                refine GO.iinc (X := i49) (n := 1) (Y := i49 + 1) (ls1 := [some (.ref x), some (ti p0), some (ti p1), some (.ref o1), some (ti X27), some (ti i47), some (ti i48), some (ti (i49 + 1)), some (.ref o533)]) dX11_whose_164 rfl rfl rfl rfl ?_
                refine GO.goto (tgt := 99) dX11_whose_167 (by decide) ?_
                refine GO.drop [true, true, true, true, true, true, true, true, false] rfl ?_
                have q537 : -2147483648 ≤ vi V21 o533 4 ∧ vi V21 o533 4 ≤ 2147483647 := vi_ir
                exact ih527 i47 i48 (i49 + 1) V21 ⟨by omega, by omega, by omega, by omega, by omega, by omega, rfl⟩ (by show (2147483647 - (i49 + 1)).toNat < (2147483647 - i49).toNat; omega)
              ·
                refine GO.aload_n dX11_whose_132 rfl rfl ?_
                refine GO.getRaw h_x fl_RX11_12 (Eq.trans (hF19 _ _ _ h_x h_x (by decide +kernel)) hv8) dX11_whose_133 ?_
                refine GO.iload_n dX11_whose_136 rfl rfl ?_
                refine GO.aload dX11_whose_137 rfl ?_
                refine GO.getI h534 fl_RX11_344 rfl rfl dX11_whose_139 (fun _ _ => ?_)
                refine GO.aload dX11_whose_142 rfl ?_
                refine GO.getI h534 fl_RX11_347 rfl rfl dX11_whose_144 (fun _ _ => ?_)
                refine GO.callV (ci := 0) (N := mX0_isWithin) dX11_whose_147 (RX0, TX0, 13) rfl gV_RX11_350 h7 (t_X0_isWithin h7 r_p1 vi_ir vi_ir) rfl [] rfl rfl (Nat.le_of_ble_eq_true rfl) rfl (k_ip fun X540 r541 h542 => ?_)
                refine GO.if_eq (tgt := 164) dX11_whose_150 (by decide) r541 (fun c543 => ?_) (fun c543 => ?_)
                ·
                  refine GO.iinc (X := i49) (n := 1) (Y := i49 + 1) (ls1 := [some (.ref x), some (ti p0), some (ti p1), some (.ref o1), some (ti X27), some (ti i47), some (ti i48), some (ti (i49 + 1)), some (.ref o533)]) dX11_whose_164 rfl rfl rfl rfl ?_
                  refine GO.goto (tgt := 99) dX11_whose_167 (by decide) ?_
                  refine GO.drop [true, true, true, true, true, true, true, true, false] rfl ?_
                  have q544 : -2147483648 ≤ vi V21 o533 4 ∧ vi V21 o533 4 ≤ 2147483647 := vi_ir
                  exact ih527 i47 i48 (i49 + 1) V21 ⟨by omega, by omega, by omega, by omega, by omega, by omega, rfl⟩ (by show (2147483647 - (i49 + 1)).toNat < (2147483647 - i49).toNat; omega)
                ·
                  refine GO.iload dX11_whose_153 rfl ?_
                  refine GO.istore (ls1 := [some (.ref x), some (ti p0), some (ti p1), some (.ref o1), some (ti X27), some (ti i49), some (ti i48), some (ti i49), some (.ref o533)]) dX11_whose_155 rfl rfl ?_
                  refine GO.aload dX11_whose_157 rfl ?_
                  refine GO.getI h534 fl_RX11_176 rfl rfl dX11_whose_159 (fun _ _ => ?_)
                  refine GO.name (fun z545 hz546 => ?_)
                  have r547 : ir z545 := hz546 ▸ vi_ir
                  refine GO.istore (ls1 := [some (.ref x), some (ti p0), some (ti p1), some (.ref o1), some (ti X27), some (ti i49), some (ti z545), some (ti i49), some (.ref o533)]) dX11_whose_162 rfl rfl ?_
                  refine GO.iinc (X := i49) (n := 1) (Y := i49 + 1) (ls1 := [some (.ref x), some (ti p0), some (ti p1), some (.ref o1), some (ti X27), some (ti i49), some (ti z545), some (ti (i49 + 1)), some (.ref o533)]) dX11_whose_164 rfl rfl rfl rfl ?_
                  refine GO.goto (tgt := 99) dX11_whose_167 (by decide) ?_
                  refine GO.drop [true, true, true, true, true, true, true, true, false] rfl ?_
                  have q548 : -2147483648 ≤ z545 ∧ z545 ≤ 2147483647 := r547
                  have q549 : -2147483648 ≤ vi V21 o533 4 ∧ vi V21 o533 4 ≤ 2147483647 := vi_ir
                  exact ih527 i49 z545 (i49 + 1) V21 ⟨by omega, by omega, by omega, by omega, by omega, by omega, rfl⟩ (by show (2147483647 - (i49 + 1)).toNat < (2147483647 - i49).toNat; omega)
        ·
          refine GO.bipush dX11_whose_87 rfl ?_
          exact GO.reti rfl rfl dX11_whose_89 ⟨rfl, _, rfl, (ir_c rfl), ⟨(by first | exact trivial | omega), (by first | exact w_0 | exact hcw.1)⟩⟩
    ·
      refine GO.iconst dX11_whose_21 ?_
      exact GO.reti rfl rfl dX11_whose_22 ⟨rfl, _, rfl, (ir_c rfl), ⟨(by first | exact trivial | omega), (by first | exact w_0)⟩⟩

set_option maxHeartbeats 1000000 in
theorem t_X11_ship {K : Kmap} {V : Vmap} {x : Nat} {p0 : Int} {p1 : Int} {p2 : Int} (h_x : K x = some (0, 10)) (r_p0 : ir p0) (r_p1 : ir p1) (r_p2 : ir p2) (w_0 : PN V x) (w_1 : SN V x) : MC mX11_ship K V [.ref x, ti p0, ti p1, ti p2] (IX (fun X _ V1 => (((X = (-1) ∧ vi V1 x 10 = vi V x 10 ∧ (vi V x 10 ≥ 10 ∨ p1 < 1 ∨ p1 > 10000 ∨ p2 < 0 ∨ p2 > 100 ∨ p0 < 0 ∨ p0 ≥ vi V x 4)) ∨ (X = vi V x 10 ∧ vi V1 x 10 = (vi V x 10 + 1) ∧ vi V x 10 < 10 ∧ p1 ≥ 1 ∧ p1 ≤ 10000 ∧ p2 ≥ 0 ∧ p2 ≤ 100 ∧ p0 ≥ 0 ∧ p0 < vi V x 4))) ∧ (SN V1 x))) := by
  refine MC.start 0 (by decide +kernel) rfl rfl rfl (ls0 := [some (.ref x), some (ti p0), some (ti p1), some (ti p2)]) rfl ?_
  refine GO.aload_n dX11_ship_0 rfl rfl ?_
  refine GO.iload_n dX11_ship_1 rfl rfl ?_
  refine GO.callV (ci := 10) (N := mX11_partyOf) dX11_ship_2 (RX11, TX11, 20) rfl gV_RX11_151 h_x (t_X11_partyOf h_x r_p0) rfl [] rfl rfl (Nat.le_of_ble_eq_true rfl) rfl (k_rp (fun h3 => ?_) (fun o1 h2 h3 => ?_))
  ·
    have rwn2 := h3.2
    have hn4 : PN V x → p0 < 0 ∨ vi V x 4 ≤ p0 := h3.2
    have hnn5 := hn4 w_0
    refine GO.ifnullN (tgt := 29) dX11_ship_5 (by decide) ?_
    refine GO.iconst dX11_ship_29 ?_
    have q6 : -2147483648 ≤ vi V x 10 ∧ vi V x 10 ≤ 2147483647 := vi_ir
    have q7 : -2147483648 ≤ vi V x 4 ∧ vi V x 4 ≤ 2147483647 := vi_ir
    exact GO.reti rfl rfl dX11_ship_30 ⟨_, rfl, (ir_c rfl), ⟨(by first | exact trivial | omega), (by first | exact w_1 | exact NN.push (t := 7) (by decide) w_1 h_x (by assumption) (by assumption) (by assumption) (by assumption) (by assumption) (by assumption) (by assumption) (by assumption) (by decide +kernel) (by assumption) (by assumption) (by omega) (by omega) ⟨by omega, by omega⟩)⟩⟩
  ·
    have hp8 : p0 ≥ 0 ∧ p0 < vi V x 4 := h3.1
    have rwp2 := h3.2
    have hq9 : o1 = vq V (vq V x 3) (p0).toNat := h3.2
    refine GO.ifnull dX11_ship_5 ?_
    refine GO.iload_n dX11_ship_8 rfl rfl ?_
    refine GO.iconst dX11_ship_9 ?_
    refine GO.sipush dX11_ship_10 rfl ?_
    refine GO.callS (N := mX11_between) dX11_ship_13 gS_RX11_112 (t_X11_between r_p1 (ir_c rfl) (ir_c rfl)) rfl [] rfl rfl (Nat.le_of_ble_eq_true rfl) rfl (k_ip fun X10 r11 h12 => ?_)
    refine GO.if_eq (tgt := 29) dX11_ship_16 (by decide) r11 (fun c13 => ?_) (fun c13 => ?_)
    ·
      have q14 := h12.2.2 (by omega)
      refine GO.iconst dX11_ship_29 ?_
      have q15 : -2147483648 ≤ vi V x 10 ∧ vi V x 10 ≤ 2147483647 := vi_ir
      have q16 : -2147483648 ≤ vi V x 4 ∧ vi V x 4 ≤ 2147483647 := vi_ir
      have q17 : -2147483648 ≤ p0 ∧ p0 ≤ 2147483647 := r_p0
      exact GO.reti rfl rfl dX11_ship_30 ⟨_, rfl, (ir_c rfl), ⟨(by first | exact trivial | omega), (by first | exact w_1 | exact NN.push (t := 7) (by decide) w_1 h_x (by assumption) (by assumption) (by assumption) (by assumption) (by assumption) (by assumption) (by assumption) (by assumption) (by decide +kernel) (by assumption) (by assumption) (by omega) (by omega) ⟨by omega, by omega⟩)⟩⟩
    ·
      have q18 := h12.2.1 (by omega)
      refine GO.iload_n dX11_ship_19 rfl rfl ?_
      refine GO.iconst dX11_ship_20 ?_
      refine GO.bipush dX11_ship_21 rfl ?_
      refine GO.callS (N := mX11_between) dX11_ship_23 gS_RX11_112 (t_X11_between r_p2 (ir_c rfl) (ir_c rfl)) rfl [] rfl rfl (Nat.le_of_ble_eq_true rfl) rfl (k_ip fun X19 r20 h21 => ?_)
      refine GO.if_ne (tgt := 31) dX11_ship_26 (by decide) r20 (fun c22 => ?_) (fun c22 => ?_)
      ·
        have q23 := h21.2.1 (by omega)
        refine GO.aload_n dX11_ship_31 rfl rfl ?_
        refine GO.getI h_x fl_RX11_64 rfl rfl dX11_ship_32 (fun l24 u25 => ?_)
        refine GO.aload_n dX11_ship_35 rfl rfl ?_
        refine GO.getA (n := 10) h_x fl_RX11_60 rfl rfl rfl rfl dX11_ship_36 (fun hv27 h26 => ?_)
        refine GO.alen h26 dX11_ship_39 (fun h28 => ?_)
        refine GO.icmp_lt (tgt := 45) dX11_ship_40 (by decide) vi_ir ⟨by omega, by omega⟩ (fun c29 => ?_) (fun c29 => ?_)
        ·
          refine GO.aload_n dX11_ship_45 rfl rfl ?_
          refine GO.getRaw h_x fl_RX11_60 hv27 dX11_ship_46 ?_
          refine GO.aload_n dX11_ship_49 rfl rfl ?_
          refine GO.getI h_x fl_RX11_64 rfl rfl dX11_ship_50 (fun l32 u33 => ?_)
          refine GO.new (ci := 18) (RX7, TX7, 11) tyX7 rfl rfl lays_6 tyX7_ok gw_225 gw_1045 gw_20 rfl rfl dX11_ship_53 (fun o34 K35 V41 hq36 hK37 hE38 h39 _ hV40 => ?_)
          have h42 := hE38.obj (by decide) h_x
          have h43 := hE38.arr h26
          refine GO.dup dX11_ship_56 rfl ?_
          refine GO.iload_n dX11_ship_57 rfl rfl ?_
          refine GO.iload_n dX11_ship_58 rfl rfl ?_
          refine GO.iload_n dX11_ship_59 rfl rfl ?_
          refine GO.callI (N := mX7_init) dX11_ship_60 gI_RX11_391 rfl (t_X7_init h39 r_p0 r_p1 r_p2) rfl [.ref o34, ti (vi V x 10), .ref (vq V x 9)] rfl rfl (Nat.le_of_ble_eq_true rfl) rfl (k_vx fun K46 V48 h47 hE45 hF44 => ?_)
          have h49 := hE45.obj (by decide) h42
          have h50 := hE45.arr h43
          have h51 := h47.1
          refine GO.aast (t := 7) (by decide) (RX7, TX7, 11) rfl rfl rfl (by decide +kernel) h50 h51 vi_ir (by omega) (by omega) dX11_ship_63 (fun V53 e52 => ?_)
          refine GO.aload_n dX11_ship_64 rfl rfl ?_
          refine GO.dup dX11_ship_65 rfl ?_
          refine GO.getI h49 fl_RX11_64 rfl rfl dX11_ship_66 (fun l54 u55 => ?_)
          have e58 : vi V41 x 10 = vi V x 10 := vi_nw hV40 (K_old h_x hq36)
          have e57 : vi V48 x 10 = vi V41 x 10 := vi_fr hF44 h42 h49 (by decide +kernel)
          have e56 : vi V53 x 10 = vi V48 x 10 := vi_up e52 (Or.inl (K_ne h49 h50 (by decide)))
          refine GO.dup_x1 dX11_ship_69 rfl rfl ?_
          refine GO.iconst dX11_ship_70 ?_
          refine GO.iadd dX11_ship_71 ?_
          refine GO.putI h49 fp_RX11_64 rfl (by decide +kernel) ⟨by omega, by omega⟩ (by omega) (by omega) dX11_ship_72 (fun V60 e59 => ?_)
          have e61 : vi V60 x 10 = (vi V53 x 10) + 1 := upd2_int e59 ⟨by omega, by omega⟩
          have q62 : -2147483648 ≤ vi V x 4 ∧ vi V x 4 ≤ 2147483647 := vi_ir
          have q63 : -2147483648 ≤ p0 ∧ p0 ≤ 2147483647 := r_p0
          exact GO.reti rfl rfl dX11_ship_75 ⟨_, rfl, vi_ir, ⟨(by first | exact trivial | omega), (by first | exact w_1 | exact NN.push (t := 7) (by decide) w_1 h_x (by assumption) (by assumption) (by assumption) (by assumption) (by assumption) (by assumption) (by assumption) (by assumption) (by decide +kernel) (by assumption) (by assumption) (by omega) (by omega) ⟨by omega, by omega⟩)⟩⟩
        ·
          refine GO.iconst dX11_ship_43 ?_
          have q64 : -2147483648 ≤ vi V x 4 ∧ vi V x 4 ≤ 2147483647 := vi_ir
          have q65 : -2147483648 ≤ p0 ∧ p0 ≤ 2147483647 := r_p0
          exact GO.reti rfl rfl dX11_ship_44 ⟨_, rfl, (ir_c rfl), ⟨(by first | exact trivial | omega), (by first | exact w_1 | exact NN.push (t := 7) (by decide) w_1 h_x (by assumption) (by assumption) (by assumption) (by assumption) (by assumption) (by assumption) (by assumption) (by assumption) (by decide +kernel) (by assumption) (by assumption) (by omega) (by omega) ⟨by omega, by omega⟩)⟩⟩
      ·
        have q66 := h21.2.2 (by omega)
        refine GO.iconst dX11_ship_29 ?_
        have q67 : -2147483648 ≤ vi V x 10 ∧ vi V x 10 ≤ 2147483647 := vi_ir
        have q68 : -2147483648 ≤ vi V x 4 ∧ vi V x 4 ≤ 2147483647 := vi_ir
        have q69 : -2147483648 ≤ p0 ∧ p0 ≤ 2147483647 := r_p0
        exact GO.reti rfl rfl dX11_ship_30 ⟨_, rfl, (ir_c rfl), ⟨(by first | exact trivial | omega), (by first | exact w_1 | exact NN.push (t := 7) (by decide) w_1 h_x (by assumption) (by assumption) (by assumption) (by assumption) (by assumption) (by assumption) (by assumption) (by assumption) (by decide +kernel) (by assumption) (by assumption) (by omega) (by omega) ⟨by omega, by omega⟩)⟩⟩
