def mX12_hasOpenSum : MRec := (RX12, cX12_hasOpenSum, 3, (some .boolean), yX12_hasOpenSum, 0, 0, 0, 0, 0)
def mX12_readsSum : MRec := (RX12, cX12_readsSum, 3, (some .boolean), yX12_readsSum, 4, 83, 0, 0, 48888863432027666070442696521825075865235241626388431603512355916790897375506972996244865024)
def mX12_endsPiece : MRec := (RX12, cX12_endsPiece, 1, (none : Option Jvm.ClassFile.FieldType), yX12_endsPiece, 1, 22, 0, 0, 16296287810675888690147565507275025288411747309179231588156630273363078976450148924334800896)
def mX12_lands : MRec := (RX12, cX12_lands, 3, (none : Option Jvm.ClassFile.FieldType), yX12_lands, 1, 20, 0, 0, 16296287810675888690147565507275025288411747240671342338270555982565352442874382377962962944)
def mX12_jumps : MRec := (RX12, cX12_jumps, 2, (none : Option Jvm.ClassFile.FieldType), yX12_jumps, 1, 22, 0, 0, 48888863432027666070442696521825075865235241586425496207745479247158890230921109177527959552)
set_option maxHeartbeats 1000000 in
theorem t_X12_hasOpenSum {K : Kmap} {V : Vmap} {x : Nat} {p0 : Int} (h_x : K x = some (0, 11)) (r_p0 : ir p0) (q_0 : p0 ≥ 0) : MC mX12_hasOpenSum K V [.ref x, ti p0] (IP K V (fun X => (X = 0 ∨ X = 1) ∧ (X ≠ 0 → True) ∧ (X = 0 → True) ∧ (HO V x p0 X))) := by
  refine MC.start 1 (by decide +kernel) rfl rfl rfl (ls0 := [some (.ref x), some (ti p0), none]) rfl ?_
  refine GO.useWT (fun hW1 => ?_)
  have aq2 := hW1.aq h_x
  refine GO.iload_n dX12_hasOpenSum_0 rfl rfl ?_
  refine GO.istore_n (ls1 := [some (.ref x), some (ti p0), some (ti p0)]) dX12_hasOpenSum_1 rfl rfl rfl ?_
  have q4 : -2147483648 ≤ p0 ∧ p0 ≤ 2147483647 := r_p0
  refine GO.loop1 (fun i3 W => 0 ≤ i3 ∧ i3 ≤ 2147483647 ∧ (i3 ≥ 0) ∧ (HOI W x p0 i3) ∧ V = W) (fun i3 => [some (.ref x), some (ti p0), some (ti i3)]) (fun i3 W => (2147483647 - i3).toNat) p0 ⟨by omega, by omega, by omega, (by first | exact HOI.rf | exact HOI.step (by assumption) (by omega) rfl (by omega) | (subst_vars; exact HOI.rf)), rfl⟩ rfl (fun i3 V13 hp15 ih14 => ?_)
  obtain ⟨l_i3, u_i3, n_i3, w0_i3, rfl⟩ := hp15
  have r_i3 : ir i3 := ⟨by omega, by omega⟩
  show GO mX12_hasOpenSum K V (IP K V (fun X => (X = 0 ∨ X = 1) ∧ (X ≠ 0 → True) ∧ (X = 0 → True) ∧ (HO V x p0 X))) K V 0 0 2 [some (.ref x), some (ti p0), some (ti i3)] []
  refine GO.iload_n dX12_hasOpenSum_2 rfl rfl ?_
  refine GO.aload_n dX12_hasOpenSum_3 rfl rfl ?_
  refine GO.getI h_x fl_RX12_473 rfl rfl dX12_hasOpenSum_4 (fun l16 u17 => ?_)
  refine GO.icmp_ge (tgt := 33) dX12_hasOpenSum_7 (by decide) r_i3 vi_ir (fun c18 => ?_) (fun c18 => ?_)
  ·
    refine GO.iconst dX12_hasOpenSum_33 ?_
    exact GO.retz rfl rfl dX12_hasOpenSum_34 (by omega) ⟨rfl, rfl, _, rfl, (ir_c rfl), ⟨by omega, fun _ => trivial, fun _ => trivial, (by first | exact HO.yes (by assumption) (by omega) (by omega) rfl (by omega) rfl | exact HO.no (by assumption) (by omega) rfl)⟩⟩
  ·
    refine GO.aload_n dX12_hasOpenSum_10 rfl rfl ?_
    refine GO.getA (n := 220) h_x fl_RX12_91 rfl rfl rfl rfl dX12_hasOpenSum_11 (fun hv20 h19 => ?_)
    refine GO.iload_n dX12_hasOpenSum_14 rfl rfl ?_
    refine GO.iald (t := 33) rfl rfl h19 r_i3 (by omega) (by omega) dX12_hasOpenSum_15 (fun l21 u22 => ?_)
    refine GO.ldcw (X := 1048576) dX12_hasOpenSum_16 gw_2078 rfl ?_
    refine GO.idivP dX12_hasOpenSum_19 vi_ir (ir_c rfl) (by omega) (by omega) ?_
    refine GO.bipush dX12_hasOpenSum_20 rfl ?_
    refine GO.icmp_ne (tgt := 27) dX12_hasOpenSum_22 (by decide) ⟨by omega, by omega⟩ (ir_c rfl) (fun c23 => ?_) (fun c23 => ?_)
    ·
      refine GO.iinc (X := i3) (n := 1) (Y := i3 + 1) (ls1 := [some (.ref x), some (ti p0), some (ti (i3 + 1))]) dX12_hasOpenSum_27 rfl rfl rfl rfl ?_
      refine GO.goto (tgt := 2) dX12_hasOpenSum_30 (by decide) ?_
      exact ih14 (i3 + 1) V ⟨by omega, by omega, by omega, (by first | exact HOI.rf | exact HOI.step (by assumption) (by omega) rfl (by omega) | (subst_vars; exact HOI.rf)), rfl⟩ (by show (2147483647 - (i3 + 1)).toNat < (2147483647 - i3).toNat; omega)
    ·
      refine GO.iconst dX12_hasOpenSum_25 ?_
      exact GO.retz rfl rfl dX12_hasOpenSum_26 (by omega) ⟨rfl, rfl, _, rfl, (ir_c rfl), ⟨by omega, fun _ => trivial, fun _ => trivial, (by first | exact HO.yes (by assumption) (by omega) (by omega) rfl (by omega) rfl | exact HO.no (by assumption) (by omega) rfl)⟩⟩

set_option maxHeartbeats 1000000 in
theorem t_X12_readsSum {K : Kmap} {V : Vmap} {x : Nat} {fr : Nat} {S0 : Nat → Int} {s z : Int} (h_x : K x = some (0, 11)) (q_0 : vi V x 37 ≥ 1) (w_0 : RJ V x fr S0 s z) (w_1 : 0 ≤ z) (w_2 : NS V x) : MC mX12_readsSum K V [.ref x] (IS K (fun X V1 => (X = 0 ∨ X = 1) ∧ (X ≠ 0 → vi V1 x 31 ≥ (vi V x 31 + 1) ∧ vi V1 x 37 = vi V x 37) ∧ (X = 0 → True) ∧ (X ≠ 0 → RJ V1 x fr S0 s (z + 1)) ∧ (X ≠ 0 → SQ V V1 x))) := by
  refine MC.start 2 (by decide +kernel) rfl rfl rfl (ls0 := [some (.ref x), none, none]) rfl ?_
  refine GO.useWT (fun hW1 => ?_)
  have aq2 := hW1.aq h_x
  have hrd := (hW1).rd h_x
  have hle := RJ.le (V := V) (x := x) (fr := fr) (S0 := S0) (s := s) (z := z) (by assumption)
  refine GO.aload_n dX12_readsSum_0 rfl rfl ?_
  refine GO.getI h_x fl_RX12_473 rfl rfl dX12_readsSum_1 (fun l3 u4 => ?_)
  refine GO.name (fun z5 hz6 => ?_)
  have r7 : ir z5 := hz6 ▸ vi_ir
  refine GO.istore_n (ls1 := [some (.ref x), some (ti z5), none]) dX12_readsSum_4 rfl rfl rfl ?_
  refine GO.aload_n dX12_readsSum_5 rfl rfl ?_
  have q8 : -2147483648 ≤ vi V x 37 ∧ vi V x 37 ≤ 2147483647 := vi_ir
  have q9 : -2147483648 ≤ z5 ∧ z5 ≤ 2147483647 := r7
  have q10 : -2147483648 ≤ vi V x 31 ∧ vi V x 31 ≤ 2147483647 := vi_ir
  have q11 : -2147483648 ≤ vi V x 36 ∧ vi V x 36 ≤ 2147483647 := vi_ir
  refine GO.callV (ci := 11) (N := mX12_readsFactor) dX12_readsSum_6 (RX12, TX12, 151) rfl gV_RX12_492 h_x (t_X12_readsFactor h_x (by omega) ((by first | assumption | exact RJ.pushS raw_closesSums.1 (by omega) (by omega) ((rfl : sd V x = sd V x)) ((rfl : wt V x = wt V x)) (by omega) (by omega) (by omega)))) rfl [] rfl rfl (Nat.le_of_ble_eq_true rfl) rfl (k_is fun X12 V16 r13 h14 hF15 => ?_)
  refine GO.useWT (fun hW17 => ?_)
  have aq18 := hW17.aq h_x
  have raw_readsFactor := h14.2.2.2
  have rw6 := h14.2.2.2
  refine GO.if_ne (tgt := 14) dX12_readsSum_9 (by decide) r13 (fun c21 => ?_) (fun c21 => ?_)
  ·
    have q22 := h14.2.1 (by omega)
    have q23 : -2147483648 ≤ vi V16 x 31 ∧ vi V16 x 31 ≤ 2147483647 := vi_ir
    have q24 : -2147483648 ≤ vi V16 x 37 ∧ vi V16 x 37 ≤ 2147483647 := vi_ir
    refine GO.loop0 (fun  W => (vi W x 31 ≥ (vi V x 31 + 1) ∧ vi W x 37 ≥ z5) ∧ (RJ W x fr S0 s (z + 1)) ∧ (GM V W x) ∧ True) (fun  W => ((vi W x 32 - vi W x 31)).toNat)  ⟨by omega, (by first | exact raw_readsFactor.1 (by omega) | exact RJ.zz (raw_readsFactor.1 (by omega)) (by omega) | exact RJ.pop raw_closesSums.1 (by omega) (by omega) ((rfl : sd V16 x = sd V16 x)) ((rfl : wt V16 x = wt V16 x)) (by omega) (by omega) (by omega)), (by first | exact GM.of (raw_readsFactor.2 (by omega)) | exact GM.fac (GM.push hgm (by omega) (by omega) ((rfl : wt V x = wt V x)) (by omega)) (raw_readsFactor.2 (by omega)) | exact GM.pop hgo.1 ((rfl : wt V16 x = wt V16 x)) (by omega) hgo1), trivial⟩ (fun W290 hp292 ih291 => ?_)
    obtain ⟨n_W290, w0_W290, w1_W290, -⟩ := hp292
    show GO mX12_readsSum K V (IS K (fun X V1 => (X = 0 ∨ X = 1) ∧ (X ≠ 0 → vi V1 x 31 ≥ (vi V x 31 + 1) ∧ vi V1 x 37 = vi V x 37) ∧ (X = 0 → True) ∧ (X ≠ 0 → RJ V1 x fr S0 s (z + 1)) ∧ (X ≠ 0 → SQ V V1 x))) K W290 0 0 14 [some (.ref x), some (ti z5), none] []
    refine GO.useWT (fun hW293 => ?_)
    have aq294 := hW293.aq h_x
    have hrd := (hW293).rd h_x
    have hle := RJ.le (V := W290) (x := x) (fr := fr) (S0 := S0) (s := s) (z := z + 1) (by assumption)
    refine GO.aload_n dX12_readsSum_14 rfl rfl ?_
    refine GO.callV (ci := 11) (N := mX12_sign) dX12_readsSum_15 (RX12, TX12, 151) rfl gV_RX12_449 h_x (t_X12_sign h_x) rfl [] rfl rfl (Nat.le_of_ble_eq_true rfl) rfl (k_ip fun X295 r296 h297 => ?_)
    refine GO.iconst dX12_readsSum_18 ?_
    refine GO.icmp_ne (tgt := 26) dX12_readsSum_19 (by decide) r296 (ir_c rfl) (fun c298 => ?_) (fun c298 => ?_)
    ·
      refine GO.aload_n dX12_readsSum_26 rfl rfl ?_
      refine GO.callV (ci := 11) (N := mX12_sign) dX12_readsSum_27 (RX12, TX12, 151) rfl gV_RX12_449 h_x (t_X12_sign h_x) rfl [] rfl rfl (Nat.le_of_ble_eq_true rfl) rfl (k_ip fun X299 r300 h301 => ?_)
      refine GO.callS (N := mX12_sumSign) dX12_readsSum_30 gS_RX12_495 (t_X12_sumSign r300) rfl [] rfl rfl (Nat.le_of_ble_eq_true rfl) rfl (k_ip fun X302 r303 h304 => ?_)
      refine GO.istore_n (ls1 := [some (.ref x), some (ti z5), some (ti X302)]) dX12_readsSum_33 rfl rfl rfl ?_
      refine GO.iload_n dX12_readsSum_34 rfl rfl ?_
      refine GO.iconst dX12_readsSum_35 ?_
      refine GO.icmp_eq (tgt := 96) dX12_readsSum_36 (by decide) r303 (ir_c rfl) (fun c305 => ?_) (fun c305 => ?_)
      ·
        refine GO.aload_n dX12_readsSum_96 rfl rfl ?_
        refine GO.callV (ci := 11) (N := mX12_sign) dX12_readsSum_97 (RX12, TX12, 151) rfl gV_RX12_449 h_x (t_X12_sign h_x) rfl [] rfl rfl (Nat.le_of_ble_eq_true rfl) rfl (k_ip fun X306 r307 h308 => ?_)
        refine GO.bipush dX12_readsSum_100 rfl ?_
        refine GO.icmp_ne (tgt := 151) dX12_readsSum_102 (by decide) r307 (ir_c rfl) (fun c309 => ?_) (fun c309 => ?_)
        ·
          refine GO.aload_n dX12_readsSum_151 rfl rfl ?_
          refine GO.iload_n dX12_readsSum_152 rfl rfl ?_
          have q310 : -2147483648 ≤ vi W290 x 37 ∧ vi W290 x 37 ≤ 2147483647 := vi_ir
          have q311 : -2147483648 ≤ vi W290 x 31 ∧ vi W290 x 31 ≤ 2147483647 := vi_ir
          have q312 : -2147483648 ≤ vi W290 x 32 ∧ vi W290 x 32 ≤ 2147483647 := vi_ir
          have q313 : -2147483648 ≤ vi W290 x 36 ∧ vi W290 x 36 ≤ 2147483647 := vi_ir
          refine GO.callV (ci := 11) (N := mX12_hasOpenSum) dX12_readsSum_153 (RX12, TX12, 151) rfl gV_RX12_502 h_x (t_X12_hasOpenSum h_x r7 (by omega)) rfl [] rfl rfl (Nat.le_of_ble_eq_true rfl) rfl (k_ip fun X314 r315 h316 => ?_)
          have raw_hasOpenSum := h316.2.2.2
          have rw153 := h316.2.2.2
          refine GO.if_eq (tgt := 169) dX12_readsSum_156 (by decide) r315 (fun c317 => ?_) (fun c317 => ?_)
          ·
            refine GO.aload_n dX12_readsSum_169 rfl rfl ?_
            refine GO.iconst dX12_readsSum_170 ?_
            refine GO.callV (ci := 11) (N := mX12_closesSums) dX12_readsSum_171 (RX12, TX12, 151) rfl gV_RX12_498 h_x (t_X12_closesSums h_x (ir_c rfl) (by omega) (by assumption) (by omega)) rfl [] rfl rfl (Nat.le_of_ble_eq_true rfl) rfl (k_vs fun V320 h319 hF318 => ?_)
            refine GO.useWT (fun hW321 => ?_)
            have aq322 := hW321.aq h_x
            have raw_closesSums := h319.2
            have rw171 := h319.2
            have e323 : vi V320 x 31 = vi W290 x 31 := vi_fr hF318 h_x h_x (by decide +kernel)
            have hsq := GM.fin (by assumption) (by assumption) raw_closesSums.2 (by omega) (by omega) raw_hasOpenSum (by omega)
            have hsq1 := hsq.1
            refine GO.iconst dX12_readsSum_174 ?_
            have q326 : -2147483648 ≤ vi V320 x 37 ∧ vi V320 x 37 ≤ 2147483647 := vi_ir
            have q327 : -2147483648 ≤ vi V320 x 36 ∧ vi V320 x 36 ≤ 2147483647 := vi_ir
            exact GO.retz rfl rfl dX12_readsSum_175 (by omega) ⟨rfl, _, rfl, (ir_c rfl), ⟨by omega, fun h => by omega, fun _ => trivial, (by first | exact fun h => absurd h (by omega) | exact fun _ => raw_closesSums.1), (by first | exact fun h => absurd h (by omega) | exact fun _ => hsq)⟩⟩
          ·
            refine GO.aload_n dX12_readsSum_159 rfl rfl ?_
            refine GO.iconst dX12_readsSum_160 ?_
            refine GO.aload_n dX12_readsSum_161 rfl rfl ?_
            refine GO.getI h_x fl_RX12_443 rfl rfl dX12_readsSum_162 (fun l328 u329 => ?_)
            refine GO.callV (ci := 11) (N := mX12_wrong) dX12_readsSum_165 (RX12, TX12, 151) rfl gV_RX12_456 h_x (t_X12_wrong h_x (ir_c rfl) vi_ir) rfl [] rfl rfl (Nat.le_of_ble_eq_true rfl) rfl (k_is fun X330 V334 r331 h332 hF333 => ?_)
            have k335 := st_fr hF333 aq294 h_x (by decide +kernel) (by decide +kernel) (by decide +kernel) (by decide +kernel)
            have sS336 : sd V334 x = sd W290 x := k335.2.1.trans (rfl : sd W290 x = sd W290 x)
            have sQ337 : wt V334 x = wt W290 x := k335.2.2.trans (rfl : wt W290 x = wt W290 x)
            have e338 : vi V334 x 31 = vi W290 x 31 := vi_fr hF333 h_x h_x (by decide +kernel)
            have e339 : vi V334 x 37 = vi W290 x 37 := vi_fr hF333 h_x h_x (by decide +kernel)
            exact GO.retz rfl rfl dX12_readsSum_168 (by omega) ⟨rfl, _, rfl, r331, ⟨by omega, fun h => by omega, fun _ => trivial, (by first | exact fun h => absurd h (by omega) | exact fun _ => raw_closesSums.1), (by first | exact fun h => absurd h (by omega) | exact fun _ => hsq)⟩⟩
        ·
          refine GO.aload_n dX12_readsSum_105 rfl rfl ?_
          refine GO.iload_n dX12_readsSum_106 rfl rfl ?_
          have q340 : -2147483648 ≤ vi W290 x 37 ∧ vi W290 x 37 ≤ 2147483647 := vi_ir
          have q341 : -2147483648 ≤ vi W290 x 31 ∧ vi W290 x 31 ≤ 2147483647 := vi_ir
          have q342 : -2147483648 ≤ vi W290 x 32 ∧ vi W290 x 32 ≤ 2147483647 := vi_ir
          have q343 : -2147483648 ≤ vi W290 x 36 ∧ vi W290 x 36 ≤ 2147483647 := vi_ir
          refine GO.callV (ci := 11) (N := mX12_hasOpenSum) dX12_readsSum_107 (RX12, TX12, 151) rfl gV_RX12_502 h_x (t_X12_hasOpenSum h_x r7 (by omega)) rfl [] rfl rfl (Nat.le_of_ble_eq_true rfl) rfl (k_ip fun X344 r345 h346 => ?_)
          have raw_hasOpenSum := h346.2.2.2
          have rw107 := h346.2.2.2
          refine GO.if_eq (tgt := 151) dX12_readsSum_110 (by decide) r345 (fun c347 => ?_) (fun c347 => ?_)
          ·
            refine GO.aload_n dX12_readsSum_151 rfl rfl ?_
            refine GO.iload_n dX12_readsSum_152 rfl rfl ?_
            refine GO.callV (ci := 11) (N := mX12_hasOpenSum) dX12_readsSum_153 (RX12, TX12, 151) rfl gV_RX12_502 h_x (t_X12_hasOpenSum h_x r7 (by omega)) rfl [] rfl rfl (Nat.le_of_ble_eq_true rfl) rfl (k_ip fun X348 r349 h350 => ?_)
            have raw_hasOpenSum := h350.2.2.2
            have rw153 := h350.2.2.2
            refine GO.if_eq (tgt := 169) dX12_readsSum_156 (by decide) r349 (fun c351 => ?_) (fun c351 => ?_)
            ·
              refine GO.aload_n dX12_readsSum_169 rfl rfl ?_
              refine GO.iconst dX12_readsSum_170 ?_
              refine GO.callV (ci := 11) (N := mX12_closesSums) dX12_readsSum_171 (RX12, TX12, 151) rfl gV_RX12_498 h_x (t_X12_closesSums h_x (ir_c rfl) (by omega) (by assumption) (by omega)) rfl [] rfl rfl (Nat.le_of_ble_eq_true rfl) rfl (k_vs fun V354 h353 hF352 => ?_)
              refine GO.useWT (fun hW355 => ?_)
              have aq356 := hW355.aq h_x
              have raw_closesSums := h353.2
              have rw171 := h353.2
              have e357 : vi V354 x 31 = vi W290 x 31 := vi_fr hF352 h_x h_x (by decide +kernel)
              have hsq := GM.fin (by assumption) (by assumption) raw_closesSums.2 (by omega) (by omega) raw_hasOpenSum (by omega)
              have hsq1 := hsq.1
              refine GO.iconst dX12_readsSum_174 ?_
              have q360 : -2147483648 ≤ vi V354 x 37 ∧ vi V354 x 37 ≤ 2147483647 := vi_ir
              have q361 : -2147483648 ≤ vi V354 x 36 ∧ vi V354 x 36 ≤ 2147483647 := vi_ir
              exact GO.retz rfl rfl dX12_readsSum_175 (by omega) ⟨rfl, _, rfl, (ir_c rfl), ⟨by omega, fun h => by omega, fun _ => trivial, (by first | exact fun h => absurd h (by omega) | exact fun _ => raw_closesSums.1), (by first | exact fun h => absurd h (by omega) | exact fun _ => hsq)⟩⟩
            ·
              refine GO.aload_n dX12_readsSum_159 rfl rfl ?_
              refine GO.iconst dX12_readsSum_160 ?_
              refine GO.aload_n dX12_readsSum_161 rfl rfl ?_
              refine GO.getI h_x fl_RX12_443 rfl rfl dX12_readsSum_162 (fun l362 u363 => ?_)
              refine GO.callV (ci := 11) (N := mX12_wrong) dX12_readsSum_165 (RX12, TX12, 151) rfl gV_RX12_456 h_x (t_X12_wrong h_x (ir_c rfl) vi_ir) rfl [] rfl rfl (Nat.le_of_ble_eq_true rfl) rfl (k_is fun X364 V368 r365 h366 hF367 => ?_)
              have k369 := st_fr hF367 aq294 h_x (by decide +kernel) (by decide +kernel) (by decide +kernel) (by decide +kernel)
              have sS370 : sd V368 x = sd W290 x := k369.2.1.trans (rfl : sd W290 x = sd W290 x)
              have sQ371 : wt V368 x = wt W290 x := k369.2.2.trans (rfl : wt W290 x = wt W290 x)
              have e372 : vi V368 x 31 = vi W290 x 31 := vi_fr hF367 h_x h_x (by decide +kernel)
              have e373 : vi V368 x 37 = vi W290 x 37 := vi_fr hF367 h_x h_x (by decide +kernel)
              exact GO.retz rfl rfl dX12_readsSum_168 (by omega) ⟨rfl, _, rfl, r365, ⟨by omega, fun h => by omega, fun _ => trivial, (by first | exact fun h => absurd h (by omega) | exact fun _ => raw_closesSums.1), (by first | exact fun h => absurd h (by omega) | exact fun _ => hsq)⟩⟩
          ·
            refine GO.aload_n dX12_readsSum_113 rfl rfl ?_
            refine GO.iconst dX12_readsSum_114 ?_
            refine GO.callV (ci := 11) (N := mX12_closesSums) dX12_readsSum_115 (RX12, TX12, 151) rfl gV_RX12_498 h_x (t_X12_closesSums h_x (ir_c rfl) (by omega) (by assumption) (by omega)) rfl [] rfl rfl (Nat.le_of_ble_eq_true rfl) rfl (k_vs fun V376 h375 hF374 => ?_)
            refine GO.useWT (fun hW377 => ?_)
            have aq378 := hW377.aq h_x
            have raw_closesSums := h375.2
            have rw115 := h375.2
            have e379 : vi V376 x 31 = vi W290 x 31 := vi_fr hF374 h_x h_x (by decide +kernel)
            have hgo := GM.opn (by assumption) (by assumption) raw_closesSums.2 (by omega) (by omega) raw_hasOpenSum (by omega)
            have hgo1 := hgo.2.1
            have hgo2 := hgo.2.2
            refine GO.aload_n dX12_readsSum_118 rfl rfl ?_
            refine GO.aload_n dX12_readsSum_119 rfl rfl ?_
            refine GO.getI h_x fl_RX12_473 rfl rfl dX12_readsSum_120 (fun l382 u383 => ?_)
            refine GO.iconst dX12_readsSum_123 ?_
            refine GO.isub dX12_readsSum_124 ?_
            have q385 : -2147483648 ≤ vi V376 x 37 ∧ vi V376 x 37 ≤ 2147483647 := vi_ir
            have q386 : -2147483648 ≤ vi V376 x 36 ∧ vi V376 x 36 ≤ 2147483647 := vi_ir
            refine GO.putI h_x fp_RX12_473 rfl (by decide +kernel) ⟨by omega, by omega⟩ (by omega) (by omega) dX12_readsSum_125 (fun V387 e384 => ?_)
            have k388 := st_fld e384 aq378 h_x (by decide) (by decide)
            have sS389 : sd V387 x = sd V376 x := k388.2.1.trans (rfl : sd V376 x = sd V376 x)
            have sQ390 : wt V387 x = wt V376 x := k388.2.2.trans (rfl : wt V376 x = wt V376 x)
            refine GO.aload_n dX12_readsSum_128 rfl rfl ?_
            refine GO.aload_n dX12_readsSum_129 rfl rfl ?_
            refine GO.getI h_x fl_RX12_470 rfl rfl dX12_readsSum_130 (fun _ _ => ?_)
            refine GO.iconst dX12_readsSum_133 ?_
            refine GO.isub dX12_readsSum_134 ?_
            refine GO.norm (fun z393 r394 hn395 => ?_)
            refine GO.putI h_x fp_RX12_470 rfl (by decide +kernel) r394 (r394).1 (r394).2 dX12_readsSum_135 (fun V397 e396 => ?_)
            have k398 := st_fld e396 k388.1 h_x (by decide) (by decide)
            have sS399 : sd V397 x = sd V376 x := k398.2.1.trans sS389
            have sQ400 : wt V397 x = wt V376 x := k398.2.2.trans sQ390
            refine GO.aload_n dX12_readsSum_138 rfl rfl ?_
            refine GO.aload_n dX12_readsSum_139 rfl rfl ?_
            refine GO.getI h_x fl_RX12_443 rfl rfl dX12_readsSum_140 (fun l401 u402 => ?_)
            have e404 : vi V387 x 31 = vi V376 x 31 := vi_up e384 (Or.inr (by decide))
            have e403 : vi V397 x 31 = vi V387 x 31 := vi_up e396 (Or.inr (by decide))
            refine GO.iconst dX12_readsSum_143 ?_
            refine GO.iadd dX12_readsSum_144 ?_
            refine GO.putI h_x fp_RX12_443 rfl (by decide +kernel) ⟨by omega, by omega⟩ (by omega) (by omega) dX12_readsSum_145 (fun V406 e405 => ?_)
            have k407 := st_fld e405 k398.1 h_x (by decide) (by decide)
            have sS408 : sd V406 x = sd V376 x := k407.2.1.trans sS399
            have sQ409 : wt V406 x = wt V376 x := k407.2.2.trans sQ400
            have e410 : vi V406 x 31 = (vi V397 x 31) + 1 := upd2_int e405 ⟨by omega, by omega⟩
            have e413 : vi V387 x 36 = vi V376 x 36 := vi_up e384 (Or.inr (by decide))
            have e412 : vi V397 x 36 = vi V387 x 36 := vi_up e396 (Or.inr (by decide))
            have e411 : vi V406 x 36 = vi V397 x 36 := vi_up e405 (Or.inr (by decide))
            have e416 : vi V387 x 37 = (vi V376 x 37) - 1 := upd2_int e384 ⟨by omega, by omega⟩
            have e415 : vi V397 x 37 = vi V387 x 37 := vi_up e396 (Or.inr (by decide))
            have e414 : vi V406 x 37 = vi V397 x 37 := vi_up e405 (Or.inr (by decide))
            refine GO.goto (tgt := 176) dX12_readsSum_148 (by decide) ?_
            refine GO.goto (tgt := 14) dX12_readsSum_176 (by decide) ?_
            refine GO.drop [true, true, false] rfl ?_
            have e420 : vi V376 x 32 = vi W290 x 32 := vi_fr hF374 h_x h_x (by decide +kernel)
            have e419 : vi V387 x 32 = vi V376 x 32 := vi_up e384 (Or.inr (by decide))
            have e418 : vi V397 x 32 = vi V387 x 32 := vi_up e396 (Or.inr (by decide))
            have e417 : vi V406 x 32 = vi V397 x 32 := vi_up e405 (Or.inr (by decide))
            exact ih291  V406 ⟨by omega, (by first | exact raw_readsFactor.1 (by omega) | exact RJ.zz (raw_readsFactor.1 (by omega)) (by omega) | exact RJ.pop raw_closesSums.1 (by omega) (by omega) (sS408) (sQ409) (by omega) (by omega) (by omega)), (by first | exact GM.of (raw_readsFactor.2 (by omega)) | exact GM.fac (GM.push hgm (by omega) (by omega) ((rfl : wt W290 x = wt W290 x)) (by omega)) (raw_readsFactor.2 (by omega)) | exact GM.pop hgo.1 (sQ409) (by omega) hgo1), trivial⟩ (by show ((vi V406 x 32 - vi V406 x 31)).toNat < ((vi W290 x 32 - vi W290 x 31)).toNat; omega)
      ·
        refine GO.aload_n dX12_readsSum_39 rfl rfl ?_
        refine GO.iload_n dX12_readsSum_40 rfl rfl ?_
        refine GO.iconst dX12_readsSum_41 ?_
        refine GO.icmp_ge (tgt := 49) dX12_readsSum_42 (by decide) r303 (ir_c rfl) (fun c421 => ?_) (fun c421 => ?_)
        ·
          refine GO.iconst dX12_readsSum_49 ?_
          refine GO.callV (ci := 11) (N := mX12_closesSums) dX12_readsSum_50 (RX12, TX12, 151) rfl gV_RX12_498 h_x (t_X12_closesSums h_x (ir_c rfl) (by omega) (by assumption) (by omega)) rfl [] rfl rfl (Nat.le_of_ble_eq_true rfl) rfl (k_vs fun V424 h423 hF422 => ?_)
          refine GO.useWT (fun hW425 => ?_)
          have aq426 := hW425.aq h_x
          have raw_closesSums := h423.2
          have rw50 := h423.2
          have e427 : vi V424 x 31 = vi W290 x 31 := vi_fr hF422 h_x h_x (by decide +kernel)
          have hgm := GM.clo (by assumption) (by assumption) raw_closesSums.2 (by omega)
          have hge := hgm.1.1
          refine GO.aload_n dX12_readsSum_53 rfl rfl ?_
          refine GO.getA (n := 220) h_x fl_RX12_91 rfl rfl rfl rfl dX12_readsSum_54 (fun hv431 h430 => ?_)
          refine GO.aload_n dX12_readsSum_57 rfl rfl ?_
          refine GO.getI h_x fl_RX12_473 rfl rfl dX12_readsSum_58 (fun l432 u433 => ?_)
          refine GO.ldcw (X := 1048576) dX12_readsSum_61 gw_2078 rfl ?_
          refine GO.iload_n dX12_readsSum_64 rfl rfl ?_
          refine GO.imul dX12_readsSum_65 ?_
          have q434 : -2147483648 ≤ vi V424 x 37 ∧ vi V424 x 37 ≤ 2147483647 := vi_ir
          have q435 : -2147483648 ≤ vi W290 x 37 ∧ vi W290 x 37 ≤ 2147483647 := vi_ir
          have q436 : -2147483648 ≤ vi W290 x 31 ∧ vi W290 x 31 ≤ 2147483647 := vi_ir
          have q437 : -2147483648 ≤ vi W290 x 32 ∧ vi W290 x 32 ≤ 2147483647 := vi_ir
          have q438 : -2147483648 ≤ vi W290 x 36 ∧ vi W290 x 36 ≤ 2147483647 := vi_ir
          have q439 : -2147483648 ≤ vi V424 x 36 ∧ vi V424 x 36 ≤ 2147483647 := vi_ir
          refine GO.iast (t := 33) rfl rfl (by decide +kernel) h430 vi_ir (by omega) (by omega) ⟨by omega, by omega⟩ (by omega) (by omega) dX12_readsSum_66 (fun V441 e440 => ?_)
          have k442 := st_wt e440 aq426 h_x (vq_of hv431) ⟨by omega, by omega⟩
          have sS443 : sd V441 x = sd V424 x := k442.2.1.trans (rfl : sd V424 x = sd V424 x)
          have sQ444 : wt V441 x = updf (wt V424 x) (vi V424 x 37).toNat (1048576 * X302) := k442.2.2.trans (congrArg (fun f => updf f (vi V424 x 37).toNat (1048576 * X302)) (rfl : wt V424 x = wt V424 x))
          refine GO.aload_n dX12_readsSum_67 rfl rfl ?_
          refine GO.aload_n dX12_readsSum_68 rfl rfl ?_
          refine GO.getI h_x fl_RX12_473 rfl rfl dX12_readsSum_69 (fun l445 u446 => ?_)
          have e447 : vi V441 x 37 = vi V424 x 37 := vi_up e440 (Or.inl (K_ne h_x h430 (by decide)))
          refine GO.iconst dX12_readsSum_72 ?_
          refine GO.iadd dX12_readsSum_73 ?_
          refine GO.putI h_x fp_RX12_473 rfl (by decide +kernel) ⟨by omega, by omega⟩ (by omega) (by omega) dX12_readsSum_74 (fun V449 e448 => ?_)
          have k450 := st_fld e448 k442.1 h_x (by decide) (by decide)
          have sS451 : sd V449 x = sd V424 x := k450.2.1.trans sS443
          have sQ452 : wt V449 x = updf (wt V424 x) (vi V424 x 37).toNat (1048576 * X302) := k450.2.2.trans sQ444
          refine GO.aload_n dX12_readsSum_77 rfl rfl ?_
          refine GO.aload_n dX12_readsSum_78 rfl rfl ?_
          refine GO.getI h_x fl_RX12_443 rfl rfl dX12_readsSum_79 (fun l453 u454 => ?_)
          have e456 : vi V441 x 31 = vi V424 x 31 := vi_up e440 (Or.inl (K_ne h_x h430 (by decide)))
          have e455 : vi V449 x 31 = vi V441 x 31 := vi_up e448 (Or.inr (by decide))
          refine GO.iconst dX12_readsSum_82 ?_
          refine GO.iadd dX12_readsSum_83 ?_
          have e458 : vi V441 x 36 = vi V424 x 36 := vi_up e440 (Or.inl (K_ne h_x h430 (by decide)))
          have e457 : vi V449 x 36 = vi V441 x 36 := vi_up e448 (Or.inr (by decide))
          have e459 : vi V449 x 37 = (vi V441 x 37) + 1 := upd2_int e448 ⟨by omega, by omega⟩
          refine GO.putI h_x fp_RX12_443 rfl (by decide +kernel) ⟨by omega, by omega⟩ (by omega) (by omega) dX12_readsSum_84 (fun V461 e460 => ?_)
          have k462 := st_fld e460 k450.1 h_x (by decide) (by decide)
          have sS463 : sd V461 x = sd V424 x := k462.2.1.trans sS451
          have sQ464 : wt V461 x = updf (wt V424 x) (vi V424 x 37).toNat (1048576 * X302) := k462.2.2.trans sQ452
          have e465 : vi V461 x 31 = (vi V449 x 31) + 1 := upd2_int e460 ⟨by omega, by omega⟩
          have e466 : vi V461 x 36 = vi V449 x 36 := vi_up e460 (Or.inr (by decide))
          have e467 : vi V461 x 37 = vi V449 x 37 := vi_up e460 (Or.inr (by decide))
          refine GO.aload_n dX12_readsSum_87 rfl rfl ?_
          refine GO.callV (ci := 11) (N := mX12_readsFactor) dX12_readsSum_88 (RX12, TX12, 151) rfl gV_RX12_492 h_x (t_X12_readsFactor h_x (by omega) ((by first | assumption | exact RJ.pushS raw_closesSums.1 (by omega) (by omega) (sS463) (sQ464) (by omega) (by omega) (by omega)))) rfl [] rfl rfl (Nat.le_of_ble_eq_true rfl) rfl (k_is fun X468 V472 r469 h470 hF471 => ?_)
          refine GO.useWT (fun hW473 => ?_)
          have aq474 := hW473.aq h_x
          have raw_readsFactor := h470.2.2.2
          have rw88 := h470.2.2.2
          refine GO.if_ne (tgt := 176) dX12_readsSum_91 (by decide) r469 (fun c477 => ?_) (fun c477 => ?_)
          ·
            have q478 := h470.2.1 (by omega)
            refine GO.goto (tgt := 14) dX12_readsSum_176 (by decide) ?_
            refine GO.drop [true, true, false] rfl ?_
            have q479 : -2147483648 ≤ vi V472 x 31 ∧ vi V472 x 31 ≤ 2147483647 := vi_ir
            have q480 : -2147483648 ≤ vi V472 x 37 ∧ vi V472 x 37 ≤ 2147483647 := vi_ir
            have e485 : vi V424 x 32 = vi W290 x 32 := vi_fr hF422 h_x h_x (by decide +kernel)
            have e484 : vi V441 x 32 = vi V424 x 32 := vi_up e440 (Or.inl (K_ne h_x h430 (by decide)))
            have e483 : vi V449 x 32 = vi V441 x 32 := vi_up e448 (Or.inr (by decide))
            have e482 : vi V461 x 32 = vi V449 x 32 := vi_up e460 (Or.inr (by decide))
            have e481 : vi V472 x 32 = vi V461 x 32 := vi_fr hF471 h_x h_x (by decide +kernel)
            exact ih291  V472 ⟨by omega, (by first | exact raw_readsFactor.1 (by omega) | exact RJ.zz (raw_readsFactor.1 (by omega)) (by omega) | exact RJ.pop raw_closesSums.1 (by omega) (by omega) ((rfl : sd V472 x = sd V472 x)) ((rfl : wt V472 x = wt V472 x)) (by omega) (by omega) (by omega)), (by first | exact GM.of (raw_readsFactor.2 (by omega)) | exact GM.fac (GM.push hgm (by omega) (by omega) (sQ464) (by omega)) (raw_readsFactor.2 (by omega)) | exact GM.pop hgo.1 ((rfl : wt V472 x = wt V472 x)) (by omega) hgo1), trivial⟩ (by show ((vi V472 x 32 - vi V472 x 31)).toNat < ((vi W290 x 32 - vi W290 x 31)).toNat; omega)
          ·
            refine GO.iconst dX12_readsSum_94 ?_
            have q486 : -2147483648 ≤ vi V472 x 31 ∧ vi V472 x 31 ≤ 2147483647 := vi_ir
            have q487 : -2147483648 ≤ vi V472 x 37 ∧ vi V472 x 37 ≤ 2147483647 := vi_ir
            exact GO.retz rfl rfl dX12_readsSum_95 (by omega) ⟨rfl, _, rfl, (ir_c rfl), ⟨by omega, fun h => by omega, fun _ => trivial, (by first | exact fun h => absurd h (by omega) | exact fun _ => raw_closesSums.1), (by first | exact fun h => absurd h (by omega) | exact fun _ => hsq)⟩⟩
        ·
          refine GO.iconst dX12_readsSum_45 ?_
          refine GO.goto (tgt := 50) dX12_readsSum_46 (by decide) ?_
          refine GO.callV (ci := 11) (N := mX12_closesSums) dX12_readsSum_50 (RX12, TX12, 151) rfl gV_RX12_498 h_x (t_X12_closesSums h_x (ir_c rfl) (by omega) (by assumption) (by omega)) rfl [] rfl rfl (Nat.le_of_ble_eq_true rfl) rfl (k_vs fun V490 h489 hF488 => ?_)
          refine GO.useWT (fun hW491 => ?_)
          have aq492 := hW491.aq h_x
          have raw_closesSums := h489.2
          have rw50 := h489.2
          have e493 : vi V490 x 31 = vi W290 x 31 := vi_fr hF488 h_x h_x (by decide +kernel)
          have hgm := GM.clo (by assumption) (by assumption) raw_closesSums.2 (by omega)
          have hge := hgm.1.1
          refine GO.aload_n dX12_readsSum_53 rfl rfl ?_
          refine GO.getA (n := 220) h_x fl_RX12_91 rfl rfl rfl rfl dX12_readsSum_54 (fun hv497 h496 => ?_)
          refine GO.aload_n dX12_readsSum_57 rfl rfl ?_
          refine GO.getI h_x fl_RX12_473 rfl rfl dX12_readsSum_58 (fun l498 u499 => ?_)
          refine GO.ldcw (X := 1048576) dX12_readsSum_61 gw_2078 rfl ?_
          refine GO.iload_n dX12_readsSum_64 rfl rfl ?_
          refine GO.imul dX12_readsSum_65 ?_
          have q500 : -2147483648 ≤ vi V490 x 37 ∧ vi V490 x 37 ≤ 2147483647 := vi_ir
          have q501 : -2147483648 ≤ vi W290 x 37 ∧ vi W290 x 37 ≤ 2147483647 := vi_ir
          have q502 : -2147483648 ≤ vi W290 x 31 ∧ vi W290 x 31 ≤ 2147483647 := vi_ir
          have q503 : -2147483648 ≤ vi W290 x 32 ∧ vi W290 x 32 ≤ 2147483647 := vi_ir
          have q504 : -2147483648 ≤ vi W290 x 36 ∧ vi W290 x 36 ≤ 2147483647 := vi_ir
          have q505 : -2147483648 ≤ vi V490 x 36 ∧ vi V490 x 36 ≤ 2147483647 := vi_ir
          refine GO.iast (t := 33) rfl rfl (by decide +kernel) h496 vi_ir (by omega) (by omega) ⟨by omega, by omega⟩ (by omega) (by omega) dX12_readsSum_66 (fun V507 e506 => ?_)
          have k508 := st_wt e506 aq492 h_x (vq_of hv497) ⟨by omega, by omega⟩
          have sS509 : sd V507 x = sd V490 x := k508.2.1.trans (rfl : sd V490 x = sd V490 x)
          have sQ510 : wt V507 x = updf (wt V490 x) (vi V490 x 37).toNat (1048576 * X302) := k508.2.2.trans (congrArg (fun f => updf f (vi V490 x 37).toNat (1048576 * X302)) (rfl : wt V490 x = wt V490 x))
          refine GO.aload_n dX12_readsSum_67 rfl rfl ?_
          refine GO.aload_n dX12_readsSum_68 rfl rfl ?_
          refine GO.getI h_x fl_RX12_473 rfl rfl dX12_readsSum_69 (fun l511 u512 => ?_)
          have e513 : vi V507 x 37 = vi V490 x 37 := vi_up e506 (Or.inl (K_ne h_x h496 (by decide)))
          refine GO.iconst dX12_readsSum_72 ?_
          refine GO.iadd dX12_readsSum_73 ?_
          refine GO.putI h_x fp_RX12_473 rfl (by decide +kernel) ⟨by omega, by omega⟩ (by omega) (by omega) dX12_readsSum_74 (fun V515 e514 => ?_)
          have k516 := st_fld e514 k508.1 h_x (by decide) (by decide)
          have sS517 : sd V515 x = sd V490 x := k516.2.1.trans sS509
          have sQ518 : wt V515 x = updf (wt V490 x) (vi V490 x 37).toNat (1048576 * X302) := k516.2.2.trans sQ510
          refine GO.aload_n dX12_readsSum_77 rfl rfl ?_
          refine GO.aload_n dX12_readsSum_78 rfl rfl ?_
          refine GO.getI h_x fl_RX12_443 rfl rfl dX12_readsSum_79 (fun l519 u520 => ?_)
          have e522 : vi V507 x 31 = vi V490 x 31 := vi_up e506 (Or.inl (K_ne h_x h496 (by decide)))
          have e521 : vi V515 x 31 = vi V507 x 31 := vi_up e514 (Or.inr (by decide))
          refine GO.iconst dX12_readsSum_82 ?_
          refine GO.iadd dX12_readsSum_83 ?_
          have e524 : vi V507 x 36 = vi V490 x 36 := vi_up e506 (Or.inl (K_ne h_x h496 (by decide)))
          have e523 : vi V515 x 36 = vi V507 x 36 := vi_up e514 (Or.inr (by decide))
          have e525 : vi V515 x 37 = (vi V507 x 37) + 1 := upd2_int e514 ⟨by omega, by omega⟩
          refine GO.putI h_x fp_RX12_443 rfl (by decide +kernel) ⟨by omega, by omega⟩ (by omega) (by omega) dX12_readsSum_84 (fun V527 e526 => ?_)
          have k528 := st_fld e526 k516.1 h_x (by decide) (by decide)
          have sS529 : sd V527 x = sd V490 x := k528.2.1.trans sS517
          have sQ530 : wt V527 x = updf (wt V490 x) (vi V490 x 37).toNat (1048576 * X302) := k528.2.2.trans sQ518
          have e531 : vi V527 x 31 = (vi V515 x 31) + 1 := upd2_int e526 ⟨by omega, by omega⟩
          have e532 : vi V527 x 36 = vi V515 x 36 := vi_up e526 (Or.inr (by decide))
          have e533 : vi V527 x 37 = vi V515 x 37 := vi_up e526 (Or.inr (by decide))
          refine GO.aload_n dX12_readsSum_87 rfl rfl ?_
          refine GO.callV (ci := 11) (N := mX12_readsFactor) dX12_readsSum_88 (RX12, TX12, 151) rfl gV_RX12_492 h_x (t_X12_readsFactor h_x (by omega) ((by first | assumption | exact RJ.pushS raw_closesSums.1 (by omega) (by omega) (sS529) (sQ530) (by omega) (by omega) (by omega)))) rfl [] rfl rfl (Nat.le_of_ble_eq_true rfl) rfl (k_is fun X534 V538 r535 h536 hF537 => ?_)
          refine GO.useWT (fun hW539 => ?_)
          have aq540 := hW539.aq h_x
          have raw_readsFactor := h536.2.2.2
          have rw88 := h536.2.2.2
          refine GO.if_ne (tgt := 176) dX12_readsSum_91 (by decide) r535 (fun c543 => ?_) (fun c543 => ?_)
          ·
            have q544 := h536.2.1 (by omega)
            refine GO.goto (tgt := 14) dX12_readsSum_176 (by decide) ?_
            refine GO.drop [true, true, false] rfl ?_
            have q545 : -2147483648 ≤ vi V538 x 31 ∧ vi V538 x 31 ≤ 2147483647 := vi_ir
            have q546 : -2147483648 ≤ vi V538 x 37 ∧ vi V538 x 37 ≤ 2147483647 := vi_ir
            have e551 : vi V490 x 32 = vi W290 x 32 := vi_fr hF488 h_x h_x (by decide +kernel)
            have e550 : vi V507 x 32 = vi V490 x 32 := vi_up e506 (Or.inl (K_ne h_x h496 (by decide)))
            have e549 : vi V515 x 32 = vi V507 x 32 := vi_up e514 (Or.inr (by decide))
            have e548 : vi V527 x 32 = vi V515 x 32 := vi_up e526 (Or.inr (by decide))
            have e547 : vi V538 x 32 = vi V527 x 32 := vi_fr hF537 h_x h_x (by decide +kernel)
            exact ih291  V538 ⟨by omega, (by first | exact raw_readsFactor.1 (by omega) | exact RJ.zz (raw_readsFactor.1 (by omega)) (by omega) | exact RJ.pop raw_closesSums.1 (by omega) (by omega) ((rfl : sd V538 x = sd V538 x)) ((rfl : wt V538 x = wt V538 x)) (by omega) (by omega) (by omega)), (by first | exact GM.of (raw_readsFactor.2 (by omega)) | exact GM.fac (GM.push hgm (by omega) (by omega) (sQ530) (by omega)) (raw_readsFactor.2 (by omega)) | exact GM.pop hgo.1 ((rfl : wt V538 x = wt V538 x)) (by omega) hgo1), trivial⟩ (by show ((vi V538 x 32 - vi V538 x 31)).toNat < ((vi W290 x 32 - vi W290 x 31)).toNat; omega)
          ·
            refine GO.iconst dX12_readsSum_94 ?_
            have q552 : -2147483648 ≤ vi V538 x 31 ∧ vi V538 x 31 ≤ 2147483647 := vi_ir
            have q553 : -2147483648 ≤ vi V538 x 37 ∧ vi V538 x 37 ≤ 2147483647 := vi_ir
            exact GO.retz rfl rfl dX12_readsSum_95 (by omega) ⟨rfl, _, rfl, (ir_c rfl), ⟨by omega, fun h => by omega, fun _ => trivial, (by first | exact fun h => absurd h (by omega) | exact fun _ => raw_closesSums.1), (by first | exact fun h => absurd h (by omega) | exact fun _ => hsq)⟩⟩
    ·
      refine GO.iconst dX12_readsSum_22 ?_
      refine GO.goto (tgt := 33) dX12_readsSum_23 (by decide) ?_
      refine GO.istore_n (ls1 := [some (.ref x), some (ti z5), some (ti (-1))]) dX12_readsSum_33 rfl rfl rfl ?_
      refine GO.iload_n dX12_readsSum_34 rfl rfl ?_
      refine GO.iconst dX12_readsSum_35 ?_
      refine GO.icmp_eq (tgt := 96) dX12_readsSum_36 (by decide) (ir_c rfl) (ir_c rfl) (fun c554 => ?_) (fun h => by exfalso; omega)
      refine GO.aload_n dX12_readsSum_96 rfl rfl ?_
      refine GO.callV (ci := 11) (N := mX12_sign) dX12_readsSum_97 (RX12, TX12, 151) rfl gV_RX12_449 h_x (t_X12_sign h_x) rfl [] rfl rfl (Nat.le_of_ble_eq_true rfl) rfl (k_ip fun X555 r556 h557 => ?_)
      refine GO.bipush dX12_readsSum_100 rfl ?_
      refine GO.icmp_ne (tgt := 151) dX12_readsSum_102 (by decide) r556 (ir_c rfl) (fun c558 => ?_) (fun h => by exfalso; omega)
      refine GO.aload_n dX12_readsSum_151 rfl rfl ?_
      refine GO.iload_n dX12_readsSum_152 rfl rfl ?_
      have q559 : -2147483648 ≤ vi W290 x 37 ∧ vi W290 x 37 ≤ 2147483647 := vi_ir
      have q560 : -2147483648 ≤ vi W290 x 31 ∧ vi W290 x 31 ≤ 2147483647 := vi_ir
      have q561 : -2147483648 ≤ vi W290 x 36 ∧ vi W290 x 36 ≤ 2147483647 := vi_ir
      refine GO.callV (ci := 11) (N := mX12_hasOpenSum) dX12_readsSum_153 (RX12, TX12, 151) rfl gV_RX12_502 h_x (t_X12_hasOpenSum h_x r7 (by omega)) rfl [] rfl rfl (Nat.le_of_ble_eq_true rfl) rfl (k_ip fun X562 r563 h564 => ?_)
      have raw_hasOpenSum := h564.2.2.2
      have rw153 := h564.2.2.2
      refine GO.if_eq (tgt := 169) dX12_readsSum_156 (by decide) r563 (fun c565 => ?_) (fun c565 => ?_)
      ·
        refine GO.aload_n dX12_readsSum_169 rfl rfl ?_
        refine GO.iconst dX12_readsSum_170 ?_
        refine GO.callV (ci := 11) (N := mX12_closesSums) dX12_readsSum_171 (RX12, TX12, 151) rfl gV_RX12_498 h_x (t_X12_closesSums h_x (ir_c rfl) (by omega) (by assumption) (by omega)) rfl [] rfl rfl (Nat.le_of_ble_eq_true rfl) rfl (k_vs fun V568 h567 hF566 => ?_)
        refine GO.useWT (fun hW569 => ?_)
        have aq570 := hW569.aq h_x
        have raw_closesSums := h567.2
        have rw171 := h567.2
        have e571 : vi V568 x 31 = vi W290 x 31 := vi_fr hF566 h_x h_x (by decide +kernel)
        have hsq := GM.fin (by assumption) (by assumption) raw_closesSums.2 (by omega) (by omega) raw_hasOpenSum (by omega)
        have hsq1 := hsq.1
        refine GO.iconst dX12_readsSum_174 ?_
        have q574 : -2147483648 ≤ vi V568 x 37 ∧ vi V568 x 37 ≤ 2147483647 := vi_ir
        have q575 : -2147483648 ≤ vi V568 x 36 ∧ vi V568 x 36 ≤ 2147483647 := vi_ir
        exact GO.retz rfl rfl dX12_readsSum_175 (by omega) ⟨rfl, _, rfl, (ir_c rfl), ⟨by omega, fun h => by omega, fun _ => trivial, (by first | exact fun h => absurd h (by omega) | exact fun _ => raw_closesSums.1), (by first | exact fun h => absurd h (by omega) | exact fun _ => hsq)⟩⟩
      ·
        refine GO.aload_n dX12_readsSum_159 rfl rfl ?_
        refine GO.iconst dX12_readsSum_160 ?_
        refine GO.aload_n dX12_readsSum_161 rfl rfl ?_
        refine GO.getI h_x fl_RX12_443 rfl rfl dX12_readsSum_162 (fun l576 u577 => ?_)
        refine GO.callV (ci := 11) (N := mX12_wrong) dX12_readsSum_165 (RX12, TX12, 151) rfl gV_RX12_456 h_x (t_X12_wrong h_x (ir_c rfl) vi_ir) rfl [] rfl rfl (Nat.le_of_ble_eq_true rfl) rfl (k_is fun X578 V582 r579 h580 hF581 => ?_)
        have k583 := st_fr hF581 aq294 h_x (by decide +kernel) (by decide +kernel) (by decide +kernel) (by decide +kernel)
        have sS584 : sd V582 x = sd W290 x := k583.2.1.trans (rfl : sd W290 x = sd W290 x)
        have sQ585 : wt V582 x = wt W290 x := k583.2.2.trans (rfl : wt W290 x = wt W290 x)
        have e586 : vi V582 x 31 = vi W290 x 31 := vi_fr hF581 h_x h_x (by decide +kernel)
        have e587 : vi V582 x 37 = vi W290 x 37 := vi_fr hF581 h_x h_x (by decide +kernel)
        exact GO.retz rfl rfl dX12_readsSum_168 (by omega) ⟨rfl, _, rfl, r579, ⟨by omega, fun h => by omega, fun _ => trivial, (by first | exact fun h => absurd h (by omega) | exact fun _ => raw_closesSums.1), (by first | exact fun h => absurd h (by omega) | exact fun _ => hsq)⟩⟩
  ·
    refine GO.iconst dX12_readsSum_12 ?_
    have q588 : -2147483648 ≤ vi V16 x 31 ∧ vi V16 x 31 ≤ 2147483647 := vi_ir
    have q589 : -2147483648 ≤ vi V16 x 37 ∧ vi V16 x 37 ≤ 2147483647 := vi_ir
    exact GO.retz rfl rfl dX12_readsSum_13 (by omega) ⟨rfl, _, rfl, (ir_c rfl), ⟨by omega, fun h => by omega, fun _ => trivial, (by first | exact fun h => absurd h (by omega) | exact fun _ => raw_closesSums.1), (by first | exact fun h => absurd h (by omega) | exact fun _ => hsq)⟩⟩

set_option maxHeartbeats 1000000 in
theorem t_X12_endsPiece {K : Kmap} {V : Vmap} {x : Nat} {fr : Nat} {S0 : Nat → Int} {s z : Int} (h_x : K x = some (0, 11)) (w_0 : RJ V x fr S0 s z) (w_1 : 1 ≤ z) (w_2 : NS V x) (w_3 : 1 ≤ vi V x 37) : MC mX12_endsPiece K V [.ref x] (VS K (fun V1 => (vi V1 x 31 = vi V x 31 ∧ vi V1 x 36 ≥ 0 ∧ vi V1 x 37 ≤ vi V x 37 ∧ vi V1 x 37 ≥ 1) ∧ (RJ V1 x fr S0 s z) ∧ (NS V1 x))) := by
  refine MC.start 0 (by decide +kernel) rfl rfl rfl (ls0 := [some (.ref x)]) rfl ?_
  refine GO.useWT (fun hW1 => ?_)
  have aq2 := hW1.aq h_x
  have hrd := (hW1).rd h_x
  have hle := RJ.le (V := V) (x := x) (fr := fr) (S0 := S0) (s := s) (z := z) (by assumption)
  have q3 : -2147483648 ≤ vi V x 31 ∧ vi V x 31 ≤ 2147483647 := vi_ir
  have q4 : -2147483648 ≤ vi V x 37 ∧ vi V x 37 ≤ 2147483647 := vi_ir
  have q5 : -2147483648 ≤ vi V x 36 ∧ vi V x 36 ≤ 2147483647 := vi_ir
  refine GO.loop0 (fun  W => (vi W x 31 = vi V x 31 ∧ vi W x 36 ≥ vi V x 36 ∧ vi W x 37 ≤ vi V x 37 ∧ vi W x 37 ≥ 1) ∧ (RJ W x fr S0 s z) ∧ (NS W x) ∧ True) (fun  W => (vi W x 37).toNat)  ⟨by omega, (by first | assumption | exact RJ.clo (by assumption) (by omega) (by omega) (by omega) (((rfl : sd V x = sd V x)).trans raw_says.1) (((rfl : wt V x = wt V x)).trans raw_says.2) (by omega) (by omega) (by omega) (by omega)), (by first | assumption | exact NS.less (by assumption) (((rfl : wt V x = wt V x)).trans raw_says.2) (by omega)), trivial⟩ (fun W42 hp44 ih43 => ?_)
  obtain ⟨n_W42, w0_W42, w1_W42, -⟩ := hp44
  show GO mX12_endsPiece K V (VS K (fun V1 => (vi V1 x 31 = vi V x 31 ∧ vi V1 x 36 ≥ 0 ∧ vi V1 x 37 ≤ vi V x 37 ∧ vi V1 x 37 ≥ 1) ∧ (RJ V1 x fr S0 s z) ∧ (NS V1 x))) K W42 0 0 0 [some (.ref x)] []
  refine GO.useWT (fun hW45 => ?_)
  have aq46 := hW45.aq h_x
  have hrd := (hW45).rd h_x
  have hle := RJ.le (V := W42) (x := x) (fr := fr) (S0 := S0) (s := s) (z := z) (by assumption)
  refine GO.aload_n dX12_endsPiece_0 rfl rfl ?_
  refine GO.callV (ci := 11) (N := mX12_top) dX12_endsPiece_1 (RX12, TX12, 151) rfl gV_RX12_476 h_x (t_X12_top h_x) rfl [] rfl rfl (Nat.le_of_ble_eq_true rfl) rfl (k_ip fun X47 r48 h49 => ?_)
  refine GO.bipush dX12_endsPiece_4 rfl ?_
  refine GO.icmp_ne (tgt := 39) dX12_endsPiece_6 (by decide) r48 (ir_c rfl) (fun c50 => ?_) (fun c50 => ?_)
  ·
    have q51 : -2147483648 ≤ vi W42 x 31 ∧ vi W42 x 31 ≤ 2147483647 := vi_ir
    have q52 : -2147483648 ≤ vi W42 x 37 ∧ vi W42 x 37 ≤ 2147483647 := vi_ir
    have q53 : -2147483648 ≤ vi W42 x 36 ∧ vi W42 x 36 ≤ 2147483647 := vi_ir
    exact GO.retv rfl rfl dX12_endsPiece_39 ⟨rfl, rfl, ⟨by omega, (by first | assumption | exact RJ.clo (by assumption) (by omega) (by omega) (by omega) (((rfl : sd W42 x = sd W42 x)).trans raw_says.1) (((rfl : wt W42 x = wt W42 x)).trans raw_says.2) (by omega) (by omega) (by omega) (by omega)), (by first | assumption | exact NS.less (by assumption) (((rfl : wt W42 x = wt W42 x)).trans raw_says.2) (by omega))⟩⟩
  ·
    have htw := RJ.two (V := W42) (by assumption) (by omega)
    refine GO.aload_n dX12_endsPiece_9 rfl rfl ?_
    refine GO.bipush dX12_endsPiece_10 rfl ?_
    refine GO.iconst dX12_endsPiece_12 ?_
    refine GO.callV (ci := 11) (N := mX12_says) dX12_endsPiece_13 (RX12, TX12, 151) rfl gV_RX12_479 h_x (t_X12_says h_x (ir_c rfl) (ir_c rfl) (by omega) (by omega) (by omega) (by omega) ⟨by omega, by omega⟩) rfl [] rfl rfl (Nat.le_of_ble_eq_true rfl) rfl (k_vs fun V56 h55 hF54 => ?_)
    refine GO.useWT (fun hW57 => ?_)
    have aq58 := hW57.aq h_x
    have raw_says := h55.2
    have rw13 := h55.2
    refine GO.aload_n dX12_endsPiece_16 rfl rfl ?_
    refine GO.aload_n dX12_endsPiece_17 rfl rfl ?_
    refine GO.getI h_x fl_RX12_473 rfl rfl dX12_endsPiece_18 (fun l60 u61 => ?_)
    have e62 : vi V56 x 37 = vi W42 x 37 := vi_fr hF54 h_x h_x (by decide +kernel)
    refine GO.iconst dX12_endsPiece_21 ?_
    refine GO.isub dX12_endsPiece_22 ?_
    have q64 : -2147483648 ≤ vi W42 x 37 ∧ vi W42 x 37 ≤ 2147483647 := vi_ir
    have q65 : -2147483648 ≤ vi W42 x 31 ∧ vi W42 x 31 ≤ 2147483647 := vi_ir
    have q66 : -2147483648 ≤ vi W42 x 36 ∧ vi W42 x 36 ≤ 2147483647 := vi_ir
    have q67 : -2147483648 ≤ vi V56 x 36 ∧ vi V56 x 36 ≤ 2147483647 := vi_ir
    refine GO.putI h_x fp_RX12_473 rfl (by decide +kernel) ⟨by omega, by omega⟩ (by omega) (by omega) dX12_endsPiece_23 (fun V68 e63 => ?_)
    have k69 := st_fld e63 aq58 h_x (by decide) (by decide)
    have sS70 : sd V68 x = sd V56 x := k69.2.1.trans (rfl : sd V56 x = sd V56 x)
    have sQ71 : wt V68 x = wt V56 x := k69.2.2.trans (rfl : wt V56 x = wt V56 x)
    refine GO.aload_n dX12_endsPiece_26 rfl rfl ?_
    refine GO.aload_n dX12_endsPiece_27 rfl rfl ?_
    refine GO.getI h_x fl_RX12_470 rfl rfl dX12_endsPiece_28 (fun _ _ => ?_)
    refine GO.iconst dX12_endsPiece_31 ?_
    refine GO.isub dX12_endsPiece_32 ?_
    refine GO.norm (fun z74 r75 hn76 => ?_)
    refine GO.putI h_x fp_RX12_470 rfl (by decide +kernel) r75 (r75).1 (r75).2 dX12_endsPiece_33 (fun V78 e77 => ?_)
    have k79 := st_fld e77 k69.1 h_x (by decide) (by decide)
    have sS80 : sd V78 x = sd V56 x := k79.2.1.trans sS70
    have sQ81 : wt V78 x = wt V56 x := k79.2.2.trans sQ71
    refine GO.goto (tgt := 0) dX12_endsPiece_36 (by decide) ?_
    have e84 : vi V56 x 31 = vi W42 x 31 := vi_fr hF54 h_x h_x (by decide +kernel)
    have e83 : vi V68 x 31 = vi V56 x 31 := vi_up e63 (Or.inr (by decide))
    have e82 : vi V78 x 31 = vi V68 x 31 := vi_up e77 (Or.inr (by decide))
    have e86 : vi V68 x 36 = vi V56 x 36 := vi_up e63 (Or.inr (by decide))
    have e85 : vi V78 x 36 = vi V68 x 36 := vi_up e77 (Or.inr (by decide))
    have e88 : vi V68 x 37 = (vi V56 x 37) - 1 := upd2_int e63 ⟨by omega, by omega⟩
    have e87 : vi V78 x 37 = vi V68 x 37 := vi_up e77 (Or.inr (by decide))
    exact ih43  V78 ⟨by omega, (by first | assumption | exact RJ.clo (by assumption) (by omega) (by omega) (by omega) ((sS80).trans raw_says.1) ((sQ81).trans raw_says.2) (by omega) (by omega) (by omega) (by omega)), (by first | assumption | exact NS.less (by assumption) ((sQ81).trans raw_says.2) (by omega)), trivial⟩ (by show (vi V78 x 37).toNat < (vi W42 x 37).toNat; omega)

set_option maxHeartbeats 1000000 in
theorem t_X12_lands {K : Kmap} {V : Vmap} {x : Nat} {p0 : Int} {fr : Nat} {S0 : Nat → Int} {s z : Int} (h_x : K x = some (0, 11)) (r_p0 : ir p0) (z_p0 : p0 = 0 ∨ p0 = 1) (w_0 : RJ V x fr S0 s z) (w_1 : z = 1) (w_2 : NS V x) (w_3 : 1 ≤ vi V x 37) : MC mX12_lands K V [.ref x, ti p0] (VS K (fun V1 => (vi V1 x 31 = vi V x 31 ∧ vi V1 x 37 ≤ vi V x 37 ∧ vi V1 x 37 ≥ 1) ∧ (RJ V1 x fr S0 s z) ∧ (NS V1 x) ∧ (p0 ≠ 0 → ¬ (11 ≤ topf V1 x ∧ topf V1 x ≤ 12)))) := by
  refine MC.start 1 (by decide +kernel) rfl rfl rfl (ls0 := [some (.ref x), some (ti p0), none]) rfl ?_
  refine GO.useWT (fun hW1 => ?_)
  have aq2 := hW1.aq h_x
  have hrd := (hW1).rd h_x
  have hle := RJ.le (V := V) (x := x) (fr := fr) (S0 := S0) (s := s) (z := z) (by assumption)
  have q3 : -2147483648 ≤ vi V x 31 ∧ vi V x 31 ≤ 2147483647 := vi_ir
  have q4 : -2147483648 ≤ vi V x 37 ∧ vi V x 37 ≤ 2147483647 := vi_ir
  have q5 : -2147483648 ≤ vi V x 36 ∧ vi V x 36 ≤ 2147483647 := vi_ir
  refine GO.loop0 (fun  W => (vi W x 31 = vi V x 31 ∧ vi W x 36 = vi V x 36 ∧ vi W x 37 ≤ vi V x 37 ∧ vi W x 37 ≥ 1) ∧ (RJ W x fr S0 s z) ∧ (NS W x) ∧ True) (fun  W => (vi W x 37).toNat)  ⟨by omega, (by first | assumption | exact RJ.land (by assumption) (by assumption) (by omega) (by omega) (by omega) hfr.2.2 ((rfl : sd V x = sd V x)) ((rfl : wt V x = wt V x)) (by omega) (by omega) (by omega)), (by first | assumption | exact NS.less (by assumption) ((rfl : wt V x = wt V x)) (by omega)), trivial⟩ (fun W86 hp88 ih87 => ?_)
  obtain ⟨n_W86, w0_W86, w1_W86, -⟩ := hp88
  show GO mX12_lands K V (VS K (fun V1 => (vi V1 x 31 = vi V x 31 ∧ vi V1 x 37 ≤ vi V x 37 ∧ vi V1 x 37 ≥ 1) ∧ (RJ V1 x fr S0 s z) ∧ (NS V1 x) ∧ (p0 ≠ 0 → ¬ (11 ≤ topf V1 x ∧ topf V1 x ≤ 12)))) K W86 0 0 0 [some (.ref x), some (ti p0), none] []
  refine GO.useWT (fun hW89 => ?_)
  have aq90 := hW89.aq h_x
  have hrd := (hW89).rd h_x
  have hle := RJ.le (V := W86) (x := x) (fr := fr) (S0 := S0) (s := s) (z := z) (by assumption)
  refine GO.aload_n dX12_lands_0 rfl rfl ?_
  refine GO.callV (ci := 11) (N := mX12_top) dX12_lands_1 (RX12, TX12, 151) rfl gV_RX12_476 h_x (t_X12_top h_x) rfl [] rfl rfl (Nat.le_of_ble_eq_true rfl) rfl (k_ip fun X91 r92 h93 => ?_)
  refine GO.bipush dX12_lands_4 rfl ?_
  refine GO.icmp_eq (tgt := 22) dX12_lands_6 (by decide) r92 (ir_c rfl) (fun c94 => ?_) (fun c94 => ?_)
  ·
    have htw := RJ.two (V := W86) (by assumption) (by omega)
    refine GO.aload_n dX12_lands_22 rfl rfl ?_
    refine GO.getA (n := 220) h_x fl_RX12_91 rfl rfl rfl rfl dX12_lands_23 (fun hv96 h95 => ?_)
    refine GO.aload_n dX12_lands_26 rfl rfl ?_
    refine GO.getI h_x fl_RX12_473 rfl rfl dX12_lands_27 (fun l97 u98 => ?_)
    refine GO.iconst dX12_lands_30 ?_
    refine GO.isub dX12_lands_31 ?_
    have q99 : -2147483648 ≤ vi W86 x 37 ∧ vi W86 x 37 ≤ 2147483647 := vi_ir
    have q100 : -2147483648 ≤ vi W86 x 31 ∧ vi W86 x 31 ≤ 2147483647 := vi_ir
    have q101 : -2147483648 ≤ vi W86 x 36 ∧ vi W86 x 36 ≤ 2147483647 := vi_ir
    refine GO.iald (t := 33) rfl rfl h95 ⟨by omega, by omega⟩ (by omega) (by omega) dX12_lands_32 (fun l102 u103 => ?_)
    refine GO.ldcw (X := 1048576) dX12_lands_33 gw_2078 rfl ?_
    refine GO.iremP dX12_lands_36 vi_ir (ir_c rfl) (by omega) (by omega) ?_
    refine GO.name (fun z104 hz105 => ?_)
    refine GO.istore_n (ls1 := [some (.ref x), some (ti p0), some (ti z104)]) dX12_lands_37 rfl rfl rfl ?_
    have hfr := RJ.frm (V := W86) (by assumption) (by omega) rfl (by assumption)
    have hfr1 := hfr.1
    have hfr2 := hfr.2.1
    refine GO.aload_n dX12_lands_38 rfl rfl ?_
    refine GO.getA (n := 220) h_x fl_RX12_88 rfl rfl rfl rfl dX12_lands_39 (fun hv107 h106 => ?_)
    refine GO.iload_n dX12_lands_42 rfl rfl ?_
    refine GO.ldcw (X := 1048576) dX12_lands_43 gw_2078 rfl ?_
    refine GO.aload_n dX12_lands_46 rfl rfl ?_
    refine GO.getRaw h_x fl_RX12_88 hv107 dX12_lands_47 ?_
    refine GO.iload_n dX12_lands_50 rfl rfl ?_
    refine GO.iald (t := 32) rfl rfl h106 ⟨by omega, by omega⟩ (by omega) (by omega) dX12_lands_51 (fun l110 u111 => ?_)
    refine GO.ldcw (X := 1048576) dX12_lands_52 gw_2078 rfl ?_
    refine GO.idivP dX12_lands_55 vi_ir (ir_c rfl) (by omega) (by omega) ?_
    refine GO.imul dX12_lands_56 ?_
    refine GO.aload_n dX12_lands_57 rfl rfl ?_
    refine GO.getI h_x fl_RX12_466 rfl rfl dX12_lands_58 (fun l112 u113 => ?_)
    refine GO.iadd dX12_lands_61 ?_
    refine GO.iast (t := 32) rfl rfl (by decide +kernel) h106 ⟨by omega, by omega⟩ (by omega) (by omega) ⟨by omega, by omega⟩ (by omega) (by omega) dX12_lands_62 (fun V115 e114 => ?_)
    have k116 := st_sd e114 aq90 h_x (vq_of hv107) ⟨by omega, by omega⟩
    have sS117 : sd V115 x = updf (sd W86 x) (z104).toNat ((1048576 * ((vi W86 (vq W86 x 39) (z104).toNat) / 1048576)) + (vi W86 x 36)) := k116.2.1.trans (congrArg (fun f => updf f (z104).toNat ((1048576 * ((vi W86 (vq W86 x 39) (z104).toNat) / 1048576)) + (vi W86 x 36))) (rfl : sd W86 x = sd W86 x))
    have sQ118 : wt V115 x = wt W86 x := k116.2.2.trans (rfl : wt W86 x = wt W86 x)
    refine GO.aload_n dX12_lands_63 rfl rfl ?_
    refine GO.aload_n dX12_lands_64 rfl rfl ?_
    refine GO.getI h_x fl_RX12_473 rfl rfl dX12_lands_65 (fun l119 u120 => ?_)
    have e121 : vi V115 x 37 = vi W86 x 37 := vi_up e114 (Or.inl (K_ne h_x h106 (by decide)))
    refine GO.iconst dX12_lands_68 ?_
    refine GO.isub dX12_lands_69 ?_
    refine GO.putI h_x fp_RX12_473 rfl (by decide +kernel) ⟨by omega, by omega⟩ (by omega) (by omega) dX12_lands_70 (fun V123 e122 => ?_)
    have k124 := st_fld e122 k116.1 h_x (by decide) (by decide)
    have sS125 : sd V123 x = updf (sd W86 x) (z104).toNat ((1048576 * ((vi W86 (vq W86 x 39) (z104).toNat) / 1048576)) + (vi W86 x 36)) := k124.2.1.trans sS117
    have sQ126 : wt V123 x = wt W86 x := k124.2.2.trans sQ118
    refine GO.goto (tgt := 0) dX12_lands_73 (by decide) ?_
    refine GO.drop [true, true, false] rfl ?_
    have e128 : vi V115 x 31 = vi W86 x 31 := vi_up e114 (Or.inl (K_ne h_x h106 (by decide)))
    have e127 : vi V123 x 31 = vi V115 x 31 := vi_up e122 (Or.inr (by decide))
    have e130 : vi V115 x 36 = vi W86 x 36 := vi_up e114 (Or.inl (K_ne h_x h106 (by decide)))
    have e129 : vi V123 x 36 = vi V115 x 36 := vi_up e122 (Or.inr (by decide))
    have e131 : vi V123 x 37 = (vi V115 x 37) - 1 := upd2_int e122 ⟨by omega, by omega⟩
    exact ih87  V123 ⟨by omega, (by first | assumption | exact RJ.land (by assumption) (by assumption) (by omega) (by omega) (by omega) hfr.2.2 (sS125) (sQ126) (by omega) (by omega) (by omega)), (by first | assumption | exact NS.less (by assumption) (sQ126) (by omega)), trivial⟩ (by show (vi V123 x 37).toNat < (vi W86 x 37).toNat; omega)
  ·
    refine GO.iload_n dX12_lands_9 rfl rfl ?_
    refine GO.if_eq (tgt := 76) dX12_lands_10 (by decide) r_p0 (fun c132 => ?_) (fun c132 => ?_)
    ·
      have q133 : -2147483648 ≤ vi W86 x 31 ∧ vi W86 x 31 ≤ 2147483647 := vi_ir
      have q134 : -2147483648 ≤ vi W86 x 37 ∧ vi W86 x 37 ≤ 2147483647 := vi_ir
      have q135 : -2147483648 ≤ vi W86 x 36 ∧ vi W86 x 36 ≤ 2147483647 := vi_ir
      exact GO.retv rfl rfl dX12_lands_76 ⟨rfl, rfl, ⟨by omega, (by first | assumption | exact RJ.land (by assumption) (by assumption) (by omega) (by omega) (by omega) hfr.2.2 ((rfl : sd W86 x = sd W86 x)) ((rfl : wt W86 x = wt W86 x)) (by omega) (by omega) (by omega)), (by first | assumption | exact NS.less (by assumption) ((rfl : wt W86 x = wt W86 x)) (by omega)), by omega⟩⟩
    ·
      refine GO.aload_n dX12_lands_13 rfl rfl ?_
      refine GO.callV (ci := 11) (N := mX12_top) dX12_lands_14 (RX12, TX12, 151) rfl gV_RX12_476 h_x (t_X12_top h_x) rfl [] rfl rfl (Nat.le_of_ble_eq_true rfl) rfl (k_ip fun X136 r137 h138 => ?_)
      refine GO.bipush dX12_lands_17 rfl ?_
      refine GO.icmp_ne (tgt := 76) dX12_lands_19 (by decide) r137 (ir_c rfl) (fun c139 => ?_) (fun c139 => ?_)
      ·
        have q140 : -2147483648 ≤ vi W86 x 31 ∧ vi W86 x 31 ≤ 2147483647 := vi_ir
        have q141 : -2147483648 ≤ vi W86 x 37 ∧ vi W86 x 37 ≤ 2147483647 := vi_ir
        have q142 : -2147483648 ≤ vi W86 x 36 ∧ vi W86 x 36 ≤ 2147483647 := vi_ir
        exact GO.retv rfl rfl dX12_lands_76 ⟨rfl, rfl, ⟨by omega, (by first | assumption | exact RJ.land (by assumption) (by assumption) (by omega) (by omega) (by omega) hfr.2.2 ((rfl : sd W86 x = sd W86 x)) ((rfl : wt W86 x = wt W86 x)) (by omega) (by omega) (by omega)), (by first | assumption | exact NS.less (by assumption) ((rfl : wt W86 x = wt W86 x)) (by omega)), by omega⟩⟩
      ·
        have htw := RJ.two (V := W86) (by assumption) (by omega)
        refine GO.aload_n dX12_lands_22 rfl rfl ?_
        refine GO.getA (n := 220) h_x fl_RX12_91 rfl rfl rfl rfl dX12_lands_23 (fun hv144 h143 => ?_)
        refine GO.aload_n dX12_lands_26 rfl rfl ?_
        refine GO.getI h_x fl_RX12_473 rfl rfl dX12_lands_27 (fun l145 u146 => ?_)
        refine GO.iconst dX12_lands_30 ?_
        refine GO.isub dX12_lands_31 ?_
        have q147 : -2147483648 ≤ vi W86 x 37 ∧ vi W86 x 37 ≤ 2147483647 := vi_ir
        have q148 : -2147483648 ≤ vi W86 x 31 ∧ vi W86 x 31 ≤ 2147483647 := vi_ir
        have q149 : -2147483648 ≤ vi W86 x 36 ∧ vi W86 x 36 ≤ 2147483647 := vi_ir
        refine GO.iald (t := 33) rfl rfl h143 ⟨by omega, by omega⟩ (by omega) (by omega) dX12_lands_32 (fun l150 u151 => ?_)
        refine GO.ldcw (X := 1048576) dX12_lands_33 gw_2078 rfl ?_
        refine GO.iremP dX12_lands_36 vi_ir (ir_c rfl) (by omega) (by omega) ?_
        refine GO.name (fun z152 hz153 => ?_)
        refine GO.istore_n (ls1 := [some (.ref x), some (ti p0), some (ti z152)]) dX12_lands_37 rfl rfl rfl ?_
        have hfr := RJ.frm (V := W86) (by assumption) (by omega) rfl (by assumption)
        have hfr1 := hfr.1
        have hfr2 := hfr.2.1
        refine GO.aload_n dX12_lands_38 rfl rfl ?_
        refine GO.getA (n := 220) h_x fl_RX12_88 rfl rfl rfl rfl dX12_lands_39 (fun hv155 h154 => ?_)
        refine GO.iload_n dX12_lands_42 rfl rfl ?_
        refine GO.ldcw (X := 1048576) dX12_lands_43 gw_2078 rfl ?_
        refine GO.aload_n dX12_lands_46 rfl rfl ?_
        refine GO.getRaw h_x fl_RX12_88 hv155 dX12_lands_47 ?_
        refine GO.iload_n dX12_lands_50 rfl rfl ?_
        refine GO.iald (t := 32) rfl rfl h154 ⟨by omega, by omega⟩ (by omega) (by omega) dX12_lands_51 (fun l158 u159 => ?_)
        refine GO.ldcw (X := 1048576) dX12_lands_52 gw_2078 rfl ?_
        refine GO.idivP dX12_lands_55 vi_ir (ir_c rfl) (by omega) (by omega) ?_
        refine GO.imul dX12_lands_56 ?_
        refine GO.aload_n dX12_lands_57 rfl rfl ?_
        refine GO.getI h_x fl_RX12_466 rfl rfl dX12_lands_58 (fun l160 u161 => ?_)
        refine GO.iadd dX12_lands_61 ?_
        refine GO.iast (t := 32) rfl rfl (by decide +kernel) h154 ⟨by omega, by omega⟩ (by omega) (by omega) ⟨by omega, by omega⟩ (by omega) (by omega) dX12_lands_62 (fun V163 e162 => ?_)
        have k164 := st_sd e162 aq90 h_x (vq_of hv155) ⟨by omega, by omega⟩
        have sS165 : sd V163 x = updf (sd W86 x) (z152).toNat ((1048576 * ((vi W86 (vq W86 x 39) (z152).toNat) / 1048576)) + (vi W86 x 36)) := k164.2.1.trans (congrArg (fun f => updf f (z152).toNat ((1048576 * ((vi W86 (vq W86 x 39) (z152).toNat) / 1048576)) + (vi W86 x 36))) (rfl : sd W86 x = sd W86 x))
        have sQ166 : wt V163 x = wt W86 x := k164.2.2.trans (rfl : wt W86 x = wt W86 x)
        refine GO.aload_n dX12_lands_63 rfl rfl ?_
        refine GO.aload_n dX12_lands_64 rfl rfl ?_
        refine GO.getI h_x fl_RX12_473 rfl rfl dX12_lands_65 (fun l167 u168 => ?_)
        have e169 : vi V163 x 37 = vi W86 x 37 := vi_up e162 (Or.inl (K_ne h_x h154 (by decide)))
        refine GO.iconst dX12_lands_68 ?_
        refine GO.isub dX12_lands_69 ?_
        refine GO.putI h_x fp_RX12_473 rfl (by decide +kernel) ⟨by omega, by omega⟩ (by omega) (by omega) dX12_lands_70 (fun V171 e170 => ?_)
        have k172 := st_fld e170 k164.1 h_x (by decide) (by decide)
        have sS173 : sd V171 x = updf (sd W86 x) (z152).toNat ((1048576 * ((vi W86 (vq W86 x 39) (z152).toNat) / 1048576)) + (vi W86 x 36)) := k172.2.1.trans sS165
        have sQ174 : wt V171 x = wt W86 x := k172.2.2.trans sQ166
        refine GO.goto (tgt := 0) dX12_lands_73 (by decide) ?_
        refine GO.drop [true, true, false] rfl ?_
        have e176 : vi V163 x 31 = vi W86 x 31 := vi_up e162 (Or.inl (K_ne h_x h154 (by decide)))
        have e175 : vi V171 x 31 = vi V163 x 31 := vi_up e170 (Or.inr (by decide))
        have e178 : vi V163 x 36 = vi W86 x 36 := vi_up e162 (Or.inl (K_ne h_x h154 (by decide)))
        have e177 : vi V171 x 36 = vi V163 x 36 := vi_up e170 (Or.inr (by decide))
        have e179 : vi V171 x 37 = (vi V163 x 37) - 1 := upd2_int e170 ⟨by omega, by omega⟩
        exact ih87  V171 ⟨by omega, (by first | assumption | exact RJ.land (by assumption) (by assumption) (by omega) (by omega) (by omega) hfr.2.2 (sS173) (sQ174) (by omega) (by omega) (by omega)), (by first | assumption | exact NS.less (by assumption) (sQ174) (by omega)), trivial⟩ (by show (vi V171 x 37).toNat < (vi W86 x 37).toNat; omega)

set_option maxHeartbeats 1000000 in
theorem t_X12_jumps {K : Kmap} {V : Vmap} {x : Nat} {p0 : Int} {fr : Nat} {S0 : Nat → Int} {s z : Int} (h_x : K x = some (0, 11)) (r_p0 : ir p0) (q_0 : p0 ≥ 11) (q_1 : p0 ≤ 12) (q_2 : vi V x 31 < vi V x 32) (w_0 : RJ V x fr S0 s z) (w_1 : z = 1) (w_2 : NS V x) (w_3 : 1 ≤ vi V x 37) : MC mX12_jumps K V [.ref x, ti p0] (VS K (fun V1 => (vi V1 x 31 = (vi V x 31 + 1) ∧ vi V1 x 36 ≥ 0 ∧ vi V1 x 37 = (vi V x 37 + 1)) ∧ (RJ V1 x fr S0 s (z - 1)) ∧ (NS V1 x))) := by
  refine MC.start 0 (by decide +kernel) rfl rfl rfl (ls0 := [some (.ref x), some (ti p0)]) rfl ?_
  refine GO.useWT (fun hW1 => ?_)
  have aq2 := hW1.aq h_x
  have hrd := (hW1).rd h_x
  have hle := RJ.le (V := V) (x := x) (fr := fr) (S0 := S0) (s := s) (z := z) (by assumption)
  refine GO.aload_n dX12_jumps_0 rfl rfl ?_
  refine GO.getA (n := 220) h_x fl_RX12_91 rfl rfl rfl rfl dX12_jumps_1 (fun hv4 h3 => ?_)
  refine GO.aload_n dX12_jumps_4 rfl rfl ?_
  refine GO.getI h_x fl_RX12_473 rfl rfl dX12_jumps_5 (fun l5 u6 => ?_)
  refine GO.ldcw (X := 1048576) dX12_jumps_8 gw_2078 rfl ?_
  refine GO.iload_n dX12_jumps_11 rfl rfl ?_
  refine GO.imul dX12_jumps_12 ?_
  refine GO.aload_n dX12_jumps_13 rfl rfl ?_
  refine GO.getI h_x fl_RX12_466 rfl rfl dX12_jumps_14 (fun l7 u8 => ?_)
  refine GO.iadd dX12_jumps_17 ?_
  have q9 : -2147483648 ≤ vi V x 37 ∧ vi V x 37 ≤ 2147483647 := vi_ir
  have q10 : -2147483648 ≤ vi V x 31 ∧ vi V x 31 ≤ 2147483647 := vi_ir
  have q11 : -2147483648 ≤ vi V x 36 ∧ vi V x 36 ≤ 2147483647 := vi_ir
  have q12 : -2147483648 ≤ vi V x 32 ∧ vi V x 32 ≤ 2147483647 := vi_ir
  have q14 : -2147483648 ≤ p0 ∧ p0 ≤ 2147483647 := r_p0
  refine GO.iast (t := 33) rfl rfl (by decide +kernel) h3 vi_ir (by omega) (by omega) ⟨by omega, by omega⟩ (by omega) (by omega) dX12_jumps_18 (fun V15 e13 => ?_)
  have k16 := st_wt e13 aq2 h_x (vq_of hv4) ⟨by omega, by omega⟩
  have sS17 : sd V15 x = sd V x := k16.2.1.trans (rfl : sd V x = sd V x)
  have sQ18 : wt V15 x = updf (wt V x) (vi V x 37).toNat ((1048576 * p0) + (vi V x 36)) := k16.2.2.trans (congrArg (fun f => updf f (vi V x 37).toNat ((1048576 * p0) + (vi V x 36))) (rfl : wt V x = wt V x))
  refine GO.aload_n dX12_jumps_19 rfl rfl ?_
  refine GO.aload_n dX12_jumps_20 rfl rfl ?_
  refine GO.getI h_x fl_RX12_473 rfl rfl dX12_jumps_21 (fun l19 u20 => ?_)
  have e21 : vi V15 x 37 = vi V x 37 := vi_up e13 (Or.inl (K_ne h_x h3 (by decide)))
  refine GO.iconst dX12_jumps_24 ?_
  refine GO.iadd dX12_jumps_25 ?_
  refine GO.putI h_x fp_RX12_473 rfl (by decide +kernel) ⟨by omega, by omega⟩ (by omega) (by omega) dX12_jumps_26 (fun V23 e22 => ?_)
  have k24 := st_fld e22 k16.1 h_x (by decide) (by decide)
  have sS25 : sd V23 x = sd V x := k24.2.1.trans sS17
  have sQ26 : wt V23 x = updf (wt V x) (vi V x 37).toNat ((1048576 * p0) + (vi V x 36)) := k24.2.2.trans sQ18
  refine GO.aload_n dX12_jumps_29 rfl rfl ?_
  refine GO.iload_n dX12_jumps_30 rfl rfl ?_
  refine GO.iconst dX12_jumps_31 ?_
  have e28 : vi V15 x 36 = vi V x 36 := vi_up e13 (Or.inl (K_ne h_x h3 (by decide)))
  have e27 : vi V23 x 36 = vi V15 x 36 := vi_up e22 (Or.inr (by decide))
  refine GO.callV (ci := 11) (N := mX12_says) dX12_jumps_32 (RX12, TX12, 151) rfl gV_RX12_479 h_x (t_X12_says h_x r_p0 (ir_c rfl) (by omega) (by omega) (by omega) (by omega) ⟨by omega, by omega⟩) rfl [] rfl rfl (Nat.le_of_ble_eq_true rfl) rfl (k_vs fun V31 h30 hF29 => ?_)
  refine GO.useWT (fun hW32 => ?_)
  have aq33 := hW32.aq h_x
  have raw_says := h30.2
  have rw32 := h30.2
  refine GO.aload_n dX12_jumps_35 rfl rfl ?_
  refine GO.aload_n dX12_jumps_36 rfl rfl ?_
  refine GO.getI h_x fl_RX12_443 rfl rfl dX12_jumps_37 (fun l35 u36 => ?_)
  have e39 : vi V15 x 31 = vi V x 31 := vi_up e13 (Or.inl (K_ne h_x h3 (by decide)))
  have e38 : vi V23 x 31 = vi V15 x 31 := vi_up e22 (Or.inr (by decide))
  have e37 : vi V31 x 31 = vi V23 x 31 := vi_fr hF29 h_x h_x (by decide +kernel)
  refine GO.iconst dX12_jumps_40 ?_
  refine GO.iadd dX12_jumps_41 ?_
  have q41 : -2147483648 ≤ vi V31 x 36 ∧ vi V31 x 36 ≤ 2147483647 := vi_ir
  refine GO.putI h_x fp_RX12_443 rfl (by decide +kernel) ⟨by omega, by omega⟩ (by omega) (by omega) dX12_jumps_42 (fun V42 e40 => ?_)
  have k43 := st_fld e40 aq33 h_x (by decide) (by decide)
  have sS44 : sd V42 x = sd V31 x := k43.2.1.trans (rfl : sd V31 x = sd V31 x)
  have sQ45 : wt V42 x = wt V31 x := k43.2.2.trans (rfl : wt V31 x = wt V31 x)
  have e46 : vi V42 x 31 = (vi V31 x 31) + 1 := upd2_int e40 ⟨by omega, by omega⟩
  have e47 : vi V42 x 36 = vi V31 x 36 := vi_up e40 (Or.inr (by decide))
  have e50 : vi V23 x 37 = (vi V15 x 37) + 1 := upd2_int e22 ⟨by omega, by omega⟩
  have e49 : vi V31 x 37 = vi V23 x 37 := vi_fr hF29 h_x h_x (by decide +kernel)
  have e48 : vi V42 x 37 = vi V31 x 37 := vi_up e40 (Or.inr (by decide))
  exact GO.retv rfl rfl dX12_jumps_45 ⟨rfl, rfl, ⟨by omega, RJ.jump (by assumption) (by assumption) (by omega) (by omega) (by omega) (upd_eq (sS44) raw_says.1 (sS25) (by omega)) ((sQ45).trans (raw_says.2.trans (sQ26))) (by omega) (by omega) (by omega) (by omega), NS.push (by assumption) (by omega) (by omega) ((sQ45).trans (raw_says.2.trans (sQ26))) (by omega) (by omega)⟩⟩
