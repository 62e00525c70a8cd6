def mX12_hasOpenSum : MRec := (RX12, cX12_hasOpenSum, 3, (some .boolean), yX12_hasOpenSum, 0, 0, 0, 0, 0)
def mX12_readsSum : MRec := (RX12, cX12_readsSum, 3, (some .boolean), yX12_readsSum, 4, 83, 0, 0, 48888863432027666070442696521825075865235241626388431603512355916790897375506972996244865024)
def mX12_endsPiece : MRec := (RX12, cX12_endsPiece, 1, (none : Option Jvm.ClassFile.FieldType), yX12_endsPiece, 1, 22, 0, 0, 16296287810675888690147565507275025288411747309179231588156630273363078976450148924334800896)
def mX12_lands : MRec := (RX12, cX12_lands, 3, (none : Option Jvm.ClassFile.FieldType), yX12_lands, 1, 20, 0, 0, 16296287810675888690147565507275025288411747240671342338270555982565352442874382377962962944)
def mX12_jumps : MRec := (RX12, cX12_jumps, 2, (none : Option Jvm.ClassFile.FieldType), yX12_jumps, 1, 22, 0, 0, 48888863432027666070442696521825075865235241586425496207745479247158890230921109177527959552)
set_option maxHeartbeats 1000000 in
theorem t_X12_hasOpenSum {K : Kmap} {V : Vmap} {x : Nat} {p0 : Int} (h_x : K x = some (0, 11)) (r_p0 : ir p0) (q_0 : p0 ≥ 0) : MC mX12_hasOpenSum K V [.ref x, ti p0] (IP K V (fun X => (X = 0 ∨ X = 1) ∧ (X ≠ 0 → True) ∧ (X = 0 → True) ∧ (HO V x p0 X))) := by
  refine MC.start 1 (by decide +kernel) rfl rfl rfl (ls0 := [some (.ref x), some (ti p0), none]) rfl ?_
  refine GO.useWT (fun hW1 => ?_)
  have aq2 := hW1.aq h_x
  refine GO.iload_n dX12_hasOpenSum_0 rfl rfl ?_
  refine GO.istore_n (ls1 := [some (.ref x), some (ti p0), some (ti p0)]) dX12_hasOpenSum_1 rfl rfl rfl ?_
  have q4 : -2147483648 ≤ p0 ∧ p0 ≤ 2147483647 := r_p0
  refine GO.loop1 (fun i3 W => 0 ≤ i3 ∧ i3 ≤ 2147483647 ∧ (i3 ≥ 0) ∧ (HOI W x p0 i3) ∧ V = W) (fun i3 => [some (.ref x), some (ti p0), some (ti i3)]) (fun i3 W => (2147483647 - i3).toNat) p0 ⟨by omega, by omega, by omega, (by first | exact HOI.rf | exact HOI.step (by assumption) (by omega) rfl (by omega) | (subst_vars; exact HOI.rf)), rfl⟩ rfl (fun i3 V13 hp15 ih14 => ?_)
  obtain ⟨l_i3, u_i3, n_i3, w0_i3, rfl⟩ := hp15
  have r_i3 : ir i3 := ⟨by omega, by omega⟩
  show GO mX12_hasOpenSum K V (IP K V (fun X => (X = 0 ∨ X = 1) ∧ (X ≠ 0 → True) ∧ (X = 0 → True) ∧ (HO V x p0 X))) K V 0 0 2 [some (.ref x), some (ti p0), some (ti i3)] []
  refine GO.iload_n dX12_hasOpenSum_2 rfl rfl ?_
  refine GO.aload_n dX12_hasOpenSum_3 rfl rfl ?_
  refine GO.getI h_x fl_RX12_473 rfl rfl dX12_hasOpenSum_4 (fun l16 u17 => ?_)
  refine GO.icmp_ge (tgt := 33) dX12_hasOpenSum_7 (by decide) r_i3 vi_ir (fun c18 => ?_) (fun c18 => ?_)
  ·
    refine GO.iconst dX12_hasOpenSum_33 ?_
    exact GO.retz rfl rfl dX12_hasOpenSum_34 (Or.inl rfl) ⟨rfl, rfl, _, rfl, (ir_c rfl), ⟨Or.inl rfl, fun _ => trivial, fun _ => trivial, (by first | exact HO.yes (by assumption) (by omega) (by omega) rfl (by omega) rfl | exact HO.no (by assumption) (by omega) rfl)⟩⟩
  ·
    refine GO.aload_n dX12_hasOpenSum_10 rfl rfl ?_
    refine GO.getA (n := 220) h_x fl_RX12_91 rfl rfl rfl rfl dX12_hasOpenSum_11 (fun hv20 h19 => ?_)
    refine GO.iload_n dX12_hasOpenSum_14 rfl rfl ?_
    refine GO.iald (t := 33) rfl rfl h19 r_i3 (by omega) (by omega) dX12_hasOpenSum_15 (fun l21 u22 => ?_)
    refine GO.ldcw (X := 1048576) dX12_hasOpenSum_16 gw_2078 rfl ?_
    refine GO.idivP dX12_hasOpenSum_19 vi_ir (ir_c rfl) (by omega) (by omega) ?_
    refine GO.bipush dX12_hasOpenSum_20 rfl ?_
    refine GO.icmp_ne (tgt := 27) dX12_hasOpenSum_22 (by decide) ⟨by omega, by omega⟩ (ir_c rfl) (fun c23 => ?_) (fun c23 => ?_)
    ·
      refine GO.iinc (X := i3) (n := 1) (Y := i3 + 1) (ls1 := [some (.ref x), some (ti p0), some (ti (i3 + 1))]) dX12_hasOpenSum_27 rfl rfl rfl rfl ?_
      refine GO.goto (tgt := 2) dX12_hasOpenSum_30 (by decide) ?_
      exact ih14 (i3 + 1) V ⟨by omega, by omega, by omega, (by first | exact HOI.rf | exact HOI.step (by assumption) (by omega) rfl (by omega) | (subst_vars; exact HOI.rf)), rfl⟩ (by show (2147483647 - (i3 + 1)).toNat < (2147483647 - i3).toNat; omega)
    ·
      refine GO.iconst dX12_hasOpenSum_25 ?_
      exact GO.retz rfl rfl dX12_hasOpenSum_26 (Or.inr rfl) ⟨rfl, rfl, _, rfl, (ir_c rfl), ⟨Or.inr rfl, fun _ => trivial, fun _ => trivial, (by first | exact HO.yes (by assumption) (by omega) (by omega) rfl (by omega) rfl | exact HO.no (by assumption) (by omega) rfl)⟩⟩

set_option maxHeartbeats 1000000 in
theorem t_X12_readsSum {K : Kmap} {V : Vmap} {x : Nat} {fr : Nat} {S0 : Nat → Int} {s z : Int} (h_x : K x = some (0, 11)) (q_0 : vi V x 37 ≥ 1) (w_0 : RJ V x fr S0 s z) (w_1 : 0 ≤ z) (w_2 : NS V x) : MC mX12_readsSum K V [.ref x] (IS K (fun X V1 => (X = 0 ∨ X = 1) ∧ (X ≠ 0 → vi V1 x 31 ≥ (vi V x 31 + 1) ∧ vi V1 x 37 = vi V x 37) ∧ (X = 0 → True) ∧ (X ≠ 0 → RJ V1 x fr S0 s (z + 1)) ∧ (X ≠ 0 → SQ V V1 x))) := by
  refine MC.start 2 (by decide +kernel) rfl rfl rfl (ls0 := [some (.ref x), none, none]) rfl ?_
  refine GO.useWT (fun hW1 => ?_)
  have aq2 := hW1.aq h_x
  have hrd := (hW1).rd h_x
  have hle := RJ.le (V := V) (x := x) (fr := fr) (S0 := S0) (s := s) (z := z) (by assumption)
  refine GO.aload_n dX12_readsSum_0 rfl rfl ?_
  refine GO.getI h_x fl_RX12_473 rfl rfl dX12_readsSum_1 (fun l3 u4 => ?_)
  refine GO.name (fun z5 hz6 => ?_)
  have r7 : ir z5 := hz6 ▸ vi_ir
  refine GO.istore_n (ls1 := [some (.ref x), some (ti z5), none]) dX12_readsSum_4 rfl rfl rfl ?_
  refine GO.aload_n dX12_readsSum_5 rfl rfl ?_
  have q8 : -2147483648 ≤ vi V x 37 ∧ vi V x 37 ≤ 2147483647 := vi_ir
  have q9 : -2147483648 ≤ z5 ∧ z5 ≤ 2147483647 := r7
  have q10 : -2147483648 ≤ vi V x 31 ∧ vi V x 31 ≤ 2147483647 := vi_ir
  have q11 : -2147483648 ≤ vi V x 36 ∧ vi V x 36 ≤ 2147483647 := vi_ir
  refine GO.callV (ci := 11) (N := mX12_readsFactor) dX12_readsSum_6 (RX12, TX12, 151) rfl gV_RX12_492 h_x (t_X12_readsFactor h_x (by omega) ((by first | assumption))) rfl [] rfl rfl (Nat.le_of_ble_eq_true rfl) rfl (k_is fun X12 V16 r13 h14 hF15 => ?_)
  refine GO.useWT (fun hW17 => ?_)
  have aq18 := hW17.aq h_x
  have raw_readsFactor := h14.2.2.2
  refine GO.if_ne (tgt := 14) dX12_readsSum_9 (by decide) r13 (fun c21 => ?_) (fun c21 => ?_)
  ·
    have q22 := h14.2.1 (by omega)
    have q23 : -2147483648 ≤ vi V16 x 31 ∧ vi V16 x 31 ≤ 2147483647 := vi_ir
    have q24 : -2147483648 ≤ vi V16 x 37 ∧ vi V16 x 37 ≤ 2147483647 := vi_ir
    refine GO.loop0 (fun  W => (vi W x 31 ≥ (vi V x 31 + 1) ∧ vi W x 37 ≥ z5) ∧ (RJ W x fr S0 s (z + 1)) ∧ (GM V W x) ∧ True) (fun  W => ((vi W x 32 - vi W x 31)).toNat)  ⟨by omega, (by first | exact raw_readsFactor.1 (by omega) | exact RJ.zz (raw_readsFactor.1 (by omega)) (by omega)), (by first | exact GM.of (raw_readsFactor.2 (by omega))), trivial⟩ (fun W289 hp291 ih290 => ?_)
    obtain ⟨n_W289, w0_W289, w1_W289, -⟩ := hp291
    show GO mX12_readsSum K V (IS K (fun X V1 => (X = 0 ∨ X = 1) ∧ (X ≠ 0 → vi V1 x 31 ≥ (vi V x 31 + 1) ∧ vi V1 x 37 = vi V x 37) ∧ (X = 0 → True) ∧ (X ≠ 0 → RJ V1 x fr S0 s (z + 1)) ∧ (X ≠ 0 → SQ V V1 x))) K W289 0 0 14 [some (.ref x), some (ti z5), none] []
    refine GO.useWT (fun hW292 => ?_)
    have aq293 := hW292.aq h_x
    have hrd := (hW292).rd h_x
    have hle := RJ.le (V := W289) (x := x) (fr := fr) (S0 := S0) (s := s) (z := z + 1) (by assumption)
    refine GO.aload_n dX12_readsSum_14 rfl rfl ?_
    refine GO.callV (ci := 11) (N := mX12_sign) dX12_readsSum_15 (RX12, TX12, 151) rfl gV_RX12_449 h_x (t_X12_sign h_x) rfl [] rfl rfl (Nat.le_of_ble_eq_true rfl) rfl (k_ip fun X294 r295 h296 => ?_)
    refine GO.iconst dX12_readsSum_18 ?_
    refine GO.icmp_ne (tgt := 26) dX12_readsSum_19 (by decide) r295 (ir_c rfl) (fun c297 => ?_) (fun c297 => ?_)
    ·
      refine GO.aload_n dX12_readsSum_26 rfl rfl ?_
      refine GO.callV (ci := 11) (N := mX12_sign) dX12_readsSum_27 (RX12, TX12, 151) rfl gV_RX12_449 h_x (t_X12_sign h_x) rfl [] rfl rfl (Nat.le_of_ble_eq_true rfl) rfl (k_ip fun X298 r299 h300 => ?_)
      refine GO.callS (N := mX12_sumSign) dX12_readsSum_30 gS_RX12_495 (t_X12_sumSign r299) rfl [] rfl rfl (Nat.le_of_ble_eq_true rfl) rfl (k_ip fun X301 r302 h303 => ?_)
      refine GO.istore_n (ls1 := [some (.ref x), some (ti z5), some (ti X301)]) dX12_readsSum_33 rfl rfl rfl ?_
      refine GO.iload_n dX12_readsSum_34 rfl rfl ?_
      refine GO.iconst dX12_readsSum_35 ?_
      refine GO.icmp_eq (tgt := 96) dX12_readsSum_36 (by decide) r302 (ir_c rfl) (fun c304 => ?_) (fun c304 => ?_)
      ·
        refine GO.aload_n dX12_readsSum_96 rfl rfl ?_
        refine GO.callV (ci := 11) (N := mX12_sign) dX12_readsSum_97 (RX12, TX12, 151) rfl gV_RX12_449 h_x (t_X12_sign h_x) rfl [] rfl rfl (Nat.le_of_ble_eq_true rfl) rfl (k_ip fun X305 r306 h307 => ?_)
        refine GO.bipush dX12_readsSum_100 rfl ?_
        refine GO.icmp_ne (tgt := 151) dX12_readsSum_102 (by decide) r306 (ir_c rfl) (fun c308 => ?_) (fun c308 => ?_)
        ·
          refine GO.aload_n dX12_readsSum_151 rfl rfl ?_
          refine GO.iload_n dX12_readsSum_152 rfl rfl ?_
          have q309 : -2147483648 ≤ vi W289 x 37 ∧ vi W289 x 37 ≤ 2147483647 := vi_ir
          have q310 : -2147483648 ≤ vi W289 x 31 ∧ vi W289 x 31 ≤ 2147483647 := vi_ir
          have q311 : -2147483648 ≤ vi W289 x 32 ∧ vi W289 x 32 ≤ 2147483647 := vi_ir
          have q312 : -2147483648 ≤ vi W289 x 36 ∧ vi W289 x 36 ≤ 2147483647 := vi_ir
          refine GO.callV (ci := 11) (N := mX12_hasOpenSum) dX12_readsSum_153 (RX12, TX12, 151) rfl gV_RX12_502 h_x (t_X12_hasOpenSum h_x r7 (by omega)) rfl [] rfl rfl (Nat.le_of_ble_eq_true rfl) rfl (k_ip fun X313 r314 h315 => ?_)
          have raw_hasOpenSum := h315.2.2.2
          refine GO.if_eq (tgt := 169) dX12_readsSum_156 (by decide) r314 (fun c316 => ?_) (fun c316 => ?_)
          ·
            refine GO.aload_n dX12_readsSum_169 rfl rfl ?_
            refine GO.iconst dX12_readsSum_170 ?_
            refine GO.callV (ci := 11) (N := mX12_closesSums) dX12_readsSum_171 (RX12, TX12, 151) rfl gV_RX12_498 h_x (t_X12_closesSums h_x (ir_c rfl) (by omega) (by assumption) (by omega)) rfl [] rfl rfl (Nat.le_of_ble_eq_true rfl) rfl (k_vs fun V319 h318 hF317 => ?_)
            refine GO.useWT (fun hW320 => ?_)
            have aq321 := hW320.aq h_x
            have raw_closesSums := h318.2
            have e322 : vi V319 x 31 = vi W289 x 31 := vi_fr hF317 h_x h_x (by decide +kernel)
            have hsq := GM.fin (by assumption) (by assumption) raw_closesSums.2 (by omega) (by omega) raw_hasOpenSum (by omega)
            have hsq1 := hsq.1
            refine GO.iconst dX12_readsSum_174 ?_
            have q325 : -2147483648 ≤ vi V319 x 37 ∧ vi V319 x 37 ≤ 2147483647 := vi_ir
            have q326 : -2147483648 ≤ vi V319 x 36 ∧ vi V319 x 36 ≤ 2147483647 := vi_ir
            exact GO.retz rfl rfl dX12_readsSum_175 (Or.inr rfl) ⟨rfl, _, rfl, (ir_c rfl), ⟨Or.inr rfl, fun h => by omega, fun _ => trivial, (by first | exact fun h => absurd h (by decide) | exact fun _ => raw_closesSums.1), (by first | exact fun h => absurd h (by decide) | exact fun _ => hsq)⟩⟩
          ·
            refine GO.aload_n dX12_readsSum_159 rfl rfl ?_
            refine GO.iconst dX12_readsSum_160 ?_
            refine GO.aload_n dX12_readsSum_161 rfl rfl ?_
            refine GO.getI h_x fl_RX12_443 rfl rfl dX12_readsSum_162 (fun l327 u328 => ?_)
            refine GO.callV (ci := 11) (N := mX12_wrong) dX12_readsSum_165 (RX12, TX12, 151) rfl gV_RX12_456 h_x (t_X12_wrong h_x (ir_c rfl) vi_ir) rfl [] rfl rfl (Nat.le_of_ble_eq_true rfl) rfl (k_is fun X329 V333 r330 h331 hF332 => ?_)
            have k334 := st_fr hF332 aq293 h_x (by decide +kernel) (by decide +kernel) (by decide +kernel) (by decide +kernel)
            have sS335 : sd V333 x = sd W289 x := k334.2.1.trans (rfl : sd W289 x = sd W289 x)
            have sQ336 : wt V333 x = wt W289 x := k334.2.2.trans (rfl : wt W289 x = wt W289 x)
            have e337 : vi V333 x 31 = vi W289 x 31 := vi_fr hF332 h_x h_x (by decide +kernel)
            have e338 : vi V333 x 37 = vi W289 x 37 := vi_fr hF332 h_x h_x (by decide +kernel)
            exact GO.retz rfl rfl dX12_readsSum_168 (by omega) ⟨rfl, _, rfl, r330, ⟨by omega, fun h => by omega, fun _ => trivial, (by first | exact fun h => absurd h (by omega)), (by first | exact fun h => absurd h (by omega))⟩⟩
        ·
          refine GO.aload_n dX12_readsSum_105 rfl rfl ?_
          refine GO.iload_n dX12_readsSum_106 rfl rfl ?_
          have q339 : -2147483648 ≤ vi W289 x 37 ∧ vi W289 x 37 ≤ 2147483647 := vi_ir
          have q340 : -2147483648 ≤ vi W289 x 31 ∧ vi W289 x 31 ≤ 2147483647 := vi_ir
          have q341 : -2147483648 ≤ vi W289 x 32 ∧ vi W289 x 32 ≤ 2147483647 := vi_ir
          have q342 : -2147483648 ≤ vi W289 x 36 ∧ vi W289 x 36 ≤ 2147483647 := vi_ir
          refine GO.callV (ci := 11) (N := mX12_hasOpenSum) dX12_readsSum_107 (RX12, TX12, 151) rfl gV_RX12_502 h_x (t_X12_hasOpenSum h_x r7 (by omega)) rfl [] rfl rfl (Nat.le_of_ble_eq_true rfl) rfl (k_ip fun X343 r344 h345 => ?_)
          have raw_hasOpenSum := h345.2.2.2
          refine GO.if_eq (tgt := 151) dX12_readsSum_110 (by decide) r344 (fun c346 => ?_) (fun c346 => ?_)
          ·
            refine GO.aload_n dX12_readsSum_151 rfl rfl ?_
            refine GO.iload_n dX12_readsSum_152 rfl rfl ?_
            refine GO.callV (ci := 11) (N := mX12_hasOpenSum) dX12_readsSum_153 (RX12, TX12, 151) rfl gV_RX12_502 h_x (t_X12_hasOpenSum h_x r7 (by omega)) rfl [] rfl rfl (Nat.le_of_ble_eq_true rfl) rfl (k_ip fun X347 r348 h349 => ?_)
            have raw_hasOpenSum := h349.2.2.2
            refine GO.if_eq (tgt := 169) dX12_readsSum_156 (by decide) r348 (fun c350 => ?_) (fun c350 => ?_)
            ·
              refine GO.aload_n dX12_readsSum_169 rfl rfl ?_
              refine GO.iconst dX12_readsSum_170 ?_
              refine GO.callV (ci := 11) (N := mX12_closesSums) dX12_readsSum_171 (RX12, TX12, 151) rfl gV_RX12_498 h_x (t_X12_closesSums h_x (ir_c rfl) (by omega) (by assumption) (by omega)) rfl [] rfl rfl (Nat.le_of_ble_eq_true rfl) rfl (k_vs fun V353 h352 hF351 => ?_)
              refine GO.useWT (fun hW354 => ?_)
              have aq355 := hW354.aq h_x
              have raw_closesSums := h352.2
              have e356 : vi V353 x 31 = vi W289 x 31 := vi_fr hF351 h_x h_x (by decide +kernel)
              have hsq := GM.fin (by assumption) (by assumption) raw_closesSums.2 (by omega) (by omega) raw_hasOpenSum (by omega)
              have hsq1 := hsq.1
              refine GO.iconst dX12_readsSum_174 ?_
              have q359 : -2147483648 ≤ vi V353 x 37 ∧ vi V353 x 37 ≤ 2147483647 := vi_ir
              have q360 : -2147483648 ≤ vi V353 x 36 ∧ vi V353 x 36 ≤ 2147483647 := vi_ir
              exact GO.retz rfl rfl dX12_readsSum_175 (Or.inr rfl) ⟨rfl, _, rfl, (ir_c rfl), ⟨Or.inr rfl, fun h => by omega, fun _ => trivial, (by first | exact fun h => absurd h (by decide) | exact fun _ => raw_closesSums.1), (by first | exact fun h => absurd h (by decide) | exact fun _ => hsq)⟩⟩
            ·
              refine GO.aload_n dX12_readsSum_159 rfl rfl ?_
              refine GO.iconst dX12_readsSum_160 ?_
              refine GO.aload_n dX12_readsSum_161 rfl rfl ?_
              refine GO.getI h_x fl_RX12_443 rfl rfl dX12_readsSum_162 (fun l361 u362 => ?_)
              refine GO.callV (ci := 11) (N := mX12_wrong) dX12_readsSum_165 (RX12, TX12, 151) rfl gV_RX12_456 h_x (t_X12_wrong h_x (ir_c rfl) vi_ir) rfl [] rfl rfl (Nat.le_of_ble_eq_true rfl) rfl (k_is fun X363 V367 r364 h365 hF366 => ?_)
              have k368 := st_fr hF366 aq293 h_x (by decide +kernel) (by decide +kernel) (by decide +kernel) (by decide +kernel)
              have sS369 : sd V367 x = sd W289 x := k368.2.1.trans (rfl : sd W289 x = sd W289 x)
              have sQ370 : wt V367 x = wt W289 x := k368.2.2.trans (rfl : wt W289 x = wt W289 x)
              have e371 : vi V367 x 31 = vi W289 x 31 := vi_fr hF366 h_x h_x (by decide +kernel)
              have e372 : vi V367 x 37 = vi W289 x 37 := vi_fr hF366 h_x h_x (by decide +kernel)
              exact GO.retz rfl rfl dX12_readsSum_168 (by omega) ⟨rfl, _, rfl, r364, ⟨by omega, fun h => by omega, fun _ => trivial, (by first | exact fun h => absurd h (by omega)), (by first | exact fun h => absurd h (by omega))⟩⟩
          ·
            refine GO.aload_n dX12_readsSum_113 rfl rfl ?_
            refine GO.iconst dX12_readsSum_114 ?_
            refine GO.callV (ci := 11) (N := mX12_closesSums) dX12_readsSum_115 (RX12, TX12, 151) rfl gV_RX12_498 h_x (t_X12_closesSums h_x (ir_c rfl) (by omega) (by assumption) (by omega)) rfl [] rfl rfl (Nat.le_of_ble_eq_true rfl) rfl (k_vs fun V375 h374 hF373 => ?_)
            refine GO.useWT (fun hW376 => ?_)
            have aq377 := hW376.aq h_x
            have raw_closesSums := h374.2
            have e378 : vi V375 x 31 = vi W289 x 31 := vi_fr hF373 h_x h_x (by decide +kernel)
            have hgo := GM.opn (by assumption) (by assumption) raw_closesSums.2 (by omega) (by omega) raw_hasOpenSum (by omega)
            have hgo1 := hgo.2.1
            have hgo2 := hgo.2.2
            refine GO.aload_n dX12_readsSum_118 rfl rfl ?_
            refine GO.aload_n dX12_readsSum_119 rfl rfl ?_
            refine GO.getI h_x fl_RX12_473 rfl rfl dX12_readsSum_120 (fun l381 u382 => ?_)
            refine GO.iconst dX12_readsSum_123 ?_
            refine GO.isub dX12_readsSum_124 ?_
            have q384 : -2147483648 ≤ vi V375 x 37 ∧ vi V375 x 37 ≤ 2147483647 := vi_ir
            have q385 : -2147483648 ≤ vi V375 x 36 ∧ vi V375 x 36 ≤ 2147483647 := vi_ir
            refine GO.putI h_x fp_RX12_473 rfl (by decide +kernel) ⟨by omega, by omega⟩ (by omega) (by omega) dX12_readsSum_125 (fun V386 e383 => ?_)
            have k387 := st_fld e383 aq377 h_x (by decide) (by decide)
            have sS388 : sd V386 x = sd V375 x := k387.2.1.trans (rfl : sd V375 x = sd V375 x)
            have sQ389 : wt V386 x = wt V375 x := k387.2.2.trans (rfl : wt V375 x = wt V375 x)
            refine GO.aload_n dX12_readsSum_128 rfl rfl ?_
            refine GO.aload_n dX12_readsSum_129 rfl rfl ?_
            refine GO.getI h_x fl_RX12_470 rfl rfl dX12_readsSum_130 (fun _ _ => ?_)
            refine GO.iconst dX12_readsSum_133 ?_
            refine GO.isub dX12_readsSum_134 ?_
            refine GO.norm (fun z392 r393 _ => ?_)
            refine GO.putI h_x fp_RX12_470 rfl (by decide +kernel) r393 (r393).1 (r393).2 dX12_readsSum_135 (fun V395 e394 => ?_)
            have k396 := st_fld e394 k387.1 h_x (by decide) (by decide)
            have sS397 : sd V395 x = sd V375 x := k396.2.1.trans sS388
            have sQ398 : wt V395 x = wt V375 x := k396.2.2.trans sQ389
            refine GO.aload_n dX12_readsSum_138 rfl rfl ?_
            refine GO.aload_n dX12_readsSum_139 rfl rfl ?_
            refine GO.getI h_x fl_RX12_443 rfl rfl dX12_readsSum_140 (fun l399 u400 => ?_)
            have e402 : vi V386 x 31 = vi V375 x 31 := vi_up e383 (Or.inr (by decide))
            have e401 : vi V395 x 31 = vi V386 x 31 := vi_up e394 (Or.inr (by decide))
            refine GO.iconst dX12_readsSum_143 ?_
            refine GO.iadd dX12_readsSum_144 ?_
            refine GO.putI h_x fp_RX12_443 rfl (by decide +kernel) ⟨by omega, by omega⟩ (by omega) (by omega) dX12_readsSum_145 (fun V404 e403 => ?_)
            have k405 := st_fld e403 k396.1 h_x (by decide) (by decide)
            have sS406 : sd V404 x = sd V375 x := k405.2.1.trans sS397
            have sQ407 : wt V404 x = wt V375 x := k405.2.2.trans sQ398
            have e408 : vi V404 x 31 = (vi V395 x 31) + 1 := upd2_int e403 ⟨by omega, by omega⟩
            have e411 : vi V386 x 36 = vi V375 x 36 := vi_up e383 (Or.inr (by decide))
            have e410 : vi V395 x 36 = vi V386 x 36 := vi_up e394 (Or.inr (by decide))
            have e409 : vi V404 x 36 = vi V395 x 36 := vi_up e403 (Or.inr (by decide))
            have e414 : vi V386 x 37 = (vi V375 x 37) - 1 := upd2_int e383 ⟨by omega, by omega⟩
            have e413 : vi V395 x 37 = vi V386 x 37 := vi_up e394 (Or.inr (by decide))
            have e412 : vi V404 x 37 = vi V395 x 37 := vi_up e403 (Or.inr (by decide))
            refine GO.goto (tgt := 176) dX12_readsSum_148 (by decide) ?_
            refine GO.goto (tgt := 14) dX12_readsSum_176 (by decide) ?_
            refine GO.drop [true, true, false] rfl ?_
            have e418 : vi V375 x 32 = vi W289 x 32 := vi_fr hF373 h_x h_x (by decide +kernel)
            have e417 : vi V386 x 32 = vi V375 x 32 := vi_up e383 (Or.inr (by decide))
            have e416 : vi V395 x 32 = vi V386 x 32 := vi_up e394 (Or.inr (by decide))
            have e415 : vi V404 x 32 = vi V395 x 32 := vi_up e403 (Or.inr (by decide))
            exact ih290  V404 ⟨by omega, (by first | exact raw_readsFactor.1 (by omega) | exact RJ.zz (raw_readsFactor.1 (by omega)) (by omega) | exact RJ.pop raw_closesSums.1 (by omega) (by omega) (sS406) (sQ407) (by omega) (by omega) (by omega)), (by first | exact GM.of (raw_readsFactor.2 (by omega)) | exact GM.pop hgo.1 (sQ407) (by omega) hgo1), trivial⟩ (by show ((vi V404 x 32 - vi V404 x 31)).toNat < ((vi W289 x 32 - vi W289 x 31)).toNat; omega)
      ·
        refine GO.aload_n dX12_readsSum_39 rfl rfl ?_
        refine GO.iload_n dX12_readsSum_40 rfl rfl ?_
        refine GO.iconst dX12_readsSum_41 ?_
        refine GO.icmp_ge (tgt := 49) dX12_readsSum_42 (by decide) r302 (ir_c rfl) (fun c419 => ?_) (fun c419 => ?_)
        ·
          refine GO.iconst dX12_readsSum_49 ?_
          refine GO.callV (ci := 11) (N := mX12_closesSums) dX12_readsSum_50 (RX12, TX12, 151) rfl gV_RX12_498 h_x (t_X12_closesSums h_x (ir_c rfl) (by omega) (by assumption) (by omega)) rfl [] rfl rfl (Nat.le_of_ble_eq_true rfl) rfl (k_vs fun V422 h421 hF420 => ?_)
          refine GO.useWT (fun hW423 => ?_)
          have aq424 := hW423.aq h_x
          have raw_closesSums := h421.2
          have e425 : vi V422 x 31 = vi W289 x 31 := vi_fr hF420 h_x h_x (by decide +kernel)
          have hgm := GM.clo (by assumption) (by assumption) raw_closesSums.2 (by omega)
          have hge := hgm.1.1
          refine GO.aload_n dX12_readsSum_53 rfl rfl ?_
          refine GO.getA (n := 220) h_x fl_RX12_91 rfl rfl rfl rfl dX12_readsSum_54 (fun hv429 h428 => ?_)
          refine GO.aload_n dX12_readsSum_57 rfl rfl ?_
          refine GO.getI h_x fl_RX12_473 rfl rfl dX12_readsSum_58 (fun l430 u431 => ?_)
          refine GO.ldcw (X := 1048576) dX12_readsSum_61 gw_2078 rfl ?_
          refine GO.iload_n dX12_readsSum_64 rfl rfl ?_
          refine GO.imul dX12_readsSum_65 ?_
          have q432 : -2147483648 ≤ vi V422 x 37 ∧ vi V422 x 37 ≤ 2147483647 := vi_ir
          have q433 : -2147483648 ≤ vi W289 x 37 ∧ vi W289 x 37 ≤ 2147483647 := vi_ir
          have q434 : -2147483648 ≤ vi W289 x 31 ∧ vi W289 x 31 ≤ 2147483647 := vi_ir
          have q435 : -2147483648 ≤ vi W289 x 32 ∧ vi W289 x 32 ≤ 2147483647 := vi_ir
          have q436 : -2147483648 ≤ vi W289 x 36 ∧ vi W289 x 36 ≤ 2147483647 := vi_ir
          have q437 : -2147483648 ≤ vi V422 x 36 ∧ vi V422 x 36 ≤ 2147483647 := vi_ir
          refine GO.iast (t := 33) rfl rfl (by decide +kernel) h428 vi_ir (by omega) (by omega) ⟨by omega, by omega⟩ (by omega) (by omega) dX12_readsSum_66 (fun V439 e438 => ?_)
          have k440 := st_wt e438 aq424 h_x (vq_of hv429) ⟨by omega, by omega⟩
          have sS441 : sd V439 x = sd V422 x := k440.2.1.trans (rfl : sd V422 x = sd V422 x)
          have sQ442 : wt V439 x = updf (wt V422 x) (vi V422 x 37).toNat (1048576 * X301) := k440.2.2.trans (congrArg (fun f => updf f (vi V422 x 37).toNat (1048576 * X301)) (rfl : wt V422 x = wt V422 x))
          refine GO.aload_n dX12_readsSum_67 rfl rfl ?_
          refine GO.aload_n dX12_readsSum_68 rfl rfl ?_
          refine GO.getI h_x fl_RX12_473 rfl rfl dX12_readsSum_69 (fun l443 u444 => ?_)
          have e445 : vi V439 x 37 = vi V422 x 37 := vi_up e438 (Or.inl (K_ne h_x h428 (by decide)))
          refine GO.iconst dX12_readsSum_72 ?_
          refine GO.iadd dX12_readsSum_73 ?_
          refine GO.putI h_x fp_RX12_473 rfl (by decide +kernel) ⟨by omega, by omega⟩ (by omega) (by omega) dX12_readsSum_74 (fun V447 e446 => ?_)
          have k448 := st_fld e446 k440.1 h_x (by decide) (by decide)
          have sS449 : sd V447 x = sd V422 x := k448.2.1.trans sS441
          have sQ450 : wt V447 x = updf (wt V422 x) (vi V422 x 37).toNat (1048576 * X301) := k448.2.2.trans sQ442
          refine GO.aload_n dX12_readsSum_77 rfl rfl ?_
          refine GO.aload_n dX12_readsSum_78 rfl rfl ?_
          refine GO.getI h_x fl_RX12_443 rfl rfl dX12_readsSum_79 (fun l451 u452 => ?_)
          have e454 : vi V439 x 31 = vi V422 x 31 := vi_up e438 (Or.inl (K_ne h_x h428 (by decide)))
          have e453 : vi V447 x 31 = vi V439 x 31 := vi_up e446 (Or.inr (by decide))
          refine GO.iconst dX12_readsSum_82 ?_
          refine GO.iadd dX12_readsSum_83 ?_
          have e456 : vi V439 x 36 = vi V422 x 36 := vi_up e438 (Or.inl (K_ne h_x h428 (by decide)))
          have e455 : vi V447 x 36 = vi V439 x 36 := vi_up e446 (Or.inr (by decide))
          have e457 : vi V447 x 37 = (vi V439 x 37) + 1 := upd2_int e446 ⟨by omega, by omega⟩
          refine GO.putI h_x fp_RX12_443 rfl (by decide +kernel) ⟨by omega, by omega⟩ (by omega) (by omega) dX12_readsSum_84 (fun V459 e458 => ?_)
          have k460 := st_fld e458 k448.1 h_x (by decide) (by decide)
          have sS461 : sd V459 x = sd V422 x := k460.2.1.trans sS449
          have sQ462 : wt V459 x = updf (wt V422 x) (vi V422 x 37).toNat (1048576 * X301) := k460.2.2.trans sQ450
          have e463 : vi V459 x 31 = (vi V447 x 31) + 1 := upd2_int e458 ⟨by omega, by omega⟩
          have e464 : vi V459 x 36 = vi V447 x 36 := vi_up e458 (Or.inr (by decide))
          have e465 : vi V459 x 37 = vi V447 x 37 := vi_up e458 (Or.inr (by decide))
          refine GO.aload_n dX12_readsSum_87 rfl rfl ?_
          refine GO.callV (ci := 11) (N := mX12_readsFactor) dX12_readsSum_88 (RX12, TX12, 151) rfl gV_RX12_492 h_x (t_X12_readsFactor h_x (by omega) ((by first | assumption | exact RJ.pushS raw_closesSums.1 (by omega) (by omega) (sS461) (sQ462) (by omega) (by omega) (by omega)))) rfl [] rfl rfl (Nat.le_of_ble_eq_true rfl) rfl (k_is fun X466 V470 r467 h468 hF469 => ?_)
          refine GO.useWT (fun hW471 => ?_)
          have aq472 := hW471.aq h_x
          have raw_readsFactor := h468.2.2.2
          refine GO.if_ne (tgt := 176) dX12_readsSum_91 (by decide) r467 (fun c475 => ?_) (fun c475 => ?_)
          ·
            have q476 := h468.2.1 (by omega)
            refine GO.goto (tgt := 14) dX12_readsSum_176 (by decide) ?_
            refine GO.drop [true, true, false] rfl ?_
            have q477 : -2147483648 ≤ vi V470 x 31 ∧ vi V470 x 31 ≤ 2147483647 := vi_ir
            have q478 : -2147483648 ≤ vi V470 x 37 ∧ vi V470 x 37 ≤ 2147483647 := vi_ir
            have e483 : vi V422 x 32 = vi W289 x 32 := vi_fr hF420 h_x h_x (by decide +kernel)
            have e482 : vi V439 x 32 = vi V422 x 32 := vi_up e438 (Or.inl (K_ne h_x h428 (by decide)))
            have e481 : vi V447 x 32 = vi V439 x 32 := vi_up e446 (Or.inr (by decide))
            have e480 : vi V459 x 32 = vi V447 x 32 := vi_up e458 (Or.inr (by decide))
            have e479 : vi V470 x 32 = vi V459 x 32 := vi_fr hF469 h_x h_x (by decide +kernel)
            exact ih290  V470 ⟨by omega, (by first | exact raw_readsFactor.1 (by omega) | exact RJ.zz (raw_readsFactor.1 (by omega)) (by omega) | exact RJ.pop raw_closesSums.1 (by omega) (by omega) ((rfl : sd V470 x = sd V470 x)) ((rfl : wt V470 x = wt V470 x)) (by omega) (by omega) (by omega)), (by first | exact GM.of (raw_readsFactor.2 (by omega)) | exact GM.fac (GM.push hgm (by omega) (by omega) (sQ462) (by omega)) (raw_readsFactor.2 (by omega))), trivial⟩ (by show ((vi V470 x 32 - vi V470 x 31)).toNat < ((vi W289 x 32 - vi W289 x 31)).toNat; omega)
          ·
            refine GO.iconst dX12_readsSum_94 ?_
            have q484 : -2147483648 ≤ vi V470 x 31 ∧ vi V470 x 31 ≤ 2147483647 := vi_ir
            have q485 : -2147483648 ≤ vi V470 x 37 ∧ vi V470 x 37 ≤ 2147483647 := vi_ir
            exact GO.retz rfl rfl dX12_readsSum_95 (Or.inl rfl) ⟨rfl, _, rfl, (ir_c rfl), ⟨Or.inl rfl, fun h => absurd rfl h, fun _ => trivial, (by first | exact fun h => absurd rfl h | exact fun _ => raw_closesSums.1), (by first | exact fun h => absurd rfl h)⟩⟩
        ·
          refine GO.iconst dX12_readsSum_45 ?_
          refine GO.goto (tgt := 50) dX12_readsSum_46 (by decide) ?_
          refine GO.callV (ci := 11) (N := mX12_closesSums) dX12_readsSum_50 (RX12, TX12, 151) rfl gV_RX12_498 h_x (t_X12_closesSums h_x (ir_c rfl) (by omega) (by assumption) (by omega)) rfl [] rfl rfl (Nat.le_of_ble_eq_true rfl) rfl (k_vs fun V488 h487 hF486 => ?_)
          refine GO.useWT (fun hW489 => ?_)
          have aq490 := hW489.aq h_x
          have raw_closesSums := h487.2
          have e491 : vi V488 x 31 = vi W289 x 31 := vi_fr hF486 h_x h_x (by decide +kernel)
          have hgm := GM.clo (by assumption) (by assumption) raw_closesSums.2 (by omega)
          have hge := hgm.1.1
          refine GO.aload_n dX12_readsSum_53 rfl rfl ?_
          refine GO.getA (n := 220) h_x fl_RX12_91 rfl rfl rfl rfl dX12_readsSum_54 (fun hv495 h494 => ?_)
          refine GO.aload_n dX12_readsSum_57 rfl rfl ?_
          refine GO.getI h_x fl_RX12_473 rfl rfl dX12_readsSum_58 (fun l496 u497 => ?_)
          refine GO.ldcw (X := 1048576) dX12_readsSum_61 gw_2078 rfl ?_
          refine GO.iload_n dX12_readsSum_64 rfl rfl ?_
          refine GO.imul dX12_readsSum_65 ?_
          have q498 : -2147483648 ≤ vi V488 x 37 ∧ vi V488 x 37 ≤ 2147483647 := vi_ir
          have q499 : -2147483648 ≤ vi W289 x 37 ∧ vi W289 x 37 ≤ 2147483647 := vi_ir
          have q500 : -2147483648 ≤ vi W289 x 31 ∧ vi W289 x 31 ≤ 2147483647 := vi_ir
          have q501 : -2147483648 ≤ vi W289 x 32 ∧ vi W289 x 32 ≤ 2147483647 := vi_ir
          have q502 : -2147483648 ≤ vi W289 x 36 ∧ vi W289 x 36 ≤ 2147483647 := vi_ir
          have q503 : -2147483648 ≤ vi V488 x 36 ∧ vi V488 x 36 ≤ 2147483647 := vi_ir
          refine GO.iast (t := 33) rfl rfl (by decide +kernel) h494 vi_ir (by omega) (by omega) ⟨by omega, by omega⟩ (by omega) (by omega) dX12_readsSum_66 (fun V505 e504 => ?_)
          have k506 := st_wt e504 aq490 h_x (vq_of hv495) ⟨by omega, by omega⟩
          have sS507 : sd V505 x = sd V488 x := k506.2.1.trans (rfl : sd V488 x = sd V488 x)
          have sQ508 : wt V505 x = updf (wt V488 x) (vi V488 x 37).toNat (1048576 * X301) := k506.2.2.trans (congrArg (fun f => updf f (vi V488 x 37).toNat (1048576 * X301)) (rfl : wt V488 x = wt V488 x))
          refine GO.aload_n dX12_readsSum_67 rfl rfl ?_
          refine GO.aload_n dX12_readsSum_68 rfl rfl ?_
          refine GO.getI h_x fl_RX12_473 rfl rfl dX12_readsSum_69 (fun l509 u510 => ?_)
          have e511 : vi V505 x 37 = vi V488 x 37 := vi_up e504 (Or.inl (K_ne h_x h494 (by decide)))
          refine GO.iconst dX12_readsSum_72 ?_
          refine GO.iadd dX12_readsSum_73 ?_
          refine GO.putI h_x fp_RX12_473 rfl (by decide +kernel) ⟨by omega, by omega⟩ (by omega) (by omega) dX12_readsSum_74 (fun V513 e512 => ?_)
          have k514 := st_fld e512 k506.1 h_x (by decide) (by decide)
          have sS515 : sd V513 x = sd V488 x := k514.2.1.trans sS507
          have sQ516 : wt V513 x = updf (wt V488 x) (vi V488 x 37).toNat (1048576 * X301) := k514.2.2.trans sQ508
          refine GO.aload_n dX12_readsSum_77 rfl rfl ?_
          refine GO.aload_n dX12_readsSum_78 rfl rfl ?_
          refine GO.getI h_x fl_RX12_443 rfl rfl dX12_readsSum_79 (fun l517 u518 => ?_)
          have e520 : vi V505 x 31 = vi V488 x 31 := vi_up e504 (Or.inl (K_ne h_x h494 (by decide)))
          have e519 : vi V513 x 31 = vi V505 x 31 := vi_up e512 (Or.inr (by decide))
          refine GO.iconst dX12_readsSum_82 ?_
          refine GO.iadd dX12_readsSum_83 ?_
          have e522 : vi V505 x 36 = vi V488 x 36 := vi_up e504 (Or.inl (K_ne h_x h494 (by decide)))
          have e521 : vi V513 x 36 = vi V505 x 36 := vi_up e512 (Or.inr (by decide))
          have e523 : vi V513 x 37 = (vi V505 x 37) + 1 := upd2_int e512 ⟨by omega, by omega⟩
          refine GO.putI h_x fp_RX12_443 rfl (by decide +kernel) ⟨by omega, by omega⟩ (by omega) (by omega) dX12_readsSum_84 (fun V525 e524 => ?_)
          have k526 := st_fld e524 k514.1 h_x (by decide) (by decide)
          have sS527 : sd V525 x = sd V488 x := k526.2.1.trans sS515
          have sQ528 : wt V525 x = updf (wt V488 x) (vi V488 x 37).toNat (1048576 * X301) := k526.2.2.trans sQ516
          have e529 : vi V525 x 31 = (vi V513 x 31) + 1 := upd2_int e524 ⟨by omega, by omega⟩
          have e530 : vi V525 x 36 = vi V513 x 36 := vi_up e524 (Or.inr (by decide))
          have e531 : vi V525 x 37 = vi V513 x 37 := vi_up e524 (Or.inr (by decide))
          refine GO.aload_n dX12_readsSum_87 rfl rfl ?_
          refine GO.callV (ci := 11) (N := mX12_readsFactor) dX12_readsSum_88 (RX12, TX12, 151) rfl gV_RX12_492 h_x (t_X12_readsFactor h_x (by omega) ((by first | assumption | exact RJ.pushS raw_closesSums.1 (by omega) (by omega) (sS527) (sQ528) (by omega) (by omega) (by omega)))) rfl [] rfl rfl (Nat.le_of_ble_eq_true rfl) rfl (k_is fun X532 V536 r533 h534 hF535 => ?_)
          refine GO.useWT (fun hW537 => ?_)
          have aq538 := hW537.aq h_x
          have raw_readsFactor := h534.2.2.2
          refine GO.if_ne (tgt := 176) dX12_readsSum_91 (by decide) r533 (fun c541 => ?_) (fun c541 => ?_)
          ·
            have q542 := h534.2.1 (by omega)
            refine GO.goto (tgt := 14) dX12_readsSum_176 (by decide) ?_
            refine GO.drop [true, true, false] rfl ?_
            have q543 : -2147483648 ≤ vi V536 x 31 ∧ vi V536 x 31 ≤ 2147483647 := vi_ir
            have q544 : -2147483648 ≤ vi V536 x 37 ∧ vi V536 x 37 ≤ 2147483647 := vi_ir
            have e549 : vi V488 x 32 = vi W289 x 32 := vi_fr hF486 h_x h_x (by decide +kernel)
            have e548 : vi V505 x 32 = vi V488 x 32 := vi_up e504 (Or.inl (K_ne h_x h494 (by decide)))
            have e547 : vi V513 x 32 = vi V505 x 32 := vi_up e512 (Or.inr (by decide))
            have e546 : vi V525 x 32 = vi V513 x 32 := vi_up e524 (Or.inr (by decide))
            have e545 : vi V536 x 32 = vi V525 x 32 := vi_fr hF535 h_x h_x (by decide +kernel)
            exact ih290  V536 ⟨by omega, (by first | exact raw_readsFactor.1 (by omega) | exact RJ.zz (raw_readsFactor.1 (by omega)) (by omega) | exact RJ.pop raw_closesSums.1 (by omega) (by omega) ((rfl : sd V536 x = sd V536 x)) ((rfl : wt V536 x = wt V536 x)) (by omega) (by omega) (by omega)), (by first | exact GM.of (raw_readsFactor.2 (by omega)) | exact GM.fac (GM.push hgm (by omega) (by omega) (sQ528) (by omega)) (raw_readsFactor.2 (by omega))), trivial⟩ (by show ((vi V536 x 32 - vi V536 x 31)).toNat < ((vi W289 x 32 - vi W289 x 31)).toNat; omega)
          ·
            refine GO.iconst dX12_readsSum_94 ?_
            have q550 : -2147483648 ≤ vi V536 x 31 ∧ vi V536 x 31 ≤ 2147483647 := vi_ir
            have q551 : -2147483648 ≤ vi V536 x 37 ∧ vi V536 x 37 ≤ 2147483647 := vi_ir
            exact GO.retz rfl rfl dX12_readsSum_95 (Or.inl rfl) ⟨rfl, _, rfl, (ir_c rfl), ⟨Or.inl rfl, fun h => absurd rfl h, fun _ => trivial, (by first | exact fun h => absurd rfl h | exact fun _ => raw_closesSums.1), (by first | exact fun h => absurd rfl h)⟩⟩
    ·
      refine GO.iconst dX12_readsSum_22 ?_
      refine GO.goto (tgt := 33) dX12_readsSum_23 (by decide) ?_
      refine GO.istore_n (ls1 := [some (.ref x), some (ti z5), some (ti (-1))]) dX12_readsSum_33 rfl rfl rfl ?_
      refine GO.iload_n dX12_readsSum_34 rfl rfl ?_
      refine GO.iconst dX12_readsSum_35 ?_
      refine GO.icmp_eq (tgt := 96) dX12_readsSum_36 (by decide) (ir_c rfl) (ir_c rfl) (fun c552 => ?_) (fun h => by exfalso; omega)
      refine GO.aload_n dX12_readsSum_96 rfl rfl ?_
      refine GO.callV (ci := 11) (N := mX12_sign) dX12_readsSum_97 (RX12, TX12, 151) rfl gV_RX12_449 h_x (t_X12_sign h_x) rfl [] rfl rfl (Nat.le_of_ble_eq_true rfl) rfl (k_ip fun X553 r554 h555 => ?_)
      refine GO.bipush dX12_readsSum_100 rfl ?_
      refine GO.icmp_ne (tgt := 151) dX12_readsSum_102 (by decide) r554 (ir_c rfl) (fun c556 => ?_) (fun h => by exfalso; omega)
      refine GO.aload_n dX12_readsSum_151 rfl rfl ?_
      refine GO.iload_n dX12_readsSum_152 rfl rfl ?_
      have q557 : -2147483648 ≤ vi W289 x 37 ∧ vi W289 x 37 ≤ 2147483647 := vi_ir
      have q558 : -2147483648 ≤ vi W289 x 31 ∧ vi W289 x 31 ≤ 2147483647 := vi_ir
      have q559 : -2147483648 ≤ vi W289 x 36 ∧ vi W289 x 36 ≤ 2147483647 := vi_ir
      refine GO.callV (ci := 11) (N := mX12_hasOpenSum) dX12_readsSum_153 (RX12, TX12, 151) rfl gV_RX12_502 h_x (t_X12_hasOpenSum h_x r7 (by omega)) rfl [] rfl rfl (Nat.le_of_ble_eq_true rfl) rfl (k_ip fun X560 r561 h562 => ?_)
      have raw_hasOpenSum := h562.2.2.2
      refine GO.if_eq (tgt := 169) dX12_readsSum_156 (by decide) r561 (fun c563 => ?_) (fun c563 => ?_)
      ·
        refine GO.aload_n dX12_readsSum_169 rfl rfl ?_
        refine GO.iconst dX12_readsSum_170 ?_
        refine GO.callV (ci := 11) (N := mX12_closesSums) dX12_readsSum_171 (RX12, TX12, 151) rfl gV_RX12_498 h_x (t_X12_closesSums h_x (ir_c rfl) (by omega) (by assumption) (by omega)) rfl [] rfl rfl (Nat.le_of_ble_eq_true rfl) rfl (k_vs fun V566 h565 hF564 => ?_)
        refine GO.useWT (fun hW567 => ?_)
        have aq568 := hW567.aq h_x
        have raw_closesSums := h565.2
        have e569 : vi V566 x 31 = vi W289 x 31 := vi_fr hF564 h_x h_x (by decide +kernel)
        have hsq := GM.fin (by assumption) (by assumption) raw_closesSums.2 (by omega) (by omega) raw_hasOpenSum (by omega)
        have hsq1 := hsq.1
        refine GO.iconst dX12_readsSum_174 ?_
        have q572 : -2147483648 ≤ vi V566 x 37 ∧ vi V566 x 37 ≤ 2147483647 := vi_ir
        have q573 : -2147483648 ≤ vi V566 x 36 ∧ vi V566 x 36 ≤ 2147483647 := vi_ir
        exact GO.retz rfl rfl dX12_readsSum_175 (Or.inr rfl) ⟨rfl, _, rfl, (ir_c rfl), ⟨Or.inr rfl, fun h => by omega, fun _ => trivial, (by first | exact fun h => absurd h (by decide) | exact fun _ => raw_closesSums.1), (by first | exact fun h => absurd h (by decide) | exact fun _ => hsq)⟩⟩
      ·
        refine GO.aload_n dX12_readsSum_159 rfl rfl ?_
        refine GO.iconst dX12_readsSum_160 ?_
        refine GO.aload_n dX12_readsSum_161 rfl rfl ?_
        refine GO.getI h_x fl_RX12_443 rfl rfl dX12_readsSum_162 (fun l574 u575 => ?_)
        refine GO.callV (ci := 11) (N := mX12_wrong) dX12_readsSum_165 (RX12, TX12, 151) rfl gV_RX12_456 h_x (t_X12_wrong h_x (ir_c rfl) vi_ir) rfl [] rfl rfl (Nat.le_of_ble_eq_true rfl) rfl (k_is fun X576 V580 r577 h578 hF579 => ?_)
        have k581 := st_fr hF579 aq293 h_x (by decide +kernel) (by decide +kernel) (by decide +kernel) (by decide +kernel)
        have sS582 : sd V580 x = sd W289 x := k581.2.1.trans (rfl : sd W289 x = sd W289 x)
        have sQ583 : wt V580 x = wt W289 x := k581.2.2.trans (rfl : wt W289 x = wt W289 x)
        have e584 : vi V580 x 31 = vi W289 x 31 := vi_fr hF579 h_x h_x (by decide +kernel)
        have e585 : vi V580 x 37 = vi W289 x 37 := vi_fr hF579 h_x h_x (by decide +kernel)
        exact GO.retz rfl rfl dX12_readsSum_168 (by omega) ⟨rfl, _, rfl, r577, ⟨by omega, fun h => by omega, fun _ => trivial, (by first | exact fun h => absurd h (by omega)), (by first | exact fun h => absurd h (by omega))⟩⟩
  ·
    refine GO.iconst dX12_readsSum_12 ?_
    have q586 : -2147483648 ≤ vi V16 x 31 ∧ vi V16 x 31 ≤ 2147483647 := vi_ir
    have q587 : -2147483648 ≤ vi V16 x 37 ∧ vi V16 x 37 ≤ 2147483647 := vi_ir
    exact GO.retz rfl rfl dX12_readsSum_13 (Or.inl rfl) ⟨rfl, _, rfl, (ir_c rfl), ⟨Or.inl rfl, fun h => absurd rfl h, fun _ => trivial, (by first | exact fun h => absurd rfl h), (by first | exact fun h => absurd rfl h)⟩⟩

set_option maxHeartbeats 1000000 in
theorem t_X12_endsPiece {K : Kmap} {V : Vmap} {x : Nat} {fr : Nat} {S0 : Nat → Int} {s z : Int} (h_x : K x = some (0, 11)) (w_0 : RJ V x fr S0 s z) (w_1 : 1 ≤ z) (w_2 : NS V x) (w_3 : 1 ≤ vi V x 37) : MC mX12_endsPiece K V [.ref x] (VS K (fun V1 => (vi V1 x 31 = vi V x 31 ∧ vi V1 x 36 ≥ 0 ∧ vi V1 x 37 ≤ vi V x 37 ∧ vi V1 x 37 ≥ 1) ∧ (RJ V1 x fr S0 s z) ∧ (NS V1 x))) := by
  refine MC.start 0 (by decide +kernel) rfl rfl rfl (ls0 := [some (.ref x)]) rfl ?_
  refine GO.useWT (fun hW1 => ?_)
  have aq2 := hW1.aq h_x
  have hrd := (hW1).rd h_x
  have hle := RJ.le (V := V) (x := x) (fr := fr) (S0 := S0) (s := s) (z := z) (by assumption)
  have q3 : -2147483648 ≤ vi V x 31 ∧ vi V x 31 ≤ 2147483647 := vi_ir
  have q4 : -2147483648 ≤ vi V x 37 ∧ vi V x 37 ≤ 2147483647 := vi_ir
  have q5 : -2147483648 ≤ vi V x 36 ∧ vi V x 36 ≤ 2147483647 := vi_ir
  refine GO.loop0 (fun  W => (vi W x 31 = vi V x 31 ∧ vi W x 36 ≥ vi V x 36 ∧ vi W x 37 ≤ vi V x 37 ∧ vi W x 37 ≥ 1) ∧ (RJ W x fr S0 s z) ∧ (NS W x) ∧ True) (fun  W => (vi W x 37).toNat)  ⟨by omega, (by first | assumption), (by first | assumption), trivial⟩ (fun W41 hp43 ih42 => ?_)
  obtain ⟨n_W41, w0_W41, w1_W41, -⟩ := hp43
  show GO mX12_endsPiece K V (VS K (fun V1 => (vi V1 x 31 = vi V x 31 ∧ vi V1 x 36 ≥ 0 ∧ vi V1 x 37 ≤ vi V x 37 ∧ vi V1 x 37 ≥ 1) ∧ (RJ V1 x fr S0 s z) ∧ (NS V1 x))) K W41 0 0 0 [some (.ref x)] []
  refine GO.useWT (fun hW44 => ?_)
  have aq45 := hW44.aq h_x
  have hrd := (hW44).rd h_x
  have hle := RJ.le (V := W41) (x := x) (fr := fr) (S0 := S0) (s := s) (z := z) (by assumption)
  refine GO.aload_n dX12_endsPiece_0 rfl rfl ?_
  refine GO.callV (ci := 11) (N := mX12_top) dX12_endsPiece_1 (RX12, TX12, 151) rfl gV_RX12_476 h_x (t_X12_top h_x) rfl [] rfl rfl (Nat.le_of_ble_eq_true rfl) rfl (k_ip fun X46 r47 h48 => ?_)
  refine GO.bipush dX12_endsPiece_4 rfl ?_
  refine GO.icmp_ne (tgt := 39) dX12_endsPiece_6 (by decide) r47 (ir_c rfl) (fun c49 => ?_) (fun c49 => ?_)
  ·
    have q50 : -2147483648 ≤ vi W41 x 31 ∧ vi W41 x 31 ≤ 2147483647 := vi_ir
    have q51 : -2147483648 ≤ vi W41 x 37 ∧ vi W41 x 37 ≤ 2147483647 := vi_ir
    have q52 : -2147483648 ≤ vi W41 x 36 ∧ vi W41 x 36 ≤ 2147483647 := vi_ir
    exact GO.retv rfl rfl dX12_endsPiece_39 ⟨rfl, rfl, ⟨by omega, (by first | assumption), (by first | assumption)⟩⟩
  ·
    have htw := RJ.two (V := W41) (by assumption) (by omega)
    refine GO.aload_n dX12_endsPiece_9 rfl rfl ?_
    refine GO.bipush dX12_endsPiece_10 rfl ?_
    refine GO.iconst dX12_endsPiece_12 ?_
    refine GO.callV (ci := 11) (N := mX12_says) dX12_endsPiece_13 (RX12, TX12, 151) rfl gV_RX12_479 h_x (t_X12_says h_x (ir_c rfl) (ir_c rfl) (by omega) (by omega) (by omega) (by omega) ⟨by omega, by omega⟩) rfl [] rfl rfl (Nat.le_of_ble_eq_true rfl) rfl (k_vs fun V55 h54 hF53 => ?_)
    refine GO.useWT (fun hW56 => ?_)
    have aq57 := hW56.aq h_x
    have raw_says := h54.2
    refine GO.aload_n dX12_endsPiece_16 rfl rfl ?_
    refine GO.aload_n dX12_endsPiece_17 rfl rfl ?_
    refine GO.getI h_x fl_RX12_473 rfl rfl dX12_endsPiece_18 (fun l59 u60 => ?_)
    have e61 : vi V55 x 37 = vi W41 x 37 := vi_fr hF53 h_x h_x (by decide +kernel)
    refine GO.iconst dX12_endsPiece_21 ?_
    refine GO.isub dX12_endsPiece_22 ?_
    have q63 : -2147483648 ≤ vi W41 x 37 ∧ vi W41 x 37 ≤ 2147483647 := vi_ir
    have q64 : -2147483648 ≤ vi W41 x 31 ∧ vi W41 x 31 ≤ 2147483647 := vi_ir
    have q65 : -2147483648 ≤ vi W41 x 36 ∧ vi W41 x 36 ≤ 2147483647 := vi_ir
    have q66 : -2147483648 ≤ vi V55 x 36 ∧ vi V55 x 36 ≤ 2147483647 := vi_ir
    refine GO.putI h_x fp_RX12_473 rfl (by decide +kernel) ⟨by omega, by omega⟩ (by omega) (by omega) dX12_endsPiece_23 (fun V67 e62 => ?_)
    have k68 := st_fld e62 aq57 h_x (by decide) (by decide)
    have sS69 : sd V67 x = sd V55 x := k68.2.1.trans (rfl : sd V55 x = sd V55 x)
    have sQ70 : wt V67 x = wt V55 x := k68.2.2.trans (rfl : wt V55 x = wt V55 x)
    refine GO.aload_n dX12_endsPiece_26 rfl rfl ?_
    refine GO.aload_n dX12_endsPiece_27 rfl rfl ?_
    refine GO.getI h_x fl_RX12_470 rfl rfl dX12_endsPiece_28 (fun _ _ => ?_)
    refine GO.iconst dX12_endsPiece_31 ?_
    refine GO.isub dX12_endsPiece_32 ?_
    refine GO.norm (fun z73 r74 _ => ?_)
    refine GO.putI h_x fp_RX12_470 rfl (by decide +kernel) r74 (r74).1 (r74).2 dX12_endsPiece_33 (fun V76 e75 => ?_)
    have k77 := st_fld e75 k68.1 h_x (by decide) (by decide)
    have sS78 : sd V76 x = sd V55 x := k77.2.1.trans sS69
    have sQ79 : wt V76 x = wt V55 x := k77.2.2.trans sQ70
    refine GO.goto (tgt := 0) dX12_endsPiece_36 (by decide) ?_
    have e82 : vi V55 x 31 = vi W41 x 31 := vi_fr hF53 h_x h_x (by decide +kernel)
    have e81 : vi V67 x 31 = vi V55 x 31 := vi_up e62 (Or.inr (by decide))
    have e80 : vi V76 x 31 = vi V67 x 31 := vi_up e75 (Or.inr (by decide))
    have e84 : vi V67 x 36 = vi V55 x 36 := vi_up e62 (Or.inr (by decide))
    have e83 : vi V76 x 36 = vi V67 x 36 := vi_up e75 (Or.inr (by decide))
    have e86 : vi V67 x 37 = (vi V55 x 37) - 1 := upd2_int e62 ⟨by omega, by omega⟩
    have e85 : vi V76 x 37 = vi V67 x 37 := vi_up e75 (Or.inr (by decide))
    exact ih42  V76 ⟨by omega, (by first | assumption | exact RJ.clo (by assumption) (by omega) (by omega) (by omega) ((sS78).trans raw_says.1) ((sQ79).trans raw_says.2) (by omega) (by omega) (by omega) (by omega)), (by first | assumption | exact NS.less (by assumption) ((sQ79).trans raw_says.2) (by omega)), trivial⟩ (by show (vi V76 x 37).toNat < (vi W41 x 37).toNat; omega)

set_option maxHeartbeats 1000000 in
theorem t_X12_lands {K : Kmap} {V : Vmap} {x : Nat} {p0 : Int} {fr : Nat} {S0 : Nat → Int} {s z : Int} (h_x : K x = some (0, 11)) (r_p0 : ir p0) (z_p0 : p0 = 0 ∨ p0 = 1) (w_0 : RJ V x fr S0 s z) (w_1 : z = 1) (w_2 : NS V x) (w_3 : 1 ≤ vi V x 37) : MC mX12_lands K V [.ref x, ti p0] (VS K (fun V1 => (vi V1 x 31 = vi V x 31 ∧ vi V1 x 37 ≤ vi V x 37 ∧ vi V1 x 37 ≥ 1) ∧ (RJ V1 x fr S0 s z) ∧ (NS V1 x) ∧ (p0 ≠ 0 → ¬ (11 ≤ topf V1 x ∧ topf V1 x ≤ 12)))) := by
  refine MC.start 1 (by decide +kernel) rfl rfl rfl (ls0 := [some (.ref x), some (ti p0), none]) rfl ?_
  refine GO.useWT (fun hW1 => ?_)
  have aq2 := hW1.aq h_x
  have hrd := (hW1).rd h_x
  have hle := RJ.le (V := V) (x := x) (fr := fr) (S0 := S0) (s := s) (z := z) (by assumption)
  have q3 : -2147483648 ≤ vi V x 31 ∧ vi V x 31 ≤ 2147483647 := vi_ir
  have q4 : -2147483648 ≤ vi V x 37 ∧ vi V x 37 ≤ 2147483647 := vi_ir
  have q5 : -2147483648 ≤ vi V x 36 ∧ vi V x 36 ≤ 2147483647 := vi_ir
  refine GO.loop0 (fun  W => (vi W x 31 = vi V x 31 ∧ vi W x 36 = vi V x 36 ∧ vi W x 37 ≤ vi V x 37 ∧ vi W x 37 ≥ 1) ∧ (RJ W x fr S0 s z) ∧ (NS W x) ∧ True) (fun  W => (vi W x 37).toNat)  ⟨by omega, (by first | assumption), (by first | assumption | exact NS.less (by assumption) ((rfl : wt V x = wt V x)) (by omega)), trivial⟩ (fun W86 hp88 ih87 => ?_)
  obtain ⟨n_W86, w0_W86, w1_W86, -⟩ := hp88
  show GO mX12_lands K V (VS K (fun V1 => (vi V1 x 31 = vi V x 31 ∧ vi V1 x 37 ≤ vi V x 37 ∧ vi V1 x 37 ≥ 1) ∧ (RJ V1 x fr S0 s z) ∧ (NS V1 x) ∧ (p0 ≠ 0 → ¬ (11 ≤ topf V1 x ∧ topf V1 x ≤ 12)))) K W86 0 0 0 [some (.ref x), some (ti p0), none] []
  refine GO.useWT (fun hW89 => ?_)
  have aq90 := hW89.aq h_x
  have hrd := (hW89).rd h_x
  have hle := RJ.le (V := W86) (x := x) (fr := fr) (S0 := S0) (s := s) (z := z) (by assumption)
  refine GO.aload_n dX12_lands_0 rfl rfl ?_
  refine GO.callV (ci := 11) (N := mX12_top) dX12_lands_1 (RX12, TX12, 151) rfl gV_RX12_476 h_x (t_X12_top h_x) rfl [] rfl rfl (Nat.le_of_ble_eq_true rfl) rfl (k_ip fun X91 r92 h93 => ?_)
  refine GO.bipush dX12_lands_4 rfl ?_
  refine GO.icmp_eq (tgt := 22) dX12_lands_6 (by decide) r92 (ir_c rfl) (fun c94 => ?_) (fun c94 => ?_)
  ·
    have htw := RJ.two (V := W86) (by assumption) (by omega)
    refine GO.aload_n dX12_lands_22 rfl rfl ?_
    refine GO.getA (n := 220) h_x fl_RX12_91 rfl rfl rfl rfl dX12_lands_23 (fun hv96 h95 => ?_)
    refine GO.aload_n dX12_lands_26 rfl rfl ?_
    refine GO.getI h_x fl_RX12_473 rfl rfl dX12_lands_27 (fun l97 u98 => ?_)
    refine GO.iconst dX12_lands_30 ?_
    refine GO.isub dX12_lands_31 ?_
    have q99 : -2147483648 ≤ vi W86 x 37 ∧ vi W86 x 37 ≤ 2147483647 := vi_ir
    have q100 : -2147483648 ≤ vi W86 x 31 ∧ vi W86 x 31 ≤ 2147483647 := vi_ir
    have q101 : -2147483648 ≤ vi W86 x 36 ∧ vi W86 x 36 ≤ 2147483647 := vi_ir
    refine GO.iald (t := 33) rfl rfl h95 ⟨by omega, by omega⟩ (by omega) (by omega) dX12_lands_32 (fun l102 u103 => ?_)
    refine GO.ldcw (X := 1048576) dX12_lands_33 gw_2078 rfl ?_
    refine GO.iremP dX12_lands_36 vi_ir (ir_c rfl) (by omega) (by omega) ?_
    refine GO.name (fun z104 hz105 => ?_)
    refine GO.istore_n (ls1 := [some (.ref x), some (ti p0), some (ti z104)]) dX12_lands_37 rfl rfl rfl ?_
    have hfr := RJ.frm (V := W86) (by assumption) (by omega) rfl (by assumption)
    have hfr1 := hfr.1
    have hfr2 := hfr.2.1
    refine GO.aload_n dX12_lands_38 rfl rfl ?_
    refine GO.getA (n := 220) h_x fl_RX12_88 rfl rfl rfl rfl dX12_lands_39 (fun hv107 h106 => ?_)
    refine GO.iload_n dX12_lands_42 rfl rfl ?_
    refine GO.ldcw (X := 1048576) dX12_lands_43 gw_2078 rfl ?_
    refine GO.aload_n dX12_lands_46 rfl rfl ?_
    refine GO.getRaw h_x fl_RX12_88 hv107 dX12_lands_47 ?_
    refine GO.iload_n dX12_lands_50 rfl rfl ?_
    refine GO.iald (t := 32) rfl rfl h106 ⟨by omega, by omega⟩ (by omega) (by omega) dX12_lands_51 (fun l110 u111 => ?_)
    refine GO.ldcw (X := 1048576) dX12_lands_52 gw_2078 rfl ?_
    refine GO.idivP dX12_lands_55 vi_ir (ir_c rfl) (by omega) (by omega) ?_
    refine GO.imul dX12_lands_56 ?_
    refine GO.aload_n dX12_lands_57 rfl rfl ?_
    refine GO.getI h_x fl_RX12_466 rfl rfl dX12_lands_58 (fun l112 u113 => ?_)
    refine GO.iadd dX12_lands_61 ?_
    refine GO.iast (t := 32) rfl rfl (by decide +kernel) h106 ⟨by omega, by omega⟩ (by omega) (by omega) ⟨by omega, by omega⟩ (by omega) (by omega) dX12_lands_62 (fun V115 e114 => ?_)
    have k116 := st_sd e114 aq90 h_x (vq_of hv107) ⟨by omega, by omega⟩
    have sS117 : sd V115 x = updf (sd W86 x) (z104).toNat ((1048576 * ((vi W86 (vq W86 x 39) (z104).toNat) / 1048576)) + (vi W86 x 36)) := k116.2.1.trans (congrArg (fun f => updf f (z104).toNat ((1048576 * ((vi W86 (vq W86 x 39) (z104).toNat) / 1048576)) + (vi W86 x 36))) (rfl : sd W86 x = sd W86 x))
    have sQ118 : wt V115 x = wt W86 x := k116.2.2.trans (rfl : wt W86 x = wt W86 x)
    refine GO.aload_n dX12_lands_63 rfl rfl ?_
    refine GO.aload_n dX12_lands_64 rfl rfl ?_
    refine GO.getI h_x fl_RX12_473 rfl rfl dX12_lands_65 (fun l119 u120 => ?_)
    have e121 : vi V115 x 37 = vi W86 x 37 := vi_up e114 (Or.inl (K_ne h_x h106 (by decide)))
    refine GO.iconst dX12_lands_68 ?_
    refine GO.isub dX12_lands_69 ?_
    refine GO.putI h_x fp_RX12_473 rfl (by decide +kernel) ⟨by omega, by omega⟩ (by omega) (by omega) dX12_lands_70 (fun V123 e122 => ?_)
    have k124 := st_fld e122 k116.1 h_x (by decide) (by decide)
    have sS125 : sd V123 x = updf (sd W86 x) (z104).toNat ((1048576 * ((vi W86 (vq W86 x 39) (z104).toNat) / 1048576)) + (vi W86 x 36)) := k124.2.1.trans sS117
    have sQ126 : wt V123 x = wt W86 x := k124.2.2.trans sQ118
    refine GO.goto (tgt := 0) dX12_lands_73 (by decide) ?_
    refine GO.drop [true, true, false] rfl ?_
    have e128 : vi V115 x 31 = vi W86 x 31 := vi_up e114 (Or.inl (K_ne h_x h106 (by decide)))
    have e127 : vi V123 x 31 = vi V115 x 31 := vi_up e122 (Or.inr (by decide))
    have e130 : vi V115 x 36 = vi W86 x 36 := vi_up e114 (Or.inl (K_ne h_x h106 (by decide)))
    have e129 : vi V123 x 36 = vi V115 x 36 := vi_up e122 (Or.inr (by decide))
    have e131 : vi V123 x 37 = (vi V115 x 37) - 1 := upd2_int e122 ⟨by omega, by omega⟩
    exact ih87  V123 ⟨by omega, (by first | assumption | exact RJ.land (by assumption) (by assumption) (by omega) (by omega) (by omega) hfr.2.2 (sS125) (sQ126) (by omega) (by omega) (by omega)), (by first | assumption | exact NS.less (by assumption) (sQ126) (by omega)), trivial⟩ (by show (vi V123 x 37).toNat < (vi W86 x 37).toNat; omega)
  ·
    refine GO.iload_n dX12_lands_9 rfl rfl ?_
    refine GO.if_eq (tgt := 76) dX12_lands_10 (by decide) r_p0 (fun c132 => ?_) (fun c132 => ?_)
    ·
      have q133 : -2147483648 ≤ vi W86 x 31 ∧ vi W86 x 31 ≤ 2147483647 := vi_ir
      have q134 : -2147483648 ≤ vi W86 x 37 ∧ vi W86 x 37 ≤ 2147483647 := vi_ir
      have q135 : -2147483648 ≤ vi W86 x 36 ∧ vi W86 x 36 ≤ 2147483647 := vi_ir
      exact GO.retv rfl rfl dX12_lands_76 ⟨rfl, rfl, ⟨by omega, (by first | assumption), (by first | assumption | exact NS.less (by assumption) ((rfl : wt W86 x = wt W86 x)) (by omega)), by omega⟩⟩
    ·
      refine GO.aload_n dX12_lands_13 rfl rfl ?_
      refine GO.callV (ci := 11) (N := mX12_top) dX12_lands_14 (RX12, TX12, 151) rfl gV_RX12_476 h_x (t_X12_top h_x) rfl [] rfl rfl (Nat.le_of_ble_eq_true rfl) rfl (k_ip fun X136 r137 h138 => ?_)
      refine GO.bipush dX12_lands_17 rfl ?_
      refine GO.icmp_ne (tgt := 76) dX12_lands_19 (by decide) r137 (ir_c rfl) (fun c139 => ?_) (fun c139 => ?_)
      ·
        have q140 : -2147483648 ≤ vi W86 x 31 ∧ vi W86 x 31 ≤ 2147483647 := vi_ir
        have q141 : -2147483648 ≤ vi W86 x 37 ∧ vi W86 x 37 ≤ 2147483647 := vi_ir
        have q142 : -2147483648 ≤ vi W86 x 36 ∧ vi W86 x 36 ≤ 2147483647 := vi_ir
        exact GO.retv rfl rfl dX12_lands_76 ⟨rfl, rfl, ⟨by omega, (by first | assumption), (by first | assumption | exact NS.less (by assumption) ((rfl : wt W86 x = wt W86 x)) (by omega)), by omega⟩⟩
      ·
        have htw := RJ.two (V := W86) (by assumption) (by omega)
        refine GO.aload_n dX12_lands_22 rfl rfl ?_
        refine GO.getA (n := 220) h_x fl_RX12_91 rfl rfl rfl rfl dX12_lands_23 (fun hv144 h143 => ?_)
        refine GO.aload_n dX12_lands_26 rfl rfl ?_
        refine GO.getI h_x fl_RX12_473 rfl rfl dX12_lands_27 (fun l145 u146 => ?_)
        refine GO.iconst dX12_lands_30 ?_
        refine GO.isub dX12_lands_31 ?_
        have q147 : -2147483648 ≤ vi W86 x 37 ∧ vi W86 x 37 ≤ 2147483647 := vi_ir
        have q148 : -2147483648 ≤ vi W86 x 31 ∧ vi W86 x 31 ≤ 2147483647 := vi_ir
        have q149 : -2147483648 ≤ vi W86 x 36 ∧ vi W86 x 36 ≤ 2147483647 := vi_ir
        refine GO.iald (t := 33) rfl rfl h143 ⟨by omega, by omega⟩ (by omega) (by omega) dX12_lands_32 (fun l150 u151 => ?_)
        refine GO.ldcw (X := 1048576) dX12_lands_33 gw_2078 rfl ?_
        refine GO.iremP dX12_lands_36 vi_ir (ir_c rfl) (by omega) (by omega) ?_
        refine GO.name (fun z152 hz153 => ?_)
        refine GO.istore_n (ls1 := [some (.ref x), some (ti p0), some (ti z152)]) dX12_lands_37 rfl rfl rfl ?_
        have hfr := RJ.frm (V := W86) (by assumption) (by omega) rfl (by assumption)
        have hfr1 := hfr.1
        have hfr2 := hfr.2.1
        refine GO.aload_n dX12_lands_38 rfl rfl ?_
        refine GO.getA (n := 220) h_x fl_RX12_88 rfl rfl rfl rfl dX12_lands_39 (fun hv155 h154 => ?_)
        refine GO.iload_n dX12_lands_42 rfl rfl ?_
        refine GO.ldcw (X := 1048576) dX12_lands_43 gw_2078 rfl ?_
        refine GO.aload_n dX12_lands_46 rfl rfl ?_
        refine GO.getRaw h_x fl_RX12_88 hv155 dX12_lands_47 ?_
        refine GO.iload_n dX12_lands_50 rfl rfl ?_
        refine GO.iald (t := 32) rfl rfl h154 ⟨by omega, by omega⟩ (by omega) (by omega) dX12_lands_51 (fun l158 u159 => ?_)
        refine GO.ldcw (X := 1048576) dX12_lands_52 gw_2078 rfl ?_
        refine GO.idivP dX12_lands_55 vi_ir (ir_c rfl) (by omega) (by omega) ?_
        refine GO.imul dX12_lands_56 ?_
        refine GO.aload_n dX12_lands_57 rfl rfl ?_
        refine GO.getI h_x fl_RX12_466 rfl rfl dX12_lands_58 (fun l160 u161 => ?_)
        refine GO.iadd dX12_lands_61 ?_
        refine GO.iast (t := 32) rfl rfl (by decide +kernel) h154 ⟨by omega, by omega⟩ (by omega) (by omega) ⟨by omega, by omega⟩ (by omega) (by omega) dX12_lands_62 (fun V163 e162 => ?_)
        have k164 := st_sd e162 aq90 h_x (vq_of hv155) ⟨by omega, by omega⟩
        have sS165 : sd V163 x = updf (sd W86 x) (z152).toNat ((1048576 * ((vi W86 (vq W86 x 39) (z152).toNat) / 1048576)) + (vi W86 x 36)) := k164.2.1.trans (congrArg (fun f => updf f (z152).toNat ((1048576 * ((vi W86 (vq W86 x 39) (z152).toNat) / 1048576)) + (vi W86 x 36))) (rfl : sd W86 x = sd W86 x))
        have sQ166 : wt V163 x = wt W86 x := k164.2.2.trans (rfl : wt W86 x = wt W86 x)
        refine GO.aload_n dX12_lands_63 rfl rfl ?_
        refine GO.aload_n dX12_lands_64 rfl rfl ?_
        refine GO.getI h_x fl_RX12_473 rfl rfl dX12_lands_65 (fun l167 u168 => ?_)
        have e169 : vi V163 x 37 = vi W86 x 37 := vi_up e162 (Or.inl (K_ne h_x h154 (by decide)))
        refine GO.iconst dX12_lands_68 ?_
        refine GO.isub dX12_lands_69 ?_
        refine GO.putI h_x fp_RX12_473 rfl (by decide +kernel) ⟨by omega, by omega⟩ (by omega) (by omega) dX12_lands_70 (fun V171 e170 => ?_)
        have k172 := st_fld e170 k164.1 h_x (by decide) (by decide)
        have sS173 : sd V171 x = updf (sd W86 x) (z152).toNat ((1048576 * ((vi W86 (vq W86 x 39) (z152).toNat) / 1048576)) + (vi W86 x 36)) := k172.2.1.trans sS165
        have sQ174 : wt V171 x = wt W86 x := k172.2.2.trans sQ166
        refine GO.goto (tgt := 0) dX12_lands_73 (by decide) ?_
        refine GO.drop [true, true, false] rfl ?_
        have e176 : vi V163 x 31 = vi W86 x 31 := vi_up e162 (Or.inl (K_ne h_x h154 (by decide)))
        have e175 : vi V171 x 31 = vi V163 x 31 := vi_up e170 (Or.inr (by decide))
        have e178 : vi V163 x 36 = vi W86 x 36 := vi_up e162 (Or.inl (K_ne h_x h154 (by decide)))
        have e177 : vi V171 x 36 = vi V163 x 36 := vi_up e170 (Or.inr (by decide))
        have e179 : vi V171 x 37 = (vi V163 x 37) - 1 := upd2_int e170 ⟨by omega, by omega⟩
        exact ih87  V171 ⟨by omega, (by first | assumption | exact RJ.land (by assumption) (by assumption) (by omega) (by omega) (by omega) hfr.2.2 (sS173) (sQ174) (by omega) (by omega) (by omega)), (by first | assumption | exact NS.less (by assumption) (sQ174) (by omega)), trivial⟩ (by show (vi V171 x 37).toNat < (vi W86 x 37).toNat; omega)

set_option maxHeartbeats 1000000 in
theorem t_X12_jumps {K : Kmap} {V : Vmap} {x : Nat} {p0 : Int} {fr : Nat} {S0 : Nat → Int} {s z : Int} (h_x : K x = some (0, 11)) (r_p0 : ir p0) (q_0 : p0 ≥ 11) (q_1 : p0 ≤ 12) (q_2 : vi V x 31 < vi V x 32) (w_0 : RJ V x fr S0 s z) (w_1 : z = 1) (w_2 : NS V x) (w_3 : 1 ≤ vi V x 37) : MC mX12_jumps K V [.ref x, ti p0] (VS K (fun V1 => (vi V1 x 31 = (vi V x 31 + 1) ∧ vi V1 x 36 ≥ 0 ∧ vi V1 x 37 = (vi V x 37 + 1)) ∧ (RJ V1 x fr S0 s (z - 1)) ∧ (NS V1 x))) := by
  refine MC.start 0 (by decide +kernel) rfl rfl rfl (ls0 := [some (.ref x), some (ti p0)]) rfl ?_
  refine GO.useWT (fun hW1 => ?_)
  have aq2 := hW1.aq h_x
  have hrd := (hW1).rd h_x
  have hle := RJ.le (V := V) (x := x) (fr := fr) (S0 := S0) (s := s) (z := z) (by assumption)
  refine GO.aload_n dX12_jumps_0 rfl rfl ?_
  refine GO.getA (n := 220) h_x fl_RX12_91 rfl rfl rfl rfl dX12_jumps_1 (fun hv4 h3 => ?_)
  refine GO.aload_n dX12_jumps_4 rfl rfl ?_
  refine GO.getI h_x fl_RX12_473 rfl rfl dX12_jumps_5 (fun l5 u6 => ?_)
  refine GO.ldcw (X := 1048576) dX12_jumps_8 gw_2078 rfl ?_
  refine GO.iload_n dX12_jumps_11 rfl rfl ?_
  refine GO.imul dX12_jumps_12 ?_
  refine GO.aload_n dX12_jumps_13 rfl rfl ?_
  refine GO.getI h_x fl_RX12_466 rfl rfl dX12_jumps_14 (fun l7 u8 => ?_)
  refine GO.iadd dX12_jumps_17 ?_
  have q9 : -2147483648 ≤ vi V x 37 ∧ vi V x 37 ≤ 2147483647 := vi_ir
  have q10 : -2147483648 ≤ vi V x 31 ∧ vi V x 31 ≤ 2147483647 := vi_ir
  have q11 : -2147483648 ≤ vi V x 36 ∧ vi V x 36 ≤ 2147483647 := vi_ir
  have q12 : -2147483648 ≤ vi V x 32 ∧ vi V x 32 ≤ 2147483647 := vi_ir
  have q14 : -2147483648 ≤ p0 ∧ p0 ≤ 2147483647 := r_p0
  refine GO.iast (t := 33) rfl rfl (by decide +kernel) h3 vi_ir (by omega) (by omega) ⟨by omega, by omega⟩ (by omega) (by omega) dX12_jumps_18 (fun V15 e13 => ?_)
  have k16 := st_wt e13 aq2 h_x (vq_of hv4) ⟨by omega, by omega⟩
  have sS17 : sd V15 x = sd V x := k16.2.1.trans (rfl : sd V x = sd V x)
  have sQ18 : wt V15 x = updf (wt V x) (vi V x 37).toNat ((1048576 * p0) + (vi V x 36)) := k16.2.2.trans (congrArg (fun f => updf f (vi V x 37).toNat ((1048576 * p0) + (vi V x 36))) (rfl : wt V x = wt V x))
  refine GO.aload_n dX12_jumps_19 rfl rfl ?_
  refine GO.aload_n dX12_jumps_20 rfl rfl ?_
  refine GO.getI h_x fl_RX12_473 rfl rfl dX12_jumps_21 (fun l19 u20 => ?_)
  have e21 : vi V15 x 37 = vi V x 37 := vi_up e13 (Or.inl (K_ne h_x h3 (by decide)))
  refine GO.iconst dX12_jumps_24 ?_
  refine GO.iadd dX12_jumps_25 ?_
  refine GO.putI h_x fp_RX12_473 rfl (by decide +kernel) ⟨by omega, by omega⟩ (by omega) (by omega) dX12_jumps_26 (fun V23 e22 => ?_)
  have k24 := st_fld e22 k16.1 h_x (by decide) (by decide)
  have sS25 : sd V23 x = sd V x := k24.2.1.trans sS17
  have sQ26 : wt V23 x = updf (wt V x) (vi V x 37).toNat ((1048576 * p0) + (vi V x 36)) := k24.2.2.trans sQ18
  refine GO.aload_n dX12_jumps_29 rfl rfl ?_
  refine GO.iload_n dX12_jumps_30 rfl rfl ?_
  refine GO.iconst dX12_jumps_31 ?_
  have e28 : vi V15 x 36 = vi V x 36 := vi_up e13 (Or.inl (K_ne h_x h3 (by decide)))
  have e27 : vi V23 x 36 = vi V15 x 36 := vi_up e22 (Or.inr (by decide))
  refine GO.callV (ci := 11) (N := mX12_says) dX12_jumps_32 (RX12, TX12, 151) rfl gV_RX12_479 h_x (t_X12_says h_x r_p0 (ir_c rfl) (by omega) (by omega) (by omega) (by omega) ⟨by omega, by omega⟩) rfl [] rfl rfl (Nat.le_of_ble_eq_true rfl) rfl (k_vs fun V31 h30 hF29 => ?_)
  refine GO.useWT (fun hW32 => ?_)
  have aq33 := hW32.aq h_x
  have raw_says := h30.2
  refine GO.aload_n dX12_jumps_35 rfl rfl ?_
  refine GO.aload_n dX12_jumps_36 rfl rfl ?_
  refine GO.getI h_x fl_RX12_443 rfl rfl dX12_jumps_37 (fun l35 u36 => ?_)
  have e39 : vi V15 x 31 = vi V x 31 := vi_up e13 (Or.inl (K_ne h_x h3 (by decide)))
  have e38 : vi V23 x 31 = vi V15 x 31 := vi_up e22 (Or.inr (by decide))
  have e37 : vi V31 x 31 = vi V23 x 31 := vi_fr hF29 h_x h_x (by decide +kernel)
  refine GO.iconst dX12_jumps_40 ?_
  refine GO.iadd dX12_jumps_41 ?_
  have q41 : -2147483648 ≤ vi V31 x 36 ∧ vi V31 x 36 ≤ 2147483647 := vi_ir
  refine GO.putI h_x fp_RX12_443 rfl (by decide +kernel) ⟨by omega, by omega⟩ (by omega) (by omega) dX12_jumps_42 (fun V42 e40 => ?_)
  have k43 := st_fld e40 aq33 h_x (by decide) (by decide)
  have sS44 : sd V42 x = sd V31 x := k43.2.1.trans (rfl : sd V31 x = sd V31 x)
  have sQ45 : wt V42 x = wt V31 x := k43.2.2.trans (rfl : wt V31 x = wt V31 x)
  have e46 : vi V42 x 31 = (vi V31 x 31) + 1 := upd2_int e40 ⟨by omega, by omega⟩
  have e47 : vi V42 x 36 = vi V31 x 36 := vi_up e40 (Or.inr (by decide))
  have e50 : vi V23 x 37 = (vi V15 x 37) + 1 := upd2_int e22 ⟨by omega, by omega⟩
  have e49 : vi V31 x 37 = vi V23 x 37 := vi_fr hF29 h_x h_x (by decide +kernel)
  have e48 : vi V42 x 37 = vi V31 x 37 := vi_up e40 (Or.inr (by decide))
  exact GO.retv rfl rfl dX12_jumps_45 ⟨rfl, rfl, ⟨by omega, RJ.jump (by assumption) (by assumption) (by omega) (by omega) (by omega) (upd_eq (sS44) raw_says.1 (sS25) (by omega)) ((sQ45).trans (raw_says.2.trans (sQ26))) (by omega) (by omega) (by omega) (by omega), NS.push (by assumption) (by omega) (by omega) ((sQ45).trans (raw_says.2.trans (sQ26))) (by omega) (by omega)⟩⟩
