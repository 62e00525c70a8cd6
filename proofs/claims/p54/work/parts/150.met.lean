def mX12_endOf : MRec := (RX12, cX12_endOf, 6, (some .int), yX12_endOf, 2, 44, 0, 0, 0)
def mX12_worstEnd : MRec := (RX12, cX12_worstEnd, 5, (some .int), yX12_worstEnd, 3, 69, 0, 0, 0)
def mX12_swaps : MRec := (RX12, cX12_swaps, 4, (none : Option Jvm.ClassFile.FieldType), yX12_swaps, 0, 0, 0, 0, 157608024785577916849116160400574455220318957081861786671793173616982887085988842445657065019539662563226511961227264)
def mX12_nextOrder : MRec := (RX12, cX12_nextOrder, 5, (some .boolean), yX12_nextOrder, 1, 23, 0, 0, 157608024785577916849116160400574455220318957081861786671793173616982887085988842445657065019539662563226511961227264)
def mX12_plans : MRec := (RX12, cX12_plans, 8, (none : Option Jvm.ClassFile.FieldType), yX12_plans, 4, 93, 0, 0, 472824074356733750547348481201723365661188455424059992406226662820966037073673067306302476186697902857695362142961664)
def mX12_plan : MRec := (RX12, cX12_plan, 4, (some .int), yX12_plan, 5, 120, 0, 0, 472824074356733750547348481201723365661188455424059992406226662820966037073673067306302476186697902857695362142961664)
set_option maxHeartbeats 1000000 in
theorem t_X12_endOf {K : Kmap} {V : Vmap} {x : Nat} {p0 : Int} {p1 : Int} (h_x : K x = some (0, 11)) (r_p0 : ir p0) (r_p1 : ir p1) (q_0 : p0 ≥ 0) (q_1 : p0 ≤ 2) : MC mX12_endOf K V [.ref x, ti p0, ti p1] (IP K V (fun X => (X ≥ (-2147483648) ∧ X ≤ 2147483647) ∧ (EOS V x p0 p1 X))) := by
  refine MC.start 3 (by decide +kernel) rfl rfl rfl (ls0 := [some (.ref x), some (ti p0), some (ti p1), none, none, none]) rfl ?_
  refine GO.useWT (fun hW_0 => ?_)
  refine GO.iload_n dX12_endOf_0 rfl rfl ?_
  refine GO.istore_n (ls1 := [some (.ref x), some (ti p0), some (ti p1), some (ti p1), none, none]) dX12_endOf_1 rfl rfl rfl ?_
  refine GO.iconst dX12_endOf_2 ?_
  refine GO.istore (ls1 := [some (.ref x), some (ti p0), some (ti p1), some (ti p1), some (ti 0), none]) dX12_endOf_3 rfl rfl ?_
  have q306 : -2147483648 ≤ p1 ∧ p1 ≤ 2147483647 := r_p1
  refine GO.loop2 (fun i1 i2 W => (-2147483648) ≤ i1 ∧ i1 ≤ 2147483647 ∧ 0 ≤ i2 ∧ i2 ≤ 8 ∧ (i2 ≥ 0) ∧ (EOI W x p0 p1 i1 i2) ∧ V = W) (fun i1 i2 => [some (.ref x), some (ti p0), some (ti p1), some (ti i1), some (ti i2), none]) (fun i1 i2 W => (2147483647 - i2).toNat) p1 0 ⟨by omega, by omega, by omega, by omega, by omega, (by first | exact EOI.beg hW_0 h_x | exact EOI.step heo hea (by omega) hW_0 h_x (by omega) rfl hjj (by omega) (by omega) (by omega)), rfl⟩ rfl (fun i1 i2 V305 hp308 ih307 => ?_)
  obtain ⟨l_i1, u_i1, l_i2, u_i2, n_i1, heo, rfl⟩ := hp308
  have r_i1 : ir i1 := ⟨by omega, by omega⟩
  have r_i2 : ir i2 := ⟨by omega, by omega⟩
  show GO mX12_endOf K V (IP K V (fun X => (X ≥ (-2147483648) ∧ X ≤ 2147483647) ∧ (EOS V x p0 p1 X))) K V 0 0 5 [some (.ref x), some (ti p0), some (ti p1), some (ti i1), some (ti i2), none] []
  refine GO.iload dX12_endOf_5 rfl ?_
  refine GO.aload_n dX12_endOf_7 rfl rfl ?_
  refine GO.getI h_x fl_RX12_736 rfl rfl dX12_endOf_8 (fun l309 u310 => ?_)
  refine GO.icmp_ge (tgt := 120) dX12_endOf_11 (by decide) r_i2 vi_ir (fun c311 => ?_) (fun c311 => ?_)
  ·
    refine GO.iload_n dX12_endOf_120 rfl rfl ?_
    exact GO.reti rfl rfl dX12_endOf_121 ⟨rfl, rfl, _, rfl, r_i1, ⟨(by first | exact trivial | omega), (by first | exact EOS.end heo (by omega) rfl | exact EOS.bad hea (by omega) (by omega) hW_0 h_x (by omega) rfl hjj (by omega) rfl)⟩⟩
  ·
    refine GO.iload dX12_endOf_14 rfl ?_
    refine GO.if_le (tgt := 64) dX12_endOf_16 (by decide) r_i2 (fun c312 => ?_) (fun c312 => ?_)
    ·
      have hea : EOA V x p0 p1 i2 i1 := by first | exact EOI.a0 heo (by omega) | exact EOI.a1 heo hW_0 h_x (by omega) (by omega) (by omega) (by omega) rfl rfl rw58 (by first | assumption | exact fun _ => rfl) (by first | assumption | exact fun _ => rfl)
      refine GO.bipush dX12_endOf_64 rfl ?_
      refine GO.iload_n dX12_endOf_66 rfl rfl ?_
      refine GO.imul dX12_endOf_67 ?_
      refine GO.aload_n dX12_endOf_68 rfl rfl ?_
      refine GO.getA (n := 8) h_x fl_RX12_340 rfl rfl rfl rfl dX12_endOf_69 (fun hv314 h313 => ?_)
      refine GO.iload dX12_endOf_72 rfl ?_
      refine GO.iald (t := 115) rfl rfl h313 r_i2 (by omega) (by omega) dX12_endOf_74 (fun l315 u316 => ?_)
      refine GO.iadd dX12_endOf_75 ?_
      refine GO.name (fun z317 hz318 => ?_)
      refine GO.istore (ls1 := [some (.ref x), some (ti p0), some (ti p1), some (ti i1), some (ti i2), some (ti z317)]) dX12_endOf_76 rfl rfl ?_
      have hjj : (((z317).toNat : Nat) : Int) = 8 * p0 + ar 143 V x (i2).toNat := by unfold ar; omega
      refine GO.iload_n dX12_endOf_78 rfl rfl ?_
      refine GO.aload_n dX12_endOf_79 rfl rfl ?_
      refine GO.getA (n := 24) h_x fl_RX12_337 rfl rfl rfl rfl dX12_endOf_80 (fun hv320 h319 => ?_)
      refine GO.iload dX12_endOf_83 rfl ?_
      have q321 : -2147483648 ≤ p0 ∧ p0 ≤ 2147483647 := r_p0
      refine GO.iald (t := 114) rfl rfl h319 ⟨by omega, by omega⟩ (by omega) (by omega) dX12_endOf_85 (fun _ _ => ?_)
      refine GO.icmp_le (tgt := 91) dX12_endOf_86 (by decide) r_i1 vi_ir (fun c322 => ?_) (fun c322 => ?_)
      ·
        refine GO.iload_n dX12_endOf_91 rfl rfl ?_
        refine GO.aload_n dX12_endOf_92 rfl rfl ?_
        refine GO.getA (n := 24) h_x fl_RX12_334 rfl rfl rfl rfl dX12_endOf_93 (fun hv324 h323 => ?_)
        refine GO.iload dX12_endOf_96 rfl ?_
        refine GO.iald (t := 113) rfl rfl h323 ⟨by omega, by omega⟩ (by omega) (by omega) dX12_endOf_98 (fun _ _ => ?_)
        refine GO.icmp_ge (tgt := 112) dX12_endOf_99 (by decide) r_i1 vi_ir (fun c325 => ?_) (fun c325 => ?_)
        ·
          refine GO.iload_n dX12_endOf_112 rfl rfl ?_
          refine GO.istore_n (ls1 := [some (.ref x), some (ti p0), some (ti p1), some (ti i1), some (ti i2), some (ti z317)]) dX12_endOf_113 rfl rfl rfl ?_
          refine GO.iinc (X := i2) (n := 1) (Y := i2 + 1) (ls1 := [some (.ref x), some (ti p0), some (ti p1), some (ti i1), some (ti (i2 + 1)), some (ti z317)]) dX12_endOf_114 rfl rfl rfl rfl ?_
          refine GO.goto (tgt := 5) dX12_endOf_117 (by decide) ?_
          refine GO.drop [true, true, true, true, true, false] rfl ?_
          have q326 : -2147483648 ≤ vi V (vq V x 141) (z317).toNat ∧ vi V (vq V x 141) (z317).toNat ≤ 2147483647 := vi_ir
          have q327 : -2147483648 ≤ vi V (vq V x 142) (z317).toNat ∧ vi V (vq V x 142) (z317).toNat ≤ 2147483647 := vi_ir
          exact ih307 i1 (i2 + 1) V ⟨by omega, by omega, by omega, by omega, by omega, (by first | exact EOI.beg hW_0 h_x | exact EOI.step heo hea (by omega) hW_0 h_x (by omega) rfl hjj (by omega) (by omega) (by omega)), rfl⟩ (by show (2147483647 - (i2 + 1)).toNat < (2147483647 - i2).toNat; omega)
        ·
          refine GO.aload_n dX12_endOf_102 rfl rfl ?_
          refine GO.getRaw h_x fl_RX12_334 hv324 dX12_endOf_103 ?_
          refine GO.iload dX12_endOf_106 rfl ?_
          refine GO.iald (t := 113) rfl rfl h323 ⟨by omega, by omega⟩ (by omega) (by omega) dX12_endOf_108 (fun _ _ => ?_)
          refine GO.goto (tgt := 113) dX12_endOf_109 (by decide) ?_
          refine GO.name (fun z330 hz331 => ?_)
          have r332 : ir z330 := hz331 ▸ vi_ir
          refine GO.istore_n (ls1 := [some (.ref x), some (ti p0), some (ti p1), some (ti z330), some (ti i2), some (ti z317)]) dX12_endOf_113 rfl rfl rfl ?_
          refine GO.iinc (X := i2) (n := 1) (Y := i2 + 1) (ls1 := [some (.ref x), some (ti p0), some (ti p1), some (ti z330), some (ti (i2 + 1)), some (ti z317)]) dX12_endOf_114 rfl rfl rfl rfl ?_
          refine GO.goto (tgt := 5) dX12_endOf_117 (by decide) ?_
          refine GO.drop [true, true, true, true, true, false] rfl ?_
          have q333 : -2147483648 ≤ z330 ∧ z330 ≤ 2147483647 := r332
          have q334 : -2147483648 ≤ vi V (vq V x 141) (z317).toNat ∧ vi V (vq V x 141) (z317).toNat ≤ 2147483647 := vi_ir
          have q335 : -2147483648 ≤ vi V (vq V x 142) (z317).toNat ∧ vi V (vq V x 142) (z317).toNat ≤ 2147483647 := vi_ir
          exact ih307 z330 (i2 + 1) V ⟨by omega, by omega, by omega, by omega, by omega, (by first | exact EOI.beg hW_0 h_x | exact EOI.step heo hea (by omega) hW_0 h_x (by omega) rfl hjj (by omega) (by omega) (by omega)), rfl⟩ (by show (2147483647 - (i2 + 1)).toNat < (2147483647 - i2).toNat; omega)
      ·
        refine GO.iconst dX12_endOf_89 ?_
        exact GO.reti rfl rfl dX12_endOf_90 ⟨rfl, rfl, _, rfl, (ir_c rfl), ⟨(by first | exact trivial | omega), (by first | exact EOS.end heo (by omega) rfl | exact EOS.bad hea (by omega) (by omega) hW_0 h_x (by omega) rfl hjj (by omega) rfl)⟩⟩
    ·
      refine GO.iload_n dX12_endOf_19 rfl rfl ?_
      refine GO.iconst dX12_endOf_20 ?_
      refine GO.aload_n dX12_endOf_21 rfl rfl ?_
      refine GO.aload_n dX12_endOf_22 rfl rfl ?_
      refine GO.getA (n := 60) h_x fl_RX12_41 rfl rfl rfl rfl dX12_endOf_23 (fun hv337 h336 => ?_)
      refine GO.aload_n dX12_endOf_26 rfl rfl ?_
      refine GO.getA (n := 8) h_x fl_RX12_328 rfl rfl rfl rfl dX12_endOf_27 (fun hv339 h338 => ?_)
      refine GO.aload_n dX12_endOf_30 rfl rfl ?_
      refine GO.getA (n := 8) h_x fl_RX12_340 rfl rfl rfl rfl dX12_endOf_31 (fun hv341 h340 => ?_)
      refine GO.iload dX12_endOf_34 rfl ?_
      refine GO.iconst dX12_endOf_36 ?_
      refine GO.isub dX12_endOf_37 ?_
      refine GO.iald (t := 115) rfl rfl h340 ⟨by omega, by omega⟩ (by omega) (by omega) dX12_endOf_38 (fun l342 u343 => ?_)
      refine GO.iald (t := 111) rfl rfl h338 vi_ir (by omega) (by omega) dX12_endOf_39 (fun l344 u345 => ?_)
      refine GO.iald (t := 17) rfl rfl h336 vi_ir (by omega) (by omega) dX12_endOf_40 (fun l346 u347 => ?_)
      refine GO.aload_n dX12_endOf_41 rfl rfl ?_
      refine GO.getRaw h_x fl_RX12_41 hv337 dX12_endOf_42 ?_
      refine GO.aload_n dX12_endOf_45 rfl rfl ?_
      refine GO.getRaw h_x fl_RX12_328 hv339 dX12_endOf_46 ?_
      refine GO.aload_n dX12_endOf_49 rfl rfl ?_
      refine GO.getRaw h_x fl_RX12_340 hv341 dX12_endOf_50 ?_
      refine GO.iload dX12_endOf_53 rfl ?_
      refine GO.iald (t := 115) rfl rfl h340 r_i2 (by omega) (by omega) dX12_endOf_55 (fun l354 u355 => ?_)
      refine GO.iald (t := 111) rfl rfl h338 vi_ir (by omega) (by omega) dX12_endOf_56 (fun l356 u357 => ?_)
      refine GO.iald (t := 17) rfl rfl h336 vi_ir (by omega) (by omega) dX12_endOf_57 (fun l358 u359 => ?_)
      refine GO.callV (ci := 11) (N := mX12_far) dX12_endOf_58 (RX12, TX12, 151) rfl gV_RX12_389 h_x (t_X12_far h_x vi_ir vi_ir (by omega) (by omega) (by omega) (by omega)) rfl [ti 2, ti i1] rfl rfl (Nat.le_of_ble_eq_true rfl) rfl (k_ip fun X360 r361 h362 => ?_)
      have raw_far := h362.2
      have rw58 := h362.2
      refine GO.imul dX12_endOf_61 ?_
      refine GO.iadd dX12_endOf_62 ?_
      refine GO.norm (fun z363 r364 hn365 => ?_)
      refine GO.istore_n (ls1 := [some (.ref x), some (ti p0), some (ti p1), some (ti z363), some (ti i2), none]) dX12_endOf_63 rfl rfl rfl ?_
      have hea : EOA V x p0 p1 i2 z363 := by first | exact EOI.a0 heo (by omega) | exact EOI.a1 heo hW_0 h_x (by omega) (by omega) (by omega) (by omega) rfl rfl rw58 (by first | assumption | exact fun _ => rfl) (by first | assumption | exact fun _ => rfl)
      refine GO.bipush dX12_endOf_64 rfl ?_
      refine GO.iload_n dX12_endOf_66 rfl rfl ?_
      refine GO.imul dX12_endOf_67 ?_
      refine GO.aload_n dX12_endOf_68 rfl rfl ?_
      refine GO.getRaw h_x fl_RX12_340 hv341 dX12_endOf_69 ?_
      refine GO.iload dX12_endOf_72 rfl ?_
      refine GO.iald (t := 115) rfl rfl h340 r_i2 (by omega) (by omega) dX12_endOf_74 (fun l368 u369 => ?_)
      refine GO.iadd dX12_endOf_75 ?_
      refine GO.name (fun z370 hz371 => ?_)
      refine GO.istore (ls1 := [some (.ref x), some (ti p0), some (ti p1), some (ti z363), some (ti i2), some (ti z370)]) dX12_endOf_76 rfl rfl ?_
      have hjj : (((z370).toNat : Nat) : Int) = 8 * p0 + ar 143 V x (i2).toNat := by unfold ar; omega
      refine GO.iload_n dX12_endOf_78 rfl rfl ?_
      refine GO.aload_n dX12_endOf_79 rfl rfl ?_
      refine GO.getA (n := 24) h_x fl_RX12_337 rfl rfl rfl rfl dX12_endOf_80 (fun hv373 h372 => ?_)
      refine GO.iload dX12_endOf_83 rfl ?_
      have q374 : -2147483648 ≤ p0 ∧ p0 ≤ 2147483647 := r_p0
      refine GO.iald (t := 114) rfl rfl h372 ⟨by omega, by omega⟩ (by omega) (by omega) dX12_endOf_85 (fun _ _ => ?_)
      refine GO.icmp_le (tgt := 91) dX12_endOf_86 (by decide) r364 vi_ir (fun c375 => ?_) (fun c375 => ?_)
      ·
        refine GO.iload_n dX12_endOf_91 rfl rfl ?_
        refine GO.aload_n dX12_endOf_92 rfl rfl ?_
        refine GO.getA (n := 24) h_x fl_RX12_334 rfl rfl rfl rfl dX12_endOf_93 (fun hv377 h376 => ?_)
        refine GO.iload dX12_endOf_96 rfl ?_
        refine GO.iald (t := 113) rfl rfl h376 ⟨by omega, by omega⟩ (by omega) (by omega) dX12_endOf_98 (fun _ _ => ?_)
        refine GO.icmp_ge (tgt := 112) dX12_endOf_99 (by decide) r364 vi_ir (fun c378 => ?_) (fun c378 => ?_)
        ·
          refine GO.iload_n dX12_endOf_112 rfl rfl ?_
          refine GO.istore_n (ls1 := [some (.ref x), some (ti p0), some (ti p1), some (ti z363), some (ti i2), some (ti z370)]) dX12_endOf_113 rfl rfl rfl ?_
          refine GO.iinc (X := i2) (n := 1) (Y := i2 + 1) (ls1 := [some (.ref x), some (ti p0), some (ti p1), some (ti z363), some (ti (i2 + 1)), some (ti z370)]) dX12_endOf_114 rfl rfl rfl rfl ?_
          refine GO.goto (tgt := 5) dX12_endOf_117 (by decide) ?_
          refine GO.drop [true, true, true, true, true, false] rfl ?_
          have q379 : -2147483648 ≤ z363 ∧ z363 ≤ 2147483647 := r364
          have q380 : -2147483648 ≤ vi V (vq V x 141) (z370).toNat ∧ vi V (vq V x 141) (z370).toNat ≤ 2147483647 := vi_ir
          have q381 : -2147483648 ≤ vi V (vq V x 142) (z370).toNat ∧ vi V (vq V x 142) (z370).toNat ≤ 2147483647 := vi_ir
          exact ih307 z363 (i2 + 1) V ⟨by omega, by omega, by omega, by omega, by omega, (by first | exact EOI.beg hW_0 h_x | exact EOI.step heo hea (by omega) hW_0 h_x (by omega) rfl hjj (by omega) (by omega) (by omega)), rfl⟩ (by show (2147483647 - (i2 + 1)).toNat < (2147483647 - i2).toNat; omega)
        ·
          refine GO.aload_n dX12_endOf_102 rfl rfl ?_
          refine GO.getRaw h_x fl_RX12_334 hv377 dX12_endOf_103 ?_
          refine GO.iload dX12_endOf_106 rfl ?_
          refine GO.iald (t := 113) rfl rfl h376 ⟨by omega, by omega⟩ (by omega) (by omega) dX12_endOf_108 (fun _ _ => ?_)
          refine GO.goto (tgt := 113) dX12_endOf_109 (by decide) ?_
          refine GO.name (fun z384 hz385 => ?_)
          have r386 : ir z384 := hz385 ▸ vi_ir
          refine GO.istore_n (ls1 := [some (.ref x), some (ti p0), some (ti p1), some (ti z384), some (ti i2), some (ti z370)]) dX12_endOf_113 rfl rfl rfl ?_
          refine GO.iinc (X := i2) (n := 1) (Y := i2 + 1) (ls1 := [some (.ref x), some (ti p0), some (ti p1), some (ti z384), some (ti (i2 + 1)), some (ti z370)]) dX12_endOf_114 rfl rfl rfl rfl ?_
          refine GO.goto (tgt := 5) dX12_endOf_117 (by decide) ?_
          refine GO.drop [true, true, true, true, true, false] rfl ?_
          have q387 : -2147483648 ≤ z384 ∧ z384 ≤ 2147483647 := r386
          have q388 : -2147483648 ≤ vi V (vq V x 141) (z370).toNat ∧ vi V (vq V x 141) (z370).toNat ≤ 2147483647 := vi_ir
          have q389 : -2147483648 ≤ z363 ∧ z363 ≤ 2147483647 := r364
          have q390 : -2147483648 ≤ vi V (vq V x 142) (z370).toNat ∧ vi V (vq V x 142) (z370).toNat ≤ 2147483647 := vi_ir
          exact ih307 z384 (i2 + 1) V ⟨by omega, by omega, by omega, by omega, by omega, (by first | exact EOI.beg hW_0 h_x | exact EOI.step heo hea (by omega) hW_0 h_x (by omega) rfl hjj (by omega) (by omega) (by omega)), rfl⟩ (by show (2147483647 - (i2 + 1)).toNat < (2147483647 - i2).toNat; omega)
      ·
        refine GO.iconst dX12_endOf_89 ?_
        exact GO.reti rfl rfl dX12_endOf_90 ⟨rfl, rfl, _, rfl, (ir_c rfl), ⟨(by first | exact trivial | omega), (by first | exact EOS.end heo (by omega) rfl | exact EOS.bad hea (by omega) (by omega) hW_0 h_x (by omega) rfl hjj (by omega) rfl)⟩⟩

set_option maxHeartbeats 1000000 in
theorem t_X12_worstEnd {K : Kmap} {V : Vmap} {x : Nat} {p0 : Int} (h_x : K x = some (0, 11)) (r_p0 : ir p0) : MC mX12_worstEnd K V [.ref x, ti p0] (IP K V (fun X => (X ≥ (-2147483648) ∧ X ≤ 2147483647) ∧ (WOS V x p0 X))) := by
  refine MC.start 3 (by decide +kernel) rfl rfl rfl (ls0 := [some (.ref x), some (ti p0), none, none, none]) rfl ?_
  refine GO.useWT (fun hW_0 => ?_)
  refine GO.iconst dX12_worstEnd_0 ?_
  refine GO.istore_n (ls1 := [some (.ref x), some (ti p0), some (ti (-1)), none, none]) dX12_worstEnd_1 rfl rfl rfl ?_
  refine GO.iconst dX12_worstEnd_2 ?_
  refine GO.istore_n (ls1 := [some (.ref x), some (ti p0), some (ti (-1)), some (ti 0), none]) dX12_worstEnd_3 rfl rfl rfl ?_
  refine GO.loop2 (fun i1 i2 W => (-1) ≤ i1 ∧ i1 ≤ 2147483647 ∧ 0 ≤ i2 ∧ i2 ≤ 3 ∧ (i2 ≥ 0) ∧ (WOI W x p0 i1 i2) ∧ V = W) (fun i1 i2 => [some (.ref x), some (ti p0), some (ti i1), some (ti i2), none]) (fun i1 i2 W => (2147483647 - i2).toNat) (-1) 0 ⟨by omega, by omega, by omega, by omega, by omega, (by first | exact WOI.beg | exact WOI.step hwo (by omega) hW_0 h_x rw12 (by omega) (by omega) (by omega)), rfl⟩ rfl (fun i1 i2 V135 hp137 ih136 => ?_)
  obtain ⟨l_i1, u_i1, l_i2, u_i2, n_i1, hwo, rfl⟩ := hp137
  have r_i1 : ir i1 := ⟨by omega, by omega⟩
  have r_i2 : ir i2 := ⟨by omega, by omega⟩
  show GO mX12_worstEnd K V (IP K V (fun X => (X ≥ (-2147483648) ∧ X ≤ 2147483647) ∧ (WOS V x p0 X))) K V 0 0 4 [some (.ref x), some (ti p0), some (ti i1), some (ti i2), none] []
  refine GO.iload_n dX12_worstEnd_4 rfl rfl ?_
  refine GO.iconst dX12_worstEnd_5 ?_
  refine GO.icmp_ge (tgt := 44) dX12_worstEnd_6 (by decide) r_i2 (ir_c rfl) (fun c138 => ?_) (fun c138 => ?_)
  ·
    refine GO.iload_n dX12_worstEnd_44 rfl rfl ?_
    exact GO.reti rfl rfl dX12_worstEnd_45 ⟨rfl, rfl, _, rfl, r_i1, ⟨(by first | exact trivial | omega), (by first | exact WOS.end hwo (by omega) hW_0 h_x rfl | exact WOS.bad hwo (by omega) hW_0 h_x rw12 (by omega) rfl)⟩⟩
  ·
    refine GO.aload_n dX12_worstEnd_9 rfl rfl ?_
    refine GO.iload_n dX12_worstEnd_10 rfl rfl ?_
    refine GO.iload_n dX12_worstEnd_11 rfl rfl ?_
    refine GO.callV (ci := 11) (N := mX12_endOf) dX12_worstEnd_12 (RX12, TX12, 151) rfl gV_RX12_739 h_x (t_X12_endOf h_x r_i2 r_p0 (by omega) (by omega)) rfl [] rfl rfl (Nat.le_of_ble_eq_true rfl) rfl (k_ip fun X139 r140 h141 => ?_)
    have raw_endOf := h141.2
    have rw12 := h141.2
    refine GO.istore (ls1 := [some (.ref x), some (ti p0), some (ti i1), some (ti i2), some (ti X139)]) dX12_worstEnd_15 rfl rfl ?_
    refine GO.iload dX12_worstEnd_17 rfl ?_
    refine GO.iconst dX12_worstEnd_19 ?_
    refine GO.icmp_ne (tgt := 25) dX12_worstEnd_20 (by decide) r140 (ir_c rfl) (fun c142 => ?_) (fun c142 => ?_)
    ·
      refine GO.iload dX12_worstEnd_25 rfl ?_
      refine GO.iload_n dX12_worstEnd_27 rfl rfl ?_
      refine GO.icmp_le (tgt := 36) dX12_worstEnd_28 (by decide) r140 r_i1 (fun c143 => ?_) (fun c143 => ?_)
      ·
        refine GO.iload_n dX12_worstEnd_36 rfl rfl ?_
        refine GO.istore_n (ls1 := [some (.ref x), some (ti p0), some (ti i1), some (ti i2), some (ti X139)]) dX12_worstEnd_37 rfl rfl rfl ?_
        refine GO.iinc (X := i2) (n := 1) (Y := i2 + 1) (ls1 := [some (.ref x), some (ti p0), some (ti i1), some (ti (i2 + 1)), some (ti X139)]) dX12_worstEnd_38 rfl rfl rfl rfl ?_
        refine GO.goto (tgt := 4) dX12_worstEnd_41 (by decide) ?_
        refine GO.drop [true, true, true, true, false] rfl ?_
        exact ih136 i1 (i2 + 1) V ⟨by omega, by omega, by omega, by omega, by omega, (by first | exact WOI.beg | exact WOI.step hwo (by omega) hW_0 h_x rw12 (by omega) (by omega) (by omega)), rfl⟩ (by show (2147483647 - (i2 + 1)).toNat < (2147483647 - i2).toNat; omega)
      ·
        refine GO.iload dX12_worstEnd_31 rfl ?_
        refine GO.goto (tgt := 37) dX12_worstEnd_33 (by decide) ?_
        refine GO.istore_n (ls1 := [some (.ref x), some (ti p0), some (ti X139), some (ti i2), some (ti X139)]) dX12_worstEnd_37 rfl rfl rfl ?_
        refine GO.iinc (X := i2) (n := 1) (Y := i2 + 1) (ls1 := [some (.ref x), some (ti p0), some (ti X139), some (ti (i2 + 1)), some (ti X139)]) dX12_worstEnd_38 rfl rfl rfl rfl ?_
        refine GO.goto (tgt := 4) dX12_worstEnd_41 (by decide) ?_
        refine GO.drop [true, true, true, true, false] rfl ?_
        exact ih136 X139 (i2 + 1) V ⟨by omega, by omega, by omega, by omega, by omega, (by first | exact WOI.beg | exact WOI.step hwo (by omega) hW_0 h_x rw12 (by omega) (by omega) (by omega)), rfl⟩ (by show (2147483647 - (i2 + 1)).toNat < (2147483647 - i2).toNat; omega)
    ·
      refine GO.iconst dX12_worstEnd_23 ?_
      exact GO.reti rfl rfl dX12_worstEnd_24 ⟨rfl, rfl, _, rfl, (ir_c rfl), ⟨(by first | exact trivial | omega), (by first | exact WOS.end hwo (by omega) hW_0 h_x rfl | exact WOS.bad hwo (by omega) hW_0 h_x rw12 (by omega) rfl)⟩⟩

set_option maxHeartbeats 1000000 in
theorem t_X12_swaps {K : Kmap} {V : Vmap} {x : Nat} {p0 : Int} {p1 : Int} (h_x : K x = some (0, 11)) (r_p0 : ir p0) (r_p1 : ir p1) (q_0 : p0 ≥ 0) (q_1 : p0 ≤ 7) (q_2 : p1 ≥ 0) (q_3 : p1 ≤ 7) : MC mX12_swaps K V [.ref x, ti p0, ti p1] (VS K (fun V1 => (True) ∧ (SWP V V1 x p0 p1))) := by
  refine MC.start 1 (by decide +kernel) rfl rfl rfl (ls0 := [some (.ref x), some (ti p0), some (ti p1), none]) rfl ?_
  refine GO.aload_n dX12_swaps_0 rfl rfl ?_
  refine GO.getA (n := 8) h_x fl_RX12_340 rfl rfl rfl rfl dX12_swaps_1 (fun hv2 h1 => ?_)
  refine GO.iload_n dX12_swaps_4 rfl rfl ?_
  have q3 : -2147483648 ≤ p0 ∧ p0 ≤ 2147483647 := r_p0
  refine GO.iald (t := 115) rfl rfl h1 r_p0 (by omega) (by omega) dX12_swaps_5 (fun l4 u5 => ?_)
  refine GO.name (fun z6 hz7 => ?_)
  have r8 : ir z6 := hz7 ▸ vi_ir
  refine GO.istore_n (ls1 := [some (.ref x), some (ti p0), some (ti p1), some (ti z6)]) dX12_swaps_6 rfl rfl rfl ?_
  refine GO.aload_n dX12_swaps_7 rfl rfl ?_
  refine GO.getRaw h_x fl_RX12_340 hv2 dX12_swaps_8 ?_
  refine GO.iload_n dX12_swaps_11 rfl rfl ?_
  refine GO.aload_n dX12_swaps_12 rfl rfl ?_
  refine GO.getRaw h_x fl_RX12_340 hv2 dX12_swaps_13 ?_
  refine GO.iload_n dX12_swaps_16 rfl rfl ?_
  have q13 : -2147483648 ≤ p1 ∧ p1 ≤ 2147483647 := r_p1
  refine GO.iald (t := 115) rfl rfl h1 r_p1 (by omega) (by omega) dX12_swaps_17 (fun l14 u15 => ?_)
  refine GO.iast (t := 115) rfl rfl (by decide +kernel) h1 r_p0 (by omega) (by omega) vi_ir (by omega) (by omega) dX12_swaps_18 (fun V17 e16 => ?_)
  refine GO.aload_n dX12_swaps_19 rfl rfl ?_
  refine GO.getRaw h_x fl_RX12_340 (Eq.trans (uq_ne e16 (Or.inl (K_ne h_x h1 (by decide)))) hv2) dX12_swaps_20 ?_
  refine GO.iload_n dX12_swaps_23 rfl rfl ?_
  refine GO.iload_n dX12_swaps_24 rfl rfl ?_
  refine GO.iast (t := 115) rfl rfl (by decide +kernel) h1 r_p1 (by omega) (by omega) r8 (by omega) (by omega) dX12_swaps_25 (fun V21 e20 => ?_)
  exact GO.retv rfl rfl dX12_swaps_26 ⟨rfl, rfl, ⟨trivial, swp_of e16 e20 hz7 h_x h1 vi_ir r8⟩⟩

set_option maxHeartbeats 1000000 in
theorem t_X12_nextOrder {K : Kmap} {V : Vmap} {x : Nat} (h_x : K x = some (0, 11)) (w_0 : oinj V x (vi V x 137)) : MC mX12_nextOrder K V [.ref x] (IS K (fun X V1 => (X = 0 ∨ X = 1) ∧ (X ≠ 0 → True) ∧ (X = 0 → True) ∧ (NXO V V1 x X) ∧ (NXR V V1 x X))) := by
  refine MC.start 4 (by decide +kernel) rfl rfl rfl (ls0 := [some (.ref x), none, none, none, none]) rfl ?_
  refine GO.useWT (fun hW_0 => ?_)
  refine GO.aload_n dX12_nextOrder_0 rfl rfl ?_
  refine GO.getI h_x fl_RX12_736 rfl rfl dX12_nextOrder_1 (fun l1 u2 => ?_)
  refine GO.iconst dX12_nextOrder_4 ?_
  refine GO.isub dX12_nextOrder_5 ?_
  refine GO.name (fun z3 hz4 => ?_)
  refine GO.istore_n (ls1 := [some (.ref x), some (ti z3), none, none, none]) dX12_nextOrder_6 rfl rfl rfl ?_
  refine GO.loop1 (fun i5 W => (-2) ≤ i5 ∧ i5 ≤ 6 ∧ (i5 ≤ (vi W x 137 - 2)) ∧ (DCW V x i5) ∧ V = W) (fun i5 => [some (.ref x), some (ti i5), none, none, none]) (fun i5 W => (i5 + 2147483648).toNat) z3 ⟨by omega, by omega, by omega, (by first | exact DCW.beg (by omega) (by omega) | exact DCW.step hdc (by omega) (by omega) (by omega)), rfl⟩ rfl (fun i5 V151 hp153 ih152 => ?_)
  obtain ⟨l_i5, u_i5, n_i5, hdc, rfl⟩ := hp153
  have r_i5 : ir i5 := ⟨by omega, by omega⟩
  show GO mX12_nextOrder K V (IS K (fun X V1 => (X = 0 ∨ X = 1) ∧ (X ≠ 0 → True) ∧ (X = 0 → True) ∧ (NXO V V1 x X) ∧ (NXR V V1 x X))) K V 0 0 7 [some (.ref x), some (ti i5), none, none, none] []
  refine GO.iload_n dX12_nextOrder_7 rfl rfl ?_
  refine GO.if_lt (tgt := 35) dX12_nextOrder_8 (by decide) r_i5 (fun c154 => ?_) (fun c154 => ?_)
  ·
    refine GO.iload_n dX12_nextOrder_35 rfl rfl ?_
    refine GO.if_ge (tgt := 41) dX12_nextOrder_36 (by decide) r_i5 (fun h => by exfalso; omega) (fun c155 => ?_)
    refine GO.iconst dX12_nextOrder_39 ?_
    exact GO.retz rfl rfl dX12_nextOrder_40 (Or.inl rfl) ⟨rfl, _, rfl, (ir_c rfl), ⟨Or.inl rfl, fun _ => trivial, fun _ => trivial, (by first | exact nxo_0 w_0 | exact nxo_1 w_0 raw_swaps (by assumption) (by omega) (by omega) (by omega) (by assumption)), (by first | exact NXR.no2 hdc (by omega) rfl | exact NXR.yes (hdc.v (by omega)) hlw hW_0 h_x (by omega) (by omega) (by omega) (by omega) hrv (by omega) (by decide))⟩⟩
  ·
    refine GO.aload_n dX12_nextOrder_11 rfl rfl ?_
    refine GO.getA (n := 8) h_x fl_RX12_340 rfl rfl rfl rfl dX12_nextOrder_12 (fun hv157 h156 => ?_)
    refine GO.iload_n dX12_nextOrder_15 rfl rfl ?_
    refine GO.iald (t := 115) rfl rfl h156 r_i5 (by omega) (by omega) dX12_nextOrder_16 (fun l158 u159 => ?_)
    refine GO.aload_n dX12_nextOrder_17 rfl rfl ?_
    refine GO.getRaw h_x fl_RX12_340 hv157 dX12_nextOrder_18 ?_
    refine GO.iload_n dX12_nextOrder_21 rfl rfl ?_
    refine GO.iconst dX12_nextOrder_22 ?_
    refine GO.iadd dX12_nextOrder_23 ?_
    refine GO.iald (t := 115) rfl rfl h156 ⟨by omega, by omega⟩ (by omega) (by omega) dX12_nextOrder_24 (fun l162 u163 => ?_)
    refine GO.icmp_le (tgt := 35) dX12_nextOrder_25 (by decide) vi_ir vi_ir (fun c164 => ?_) (fun c164 => ?_)
    ·
      refine GO.iload_n dX12_nextOrder_35 rfl rfl ?_
      refine GO.if_ge (tgt := 41) dX12_nextOrder_36 (by decide) r_i5 (fun c165 => ?_) (fun h => by exfalso; omega)
      refine GO.aload_n dX12_nextOrder_41 rfl rfl ?_
      refine GO.getI h_x fl_RX12_736 rfl rfl dX12_nextOrder_42 (fun l166 u167 => ?_)
      refine GO.iconst dX12_nextOrder_45 ?_
      refine GO.isub dX12_nextOrder_46 ?_
      refine GO.name (fun z168 hz169 => ?_)
      refine GO.istore_n (ls1 := [some (.ref x), some (ti i5), some (ti z168), none, none]) dX12_nextOrder_47 rfl rfl rfl ?_
      refine GO.loop1 (fun i170 W => 0 ≤ i170 ∧ i170 ≤ 7 ∧ (i170 ≥ (i5 + 1) ∧ i170 < vi W x 137) ∧ (LOW V x i5 i170) ∧ V = W) (fun i170 => [some (.ref x), some (ti i5), some (ti i170), none, none]) (fun i170 W => (i170 + 2147483648).toNat) z168 ⟨by omega, by omega, by omega, (by first | exact LOW.beg (by omega) | exact LOW.step hlw (by omega) (by omega) (by omega)), rfl⟩ rfl (fun i170 V253 hp255 ih254 => ?_)
      obtain ⟨l_i170, u_i170, n_i170, hlw, rfl⟩ := hp255
      have r_i170 : ir i170 := ⟨by omega, by omega⟩
      show GO mX12_nextOrder K V (IS K (fun X V1 => (X = 0 ∨ X = 1) ∧ (X ≠ 0 → True) ∧ (X = 0 → True) ∧ (NXO V V1 x X) ∧ (NXR V V1 x X))) K V 0 0 48 [some (.ref x), some (ti i5), some (ti i170), none, none] []
      refine GO.aload_n dX12_nextOrder_48 rfl rfl ?_
      refine GO.getRaw h_x fl_RX12_340 hv157 dX12_nextOrder_49 ?_
      refine GO.iload_n dX12_nextOrder_52 rfl rfl ?_
      refine GO.iald (t := 115) rfl rfl h156 r_i170 (by omega) (by omega) dX12_nextOrder_53 (fun l258 u259 => ?_)
      refine GO.aload_n dX12_nextOrder_54 rfl rfl ?_
      refine GO.getRaw h_x fl_RX12_340 hv157 dX12_nextOrder_55 ?_
      refine GO.iload_n dX12_nextOrder_58 rfl rfl ?_
      refine GO.iald (t := 115) rfl rfl h156 r_i5 (by omega) (by omega) dX12_nextOrder_59 (fun l262 u263 => ?_)
      refine GO.icmp_ge (tgt := 70) dX12_nextOrder_60 (by decide) vi_ir vi_ir (fun c264 => ?_) (fun c264 => ?_)
      ·
        refine GO.aload_n dX12_nextOrder_70 rfl rfl ?_
        refine GO.iload_n dX12_nextOrder_71 rfl rfl ?_
        refine GO.iload_n dX12_nextOrder_72 rfl rfl ?_
        refine GO.callV (ci := 11) (N := mX12_swaps) dX12_nextOrder_73 (RX12, TX12, 151) rfl gV_RX12_742 h_x (t_X12_swaps h_x r_i5 r_i170 (by omega) (by omega) (by omega) (by omega)) rfl [] rfl rfl (Nat.le_of_ble_eq_true rfl) rfl (k_vs fun V267 h266 hF265 => ?_)
        have raw_swaps := h266.2
        have rw73 := h266.2
        refine GO.iload_n dX12_nextOrder_76 rfl rfl ?_
        refine GO.iconst dX12_nextOrder_77 ?_
        refine GO.iadd dX12_nextOrder_78 ?_
        refine GO.name (fun z268 hz269 => ?_)
        refine GO.istore_n (ls1 := [some (.ref x), some (ti i5), some (ti i170), some (ti z268), none]) dX12_nextOrder_79 rfl rfl rfl ?_
        refine GO.aload_n dX12_nextOrder_80 rfl rfl ?_
        refine GO.getI h_x fl_RX12_736 rfl rfl dX12_nextOrder_81 (fun l270 u271 => ?_)
        have e272 : vi V267 x 137 = vi V x 137 := vi_fr hF265 h_x h_x (by decide +kernel)
        refine GO.iconst dX12_nextOrder_84 ?_
        refine GO.isub dX12_nextOrder_85 ?_
        refine GO.name (fun z273 hz274 => ?_)
        refine GO.istore (ls1 := [some (.ref x), some (ti i5), some (ti i170), some (ti z268), some (ti z273)]) dX12_nextOrder_86 rfl rfl ?_
        refine GO.loop2 (fun i275 i276 W => 1 ≤ i275 ∧ i275 ≤ 7 ∧ 1 ≤ i276 ∧ i276 ≤ 7 ∧ (i275 ≥ (i5 + 1) ∧ i276 < vi V267 x 137) ∧ (NXI V267 W x i5) ∧ (RVS V W x i5 i170 i275 i276) ∧ True) (fun i275 i276 => [some (.ref x), some (ti i5), some (ti i170), some (ti i275), some (ti i276)]) (fun i275 i276 W => ((i276 - i275)).toNat) z268 z273 ⟨by omega, by omega, by omega, by omega, by omega, (by first | exact nxi_step (by assumption) raw_swaps (by omega) (by omega) (by omega) (by omega) | exact nxi_rf (by rw [raw_swaps.1]; exact swp_inj raw_swaps w_0 ⟨by omega, by omega⟩ ⟨by omega, by omega⟩)), (by first | exact RVS.step hrv raw_swaps (by omega) (by omega) (by omega) (by omega) (by have := (msn_8 hW_0 h_x).2; omega) | exact RVS.beg raw_swaps hW_0 h_x (by omega) (by omega) (by omega) (by omega) (by omega)), trivial⟩ rfl (fun i275 i276 Wi275 hp286 ih285 => ?_)
        obtain ⟨l_i275, u_i275, l_i276, u_i276, n_i275, w0_i275, hrv, -⟩ := hp286
        have r_i275 : ir i275 := ⟨by omega, by omega⟩
        have r_i276 : ir i276 := ⟨by omega, by omega⟩
        show GO mX12_nextOrder K V (IS K (fun X V1 => (X = 0 ∨ X = 1) ∧ (X ≠ 0 → True) ∧ (X = 0 → True) ∧ (NXO V V1 x X) ∧ (NXR V V1 x X))) K Wi275 0 0 88 [some (.ref x), some (ti i5), some (ti i170), some (ti i275), some (ti i276)] []
        refine GO.iload_n dX12_nextOrder_88 rfl rfl ?_
        refine GO.iload dX12_nextOrder_89 rfl ?_
        refine GO.icmp_ge (tgt := 114) dX12_nextOrder_91 (by decide) r_i275 r_i276 (fun c287 => ?_) (fun c287 => ?_)
        ·
          refine GO.iconst dX12_nextOrder_114 ?_
          exact GO.retz rfl rfl dX12_nextOrder_115 (Or.inr rfl) ⟨rfl, _, rfl, (ir_c rfl), ⟨Or.inr rfl, fun _ => trivial, fun _ => trivial, (by first | exact nxo_0 w_0 | exact nxo_1 w_0 raw_swaps (by assumption) (by omega) (by omega) (by omega) (by assumption)), (by first | exact NXR.no2 hdc (by omega) rfl | exact NXR.yes (hdc.v (by omega)) hlw hW_0 h_x (by omega) (by omega) (by omega) (by omega) hrv (by omega) (by decide))⟩⟩
        ·
          refine GO.aload_n dX12_nextOrder_94 rfl rfl ?_
          refine GO.iload_n dX12_nextOrder_95 rfl rfl ?_
          refine GO.iload dX12_nextOrder_96 rfl ?_
          refine GO.callV (ci := 11) (N := mX12_swaps) dX12_nextOrder_98 (RX12, TX12, 151) rfl gV_RX12_742 h_x (t_X12_swaps h_x r_i275 r_i276 (by omega) (by omega) (by omega) (by omega)) rfl [] rfl rfl (Nat.le_of_ble_eq_true rfl) rfl (k_vs fun V290 h289 hF288 => ?_)
          have raw_swaps := h289.2
          have rw98 := h289.2
          refine GO.iload_n dX12_nextOrder_101 rfl rfl ?_
          refine GO.iconst dX12_nextOrder_102 ?_
          refine GO.iadd dX12_nextOrder_103 ?_
          refine GO.name (fun z291 hz292 => ?_)
          refine GO.istore_n (ls1 := [some (.ref x), some (ti i5), some (ti i170), some (ti z291), some (ti i276)]) dX12_nextOrder_104 rfl rfl rfl ?_
          refine GO.iload dX12_nextOrder_105 rfl ?_
          refine GO.iconst dX12_nextOrder_107 ?_
          refine GO.isub dX12_nextOrder_108 ?_
          refine GO.name (fun z293 hz294 => ?_)
          refine GO.istore (ls1 := [some (.ref x), some (ti i5), some (ti i170), some (ti z291), some (ti z293)]) dX12_nextOrder_109 rfl rfl ?_
          refine GO.goto (tgt := 88) dX12_nextOrder_111 (by decide) ?_
          exact ih285 z291 z293 V290 ⟨by omega, by omega, by omega, by omega, by omega, (by first | exact nxi_step (by assumption) raw_swaps (by omega) (by omega) (by omega) (by omega) | exact nxi_rf (by rw [raw_swaps.1]; exact swp_inj raw_swaps w_0 ⟨by omega, by omega⟩ ⟨by omega, by omega⟩)), (by first | exact RVS.step hrv raw_swaps (by omega) (by omega) (by omega) (by omega) (by have := (msn_8 hW_0 h_x).2; omega) | exact RVS.beg raw_swaps hW_0 h_x (by omega) (by omega) (by omega) (by omega) (by omega)), trivial⟩ (by show ((z293 - z291)).toNat < ((i276 - i275)).toNat; omega)
      ·
        have hne : i170 ≠ i5 + 1 := by intro h; subst h; omega
        refine GO.iload_n dX12_nextOrder_63 rfl rfl ?_
        refine GO.iconst dX12_nextOrder_64 ?_
        refine GO.isub dX12_nextOrder_65 ?_
        refine GO.name (fun z295 hz296 => ?_)
        refine GO.istore_n (ls1 := [some (.ref x), some (ti i5), some (ti z295), none, none]) dX12_nextOrder_66 rfl rfl rfl ?_
        refine GO.goto (tgt := 48) dX12_nextOrder_67 (by decide) ?_
        exact ih254 z295 V ⟨by omega, by omega, by omega, (by first | exact LOW.beg (by omega) | exact LOW.step hlw (by omega) (by omega) (by omega)), rfl⟩ (by show (z295 + 2147483648).toNat < (i170 + 2147483648).toNat; omega)
    ·
      refine GO.iload_n dX12_nextOrder_28 rfl rfl ?_
      refine GO.iconst dX12_nextOrder_29 ?_
      refine GO.isub dX12_nextOrder_30 ?_
      refine GO.name (fun z297 hz298 => ?_)
      refine GO.istore_n (ls1 := [some (.ref x), some (ti z297), none, none, none]) dX12_nextOrder_31 rfl rfl rfl ?_
      refine GO.goto (tgt := 7) dX12_nextOrder_32 (by decide) ?_
      exact ih152 z297 V ⟨by omega, by omega, by omega, (by first | exact DCW.beg (by omega) (by omega) | exact DCW.step hdc (by omega) (by omega) (by omega)), rfl⟩ (by show (z297 + 2147483648).toNat < (i5 + 2147483648).toNat; omega)

set_option maxHeartbeats 1000000 in
theorem t_X12_plans {K : Kmap} {V : Vmap} {x : Nat} {p0 : Int} {p1 : Int} {p2 : Int} (h_x : K x = some (0, 11)) (r_p0 : ir p0) (r_p1 : ir p1) (r_p2 : ir p2) (q_0 : p0 ≥ 0) (q_1 : p0 ≤ 9) (q_2 : p1 ≥ 0) (q_3 : p1 ≤ 3) : MC mX12_plans K V [.ref x, ti p0, ti p1, ti p2] (VS K (fun V1 => (True) ∧ (MPN V V1 x p0 p1 p2))) := by
  refine MC.start 4 (by decide +kernel) rfl rfl rfl (ls0 := [some (.ref x), some (ti p0), some (ti p1), some (ti p2), none, none, none, none]) rfl ?_
  refine GO.useWT (fun hW1 => ?_)
  have ak2 := hW1.arr h_x 143 115 (by decide) rfl (by decide)
  have ak3 := hW1.arr h_x 144 116 (by decide) rfl (by decide)
  refine GO.useWT (fun hW_0 => ?_)
  refine GO.aload_n dX12_plans_0 rfl rfl ?_
  refine GO.iconst dX12_plans_1 ?_
  refine GO.putI h_x fp_RX12_745 rfl (by decide +kernel) (ir_c rfl) (by decide) (by decide) dX12_plans_2 (fun V5 e4 => ?_)
  have ak6 := tk_fld e4 ak2 h_x (by decide) (rfl : ar 143 V x = ar 143 V x)
  have ak7 := tk_fld e4 ak3 h_x (by decide) (rfl : ar 144 V x = ar 144 V x)
  refine GO.iconst dX12_plans_5 ?_
  refine GO.istore (ls1 := [some (.ref x), some (ti p0), some (ti p1), some (ti p2), some (ti 0), none, none, none]) dX12_plans_6 rfl rfl ?_
  refine GO.iconst dX12_plans_8 ?_
  refine GO.istore (ls1 := [some (.ref x), some (ti p0), some (ti p1), some (ti p2), some (ti 0), some (ti 0), none, none]) dX12_plans_9 rfl rfl ?_
  refine GO.loop2 (fun i8 i9 W => (-2147483648) ≤ i8 ∧ i8 ≤ 2147483647 ∧ 0 ≤ i9 ∧ i9 ≤ 8 ∧ (OIN W x i9) ∧ (MSU5 V x i8 i9) ∧ (vi W x 138 = -1) ∧ True) (fun i8 i9 => [some (.ref x), some (ti p0), some (ti p1), some (ti p2), some (ti i8), some (ti i9), none, none]) (fun i8 i9 W => (2147483647 - i9).toNat) 0 0 ⟨by omega, by omega, by omega, by omega, (by first | exact oin_0 (by omega) | exact oin_step (by assumption) (by assumption) h_x (by assumption) (by assumption) (by omega)), (by first | exact MSU5.beg hW_0 h_x | exact MSU5.step hmu hW_0 h_x (by omega) h7a h40a (by first | assumption | exact fun _ => rfl) (by exact congrFun h40b _) (by omega)), (by first | exact upd2_int e4 (ir_c rfl) | exact (vi_up (by assumption) (Or.inl (K_ne h_x (by assumption) (by decide)))).trans h8a), trivial⟩ rfl (fun i8 i9 Wi8 hp24970 ih24969 => ?_)
  obtain ⟨l_i8, u_i8, l_i9, u_i9, hoi, hmu, h8a, -⟩ := hp24970
  have r_i8 : ir i8 := ⟨by omega, by omega⟩
  have r_i9 : ir i9 := ⟨by omega, by omega⟩
  show GO mX12_plans K V (VS K (fun V1 => (True) ∧ (MPN V V1 x p0 p1 p2))) K Wi8 0 0 11 [some (.ref x), some (ti p0), some (ti p1), some (ti p2), some (ti i8), some (ti i9), none, none] []
  refine GO.useWT (fun hW24971 => ?_)
  have ak24972 := hW24971.arr h_x 143 115 (by decide) rfl (by decide)
  have ak24973 := hW24971.arr h_x 144 116 (by decide) rfl (by decide)
  refine GO.useFR (fun hFs => ?_)
  have h7a : vi Wi8 x 137 = vi V x 137 := vi_fr hFs h_x h_x (by decide +kernel)
  have h40a := (MPF.fr hFs ext.rf hW_0 h_x (by decide +kernel)).2.2.1
  have h95a := (MPF.fr hFs ext.rf hW_0 h_x (by decide +kernel)).2.2.2
  refine GO.iload dX12_plans_11 rfl ?_
  refine GO.aload_n dX12_plans_13 rfl rfl ?_
  refine GO.getI h_x fl_RX12_736 rfl rfl dX12_plans_14 (fun l24974 u24975 => ?_)
  refine GO.icmp_ge (tgt := 47) dX12_plans_17 (by decide) r_i9 vi_ir (fun c24976 => ?_) (fun c24976 => ?_)
  ·
    refine GO.aload_n dX12_plans_47 rfl rfl ?_
    refine GO.getI h_x fl_RX12_736 rfl rfl dX12_plans_48 (fun l24977 u24978 => ?_)
    refine GO.if_le (tgt := 69) dX12_plans_51 (by decide) vi_ir (fun c24979 => ?_) (fun c24979 => ?_)
    ·
      refine GO.iconst dX12_plans_69 ?_
      refine GO.istore (ls1 := [some (.ref x), some (ti p0), some (ti p1), some (ti p2), some (ti i8), some (ti 0), none, none]) dX12_plans_70 rfl rfl ?_
      refine GO.loop1 (fun i24980 W => 0 ≤ i24980 ∧ i24980 ≤ 0 ∧ (oinj W x (vi W x 137)) ∧ (PLC V W x p0 p1 p2 i24980) ∧ True) (fun i24980 => [some (.ref x), some (ti p0), some (ti p1), some (ti p2), some (ti i8), some (ti i24980), none, none]) (fun i24980 W => (((2 * (16777216 - ornk W x)) + i24980)).toNat) 0 ⟨by omega, by omega, (by first | exact nxo_inj raw_nextOrder.1 | exact osm_inj hosm (by assumption) | exact oin_inj (by assumption) (by omega)), (by first | exact PLC.next hbs hmg raw_nextOrder.2 (vi_fr (by assumption) h_x h_x (by decide +kernel)) (arq (by assumption) ext.rf h_x ⟨_, (hWq.arr h_x 144 116 (by decide) rfl (by decide))⟩ (by decide +kernel) (by decide +kernel)) | exact PLC.go h8a hmu (by omega) (by rw [← h95a]; unfold ar; omega) (by omega) hoi (by omega) (by decide) | exact PLC.n1 h8a hmu (by omega) (by rw [← h95a]; unfold ar; omega) rfl | exact PLC.n0 h8a (by omega) rfl), trivial⟩ rfl (fun i24980 Wi24980 hp24983 ih24982 => ?_)
      obtain ⟨l_i24980, u_i24980, w0_i24980, hpl, -⟩ := hp24983
      have r_i24980 : ir i24980 := ⟨by omega, by omega⟩
      show GO mX12_plans K V (VS K (fun V1 => (True) ∧ (MPN V V1 x p0 p1 p2))) K Wi24980 0 0 72 [some (.ref x), some (ti p0), some (ti p1), some (ti p2), some (ti i8), some (ti i24980), none, none] []
      refine GO.useWT (fun hW24984 => ?_)
      have ak24985 := hW24984.arr h_x 143 115 (by decide) rfl (by decide)
      have ak24986 := hW24984.arr h_x 144 116 (by decide) rfl (by decide)
      refine GO.useWT (fun hW => ?_)
      have hub := ornk_ub hW h_x
      refine GO.useFR (fun hFs => ?_)
      have hmf : MPF V Wi24980 x := MPF.fr hFs ext.rf hW_0 h_x (by decide +kernel)
      have h7b : vi Wi24980 x 137 = vi V x 137 := vi_fr hFs h_x h_x (by decide +kernel)
      refine GO.iload dX12_plans_72 rfl ?_
      refine GO.if_eq (tgt := 161) dX12_plans_74 (by decide) r_i24980 (fun c24987 => ?_) (fun h => by exfalso; omega)
      exact GO.retv rfl rfl dX12_plans_161 ⟨rfl, rfl, ⟨trivial, MPN.end hpl (by omega)⟩⟩
    ·
      refine GO.iload dX12_plans_54 rfl ?_
      refine GO.aload_n dX12_plans_56 rfl rfl ?_
      refine GO.getA (n := 10) h_x fl_RX12_211 rfl rfl rfl rfl dX12_plans_57 (fun hv24989 h24988 => ?_)
      refine GO.iload_n dX12_plans_60 rfl rfl ?_
      have q24990 : -2147483648 ≤ p0 ∧ p0 ≤ 2147483647 := r_p0
      refine GO.iald (t := 73) rfl rfl h24988 r_p0 (by omega) (by omega) dX12_plans_61 (fun _ _ => ?_)
      refine GO.icmp_gt (tgt := 69) dX12_plans_62 (by decide) r_i8 vi_ir (fun c24991 => ?_) (fun c24991 => ?_)
      ·
        refine GO.iconst dX12_plans_69 ?_
        refine GO.istore (ls1 := [some (.ref x), some (ti p0), some (ti p1), some (ti p2), some (ti i8), some (ti 0), none, none]) dX12_plans_70 rfl rfl ?_
        refine GO.loop1 (fun i24992 W => 0 ≤ i24992 ∧ i24992 ≤ 0 ∧ (oinj W x (vi W x 137)) ∧ (PLC V W x p0 p1 p2 i24992) ∧ True) (fun i24992 => [some (.ref x), some (ti p0), some (ti p1), some (ti p2), some (ti i8), some (ti i24992), none, none]) (fun i24992 W => (((2 * (16777216 - ornk W x)) + i24992)).toNat) 0 ⟨by omega, by omega, (by first | exact nxo_inj raw_nextOrder.1 | exact osm_inj hosm (by assumption) | exact oin_inj (by assumption) (by omega)), (by first | exact PLC.next hbs hmg raw_nextOrder.2 (vi_fr (by assumption) h_x h_x (by decide +kernel)) (arq (by assumption) ext.rf h_x ⟨_, (hWq.arr h_x 144 116 (by decide) rfl (by decide))⟩ (by decide +kernel) (by decide +kernel)) | exact PLC.go h8a hmu (by omega) (by rw [← h95a]; unfold ar; omega) (by omega) hoi (by omega) (by decide) | exact PLC.n1 h8a hmu (by omega) (by rw [← h95a]; unfold ar; omega) rfl | exact PLC.n0 h8a (by omega) rfl), trivial⟩ rfl (fun i24992 Wi24992 hp24995 ih24994 => ?_)
        obtain ⟨l_i24992, u_i24992, w0_i24992, hpl, -⟩ := hp24995
        have r_i24992 : ir i24992 := ⟨by omega, by omega⟩
        show GO mX12_plans K V (VS K (fun V1 => (True) ∧ (MPN V V1 x p0 p1 p2))) K Wi24992 0 0 72 [some (.ref x), some (ti p0), some (ti p1), some (ti p2), some (ti i8), some (ti i24992), none, none] []
        refine GO.useWT (fun hW24996 => ?_)
        have ak24997 := hW24996.arr h_x 143 115 (by decide) rfl (by decide)
        have ak24998 := hW24996.arr h_x 144 116 (by decide) rfl (by decide)
        refine GO.useWT (fun hW => ?_)
        have hub := ornk_ub hW h_x
        refine GO.useFR (fun hFs => ?_)
        have hmf : MPF V Wi24992 x := MPF.fr hFs ext.rf hW_0 h_x (by decide +kernel)
        have h7b : vi Wi24992 x 137 = vi V x 137 := vi_fr hFs h_x h_x (by decide +kernel)
        refine GO.iload dX12_plans_72 rfl ?_
        refine GO.if_eq (tgt := 161) dX12_plans_74 (by decide) r_i24992 (fun c24999 => ?_) (fun h => by exfalso; omega)
        exact GO.retv rfl rfl dX12_plans_161 ⟨rfl, rfl, ⟨trivial, MPN.end hpl (by omega)⟩⟩
      ·
        refine GO.iconst dX12_plans_65 ?_
        refine GO.goto (tgt := 70) dX12_plans_66 (by decide) ?_
        refine GO.istore (ls1 := [some (.ref x), some (ti p0), some (ti p1), some (ti p2), some (ti i8), some (ti 1), none, none]) dX12_plans_70 rfl rfl ?_
        refine GO.loop1 (fun i25000 W => 0 ≤ i25000 ∧ i25000 ≤ 1 ∧ (oinj W x (vi W x 137)) ∧ (PLC V W x p0 p1 p2 i25000) ∧ True) (fun i25000 => [some (.ref x), some (ti p0), some (ti p1), some (ti p2), some (ti i8), some (ti i25000), none, none]) (fun i25000 W => (((2 * (16777216 - ornk W x)) + i25000)).toNat) 1 ⟨by omega, by omega, (by first | exact nxo_inj raw_nextOrder.1 | exact osm_inj hosm (by assumption) | exact oin_inj (by assumption) (by omega)), (by first | exact PLC.next hbs hmg raw_nextOrder.2 (vi_fr (by assumption) h_x h_x (by decide +kernel)) (arq (by assumption) ext.rf h_x ⟨_, (hWq.arr h_x 144 116 (by decide) rfl (by decide))⟩ (by decide +kernel) (by decide +kernel)) | exact PLC.go h8a hmu (by omega) (by rw [← h95a]; unfold ar; omega) (by omega) hoi (by omega) (by decide) | exact PLC.n1 h8a hmu (by omega) (by rw [← h95a]; unfold ar; omega) rfl | exact PLC.n0 h8a (by omega) rfl), trivial⟩ rfl (fun i25000 Wi25000 hp25612 ih25611 => ?_)
        obtain ⟨l_i25000, u_i25000, w0_i25000, hpl, -⟩ := hp25612
        have r_i25000 : ir i25000 := ⟨by omega, by omega⟩
        show GO mX12_plans K V (VS K (fun V1 => (True) ∧ (MPN V V1 x p0 p1 p2))) K Wi25000 0 0 72 [some (.ref x), some (ti p0), some (ti p1), some (ti p2), some (ti i8), some (ti i25000), none, none] []
        refine GO.useWT (fun hW25613 => ?_)
        have ak25614 := hW25613.arr h_x 143 115 (by decide) rfl (by decide)
        have ak25615 := hW25613.arr h_x 144 116 (by decide) rfl (by decide)
        refine GO.useWT (fun hW => ?_)
        have hub := ornk_ub hW h_x
        refine GO.useFR (fun hFs => ?_)
        have hmf : MPF V Wi25000 x := MPF.fr hFs ext.rf hW_0 h_x (by decide +kernel)
        have h7b : vi Wi25000 x 137 = vi V x 137 := vi_fr hFs h_x h_x (by decide +kernel)
        refine GO.iload dX12_plans_72 rfl ?_
        refine GO.if_eq (tgt := 161) dX12_plans_74 (by decide) r_i25000 (fun c25616 => ?_) (fun c25616 => ?_)
        ·
          exact GO.retv rfl rfl dX12_plans_161 ⟨rfl, rfl, ⟨trivial, MPN.end hpl (by omega)⟩⟩
        ·
          refine GO.aload_n dX12_plans_77 rfl rfl ?_
          refine GO.iload_n dX12_plans_78 rfl rfl ?_
          refine GO.aload_n dX12_plans_79 rfl rfl ?_
          refine GO.getA (n := 4) h_x fl_RX12_244 rfl rfl rfl rfl dX12_plans_80 (fun hv25618 h25617 => ?_)
          refine GO.iload_n dX12_plans_83 rfl rfl ?_
          have q25619 : -2147483648 ≤ p1 ∧ p1 ≤ 2147483647 := r_p1
          refine GO.iald (t := 84) rfl rfl h25617 r_p1 (by omega) (by omega) dX12_plans_84 (fun l25620 u25621 => ?_)
          refine GO.iadd dX12_plans_85 ?_
          refine GO.norm (fun z25622 r25623 hn25624 => ?_)
          refine GO.callV (ci := 11) (N := mX12_worstEnd) dX12_plans_86 (RX12, TX12, 151) rfl gV_RX12_748 h_x (t_X12_worstEnd h_x r25623) rfl [] rfl rfl (Nat.le_of_ble_eq_true rfl) rfl (k_ip fun X25625 r25626 h25627 => ?_)
          have raw_worstEnd := h25627.2
          have rw86 := h25627.2
          refine GO.istore (ls1 := [some (.ref x), some (ti p0), some (ti p1), some (ti p2), some (ti i8), some (ti i25000), some (ti X25625), none]) dX12_plans_89 rfl rfl ?_
          refine GO.iload dX12_plans_91 rfl ?_
          refine GO.iconst dX12_plans_93 ?_
          refine GO.icmp_eq (tgt := 152) dX12_plans_94 (by decide) r25626 (ir_c rfl) (fun c25628 => ?_) (fun c25628 => ?_)
          ·
            have hosm : OSM Wi25000 Wi25000 x := by first | exact OSM.rf | assumption
            have hbs : PLB V Wi25000 Wi25000 x p0 p1 p2 := by first | exact PLB.yes hpl (by omega) hmf (by first | assumption | exact fun _ => (by assumption)) rfl rw86 (by omega) (by omega) hpc (by omega) | exact PLB.no hpl (by omega) hmf (by first | assumption | exact fun _ => (by assumption)) rfl rw86 (by omega)
            refine GO.useFR (fun hFs => ?_)
            have hmg : MPF V Wi25000 x := MPF.fr hFs ext.rf hW_0 h_x (by decide +kernel)
            refine GO.useWT (fun hWq => ?_)
            refine GO.aload_n dX12_plans_152 rfl rfl ?_
            refine GO.callV (ci := 11) (N := mX12_nextOrder) dX12_plans_153 (RX12, TX12, 151) rfl gV_RX12_751 h_x (t_X12_nextOrder h_x (osm_inj hosm (by assumption))) rfl [] rfl rfl (Nat.le_of_ble_eq_true rfl) rfl (k_is fun X25629 V25633 r25630 h25631 hF25632 => ?_)
            have ak25634 := tk_fr hF25632 ak25615 h_x (by decide +kernel) (by decide +kernel) (rfl : ar 144 Wi25000 x = ar 144 Wi25000 x)
            refine GO.useWT (fun hW25635 => ?_)
            have ak25636 := hW25635.arr h_x 143 115 (by decide) rfl (by decide)
            have raw_nextOrder := h25631.2.2.2
            have rw153 := h25631.2.2.2
            refine GO.istore (ls1 := [some (.ref x), some (ti p0), some (ti p1), some (ti p2), some (ti i8), some (ti X25629), some (ti X25625), none]) dX12_plans_156 rfl rfl ?_
            refine GO.useWT (fun hW1 => ?_)
            have hr := pl_rank hW hW1 h_x hosm raw_nextOrder.1
            refine GO.goto (tgt := 72) dX12_plans_158 (by decide) ?_
            refine GO.drop [true, true, true, true, true, true, false, true] rfl ?_
            exact ih25611 X25629 V25633 ⟨by omega, by omega, (by first | exact nxo_inj raw_nextOrder.1 | exact osm_inj hosm (by assumption) | exact oin_inj (by assumption) (by omega)), (by first | exact PLC.next hbs hmg raw_nextOrder.2 (vi_fr hF25632 h_x h_x (by decide +kernel)) (arq hF25632 ext.rf h_x ⟨_, (hWq.arr h_x 144 116 (by decide) rfl (by decide))⟩ (by decide +kernel) (by decide +kernel)) | exact PLC.go h8a hmu (by omega) (by rw [← h95a]; unfold ar; omega) (by omega) hoi (by omega) (by decide) | exact PLC.n1 h8a hmu (by omega) (by rw [← h95a]; unfold ar; omega) rfl | exact PLC.n0 h8a (by omega) rfl), trivial⟩ (by show (((2 * (16777216 - ornk V25633 x)) + X25629)).toNat < (((2 * (16777216 - ornk Wi25000 x)) + i25000)).toNat; omega)
          ·
            refine GO.aload_n dX12_plans_97 rfl rfl ?_
            refine GO.getI h_x fl_RX12_745 rfl rfl dX12_plans_98 (fun _ _ => ?_)
            refine GO.iconst dX12_plans_101 ?_
            refine GO.icmp_eq (tgt := 114) dX12_plans_102 (by decide) vi_ir (ir_c rfl) (fun c25637 => ?_) (fun c25637 => ?_)
            ·
              refine GO.aload_n dX12_plans_114 rfl rfl ?_
              refine GO.iload dX12_plans_115 rfl ?_
              refine GO.putI h_x fp_RX12_745 rfl (by decide +kernel) r25626 (r25626).1 (r25626).2 dX12_plans_117 (fun V25639 e25638 => ?_)
              have ak25640 := tk_fld e25638 ak25614 h_x (by decide) (rfl : ar 143 Wi25000 x = ar 143 Wi25000 x)
              have ak25641 := tk_fld e25638 ak25615 h_x (by decide) (rfl : ar 144 Wi25000 x = ar 144 Wi25000 x)
              refine GO.iconst dX12_plans_120 ?_
              refine GO.istore (ls1 := [some (.ref x), some (ti p0), some (ti p1), some (ti p2), some (ti i8), some (ti i25000), some (ti X25625), some (ti 0)]) dX12_plans_121 rfl rfl ?_
              refine GO.loop1 (fun i25642 W => 0 ≤ i25642 ∧ i25642 ≤ 8 ∧ (OSM Wi25000 W x) ∧ (PCP Wi25000 W x X25625 i25642) ∧ ar 143 W x = ar 143 Wi25000 x ∧ True) (fun i25642 => [some (.ref x), some (ti p0), some (ti p1), some (ti p2), some (ti i8), some (ti i25000), some (ti X25625), some (ti i25642)]) (fun i25642 W => (2147483647 - i25642).toNat) 0 ⟨by omega, by omega, (by first | exact OSM.arr (by assumption) (by assumption) h_x (by assumption) (by assumption) (by decide) | exact osm_put hW h_x (by assumption) (by decide) (by decide)), (by first | exact PCP.beg (upd2_int e25638 (by assumption)) (vi_up e25638 (Or.inr (by decide))) ak25640.2 | exact PCP.step hpc (vi_up (by assumption) (Or.inl (K_ne h_x (by assumption) (by decide)))) (vi_up (by assumption) (Or.inl (K_ne h_x (by assumption) (by decide)))) ((ak25640.2).trans h143w.symm) ak25641.2 (by omega) rfl (by omega)), ak25640.2, trivial⟩ rfl (fun i25642 Wi25642 hp25749 ih25748 => ?_)
              obtain ⟨l_i25642, u_i25642, w0_i25642, hpc, kp25750, -⟩ := hp25749
              have r_i25642 : ir i25642 := ⟨by omega, by omega⟩
              show GO mX12_plans K V (VS K (fun V1 => (True) ∧ (MPN V V1 x p0 p1 p2))) K Wi25642 0 0 123 [some (.ref x), some (ti p0), some (ti p1), some (ti p2), some (ti i8), some (ti i25000), some (ti X25625), some (ti i25642)] []
              refine GO.useWT (fun hW25751 => ?_)
              have ak25752 := hW25751.arr h_x 143 115 (by decide) rfl (by decide)
              have ak25753 := hW25751.arr h_x 144 116 (by decide) rfl (by decide)
              refine GO.useFR (fun hFs => ?_)
              have h7c : vi Wi25642 x 137 = vi V x 137 := vi_fr hFs h_x h_x (by decide +kernel)
              have h143w := kp25750
              refine GO.iload dX12_plans_123 rfl ?_
              refine GO.aload_n dX12_plans_125 rfl rfl ?_
              refine GO.getI h_x fl_RX12_736 rfl rfl dX12_plans_126 (fun l25754 u25755 => ?_)
              refine GO.icmp_ge (tgt := 152) dX12_plans_129 (by decide) r_i25642 vi_ir (fun c25756 => ?_) (fun c25756 => ?_)
              ·
                have hosm : OSM Wi25000 Wi25642 x := by first | exact OSM.rf | assumption
                have hbs : PLB V Wi25000 Wi25642 x p0 p1 p2 := by first | exact PLB.yes hpl (by omega) hmf (by first | assumption | exact fun _ => (by assumption)) rfl rw86 (by omega) (by omega) hpc (by omega) | exact PLB.no hpl (by omega) hmf (by first | assumption | exact fun _ => (by assumption)) rfl rw86 (by omega)
                refine GO.useFR (fun hFs => ?_)
                have hmg : MPF V Wi25642 x := MPF.fr hFs ext.rf hW_0 h_x (by decide +kernel)
                refine GO.useWT (fun hWq => ?_)
                refine GO.aload_n dX12_plans_152 rfl rfl ?_
                refine GO.callV (ci := 11) (N := mX12_nextOrder) dX12_plans_153 (RX12, TX12, 151) rfl gV_RX12_751 h_x (t_X12_nextOrder h_x (osm_inj hosm (by assumption))) rfl [] rfl rfl (Nat.le_of_ble_eq_true rfl) rfl (k_is fun X25757 V25761 r25758 h25759 hF25760 => ?_)
                have ak25762 := tk_fr hF25760 ak25753 h_x (by decide +kernel) (by decide +kernel) (rfl : ar 144 Wi25642 x = ar 144 Wi25642 x)
                refine GO.useWT (fun hW25763 => ?_)
                have ak25764 := hW25763.arr h_x 143 115 (by decide) rfl (by decide)
                have raw_nextOrder := h25759.2.2.2
                have rw153 := h25759.2.2.2
                refine GO.istore (ls1 := [some (.ref x), some (ti p0), some (ti p1), some (ti p2), some (ti i8), some (ti X25757), some (ti X25625), some (ti i25642)]) dX12_plans_156 rfl rfl ?_
                refine GO.useWT (fun hW1 => ?_)
                have hr := pl_rank hW hW1 h_x hosm raw_nextOrder.1
                refine GO.goto (tgt := 72) dX12_plans_158 (by decide) ?_
                refine GO.drop [true, true, true, true, true, true, false, false] rfl ?_
                exact ih25611 X25757 V25761 ⟨by omega, by omega, (by first | exact nxo_inj raw_nextOrder.1 | exact osm_inj hosm (by assumption) | exact oin_inj (by assumption) (by omega)), (by first | exact PLC.next hbs hmg raw_nextOrder.2 (vi_fr hF25760 h_x h_x (by decide +kernel)) (arq hF25760 ext.rf h_x ⟨_, (hWq.arr h_x 144 116 (by decide) rfl (by decide))⟩ (by decide +kernel) (by decide +kernel)) | exact PLC.go h8a hmu (by omega) (by rw [← h95a]; unfold ar; omega) (by omega) hoi (by omega) (by decide) | exact PLC.n1 h8a hmu (by omega) (by rw [← h95a]; unfold ar; omega) rfl | exact PLC.n0 h8a (by omega) rfl), trivial⟩ (by show (((2 * (16777216 - ornk V25761 x)) + X25757)).toNat < (((2 * (16777216 - ornk Wi25000 x)) + i25000)).toNat; omega)
              ·
                refine GO.aload_n dX12_plans_132 rfl rfl ?_
                refine GO.getA (n := 8) h_x fl_RX12_343 rfl rfl rfl rfl dX12_plans_133 (fun hv25766 h25765 => ?_)
                refine GO.iload dX12_plans_136 rfl ?_
                refine GO.aload_n dX12_plans_138 rfl rfl ?_
                refine GO.getA (n := 8) h_x fl_RX12_340 rfl rfl rfl rfl dX12_plans_139 (fun hv25768 h25767 => ?_)
                refine GO.iload dX12_plans_142 rfl ?_
                refine GO.iald (t := 115) rfl rfl h25767 r_i25642 (by omega) (by omega) dX12_plans_144 (fun l25769 u25770 => ?_)
                refine GO.iast (t := 116) rfl rfl (by decide +kernel) h25765 r_i25642 (by omega) (by omega) vi_ir (vi_ir).1 (vi_ir).2 dX12_plans_145 (fun V25772 e25771 => ?_)
                have ak25773 := tk_oth e25771 ak25752 h_x h25765 (by decide) (by decide) kp25750
                have ak25774 := tk_put e25771 ak25753 h_x (vq_of hv25766) vi_ir (rfl : ar 144 Wi25642 x = ar 144 Wi25642 x)
                refine GO.iinc (X := i25642) (n := 1) (Y := i25642 + 1) (ls1 := [some (.ref x), some (ti p0), some (ti p1), some (ti p2), some (ti i8), some (ti i25000), some (ti X25625), some (ti (i25642 + 1))]) dX12_plans_146 rfl rfl rfl rfl ?_
                refine GO.goto (tgt := 123) dX12_plans_149 (by decide) ?_
                exact ih25748 (i25642 + 1) V25772 ⟨by omega, by omega, (by first | exact OSM.arr (by assumption) (by assumption) h_x (by assumption) (by assumption) (by decide) | exact osm_put hW h_x (by assumption) (by decide) (by decide)), (by first | exact PCP.beg (upd2_int e25638 (by assumption)) (vi_up e25638 (Or.inr (by decide))) ak25773.2 | exact PCP.step hpc (vi_up e25771 (Or.inl (K_ne h_x (by assumption) (by decide)))) (vi_up e25771 (Or.inl (K_ne h_x (by assumption) (by decide)))) ((ak25773.2).trans h143w.symm) ak25774.2 (by omega) rfl (by omega)), ak25773.2, trivial⟩ (by show (2147483647 - (i25642 + 1)).toNat < (2147483647 - i25642).toNat; omega)
            ·
              refine GO.iload dX12_plans_105 rfl ?_
              refine GO.aload_n dX12_plans_107 rfl rfl ?_
              refine GO.getI h_x fl_RX12_745 rfl rfl dX12_plans_108 (fun _ _ => ?_)
              refine GO.icmp_ge (tgt := 152) dX12_plans_111 (by decide) r25626 vi_ir (fun c25775 => ?_) (fun c25775 => ?_)
              ·
                have hosm : OSM Wi25000 Wi25000 x := by first | exact OSM.rf | assumption
                have hbs : PLB V Wi25000 Wi25000 x p0 p1 p2 := by first | exact PLB.yes hpl (by omega) hmf (by first | assumption | exact fun _ => (by assumption)) rfl rw86 (by omega) (by omega) hpc (by omega) | exact PLB.no hpl (by omega) hmf (by first | assumption | exact fun _ => (by assumption)) rfl rw86 (by omega)
                refine GO.useFR (fun hFs => ?_)
                have hmg : MPF V Wi25000 x := MPF.fr hFs ext.rf hW_0 h_x (by decide +kernel)
                refine GO.useWT (fun hWq => ?_)
                refine GO.aload_n dX12_plans_152 rfl rfl ?_
                refine GO.callV (ci := 11) (N := mX12_nextOrder) dX12_plans_153 (RX12, TX12, 151) rfl gV_RX12_751 h_x (t_X12_nextOrder h_x (osm_inj hosm (by assumption))) rfl [] rfl rfl (Nat.le_of_ble_eq_true rfl) rfl (k_is fun X25776 V25780 r25777 h25778 hF25779 => ?_)
                have ak25781 := tk_fr hF25779 ak25615 h_x (by decide +kernel) (by decide +kernel) (rfl : ar 144 Wi25000 x = ar 144 Wi25000 x)
                refine GO.useWT (fun hW25782 => ?_)
                have ak25783 := hW25782.arr h_x 143 115 (by decide) rfl (by decide)
                have raw_nextOrder := h25778.2.2.2
                have rw153 := h25778.2.2.2
                refine GO.istore (ls1 := [some (.ref x), some (ti p0), some (ti p1), some (ti p2), some (ti i8), some (ti X25776), some (ti X25625), none]) dX12_plans_156 rfl rfl ?_
                refine GO.useWT (fun hW1 => ?_)
                have hr := pl_rank hW hW1 h_x hosm raw_nextOrder.1
                refine GO.goto (tgt := 72) dX12_plans_158 (by decide) ?_
                refine GO.drop [true, true, true, true, true, true, false, true] rfl ?_
                exact ih25611 X25776 V25780 ⟨by omega, by omega, (by first | exact nxo_inj raw_nextOrder.1 | exact osm_inj hosm (by assumption) | exact oin_inj (by assumption) (by omega)), (by first | exact PLC.next hbs hmg raw_nextOrder.2 (vi_fr hF25779 h_x h_x (by decide +kernel)) (arq hF25779 ext.rf h_x ⟨_, (hWq.arr h_x 144 116 (by decide) rfl (by decide))⟩ (by decide +kernel) (by decide +kernel)) | exact PLC.go h8a hmu (by omega) (by rw [← h95a]; unfold ar; omega) (by omega) hoi (by omega) (by decide) | exact PLC.n1 h8a hmu (by omega) (by rw [← h95a]; unfold ar; omega) rfl | exact PLC.n0 h8a (by omega) rfl), trivial⟩ (by show (((2 * (16777216 - ornk V25780 x)) + X25776)).toNat < (((2 * (16777216 - ornk Wi25000 x)) + i25000)).toNat; omega)
              ·
                refine GO.aload_n dX12_plans_114 rfl rfl ?_
                refine GO.iload dX12_plans_115 rfl ?_
                refine GO.putI h_x fp_RX12_745 rfl (by decide +kernel) r25626 (r25626).1 (r25626).2 dX12_plans_117 (fun V25785 e25784 => ?_)
                have ak25786 := tk_fld e25784 ak25614 h_x (by decide) (rfl : ar 143 Wi25000 x = ar 143 Wi25000 x)
                have ak25787 := tk_fld e25784 ak25615 h_x (by decide) (rfl : ar 144 Wi25000 x = ar 144 Wi25000 x)
                refine GO.iconst dX12_plans_120 ?_
                refine GO.istore (ls1 := [some (.ref x), some (ti p0), some (ti p1), some (ti p2), some (ti i8), some (ti i25000), some (ti X25625), some (ti 0)]) dX12_plans_121 rfl rfl ?_
                refine GO.loop1 (fun i25788 W => 0 ≤ i25788 ∧ i25788 ≤ 8 ∧ (OSM Wi25000 W x) ∧ (PCP Wi25000 W x X25625 i25788) ∧ ar 143 W x = ar 143 Wi25000 x ∧ True) (fun i25788 => [some (.ref x), some (ti p0), some (ti p1), some (ti p2), some (ti i8), some (ti i25000), some (ti X25625), some (ti i25788)]) (fun i25788 W => (2147483647 - i25788).toNat) 0 ⟨by omega, by omega, (by first | exact OSM.arr (by assumption) (by assumption) h_x (by assumption) (by assumption) (by decide) | exact osm_put hW h_x (by assumption) (by decide) (by decide)), (by first | exact PCP.beg (upd2_int e25784 (by assumption)) (vi_up e25784 (Or.inr (by decide))) ak25786.2 | exact PCP.step hpc (vi_up (by assumption) (Or.inl (K_ne h_x (by assumption) (by decide)))) (vi_up (by assumption) (Or.inl (K_ne h_x (by assumption) (by decide)))) ((ak25786.2).trans h143w.symm) ak25787.2 (by omega) rfl (by omega)), ak25786.2, trivial⟩ rfl (fun i25788 Wi25788 hp25895 ih25894 => ?_)
                obtain ⟨l_i25788, u_i25788, w0_i25788, hpc, kp25896, -⟩ := hp25895
                have r_i25788 : ir i25788 := ⟨by omega, by omega⟩
                show GO mX12_plans K V (VS K (fun V1 => (True) ∧ (MPN V V1 x p0 p1 p2))) K Wi25788 0 0 123 [some (.ref x), some (ti p0), some (ti p1), some (ti p2), some (ti i8), some (ti i25000), some (ti X25625), some (ti i25788)] []
                refine GO.useWT (fun hW25897 => ?_)
                have ak25898 := hW25897.arr h_x 143 115 (by decide) rfl (by decide)
                have ak25899 := hW25897.arr h_x 144 116 (by decide) rfl (by decide)
                refine GO.useFR (fun hFs => ?_)
                have h7c : vi Wi25788 x 137 = vi V x 137 := vi_fr hFs h_x h_x (by decide +kernel)
                have h143w := kp25896
                refine GO.iload dX12_plans_123 rfl ?_
                refine GO.aload_n dX12_plans_125 rfl rfl ?_
                refine GO.getI h_x fl_RX12_736 rfl rfl dX12_plans_126 (fun l25900 u25901 => ?_)
                refine GO.icmp_ge (tgt := 152) dX12_plans_129 (by decide) r_i25788 vi_ir (fun c25902 => ?_) (fun c25902 => ?_)
                ·
                  have hosm : OSM Wi25000 Wi25788 x := by first | exact OSM.rf | assumption
                  have hbs : PLB V Wi25000 Wi25788 x p0 p1 p2 := by first | exact PLB.yes hpl (by omega) hmf (by first | assumption | exact fun _ => (by assumption)) rfl rw86 (by omega) (by omega) hpc (by omega) | exact PLB.no hpl (by omega) hmf (by first | assumption | exact fun _ => (by assumption)) rfl rw86 (by omega)
                  refine GO.useFR (fun hFs => ?_)
                  have hmg : MPF V Wi25788 x := MPF.fr hFs ext.rf hW_0 h_x (by decide +kernel)
                  refine GO.useWT (fun hWq => ?_)
                  refine GO.aload_n dX12_plans_152 rfl rfl ?_
                  refine GO.callV (ci := 11) (N := mX12_nextOrder) dX12_plans_153 (RX12, TX12, 151) rfl gV_RX12_751 h_x (t_X12_nextOrder h_x (osm_inj hosm (by assumption))) rfl [] rfl rfl (Nat.le_of_ble_eq_true rfl) rfl (k_is fun X25903 V25907 r25904 h25905 hF25906 => ?_)
                  have ak25908 := tk_fr hF25906 ak25899 h_x (by decide +kernel) (by decide +kernel) (rfl : ar 144 Wi25788 x = ar 144 Wi25788 x)
                  refine GO.useWT (fun hW25909 => ?_)
                  have ak25910 := hW25909.arr h_x 143 115 (by decide) rfl (by decide)
                  have raw_nextOrder := h25905.2.2.2
                  have rw153 := h25905.2.2.2
                  refine GO.istore (ls1 := [some (.ref x), some (ti p0), some (ti p1), some (ti p2), some (ti i8), some (ti X25903), some (ti X25625), some (ti i25788)]) dX12_plans_156 rfl rfl ?_
                  refine GO.useWT (fun hW1 => ?_)
                  have hr := pl_rank hW hW1 h_x hosm raw_nextOrder.1
                  refine GO.goto (tgt := 72) dX12_plans_158 (by decide) ?_
                  refine GO.drop [true, true, true, true, true, true, false, false] rfl ?_
                  exact ih25611 X25903 V25907 ⟨by omega, by omega, (by first | exact nxo_inj raw_nextOrder.1 | exact osm_inj hosm (by assumption) | exact oin_inj (by assumption) (by omega)), (by first | exact PLC.next hbs hmg raw_nextOrder.2 (vi_fr hF25906 h_x h_x (by decide +kernel)) (arq hF25906 ext.rf h_x ⟨_, (hWq.arr h_x 144 116 (by decide) rfl (by decide))⟩ (by decide +kernel) (by decide +kernel)) | exact PLC.go h8a hmu (by omega) (by rw [← h95a]; unfold ar; omega) (by omega) hoi (by omega) (by decide) | exact PLC.n1 h8a hmu (by omega) (by rw [← h95a]; unfold ar; omega) rfl | exact PLC.n0 h8a (by omega) rfl), trivial⟩ (by show (((2 * (16777216 - ornk V25907 x)) + X25903)).toNat < (((2 * (16777216 - ornk Wi25000 x)) + i25000)).toNat; omega)
                ·
                  refine GO.aload_n dX12_plans_132 rfl rfl ?_
                  refine GO.getA (n := 8) h_x fl_RX12_343 rfl rfl rfl rfl dX12_plans_133 (fun hv25912 h25911 => ?_)
                  refine GO.iload dX12_plans_136 rfl ?_
                  refine GO.aload_n dX12_plans_138 rfl rfl ?_
                  refine GO.getA (n := 8) h_x fl_RX12_340 rfl rfl rfl rfl dX12_plans_139 (fun hv25914 h25913 => ?_)
                  refine GO.iload dX12_plans_142 rfl ?_
                  refine GO.iald (t := 115) rfl rfl h25913 r_i25788 (by omega) (by omega) dX12_plans_144 (fun l25915 u25916 => ?_)
                  refine GO.iast (t := 116) rfl rfl (by decide +kernel) h25911 r_i25788 (by omega) (by omega) vi_ir (vi_ir).1 (vi_ir).2 dX12_plans_145 (fun V25918 e25917 => ?_)
                  have ak25919 := tk_oth e25917 ak25898 h_x h25911 (by decide) (by decide) kp25896
                  have ak25920 := tk_put e25917 ak25899 h_x (vq_of hv25912) vi_ir (rfl : ar 144 Wi25788 x = ar 144 Wi25788 x)
                  refine GO.iinc (X := i25788) (n := 1) (Y := i25788 + 1) (ls1 := [some (.ref x), some (ti p0), some (ti p1), some (ti p2), some (ti i8), some (ti i25000), some (ti X25625), some (ti (i25788 + 1))]) dX12_plans_146 rfl rfl rfl rfl ?_
                  refine GO.goto (tgt := 123) dX12_plans_149 (by decide) ?_
                  exact ih25894 (i25788 + 1) V25918 ⟨by omega, by omega, (by first | exact OSM.arr (by assumption) (by assumption) h_x (by assumption) (by assumption) (by decide) | exact osm_put hW h_x (by assumption) (by decide) (by decide)), (by first | exact PCP.beg (upd2_int e25784 (by assumption)) (vi_up e25784 (Or.inr (by decide))) ak25919.2 | exact PCP.step hpc (vi_up e25917 (Or.inl (K_ne h_x (by assumption) (by decide)))) (vi_up e25917 (Or.inl (K_ne h_x (by assumption) (by decide)))) ((ak25919.2).trans h143w.symm) ak25920.2 (by omega) rfl (by omega)), ak25919.2, trivial⟩ (by show (2147483647 - (i25788 + 1)).toNat < (2147483647 - i25788).toNat; omega)
  ·
    refine GO.aload_n dX12_plans_20 rfl rfl ?_
    refine GO.getA (n := 8) h_x fl_RX12_340 rfl rfl rfl rfl dX12_plans_21 (fun hv25922 h25921 => ?_)
    refine GO.iload dX12_plans_24 rfl ?_
    refine GO.iload dX12_plans_26 rfl ?_
    refine GO.iast (t := 115) rfl rfl (by decide +kernel) h25921 r_i9 (by omega) (by omega) r_i9 (by omega) (by omega) dX12_plans_28 (fun V25924 e25923 => ?_)
    have ak25925 := tk_put e25923 ak24972 h_x (vq_of hv25922) r_i9 (rfl : ar 143 Wi8 x = ar 143 Wi8 x)
    have ak25926 := tk_oth e25923 ak24973 h_x h25921 (by decide) (by decide) (rfl : ar 144 Wi8 x = ar 144 Wi8 x)
    refine GO.iload dX12_plans_29 rfl ?_
    refine GO.aload_n dX12_plans_31 rfl rfl ?_
    refine GO.getA (n := 8) h_x fl_RX12_331 rfl rfl rfl rfl dX12_plans_32 (fun hv25928 h25927 => ?_)
    refine GO.iload dX12_plans_35 rfl ?_
    refine GO.iald (t := 112) rfl rfl h25927 r_i9 (by omega) (by omega) dX12_plans_37 (fun _ _ => ?_)
    refine GO.useFR (fun hFs => ?_)
    have h40b := (MPF.fr hFs ext.rf hW_0 h_x (by decide +kernel)).2.2.1
    refine GO.iadd dX12_plans_38 ?_
    refine GO.norm (fun z25930 r25931 hn25932 => ?_)
    refine GO.istore (ls1 := [some (.ref x), some (ti p0), some (ti p1), some (ti p2), some (ti z25930), some (ti i9), none, none]) dX12_plans_39 rfl rfl ?_
    refine GO.iinc (X := i9) (n := 1) (Y := i9 + 1) (ls1 := [some (.ref x), some (ti p0), some (ti p1), some (ti p2), some (ti z25930), some (ti (i9 + 1)), none, none]) dX12_plans_41 rfl rfl rfl rfl ?_
    refine GO.goto (tgt := 11) dX12_plans_44 (by decide) ?_
    have q25933 : -2147483648 ≤ z25930 ∧ z25930 ≤ 2147483647 := r25931
    exact ih24969 z25930 (i9 + 1) V25924 ⟨by omega, by omega, by omega, by omega, (by first | exact oin_0 (by omega) | exact oin_step (by assumption) (by assumption) h_x (by assumption) (by assumption) (by omega)), (by first | exact MSU5.beg hW_0 h_x | exact MSU5.step hmu hW_0 h_x (by omega) h7a h40a (by first | assumption | exact fun _ => rfl) (by exact congrFun h40b _) (by omega)), (by first | exact upd2_int e4 (ir_c rfl) | exact (vi_up e25923 (Or.inl (K_ne h_x (by assumption) (by decide)))).trans h8a), trivial⟩ (by show (2147483647 - (i9 + 1)).toNat < (2147483647 - i9).toNat; omega)

set_option maxHeartbeats 1000000 in
theorem t_X12_plan {K : Kmap} {V : Vmap} {x : Nat} {p0 : Int} {p1 : Int} {p2 : Int} (h_x : K x = some (0, 11)) (r_p0 : ir p0) (r_p1 : ir p1) (r_p2 : ir p2) : MC mX12_plan K V [.ref x, ti p0, ti p1, ti p2] (IS K (fun X V1 => (X ≥ (-2147483648) ∧ X ≤ 2147483647) ∧ (MAC V V1 x p0 p1 p2 X))) := by
  refine MC.start 0 (by decide +kernel) rfl rfl rfl (ls0 := [some (.ref x), some (ti p0), some (ti p1), some (ti p2)]) rfl ?_
  refine GO.aload_n dX12_plan_0 rfl rfl ?_
  refine GO.iload_n dX12_plan_1 rfl rfl ?_
  refine GO.callV (ci := 11) (N := mX12_isShip) dX12_plan_2 (RX12, TX12, 151) rfl gV_RX12_618 h_x (t_X12_isShip h_x r_p0) rfl [] rfl rfl (Nat.le_of_ble_eq_true rfl) rfl (k_ip fun X1 r2 h3 => ?_)
  refine GO.if_eq (tgt := 26) dX12_plan_5 (by decide) r2 (fun c4 => ?_) (fun c4 => ?_)
  ·
    have q5 := h3.2.2 (by omega)
    refine GO.iconst dX12_plan_26 ?_
    exact GO.reti rfl rfl dX12_plan_27 ⟨rfl, _, rfl, (ir_c rfl), ⟨(by first | exact trivial | omega), (by first | exact Or.inl ⟨⟨by omega, by omega⟩, ⟨by omega, by omega⟩, ⟨by omega, by omega⟩, rw32, rfl⟩ | exact Or.inr ⟨fun g => by have h1 := g.1; have h2 := g.2.1; have h3 := g.2.2; omega, rfl, rfl⟩)⟩⟩
  ·
    have q6 := h3.2.1 (by omega)
    refine GO.iload_n dX12_plan_8 rfl rfl ?_
    refine GO.callS (N := mX12_isSea) dX12_plan_9 gS_RX12_615 (t_X12_isSea r_p1) rfl [] rfl rfl (Nat.le_of_ble_eq_true rfl) rfl (k_ip fun X7 r8 h9 => ?_)
    refine GO.if_eq (tgt := 26) dX12_plan_12 (by decide) r8 (fun c10 => ?_) (fun c10 => ?_)
    ·
      have q11 := h9.2.2 (by omega)
      refine GO.iconst dX12_plan_26 ?_
      exact GO.reti rfl rfl dX12_plan_27 ⟨rfl, _, rfl, (ir_c rfl), ⟨(by first | exact trivial | omega), (by first | exact Or.inl ⟨⟨by omega, by omega⟩, ⟨by omega, by omega⟩, ⟨by omega, by omega⟩, rw32, rfl⟩ | exact Or.inr ⟨fun g => by have h1 := g.1; have h2 := g.2.1; have h3 := g.2.2; omega, rfl, rfl⟩)⟩⟩
    ·
      have q12 := h9.2.1 (by omega)
      refine GO.iload_n dX12_plan_15 rfl rfl ?_
      refine GO.iconst dX12_plan_16 ?_
      refine GO.sipush dX12_plan_17 rfl ?_
      refine GO.callS (N := mX12_in) dX12_plan_20 gS_RX12_371 (t_X12_in r_p2 (ir_c rfl) (ir_c rfl)) rfl [] rfl rfl (Nat.le_of_ble_eq_true rfl) rfl (k_ip fun X13 r14 h15 => ?_)
      have raw_in := h15.2.2.2
      have rw20 := h15.2.2.2
      refine GO.if_ne (tgt := 28) dX12_plan_23 (by decide) r14 (fun c16 => ?_) (fun c16 => ?_)
      ·
        have q17 := h15.2.1 (by omega)
        refine GO.aload_n dX12_plan_28 rfl rfl ?_
        refine GO.iload_n dX12_plan_29 rfl rfl ?_
        refine GO.iload_n dX12_plan_30 rfl rfl ?_
        refine GO.iload_n dX12_plan_31 rfl rfl ?_
        have q18 : -2147483648 ≤ p0 ∧ p0 ≤ 2147483647 := r_p0
        have q19 : -2147483648 ≤ vi V x 91 ∧ vi V x 91 ≤ 2147483647 := vi_ir
        have q20 : -2147483648 ≤ p1 ∧ p1 ≤ 2147483647 := r_p1
        refine GO.callV (ci := 11) (N := mX12_plans) dX12_plan_32 (RX12, TX12, 151) rfl gV_RX12_754 h_x (t_X12_plans h_x r_p0 r_p1 r_p2 (by omega) (by omega) (by omega) (by omega)) rfl [] rfl rfl (Nat.le_of_ble_eq_true rfl) rfl (k_vs fun V23 h22 hF21 => ?_)
        have raw_plans := h22.2
        have rw32 := h22.2
        refine GO.aload_n dX12_plan_35 rfl rfl ?_
        refine GO.getI h_x fl_RX12_745 rfl rfl dX12_plan_36 (fun _ _ => ?_)
        have q25 : -2147483648 ≤ vi V23 x 138 ∧ vi V23 x 138 ≤ 2147483647 := vi_ir
        exact GO.reti rfl rfl dX12_plan_39 ⟨rfl, _, rfl, vi_ir, ⟨(by first | exact trivial | omega), (by first | exact Or.inl ⟨⟨by omega, by omega⟩, ⟨by omega, by omega⟩, ⟨by omega, by omega⟩, rw32, rfl⟩ | exact Or.inr ⟨fun g => by have h1 := g.1; have h2 := g.2.1; have h3 := g.2.2; omega, rfl, rfl⟩)⟩⟩
      ·
        have q26 := h15.2.2.1 (by omega)
        refine GO.iconst dX12_plan_26 ?_
        exact GO.reti rfl rfl dX12_plan_27 ⟨rfl, _, rfl, (ir_c rfl), ⟨(by first | exact trivial | omega), (by first | exact Or.inl ⟨⟨by omega, by omega⟩, ⟨by omega, by omega⟩, ⟨by omega, by omega⟩, rw32, rfl⟩ | exact Or.inr ⟨fun g => by have h1 := g.1; have h2 := g.2.1; have h3 := g.2.2; omega, rfl, rfl⟩)⟩⟩
