def mX8_get_k25 : MRec := (RX8, cX8_get, 5, (some .int), yX8_get, 0, 0, 0, 0, 0)
def mX11_worthOf : MRec := (RX11, cX11_worthOf, 4, (some .int), yX11_worthOf, 1, 24, 0, 0, 0)
def mX11_best : MRec := (RX11, cX11_best, 7, (some .int), yX11_best, 3, 67, 0, 0, 0)
def mX8_isFull_k24 : MRec := (RX8, cX8_isFull, 1, (some .boolean), yX8_isFull, 0, 0, 0, 0, 0)
def mX8_put_k24 : MRec := (RX8, cX8_put, 6, (none : Option Jvm.ClassFile.FieldType), yX8_put, 0, 0, 0, 0, 338460656020607282663380637712778772392143197677711984273740183180495765112991409062496875745134225841966700556811959451779072)
def mX8_append_k24 : MRec := (RX8, cX8_append, 7, (some .int), yX8_append, 1, 25, 0, 0, 36499524940977561749129372845602330599145828057988479444633540143194539798325439699329965871176683977001530619786432970469783377954183999751134281966840210381761091620724086301219805497424609280)
def mX11_stop : MRec := (RX11, cX11_stop, 3, (some .int), yX11_stop, 3, 66, 0, 0, 36499524940977561749129372845602330599145828057988479444633540143194539798325439699329965871176683977001530619786432970469783377954183999751134281966840210381761091620724086305831491515851997184)
def mX8_has_k24 : MRec := (RX8, cX8_has, 2, (some .boolean), yX8_has, 0, 0, 0, 0, 0)
def mX4_put_t137 : MRec := (RX4, cX4_put, 3, (none : Option Jvm.ClassFile.FieldType), yX4_put, 0, 0, 0, 0, 661055968790248598951915308032771039828404682964281219284648795274405791236311345825189210439715284847591212025023358304256)
def mX4_put_t138 : MRec := (RX4, cX4_put, 3, (none : Option Jvm.ClassFile.FieldType), yX4_put, 0, 0, 0, 0, 1322111937580497197903830616065542079656809365928562438569297590548811582472622691650378420879430569695182424050046716608512)
def mX11_open : MRec := (RX11, cX11_open, 5, (some .boolean), yX11_open, 1, 22, 0, 0, 1983167906370745796855745924098313119485214048892843657853946385823217373708934037475567631319145854542778247761088502300672)
def mX4_put_t139 : MRec := (RX4, cX4_put, 3, (none : Option Jvm.ClassFile.FieldType), yX4_put, 0, 0, 0, 0, 2644223875160994395807661232131084159313618731857124877138595181097623164945245383300756841758861139390364848100093433217024)
def mX11_measureLegs : MRec := (RX11, cX11_measureLegs, 5, (none : Option Jvm.ClassFile.FieldType), yX11_measureLegs, 2, 44, 0, 0, 2644223875160994395807661232131084159313618731857124877138595181097623164945245383300756841758861139390364848100093433217024)
set_option maxHeartbeats 1000000 in
theorem t_X8_get_k25 {K : Kmap} {V : Vmap} {x : Nat} {p0 : Int} {p1 : Int} (h_x : K x = some (0, 25)) (r_p0 : ir p0) (r_p1 : ir p1) : MC mX8_get_k25 K V [.ref x, ti p0, ti p1] (IP K V (fun X => True)) := by
  refine MC.start 2 (by decide +kernel) rfl rfl rfl (ls0 := [some (.ref x), some (ti p0), some (ti p1), none, none]) rfl ?_
  refine GO.iload_n dX8_get_0 rfl rfl ?_
  refine GO.aload_n dX8_get_1 rfl rfl ?_
  refine GO.getI h_x fl_RX8_15_k25 rfl rfl dX8_get_2 (fun l1 u2 => ?_)
  refine GO.imul dX8_get_5 ?_
  refine GO.norm (fun z3 r4 hn5 => ?_)
  refine GO.iload_n dX8_get_6 rfl rfl ?_
  refine GO.iadd dX8_get_7 ?_
  refine GO.norm (fun z6 r7 hn8 => ?_)
  refine GO.istore_n (ls1 := [some (.ref x), some (ti p0), some (ti p1), some (ti z6), none]) dX8_get_8 rfl rfl rfl ?_
  refine GO.iload_n dX8_get_9 rfl rfl ?_
  have hj18 : ∀ (z17 : Int), ∀ (l19 : 0 ≤ z17), ∀ (u20 : z17 ≤ 1), GO mX8_get_k25 K V (IP K V (fun X => True)) K V 0 0 38 [some (.ref x), some (ti p0), some (ti p1), some (ti z6), none] [ti z17] := by
    intro z17 l19 u20
    have r21 : ir z17 := ⟨by omega, by omega⟩
    refine GO.istore (ls1 := [some (.ref x), some (ti p0), some (ti p1), some (ti z6), some (ti z17)]) dX8_get_38 rfl rfl ?_
    refine GO.iload dX8_get_40 rfl ?_
    refine GO.if_eq (tgt := 67) dX8_get_42 (by decide) r21 (fun c22 => ?_) (fun c22 => ?_)
    ·
      refine GO.iconst dX8_get_67 ?_
      exact GO.reti rfl rfl dX8_get_68 ⟨rfl, rfl, _, rfl, (ir_c rfl), trivial⟩
    ·
      refine GO.iload_n dX8_get_45 rfl rfl ?_
      refine GO.if_lt (tgt := 67) dX8_get_46 (by decide) r7 (fun c23 => ?_) (fun c23 => ?_)
      ·
        refine GO.iconst dX8_get_67 ?_
        exact GO.reti rfl rfl dX8_get_68 ⟨rfl, rfl, _, rfl, (ir_c rfl), trivial⟩
      ·
        refine GO.iload_n dX8_get_49 rfl rfl ?_
        refine GO.aload_n dX8_get_50 rfl rfl ?_
        refine GO.getA (n := 7) h_x fl_RX8_27_k25 rfl rfl rfl rfl dX8_get_51 (fun hv25 h24 => ?_)
        refine GO.alen h24 dX8_get_54 (fun h26 => ?_)
        refine GO.icmp_ge (tgt := 67) dX8_get_55 (by decide) r7 ⟨by omega, by omega⟩ (fun c27 => ?_) (fun c27 => ?_)
        ·
          refine GO.iconst dX8_get_67 ?_
          exact GO.reti rfl rfl dX8_get_68 ⟨rfl, rfl, _, rfl, (ir_c rfl), trivial⟩
        ·
          refine GO.aload_n dX8_get_58 rfl rfl ?_
          refine GO.getRaw h_x fl_RX8_27_k25 hv25 dX8_get_59 ?_
          refine GO.iload_n dX8_get_62 rfl rfl ?_
          have q30 : -2147483648 ≤ z6 ∧ z6 ≤ 2147483647 := r7
          refine GO.iald (t := 147) rfl rfl h24 r7 (by omega) (by omega) dX8_get_63 (fun _ _ => ?_)
          refine GO.goto (tgt := 68) dX8_get_64 (by decide) ?_
          have q31 : -2147483648 ≤ vi V (vq V x 2) (z6).toNat ∧ vi V (vq V x 2) (z6).toNat ≤ 2147483647 := vi_ir
          exact GO.reti rfl rfl dX8_get_68 ⟨rfl, rfl, _, rfl, vi_ir, trivial⟩
  have hj40 : GO mX8_get_k25 K V (IP K V (fun X => True)) K V 0 0 37 [some (.ref x), some (ti p0), some (ti p1), some (ti z6), none] [] := by
    skip
    refine GO.iconst dX8_get_37 ?_
    exact hj18 0 (by omega) (by omega)
  refine GO.if_lt (tgt := 37) dX8_get_10 (by decide) r_p0 (fun c41 => ?_) (fun c41 => ?_)
  ·
    exact hj40 
  ·
    refine GO.iload_n dX8_get_13 rfl rfl ?_
    refine GO.aload_n dX8_get_14 rfl rfl ?_
    refine GO.getI h_x fl_RX8_9_k25 rfl rfl dX8_get_15 (fun l42 u43 => ?_)
    refine GO.icmp_ge (tgt := 37) dX8_get_18 (by decide) r_p0 vi_ir (fun c44 => ?_) (fun c44 => ?_)
    ·
      exact hj40 
    ·
      refine GO.iload_n dX8_get_21 rfl rfl ?_
      refine GO.if_lt (tgt := 37) dX8_get_22 (by decide) r_p1 (fun c45 => ?_) (fun c45 => ?_)
      ·
        exact hj40 
      ·
        refine GO.iload_n dX8_get_25 rfl rfl ?_
        refine GO.aload_n dX8_get_26 rfl rfl ?_
        refine GO.getI h_x fl_RX8_15_k25 rfl rfl dX8_get_27 (fun l46 u47 => ?_)
        refine GO.icmp_ge (tgt := 37) dX8_get_30 (by decide) r_p1 vi_ir (fun c48 => ?_) (fun c48 => ?_)
        ·
          exact hj40 
        ·
          refine GO.iconst dX8_get_33 ?_
          refine GO.goto (tgt := 38) dX8_get_34 (by decide) ?_
          exact hj18 1 (by omega) (by omega)

set_option maxHeartbeats 1000000 in
theorem t_X11_worthOf {K : Kmap} {V : Vmap} {x : Nat} {p0 : Int} (h_x : K x = some (0, 10)) (r_p0 : ir p0) : MC mX11_worthOf K V [.ref x, ti p0] (IP K V (fun X => True)) := by
  refine MC.start 2 (by decide +kernel) rfl rfl rfl (ls0 := [some (.ref x), some (ti p0), none, none]) rfl ?_
  refine GO.iconst dX11_worthOf_0 ?_
  refine GO.istore_n (ls1 := [some (.ref x), some (ti p0), some (ti 0), none]) dX11_worthOf_1 rfl rfl rfl ?_
  refine GO.iconst dX11_worthOf_2 ?_
  refine GO.istore_n (ls1 := [some (.ref x), some (ti p0), some (ti 0), some (ti 0)]) dX11_worthOf_3 rfl rfl rfl ?_
  refine GO.loop2 (fun i1 i2 W => (-2147483648) ≤ i1 ∧ i1 ≤ 2147483647 ∧ 0 ≤ i2 ∧ i2 ≤ 7 ∧ V = W) (fun i1 i2 => [some (.ref x), some (ti p0), some (ti i1), some (ti i2)]) (fun i1 i2 W => (2147483647 - i2).toNat) 0 0 ⟨by omega, by omega, by omega, by omega, rfl⟩ rfl (fun i1 i2 V366 hp368 ih367 => ?_)
  obtain ⟨l_i1, u_i1, l_i2, u_i2, rfl⟩ := hp368
  have r_i1 : ir i1 := ⟨by omega, by omega⟩
  have r_i2 : ir i2 := ⟨by omega, by omega⟩
  show GO mX11_worthOf K V (IP K V (fun X => True)) K V 0 0 4 [some (.ref x), some (ti p0), some (ti i1), some (ti i2)] []
  refine GO.iload_n dX11_worthOf_4 rfl rfl ?_
  refine GO.aload_n dX11_worthOf_5 rfl rfl ?_
  refine GO.getR h_x fl_RX11_88 rfl rfl dX11_worthOf_6 (fun hv370 h369 => ?_)
  refine GO.getI h369 fl_RX11_199_k25 rfl rfl dX11_worthOf_9 (fun l371 u372 => ?_)
  refine GO.icmp_ge (tgt := 41) dX11_worthOf_12 (by decide) r_i2 vi_ir (fun c373 => ?_) (fun c373 => ?_)
  ·
    refine GO.iload_n dX11_worthOf_41 rfl rfl ?_
    exact GO.reti rfl rfl dX11_worthOf_42 ⟨rfl, rfl, _, rfl, r_i1, trivial⟩
  ·
    refine GO.iload_n dX11_worthOf_15 rfl rfl ?_
    refine GO.iload_n dX11_worthOf_16 rfl rfl ?_
    refine GO.ishr dX11_worthOf_17 ?_
    refine GO.iconst dX11_worthOf_18 ?_
    refine GO.iand dX11_worthOf_19 ?_
    refine GO.if_eq (tgt := 35) dX11_worthOf_20 (by decide) wand_ir (fun c374 => ?_) (fun c374 => ?_)
    ·
      refine GO.iinc (X := i2) (n := 1) (Y := i2 + 1) (ls1 := [some (.ref x), some (ti p0), some (ti i1), some (ti (i2 + 1))]) dX11_worthOf_35 rfl rfl rfl rfl ?_
      refine GO.goto (tgt := 4) dX11_worthOf_38 (by decide) ?_
      exact ih367 i1 (i2 + 1) V ⟨by omega, by omega, by omega, by omega, rfl⟩ (by show (2147483647 - (i2 + 1)).toNat < (2147483647 - i2).toNat; omega)
    ·
      refine GO.iload_n dX11_worthOf_23 rfl rfl ?_
      refine GO.aload_n dX11_worthOf_24 rfl rfl ?_
      refine GO.getRaw h_x fl_RX11_88 hv370 dX11_worthOf_25 ?_
      refine GO.iload_n dX11_worthOf_28 rfl rfl ?_
      refine GO.iconst dX11_worthOf_29 ?_
      refine GO.callV (ci := 25) (N := mX8_get_k25) dX11_worthOf_30 (RX8, TX8, 4) rfl gV_RX11_209 h369 (t_X8_get_k25 h369 r_i2 (ir_c rfl)) rfl [ti i1] rfl rfl (Nat.le_of_ble_eq_true rfl) rfl (k_ip fun X377 r378 h379 => ?_)
      refine GO.iadd dX11_worthOf_33 ?_
      refine GO.norm (fun z380 r381 hn382 => ?_)
      refine GO.istore_n (ls1 := [some (.ref x), some (ti p0), some (ti z380), some (ti i2)]) dX11_worthOf_34 rfl rfl rfl ?_
      refine GO.iinc (X := i2) (n := 1) (Y := i2 + 1) (ls1 := [some (.ref x), some (ti p0), some (ti z380), some (ti (i2 + 1))]) dX11_worthOf_35 rfl rfl rfl rfl ?_
      refine GO.goto (tgt := 4) dX11_worthOf_38 (by decide) ?_
      have q383 : -2147483648 ≤ z380 ∧ z380 ≤ 2147483647 := r381
      exact ih367 z380 (i2 + 1) V ⟨by omega, by omega, by omega, by omega, rfl⟩ (by show (2147483647 - (i2 + 1)).toNat < (2147483647 - i2).toNat; omega)

set_option maxHeartbeats 1000000 in
theorem t_X11_best {K : Kmap} {V : Vmap} {x : Nat} (h_x : K x = some (0, 10)) (w_0 : PN V x) : MC mX11_best K V [.ref x] (IP K V (fun X => True)) := by
  refine MC.start 6 (by decide +kernel) rfl rfl rfl (ls0 := [some (.ref x), none, none, none, none, none, none]) rfl ?_
  refine GO.aload_n dX11_best_0 rfl rfl ?_
  refine GO.aload_n dX11_best_1 rfl rfl ?_
  refine GO.getR h_x fl_RX11_12 rfl rfl dX11_best_2 (fun hv2 h1 => ?_)
  refine GO.getI h1 fl_RX11_145 rfl rfl dX11_best_5 (fun l3 u4 => ?_)
  refine GO.callV (ci := 10) (N := mX11_decidingOn) dX11_best_8 (RX11, TX11, 20) rfl gV_RX11_369 h_x (t_X11_decidingOn h_x vi_ir) rfl [] rfl rfl (Nat.le_of_ble_eq_true rfl) rfl (k_ip fun X5 r6 h7 => ?_)
  refine GO.istore_n (ls1 := [some (.ref x), some (ti X5), none, none, none, none, none]) dX11_best_11 rfl rfl rfl ?_
  refine GO.iconst dX11_best_12 ?_
  refine GO.istore_n (ls1 := [some (.ref x), some (ti X5), some (ti 0), none, none, none, none]) dX11_best_13 rfl rfl rfl ?_
  refine GO.iconst dX11_best_14 ?_
  refine GO.istore_n (ls1 := [some (.ref x), some (ti X5), some (ti 0), some (ti 0), none, none, none]) dX11_best_15 rfl rfl rfl ?_
  refine GO.iconst dX11_best_16 ?_
  refine GO.istore (ls1 := [some (.ref x), some (ti X5), some (ti 0), some (ti 0), some (ti 1), none, none]) dX11_best_17 rfl rfl ?_
  refine GO.loop3 (fun i8 i9 i10 W => 0 ≤ i8 ∧ i8 ≤ 2147483646 ∧ (-2147483648) ≤ i9 ∧ i9 ≤ 2147483647 ∧ 1 ≤ i10 ∧ i10 ≤ 2147483647 ∧ V = W) (fun i8 i9 i10 => [some (.ref x), some (ti X5), some (ti i8), some (ti i9), some (ti i10), none, none]) (fun i8 i9 i10 W => (2147483647 - i10).toNat) 0 0 1 ⟨by omega, by omega, by omega, by omega, by omega, by omega, rfl⟩ rfl (fun i8 i9 i10 V2363 hp2365 ih2364 => ?_)
  obtain ⟨l_i8, u_i8, l_i9, u_i9, l_i10, u_i10, rfl⟩ := hp2365
  have r_i8 : ir i8 := ⟨by omega, by omega⟩
  have r_i9 : ir i9 := ⟨by omega, by omega⟩
  have r_i10 : ir i10 := ⟨by omega, by omega⟩
  show GO mX11_best K V (IP K V (fun X => True)) K V 0 0 19 [some (.ref x), some (ti X5), some (ti i8), some (ti i9), some (ti i10), none, none] []
  refine GO.iload dX11_best_19 rfl ?_
  refine GO.iconst dX11_best_21 ?_
  refine GO.aload_n dX11_best_22 rfl rfl ?_
  refine GO.getR h_x fl_RX11_88 rfl rfl dX11_best_23 (fun hv2367 h2366 => ?_)
  refine GO.getI h2366 fl_RX11_199_k25 rfl rfl dX11_best_26 (fun l2368 u2369 => ?_)
  refine GO.ishl dX11_best_29 ?_
  refine GO.icmp_ge (tgt := 100) dX11_best_30 (by decide) r_i10 wshl_ir (fun c2370 => ?_) (fun c2370 => ?_)
  ·
    refine GO.iload_n dX11_best_100 rfl rfl ?_
    exact GO.reti rfl rfl dX11_best_101 ⟨rfl, rfl, _, rfl, r_i8, trivial⟩
  ·
    refine GO.aload_n dX11_best_33 rfl rfl ?_
    refine GO.iload dX11_best_34 rfl ?_
    refine GO.callV (ci := 10) (N := mX11_worthOf) dX11_best_36 (RX11, TX11, 20) rfl gV_RX11_584 h_x (t_X11_worthOf h_x r_i10) rfl [] rfl rfl (Nat.le_of_ble_eq_true rfl) rfl (k_ip fun X2371 r2372 h2373 => ?_)
    refine GO.istore (ls1 := [some (.ref x), some (ti X5), some (ti i8), some (ti i9), some (ti i10), some (ti X2371), none]) dX11_best_39 rfl rfl ?_
    refine GO.iload dX11_best_41 rfl ?_
    refine GO.iload_n dX11_best_43 rfl rfl ?_
    have hj2383 : ∀ (z2382 : Int), ∀ (l2384 : 0 ≤ z2382), ∀ (u2385 : z2382 ≤ 1), GO mX11_best K V (IP K V (fun X => True)) K V 0 0 64 [some (.ref x), some (ti X5), some (ti i8), some (ti i9), some (ti i10), some (ti X2371), none] [ti z2382] := by
      intro z2382 l2384 u2385
      have r2386 : ir z2382 := ⟨by omega, by omega⟩
      refine GO.istore (ls1 := [some (.ref x), some (ti X5), some (ti i8), some (ti i9), some (ti i10), some (ti X2371), some (ti z2382)]) dX11_best_64 rfl rfl ?_
      refine GO.iload dX11_best_66 rfl ?_
      refine GO.iload_n dX11_best_68 rfl rfl ?_
      refine GO.icmp_gt (tgt := 77) dX11_best_69 (by decide) r2372 r_i9 (fun c2387 => ?_) (fun c2387 => ?_)
      ·
        refine GO.aload_n dX11_best_77 rfl rfl ?_
        refine GO.iload dX11_best_78 rfl ?_
        refine GO.callV (ci := 10) (N := mX11_blockers) dX11_best_80 (RX11, TX11, 20) rfl gV_RX11_581 h_x (t_X11_blockers h_x r_i10 (w_0)) rfl [] rfl rfl (Nat.le_of_ble_eq_true rfl) rfl (k_ip fun X2388 r2389 h2390 => ?_)
        have raw_blockers := h2390.2
        have rw80 := h2390.2
        refine GO.iload_n dX11_best_83 rfl rfl ?_
        refine GO.iand dX11_best_84 ?_
        refine GO.if_ne (tgt := 94) dX11_best_85 (by decide) wand_ir (fun c2391 => ?_) (fun c2391 => ?_)
        ·
          refine GO.iinc (X := i10) (n := 1) (Y := i10 + 1) (ls1 := [some (.ref x), some (ti X5), some (ti i8), some (ti i9), some (ti (i10 + 1)), some (ti X2371), some (ti z2382)]) dX11_best_94 rfl rfl rfl rfl ?_
          refine GO.goto (tgt := 19) dX11_best_97 (by decide) ?_
          refine GO.drop [true, true, true, true, true, false, false] rfl ?_
          have q2392 : -2147483648 ≤ wshl 1 (vi V (vq V x 16) 3) ∧ wshl 1 (vi V (vq V x 16) 3) ≤ 2147483647 := wshl_ir
          have q2393 : -2147483648 ≤ X2371 ∧ X2371 ≤ 2147483647 := r2372
          exact ih2364 i8 i9 (i10 + 1) V ⟨by omega, by omega, by omega, by omega, by omega, by omega, rfl⟩ (by show (2147483647 - (i10 + 1)).toNat < (2147483647 - i10).toNat; omega)
        ·
          refine GO.iload dX11_best_88 rfl ?_
          refine GO.istore_n (ls1 := [some (.ref x), some (ti X5), some (ti i10), some (ti i9), some (ti i10), some (ti X2371), some (ti z2382)]) dX11_best_90 rfl rfl rfl ?_
          refine GO.iload dX11_best_91 rfl ?_
          refine GO.istore_n (ls1 := [some (.ref x), some (ti X5), some (ti i10), some (ti X2371), some (ti i10), some (ti X2371), some (ti z2382)]) dX11_best_93 rfl rfl rfl ?_
          refine GO.iinc (X := i10) (n := 1) (Y := i10 + 1) (ls1 := [some (.ref x), some (ti X5), some (ti i10), some (ti X2371), some (ti (i10 + 1)), some (ti X2371), some (ti z2382)]) dX11_best_94 rfl rfl rfl rfl ?_
          refine GO.goto (tgt := 19) dX11_best_97 (by decide) ?_
          refine GO.drop [true, true, true, true, true, false, false] rfl ?_
          have q2394 : -2147483648 ≤ wshl 1 (vi V (vq V x 16) 3) ∧ wshl 1 (vi V (vq V x 16) 3) ≤ 2147483647 := wshl_ir
          have q2395 : -2147483648 ≤ X2371 ∧ X2371 ≤ 2147483647 := r2372
          exact ih2364 i10 X2371 (i10 + 1) V ⟨by omega, by omega, by omega, by omega, by omega, by omega, rfl⟩ (by show (2147483647 - (i10 + 1)).toNat < (2147483647 - i10).toNat; omega)
      ·
        refine GO.iload dX11_best_72 rfl ?_
        refine GO.if_eq (tgt := 94) dX11_best_74 (by decide) r2386 (fun c2396 => ?_) (fun c2396 => ?_)
        ·
          refine GO.iinc (X := i10) (n := 1) (Y := i10 + 1) (ls1 := [some (.ref x), some (ti X5), some (ti i8), some (ti i9), some (ti (i10 + 1)), some (ti X2371), some (ti z2382)]) dX11_best_94 rfl rfl rfl rfl ?_
          refine GO.goto (tgt := 19) dX11_best_97 (by decide) ?_
          refine GO.drop [true, true, true, true, true, false, false] rfl ?_
          have q2397 : -2147483648 ≤ wshl 1 (vi V (vq V x 16) 3) ∧ wshl 1 (vi V (vq V x 16) 3) ≤ 2147483647 := wshl_ir
          have q2398 : -2147483648 ≤ X2371 ∧ X2371 ≤ 2147483647 := r2372
          exact ih2364 i8 i9 (i10 + 1) V ⟨by omega, by omega, by omega, by omega, by omega, by omega, rfl⟩ (by show (2147483647 - (i10 + 1)).toNat < (2147483647 - i10).toNat; omega)
        ·
          refine GO.aload_n dX11_best_77 rfl rfl ?_
          refine GO.iload dX11_best_78 rfl ?_
          refine GO.callV (ci := 10) (N := mX11_blockers) dX11_best_80 (RX11, TX11, 20) rfl gV_RX11_581 h_x (t_X11_blockers h_x r_i10 (w_0)) rfl [] rfl rfl (Nat.le_of_ble_eq_true rfl) rfl (k_ip fun X2399 r2400 h2401 => ?_)
          have raw_blockers := h2401.2
          have rw80 := h2401.2
          refine GO.iload_n dX11_best_83 rfl rfl ?_
          refine GO.iand dX11_best_84 ?_
          refine GO.if_ne (tgt := 94) dX11_best_85 (by decide) wand_ir (fun c2402 => ?_) (fun c2402 => ?_)
          ·
            refine GO.iinc (X := i10) (n := 1) (Y := i10 + 1) (ls1 := [some (.ref x), some (ti X5), some (ti i8), some (ti i9), some (ti (i10 + 1)), some (ti X2371), some (ti z2382)]) dX11_best_94 rfl rfl rfl rfl ?_
            refine GO.goto (tgt := 19) dX11_best_97 (by decide) ?_
            refine GO.drop [true, true, true, true, true, false, false] rfl ?_
            have q2403 : -2147483648 ≤ wshl 1 (vi V (vq V x 16) 3) ∧ wshl 1 (vi V (vq V x 16) 3) ≤ 2147483647 := wshl_ir
            have q2404 : -2147483648 ≤ X2371 ∧ X2371 ≤ 2147483647 := r2372
            exact ih2364 i8 i9 (i10 + 1) V ⟨by omega, by omega, by omega, by omega, by omega, by omega, rfl⟩ (by show (2147483647 - (i10 + 1)).toNat < (2147483647 - i10).toNat; omega)
          ·
            refine GO.iload dX11_best_88 rfl ?_
            refine GO.istore_n (ls1 := [some (.ref x), some (ti X5), some (ti i10), some (ti i9), some (ti i10), some (ti X2371), some (ti z2382)]) dX11_best_90 rfl rfl rfl ?_
            refine GO.iload dX11_best_91 rfl ?_
            refine GO.istore_n (ls1 := [some (.ref x), some (ti X5), some (ti i10), some (ti X2371), some (ti i10), some (ti X2371), some (ti z2382)]) dX11_best_93 rfl rfl rfl ?_
            refine GO.iinc (X := i10) (n := 1) (Y := i10 + 1) (ls1 := [some (.ref x), some (ti X5), some (ti i10), some (ti X2371), some (ti (i10 + 1)), some (ti X2371), some (ti z2382)]) dX11_best_94 rfl rfl rfl rfl ?_
            refine GO.goto (tgt := 19) dX11_best_97 (by decide) ?_
            refine GO.drop [true, true, true, true, true, false, false] rfl ?_
            have q2405 : -2147483648 ≤ wshl 1 (vi V (vq V x 16) 3) ∧ wshl 1 (vi V (vq V x 16) 3) ≤ 2147483647 := wshl_ir
            have q2406 : -2147483648 ≤ X2371 ∧ X2371 ≤ 2147483647 := r2372
            exact ih2364 i10 X2371 (i10 + 1) V ⟨by omega, by omega, by omega, by omega, by omega, by omega, rfl⟩ (by show (2147483647 - (i10 + 1)).toNat < (2147483647 - i10).toNat; omega)
    have hj2415 : GO mX11_best K V (IP K V (fun X => True)) K V 0 0 63 [some (.ref x), some (ti X5), some (ti i8), some (ti i9), some (ti i10), some (ti X2371), none] [] := by
      skip
      refine GO.iconst dX11_best_63 ?_
      exact hj2383 0 (by omega) (by omega)
    refine GO.icmp_ne (tgt := 63) dX11_best_44 (by decide) r2372 r_i9 (fun c2416 => ?_) (fun c2416 => ?_)
    ·
      exact hj2415 
    ·
      refine GO.iload dX11_best_47 rfl ?_
      refine GO.callS (N := mJ6_bitCount_0f7a4) dX11_best_49 gS_RX11_286 (t_J6_bitCount_0f7a4 r_i10) rfl [] rfl rfl (Nat.le_of_ble_eq_true rfl) rfl (k_ip fun X2417 r2418 h2419 => ?_)
      have raw_bitCount := h2419.2
      have rw49 := h2419.2
      refine GO.iload_n dX11_best_52 rfl rfl ?_
      refine GO.callS (N := mJ6_bitCount_0f7a4) dX11_best_53 gS_RX11_286 (t_J6_bitCount_0f7a4 r_i8) rfl [ti X2417] rfl rfl (Nat.le_of_ble_eq_true rfl) rfl (k_ip fun X2420 r2421 h2422 => ?_)
      have raw_bitCount := h2422.2
      have rw53 := h2422.2
      refine GO.icmp_ge (tgt := 63) dX11_best_56 (by decide) r2418 r2421 (fun c2423 => ?_) (fun c2423 => ?_)
      ·
        exact hj2415 
      ·
        refine GO.iconst dX11_best_59 ?_
        refine GO.goto (tgt := 64) dX11_best_60 (by decide) ?_
        exact hj2383 1 (by omega) (by omega)

set_option maxHeartbeats 1000000 in
theorem t_X8_isFull_k24 {K : Kmap} {V : Vmap} {x : Nat} (h_x : K x = some (0, 24)) : MC mX8_isFull_k24 K V [.ref x] (IP K V (fun X => (X = 0 ∨ X = 1) ∧ (X ≠ 0 → vi V x 3 ≥ 8) ∧ (X = 0 → vi V x 3 ≤ 7))) := by
  refine MC.start 0 (by decide +kernel) rfl rfl rfl (ls0 := [some (.ref x)]) rfl ?_
  refine GO.aload_n dX8_isFull_0 rfl rfl ?_
  refine GO.getI h_x fl_RX8_9_k24 rfl rfl dX8_isFull_1 (fun l1 u2 => ?_)
  refine GO.aload_n dX8_isFull_4 rfl rfl ?_
  refine GO.getI h_x fl_RX8_18_k24 rfl rfl dX8_isFull_5 (fun l3 u4 => ?_)
  refine GO.icmp_lt (tgt := 15) dX8_isFull_8 (by decide) vi_ir vi_ir (fun c5 => ?_) (fun c5 => ?_)
  ·
    refine GO.iconst dX8_isFull_15 ?_
    exact GO.retz rfl rfl dX8_isFull_16 (Or.inl rfl) ⟨rfl, rfl, _, rfl, (ir_c rfl), ⟨Or.inl rfl, fun h => absurd rfl h, fun h => by omega⟩⟩
  ·
    refine GO.iconst dX8_isFull_11 ?_
    refine GO.goto (tgt := 16) dX8_isFull_12 (by decide) ?_
    exact GO.retz rfl rfl dX8_isFull_16 (Or.inr rfl) ⟨rfl, rfl, _, rfl, (ir_c rfl), ⟨Or.inr rfl, fun h => by omega, fun h => absurd h (by decide)⟩⟩

set_option maxHeartbeats 1000000 in
theorem t_X8_put_k24 {K : Kmap} {V : Vmap} {x : Nat} {p0 : Int} {p1 : Int} {p2 : Int} (h_x : K x = some (0, 24)) (r_p0 : ir p0) (r_p1 : ir p1) (r_p2 : ir p2) : MC mX8_put_k24 K V [.ref x, ti p0, ti p1, ti p2] (VS K (fun V1 => (True))) := by
  refine MC.start 2 (by decide +kernel) rfl rfl rfl (ls0 := [some (.ref x), some (ti p0), some (ti p1), some (ti p2), none, none]) rfl ?_
  refine GO.iload_n dX8_put_0 rfl rfl ?_
  refine GO.aload_n dX8_put_1 rfl rfl ?_
  refine GO.getI h_x fl_RX8_15_k24 rfl rfl dX8_put_2 (fun l1 u2 => ?_)
  refine GO.imul dX8_put_5 ?_
  refine GO.norm (fun z3 r4 hn5 => ?_)
  refine GO.iload_n dX8_put_6 rfl rfl ?_
  refine GO.iadd dX8_put_7 ?_
  refine GO.norm (fun z6 r7 hn8 => ?_)
  refine GO.istore (ls1 := [some (.ref x), some (ti p0), some (ti p1), some (ti p2), some (ti z6), none]) dX8_put_8 rfl rfl ?_
  refine GO.iload_n dX8_put_10 rfl rfl ?_
  have hj18 : ∀ (z17 : Int), ∀ (l19 : 0 ≤ z17), ∀ (u20 : z17 ≤ 1), GO mX8_put_k24 K V (VS K (fun V1 => (True))) K V 0 0 39 [some (.ref x), some (ti p0), some (ti p1), some (ti p2), some (ti z6), none] [ti z17] := by
    intro z17 l19 u20
    have r21 : ir z17 := ⟨by omega, by omega⟩
    refine GO.istore (ls1 := [some (.ref x), some (ti p0), some (ti p1), some (ti p2), some (ti z6), some (ti z17)]) dX8_put_39 rfl rfl ?_
    refine GO.iload dX8_put_41 rfl ?_
    refine GO.if_eq (tgt := 69) dX8_put_43 (by decide) r21 (fun c22 => ?_) (fun c22 => ?_)
    ·
      exact GO.retv rfl rfl dX8_put_69 ⟨rfl, rfl, trivial⟩
    ·
      refine GO.iload dX8_put_46 rfl ?_
      refine GO.if_lt (tgt := 69) dX8_put_48 (by decide) r7 (fun c23 => ?_) (fun c23 => ?_)
      ·
        exact GO.retv rfl rfl dX8_put_69 ⟨rfl, rfl, trivial⟩
      ·
        refine GO.iload dX8_put_51 rfl ?_
        refine GO.aload_n dX8_put_53 rfl rfl ?_
        refine GO.getA (n := 16) h_x fl_RX8_27_k24 rfl rfl rfl rfl dX8_put_54 (fun hv25 h24 => ?_)
        refine GO.alen h24 dX8_put_57 (fun h26 => ?_)
        refine GO.icmp_ge (tgt := 69) dX8_put_58 (by decide) r7 ⟨by omega, by omega⟩ (fun c27 => ?_) (fun c27 => ?_)
        ·
          exact GO.retv rfl rfl dX8_put_69 ⟨rfl, rfl, trivial⟩
        ·
          refine GO.aload_n dX8_put_61 rfl rfl ?_
          refine GO.getRaw h_x fl_RX8_27_k24 hv25 dX8_put_62 ?_
          refine GO.iload dX8_put_65 rfl ?_
          refine GO.iload_n dX8_put_67 rfl rfl ?_
          have q30 : -2147483648 ≤ z6 ∧ z6 ≤ 2147483647 := r7
          refine GO.iast (t := 146) rfl rfl (by decide +kernel) h24 r7 (by omega) (by omega) r_p2 (r_p2).1 (r_p2).2 dX8_put_68 (fun V32 e31 => ?_)
          exact GO.retv rfl rfl dX8_put_69 ⟨rfl, rfl, trivial⟩
  have hj41 : GO mX8_put_k24 K V (VS K (fun V1 => (True))) K V 0 0 38 [some (.ref x), some (ti p0), some (ti p1), some (ti p2), some (ti z6), none] [] := by
    skip
    refine GO.iconst dX8_put_38 ?_
    exact hj18 0 (by omega) (by omega)
  refine GO.if_lt (tgt := 38) dX8_put_11 (by decide) r_p0 (fun c42 => ?_) (fun c42 => ?_)
  ·
    exact hj41 
  ·
    refine GO.iload_n dX8_put_14 rfl rfl ?_
    refine GO.aload_n dX8_put_15 rfl rfl ?_
    refine GO.getI h_x fl_RX8_9_k24 rfl rfl dX8_put_16 (fun l43 u44 => ?_)
    refine GO.icmp_ge (tgt := 38) dX8_put_19 (by decide) r_p0 vi_ir (fun c45 => ?_) (fun c45 => ?_)
    ·
      exact hj41 
    ·
      refine GO.iload_n dX8_put_22 rfl rfl ?_
      refine GO.if_lt (tgt := 38) dX8_put_23 (by decide) r_p1 (fun c46 => ?_) (fun c46 => ?_)
      ·
        exact hj41 
      ·
        refine GO.iload_n dX8_put_26 rfl rfl ?_
        refine GO.aload_n dX8_put_27 rfl rfl ?_
        refine GO.getI h_x fl_RX8_15_k24 rfl rfl dX8_put_28 (fun l47 u48 => ?_)
        refine GO.icmp_ge (tgt := 38) dX8_put_31 (by decide) r_p1 vi_ir (fun c49 => ?_) (fun c49 => ?_)
        ·
          exact hj41 
        ·
          refine GO.iconst dX8_put_34 ?_
          refine GO.goto (tgt := 39) dX8_put_35 (by decide) ?_
          exact hj18 1 (by omega) (by omega)

set_option maxHeartbeats 1000000 in
theorem t_X8_append_k24 {K : Kmap} {V : Vmap} {x : Nat} {p0 : Int} {p1 : Int} {p2 : Int} {p3 : Int} {p4 : Int} (h_x : K x = some (0, 24)) (r_p0 : ir p0) (r_p1 : ir p1) (r_p2 : ir p2) (r_p3 : ir p3) (r_p4 : ir p4) : MC mX8_append_k24 K V [.ref x, ti p0, ti p1, ti p2, ti p3, ti p4] (IS K (fun X V1 => True)) := by
  refine MC.start 1 (by decide +kernel) rfl rfl rfl (ls0 := [some (.ref x), some (ti p0), some (ti p1), some (ti p2), some (ti p3), some (ti p4), none]) rfl ?_
  refine GO.aload_n dX8_append_0 rfl rfl ?_
  refine GO.callV (ci := 24) (N := mX8_isFull_k24) dX8_append_1 (RX8, TX8, 4) rfl gV_RX8_31 h_x (t_X8_isFull_k24 h_x) rfl [] rfl rfl (Nat.le_of_ble_eq_true rfl) rfl (k_ip fun X1 r2 h3 => ?_)
  refine GO.if_eq (tgt := 9) dX8_append_4 (by decide) r2 (fun c4 => ?_) (fun c4 => ?_)
  ·
    have q5 := h3.2.2 (by omega)
    refine GO.aload_n dX8_append_9 rfl rfl ?_
    refine GO.getI h_x fl_RX8_9_k24 rfl rfl dX8_append_10 (fun l6 u7 => ?_)
    refine GO.name (fun z8 hz9 => ?_)
    have r10 : ir z8 := hz9 ▸ vi_ir
    refine GO.istore (ls1 := [some (.ref x), some (ti p0), some (ti p1), some (ti p2), some (ti p3), some (ti p4), some (ti z8)]) dX8_append_13 rfl rfl ?_
    refine GO.aload_n dX8_append_15 rfl rfl ?_
    refine GO.dup dX8_append_16 rfl ?_
    refine GO.getI h_x fl_RX8_9_k24 rfl rfl dX8_append_17 (fun l11 u12 => ?_)
    refine GO.iconst dX8_append_20 ?_
    refine GO.iadd dX8_append_21 ?_
    have q14 : -2147483648 ≤ vi V x 3 ∧ vi V x 3 ≤ 2147483647 := vi_ir
    have q15 : -2147483648 ≤ z8 ∧ z8 ≤ 2147483647 := r10
    refine GO.putI h_x fp_RX8_9_k24 rfl (by decide +kernel) ⟨by omega, by omega⟩ (by omega) (by omega) dX8_append_22 (fun V16 e13 => ?_)
    refine GO.aload_n dX8_append_25 rfl rfl ?_
    refine GO.iload dX8_append_26 rfl ?_
    refine GO.iconst dX8_append_28 ?_
    refine GO.iload_n dX8_append_29 rfl rfl ?_
    refine GO.callV (ci := 24) (N := mX8_put_k24) dX8_append_30 (RX8, TX8, 4) rfl gV_RX8_35 h_x (t_X8_put_k24 h_x r10 (ir_c rfl) r_p0) rfl [] rfl rfl (Nat.le_of_ble_eq_true rfl) rfl (k_vs fun V19 h18 hF17 => ?_)
    refine GO.aload_n dX8_append_33 rfl rfl ?_
    refine GO.iload dX8_append_34 rfl ?_
    refine GO.iconst dX8_append_36 ?_
    refine GO.iload_n dX8_append_37 rfl rfl ?_
    refine GO.callV (ci := 24) (N := mX8_put_k24) dX8_append_38 (RX8, TX8, 4) rfl gV_RX8_35 h_x (t_X8_put_k24 h_x r10 (ir_c rfl) r_p1) rfl [] rfl rfl (Nat.le_of_ble_eq_true rfl) rfl (k_vs fun V22 h21 hF20 => ?_)
    refine GO.aload_n dX8_append_41 rfl rfl ?_
    refine GO.iload dX8_append_42 rfl ?_
    refine GO.iconst dX8_append_44 ?_
    refine GO.iload_n dX8_append_45 rfl rfl ?_
    refine GO.callV (ci := 24) (N := mX8_put_k24) dX8_append_46 (RX8, TX8, 4) rfl gV_RX8_35 h_x (t_X8_put_k24 h_x r10 (ir_c rfl) r_p2) rfl [] rfl rfl (Nat.le_of_ble_eq_true rfl) rfl (k_vs fun V25 h24 hF23 => ?_)
    refine GO.aload_n dX8_append_49 rfl rfl ?_
    refine GO.iload dX8_append_50 rfl ?_
    refine GO.iconst dX8_append_52 ?_
    refine GO.iload dX8_append_53 rfl ?_
    refine GO.callV (ci := 24) (N := mX8_put_k24) dX8_append_55 (RX8, TX8, 4) rfl gV_RX8_35 h_x (t_X8_put_k24 h_x r10 (ir_c rfl) r_p3) rfl [] rfl rfl (Nat.le_of_ble_eq_true rfl) rfl (k_vs fun V28 h27 hF26 => ?_)
    refine GO.aload_n dX8_append_58 rfl rfl ?_
    refine GO.iload dX8_append_59 rfl ?_
    refine GO.iconst dX8_append_61 ?_
    refine GO.iload dX8_append_62 rfl ?_
    refine GO.callV (ci := 24) (N := mX8_put_k24) dX8_append_64 (RX8, TX8, 4) rfl gV_RX8_35 h_x (t_X8_put_k24 h_x r10 (ir_c rfl) r_p4) rfl [] rfl rfl (Nat.le_of_ble_eq_true rfl) rfl (k_vs fun V31 h30 hF29 => ?_)
    refine GO.iload dX8_append_67 rfl ?_
    exact GO.reti rfl rfl dX8_append_69 ⟨rfl, _, rfl, r10, trivial⟩
  ·
    have q32 := h3.2.1 (by omega)
    refine GO.iconst dX8_append_7 ?_
    exact GO.reti rfl rfl dX8_append_8 ⟨rfl, _, rfl, (ir_c rfl), trivial⟩

set_option maxHeartbeats 1000000 in
theorem t_X11_stop {K : Kmap} {V : Vmap} {x : Nat} {p0 : Int} {p1 : Int} (h_x : K x = some (0, 10)) (r_p0 : ir p0) (r_p1 : ir p1) : MC mX11_stop K V [.ref x, ti p0, ti p1] (IS K (fun X V1 => True)) := by
  refine MC.start 0 (by decide +kernel) rfl rfl rfl (ls0 := [some (.ref x), some (ti p0), some (ti p1)]) rfl ?_
  refine GO.aload_n dX11_stop_0 rfl rfl ?_
  refine GO.iload_n dX11_stop_1 rfl rfl ?_
  refine GO.callV (ci := 10) (N := mX11_standingStation) dX11_stop_2 (RX11, TX11, 20) rfl gV_RX11_195 h_x (t_X11_standingStation h_x r_p0) rfl [] rfl rfl (Nat.le_of_ble_eq_true rfl) rfl (k_rp (fun h3 => ?_) (fun o1 h2 h3 => ?_))
  ·
    refine GO.ifnullN (tgt := 30) dX11_stop_5 (by decide) ?_
    refine GO.iconst dX11_stop_30 ?_
    exact GO.reti rfl rfl dX11_stop_31 ⟨rfl, _, rfl, (ir_c rfl), trivial⟩
  ·
    refine GO.ifnull dX11_stop_5 ?_
    refine GO.iload_n dX11_stop_8 rfl rfl ?_
    refine GO.iconst dX11_stop_9 ?_
    refine GO.sipush dX11_stop_10 rfl ?_
    refine GO.callS (N := mX11_between) dX11_stop_13 gS_RX11_112 (t_X11_between r_p1 (ir_c rfl) (ir_c rfl)) rfl [] rfl rfl (Nat.le_of_ble_eq_true rfl) rfl (k_ip fun X4 r5 h6 => ?_)
    refine GO.if_eq (tgt := 30) dX11_stop_16 (by decide) r5 (fun c7 => ?_) (fun c7 => ?_)
    ·
      have q8 := h6.2.2 (by omega)
      refine GO.iconst dX11_stop_30 ?_
      exact GO.reti rfl rfl dX11_stop_31 ⟨rfl, _, rfl, (ir_c rfl), trivial⟩
    ·
      have q9 := h6.2.1 (by omega)
      refine GO.aload_n dX11_stop_19 rfl rfl ?_
      refine GO.getR h_x fl_RX11_26 rfl rfl dX11_stop_20 (fun hv11 h10 => ?_)
      refine GO.iload_n dX11_stop_23 rfl rfl ?_
      refine GO.callV (ci := 5) (N := mX6_hasStation) dX11_stop_24 (RX6, TX6, 10) rfl gV_RX11_590 h10 (t_X6_hasStation h10 r_p0) rfl [] rfl rfl (Nat.le_of_ble_eq_true rfl) rfl (k_ip fun X12 r13 h14 => ?_)
      refine GO.if_eq (tgt := 32) dX11_stop_27 (by decide) r13 (fun c15 => ?_) (fun c15 => ?_)
      ·
        refine GO.aload_n dX11_stop_32 rfl rfl ?_
        refine GO.getRaw h_x fl_RX11_26 hv11 dX11_stop_33 ?_
        refine GO.callV (ci := 5) (N := mX6_forget) dX11_stop_36 (RX6, TX6, 10) rfl gV_RX11_435 h10 (t_X6_forget h10) rfl [] rfl rfl (Nat.le_of_ble_eq_true rfl) rfl (k_vs fun V20 h19 hF18 => ?_)
        refine GO.aload_n dX11_stop_39 rfl rfl ?_
        refine GO.getRaw h_x fl_RX11_26 (Eq.trans (hF18 _ _ _ h_x h_x (by decide +kernel)) hv11) dX11_stop_40 ?_
        refine GO.getR h10 fl_RX11_593 rfl rfl dX11_stop_43 (fun hv24 h23 => ?_)
        refine GO.iload_n dX11_stop_46 rfl rfl ?_
        refine GO.iload_n dX11_stop_47 rfl rfl ?_
        refine GO.iconst dX11_stop_48 ?_
        refine GO.iconst dX11_stop_49 ?_
        refine GO.iconst dX11_stop_50 ?_
        refine GO.callV (ci := 24) (N := mX8_append_k24) dX11_stop_51 (RX8, TX8, 4) rfl gV_RX11_205 h23 (t_X8_append_k24 h23 r_p0 r_p1 (ir_c rfl) (ir_c rfl) (ir_c rfl)) rfl [] rfl rfl (Nat.le_of_ble_eq_true rfl) rfl (k_is fun X25 V29 r26 h27 hF28 => ?_)
        have q30 : -2147483648 ≤ X25 ∧ X25 ≤ 2147483647 := r26
        exact GO.reti rfl rfl dX11_stop_54 ⟨rfl, _, rfl, r26, trivial⟩
      ·
        refine GO.iconst dX11_stop_30 ?_
        exact GO.reti rfl rfl dX11_stop_31 ⟨rfl, _, rfl, (ir_c rfl), trivial⟩

set_option maxHeartbeats 1000000 in
theorem t_X8_has_k24 {K : Kmap} {V : Vmap} {x : Nat} {p0 : Int} (h_x : K x = some (0, 24)) (r_p0 : ir p0) : MC mX8_has_k24 K V [.ref x, ti p0] (IP K V (fun X => (X = 0 ∨ X = 1) ∧ (X ≠ 0 → True) ∧ (X = 0 → True))) := by
  refine MC.start 0 (by decide +kernel) rfl rfl rfl (ls0 := [some (.ref x), some (ti p0)]) rfl ?_
  refine GO.iload_n dX8_has_0 rfl rfl ?_
  refine GO.if_lt (tgt := 16) dX8_has_1 (by decide) r_p0 (fun c1 => ?_) (fun c1 => ?_)
  ·
    refine GO.iconst dX8_has_16 ?_
    exact GO.retz rfl rfl dX8_has_17 (Or.inl rfl) ⟨rfl, rfl, _, rfl, (ir_c rfl), ⟨Or.inl rfl, fun _ => trivial, fun _ => trivial⟩⟩
  ·
    refine GO.iload_n dX8_has_4 rfl rfl ?_
    refine GO.aload_n dX8_has_5 rfl rfl ?_
    refine GO.getI h_x fl_RX8_9_k24 rfl rfl dX8_has_6 (fun l2 u3 => ?_)
    refine GO.icmp_ge (tgt := 16) dX8_has_9 (by decide) r_p0 vi_ir (fun c4 => ?_) (fun c4 => ?_)
    ·
      refine GO.iconst dX8_has_16 ?_
      exact GO.retz rfl rfl dX8_has_17 (Or.inl rfl) ⟨rfl, rfl, _, rfl, (ir_c rfl), ⟨Or.inl rfl, fun _ => trivial, fun _ => trivial⟩⟩
    ·
      refine GO.iconst dX8_has_12 ?_
      refine GO.goto (tgt := 17) dX8_has_13 (by decide) ?_
      exact GO.retz rfl rfl dX8_has_17 (Or.inr rfl) ⟨rfl, rfl, _, rfl, (ir_c rfl), ⟨Or.inr rfl, fun _ => trivial, fun _ => trivial⟩⟩

set_option maxHeartbeats 1000000 in
theorem t_X4_put_t137 {K : Kmap} {V : Vmap} {p0 n_p0 : Nat} {p1 : Int} {p2 : Int} (h_p0 : K p0 = some (138, n_p0)) (r_p1 : ir p1) (r_p2 : ir p2) : MC mX4_put_t137 K V [.ref p0, ti p1, ti p2] (VS K (fun V1 => (True) ∧ (V1 = rpv V p0 n_p0 p1 p2))) := by
  refine MC.start 0 (by decide +kernel) rfl rfl rfl (ls0 := [some (.ref p0), some (ti p1), some (ti p2)]) rfl ?_
  refine GO.aload_n dX4_put_0 rfl rfl ?_
  refine GO.ifnull dX4_put_1 ?_
  refine GO.iload_n dX4_put_4 rfl rfl ?_
  refine GO.if_lt (tgt := 18) dX4_put_5 (by decide) r_p1 (fun c1 => ?_) (fun c1 => ?_)
  ·
    exact GO.retv rfl rfl dX4_put_18 ⟨rfl, rfl, ⟨trivial, (by first | exact rpv_in (by assumption) (by omega) (by omega) | exact rpv_out (by omega))⟩⟩
  ·
    refine GO.iload_n dX4_put_8 rfl rfl ?_
    refine GO.aload_n dX4_put_9 rfl rfl ?_
    refine GO.alen h_p0 dX4_put_10 (fun h2 => ?_)
    refine GO.icmp_ge (tgt := 18) dX4_put_11 (by decide) r_p1 ⟨by omega, by omega⟩ (fun c3 => ?_) (fun c3 => ?_)
    ·
      exact GO.retv rfl rfl dX4_put_18 ⟨rfl, rfl, ⟨trivial, (by first | exact rpv_in (by assumption) (by omega) (by omega) | exact rpv_out (by omega))⟩⟩
    ·
      refine GO.aload_n dX4_put_14 rfl rfl ?_
      refine GO.iload_n dX4_put_15 rfl rfl ?_
      refine GO.iload_n dX4_put_16 rfl rfl ?_
      have q4 : -2147483648 ≤ p1 ∧ p1 ≤ 2147483647 := r_p1
      refine GO.iast (t := 137) rfl rfl (by decide +kernel) h_p0 r_p1 (by omega) (by omega) r_p2 (r_p2).1 (r_p2).2 dX4_put_17 (fun V6 e5 => ?_)
      exact GO.retv rfl rfl dX4_put_18 ⟨rfl, rfl, ⟨trivial, (by first | exact rpv_in (by assumption) (by omega) (by omega) | exact rpv_out (by omega))⟩⟩

set_option maxHeartbeats 1000000 in
theorem t_X4_put_t138 {K : Kmap} {V : Vmap} {p0 n_p0 : Nat} {p1 : Int} {p2 : Int} (h_p0 : K p0 = some (139, n_p0)) (r_p1 : ir p1) (r_p2 : ir p2) : MC mX4_put_t138 K V [.ref p0, ti p1, ti p2] (VS K (fun V1 => (True) ∧ (V1 = rpv V p0 n_p0 p1 p2))) := by
  refine MC.start 0 (by decide +kernel) rfl rfl rfl (ls0 := [some (.ref p0), some (ti p1), some (ti p2)]) rfl ?_
  refine GO.aload_n dX4_put_0 rfl rfl ?_
  refine GO.ifnull dX4_put_1 ?_
  refine GO.iload_n dX4_put_4 rfl rfl ?_
  refine GO.if_lt (tgt := 18) dX4_put_5 (by decide) r_p1 (fun c1 => ?_) (fun c1 => ?_)
  ·
    exact GO.retv rfl rfl dX4_put_18 ⟨rfl, rfl, ⟨trivial, (by first | exact rpv_in (by assumption) (by omega) (by omega) | exact rpv_out (by omega))⟩⟩
  ·
    refine GO.iload_n dX4_put_8 rfl rfl ?_
    refine GO.aload_n dX4_put_9 rfl rfl ?_
    refine GO.alen h_p0 dX4_put_10 (fun h2 => ?_)
    refine GO.icmp_ge (tgt := 18) dX4_put_11 (by decide) r_p1 ⟨by omega, by omega⟩ (fun c3 => ?_) (fun c3 => ?_)
    ·
      exact GO.retv rfl rfl dX4_put_18 ⟨rfl, rfl, ⟨trivial, (by first | exact rpv_in (by assumption) (by omega) (by omega) | exact rpv_out (by omega))⟩⟩
    ·
      refine GO.aload_n dX4_put_14 rfl rfl ?_
      refine GO.iload_n dX4_put_15 rfl rfl ?_
      refine GO.iload_n dX4_put_16 rfl rfl ?_
      have q4 : -2147483648 ≤ p1 ∧ p1 ≤ 2147483647 := r_p1
      refine GO.iast (t := 138) rfl rfl (by decide +kernel) h_p0 r_p1 (by omega) (by omega) r_p2 (r_p2).1 (r_p2).2 dX4_put_17 (fun V6 e5 => ?_)
      exact GO.retv rfl rfl dX4_put_18 ⟨rfl, rfl, ⟨trivial, (by first | exact rpv_in (by assumption) (by omega) (by omega) | exact rpv_out (by omega))⟩⟩

set_option maxHeartbeats 1000000 in
theorem t_X11_open {K : Kmap} {V : Vmap} {x : Nat} {p0 : Int} {p1 : Int} {p2 : Int} {p3 : Int} (h_x : K x = some (0, 10)) (r_p0 : ir p0) (r_p1 : ir p1) (r_p2 : ir p2) (r_p3 : ir p3) : MC mX11_open K V [.ref x, ti p0, ti p1, ti p2, ti p3] (IS K (fun X V1 => (X = 0 ∨ X = 1) ∧ (X ≠ 0 → True) ∧ (X = 0 → True))) := by
  refine MC.start 0 (by decide +kernel) rfl rfl rfl (ls0 := [some (.ref x), some (ti p0), some (ti p1), some (ti p2), some (ti p3)]) rfl ?_
  refine GO.iload_n dX11_open_0 rfl rfl ?_
  refine GO.iconst dX11_open_1 ?_
  refine GO.iconst dX11_open_2 ?_
  refine GO.callS (N := mX11_between) dX11_open_3 gS_RX11_112 (t_X11_between r_p0 (ir_c rfl) (ir_c rfl)) rfl [] rfl rfl (Nat.le_of_ble_eq_true rfl) rfl (k_ip fun X1 r2 h3 => ?_)
  refine GO.if_eq (tgt := 32) dX11_open_6 (by decide) r2 (fun c4 => ?_) (fun c4 => ?_)
  ·
    have q5 := h3.2.2 (by omega)
    refine GO.iconst dX11_open_32 ?_
    exact GO.retz rfl rfl dX11_open_33 (Or.inl rfl) ⟨rfl, _, rfl, (ir_c rfl), ⟨Or.inl rfl, fun _ => trivial, fun _ => trivial⟩⟩
  ·
    have q6 := h3.2.1 (by omega)
    refine GO.aload_n dX11_open_9 rfl rfl ?_
    refine GO.getR h_x fl_RX11_26 rfl rfl dX11_open_10 (fun hv8 h7 => ?_)
    refine GO.getR h7 fl_RX11_593 rfl rfl dX11_open_13 (fun hv10 h9 => ?_)
    refine GO.iload_n dX11_open_16 rfl rfl ?_
    refine GO.callV (ci := 24) (N := mX8_has_k24) dX11_open_17 (RX8, TX8, 4) rfl gV_RX11_431 h9 (t_X8_has_k24 h9 r_p1) rfl [] rfl rfl (Nat.le_of_ble_eq_true rfl) rfl (k_ip fun X11 r12 h13 => ?_)
    refine GO.if_eq (tgt := 32) dX11_open_20 (by decide) r12 (fun c14 => ?_) (fun c14 => ?_)
    ·
      refine GO.iconst dX11_open_32 ?_
      exact GO.retz rfl rfl dX11_open_33 (Or.inl rfl) ⟨rfl, _, rfl, (ir_c rfl), ⟨Or.inl rfl, fun _ => trivial, fun _ => trivial⟩⟩
    ·
      refine GO.iload_n dX11_open_23 rfl rfl ?_
      refine GO.iload dX11_open_24 rfl ?_
      refine GO.callS (N := mX11_areYearDays) dX11_open_26 gS_RX11_135 (t_X11_areYearDays r_p2 r_p3) rfl [] rfl rfl (Nat.le_of_ble_eq_true rfl) rfl (k_ip fun X15 r16 h17 => ?_)
      refine GO.if_ne (tgt := 34) dX11_open_29 (by decide) r16 (fun c18 => ?_) (fun c18 => ?_)
      ·
        have q19 := h17.2.1 (by omega)
        refine GO.aload_n dX11_open_34 rfl rfl ?_
        refine GO.getRaw h_x fl_RX11_26 hv8 dX11_open_35 ?_
        refine GO.callV (ci := 5) (N := mX6_forget) dX11_open_38 (RX6, TX6, 10) rfl gV_RX11_435 h7 (t_X6_forget h7) rfl [] rfl rfl (Nat.le_of_ble_eq_true rfl) rfl (k_vs fun V24 h23 hF22 => ?_)
        refine GO.aload_n dX11_open_41 rfl rfl ?_
        refine GO.getRaw h_x fl_RX11_26 (Eq.trans (hF22 _ _ _ h_x h_x (by decide +kernel)) hv8) dX11_open_42 ?_
        refine GO.getA (n := 24) h7 fl_RX11_596 rfl rfl rfl rfl dX11_open_45 (fun hv28 h27 => ?_)
        refine GO.iload_n dX11_open_48 rfl rfl ?_
        refine GO.bipush dX11_open_49 rfl ?_
        refine GO.imul dX11_open_51 ?_
        refine GO.iload_n dX11_open_52 rfl rfl ?_
        refine GO.iadd dX11_open_53 ?_
        refine GO.norm (fun z29 r30 hn31 => ?_)
        refine GO.iload_n dX11_open_54 rfl rfl ?_
        refine GO.callS (N := mX4_put_t137) dX11_open_55 gS_RX11_108 (t_X4_put_t137 h27 r30 r_p2) rfl [] rfl rfl (Nat.le_of_ble_eq_true rfl) rfl (k_vs fun V34 h33 hF32 => ?_)
        have raw_put := h33.2
        have rw55 := h33.2
        refine GO.aload_n dX11_open_58 rfl rfl ?_
        refine GO.getRaw h_x fl_RX11_26 (Eq.trans (hF32 _ _ _ h_x h_x (by decide +kernel)) (Eq.trans (hF22 _ _ _ h_x h_x (by decide +kernel)) hv8)) dX11_open_59 ?_
        refine GO.getA (n := 24) h7 fl_RX11_599 rfl rfl rfl rfl dX11_open_62 (fun hv38 h37 => ?_)
        refine GO.iload_n dX11_open_65 rfl rfl ?_
        refine GO.bipush dX11_open_66 rfl ?_
        refine GO.imul dX11_open_68 ?_
        refine GO.iload_n dX11_open_69 rfl rfl ?_
        refine GO.iadd dX11_open_70 ?_
        refine GO.norm (fun z39 r40 hn41 => ?_)
        refine GO.iload dX11_open_71 rfl ?_
        refine GO.callS (N := mX4_put_t138) dX11_open_73 gS_RX11_108 (t_X4_put_t138 h37 r40 r_p3) rfl [] rfl rfl (Nat.le_of_ble_eq_true rfl) rfl (k_vs fun V44 h43 hF42 => ?_)
        have raw_put := h43.2
        have rw73 := h43.2
        refine GO.iconst dX11_open_76 ?_
        exact GO.retz rfl rfl dX11_open_77 (Or.inr rfl) ⟨rfl, _, rfl, (ir_c rfl), ⟨Or.inr rfl, fun _ => trivial, fun _ => trivial⟩⟩
      ·
        have q45 := h17.2.2 (by omega)
        refine GO.iconst dX11_open_32 ?_
        exact GO.retz rfl rfl dX11_open_33 (Or.inl rfl) ⟨rfl, _, rfl, (ir_c rfl), ⟨Or.inl rfl, fun _ => trivial, fun _ => trivial⟩⟩

set_option maxHeartbeats 1000000 in
theorem t_X4_put_t139 {K : Kmap} {V : Vmap} {p0 n_p0 : Nat} {p1 : Int} {p2 : Int} (h_p0 : K p0 = some (140, n_p0)) (r_p1 : ir p1) (r_p2 : ir p2) : MC mX4_put_t139 K V [.ref p0, ti p1, ti p2] (VS K (fun V1 => (True) ∧ (V1 = rpv V p0 n_p0 p1 p2))) := by
  refine MC.start 0 (by decide +kernel) rfl rfl rfl (ls0 := [some (.ref p0), some (ti p1), some (ti p2)]) rfl ?_
  refine GO.aload_n dX4_put_0 rfl rfl ?_
  refine GO.ifnull dX4_put_1 ?_
  refine GO.iload_n dX4_put_4 rfl rfl ?_
  refine GO.if_lt (tgt := 18) dX4_put_5 (by decide) r_p1 (fun c1 => ?_) (fun c1 => ?_)
  ·
    exact GO.retv rfl rfl dX4_put_18 ⟨rfl, rfl, ⟨trivial, (by first | exact rpv_in (by assumption) (by omega) (by omega) | exact rpv_out (by omega))⟩⟩
  ·
    refine GO.iload_n dX4_put_8 rfl rfl ?_
    refine GO.aload_n dX4_put_9 rfl rfl ?_
    refine GO.alen h_p0 dX4_put_10 (fun h2 => ?_)
    refine GO.icmp_ge (tgt := 18) dX4_put_11 (by decide) r_p1 ⟨by omega, by omega⟩ (fun c3 => ?_) (fun c3 => ?_)
    ·
      exact GO.retv rfl rfl dX4_put_18 ⟨rfl, rfl, ⟨trivial, (by first | exact rpv_in (by assumption) (by omega) (by omega) | exact rpv_out (by omega))⟩⟩
    ·
      refine GO.aload_n dX4_put_14 rfl rfl ?_
      refine GO.iload_n dX4_put_15 rfl rfl ?_
      refine GO.iload_n dX4_put_16 rfl rfl ?_
      have q4 : -2147483648 ≤ p1 ∧ p1 ≤ 2147483647 := r_p1
      refine GO.iast (t := 139) rfl rfl (by decide +kernel) h_p0 r_p1 (by omega) (by omega) r_p2 (r_p2).1 (r_p2).2 dX4_put_17 (fun V6 e5 => ?_)
      exact GO.retv rfl rfl dX4_put_18 ⟨rfl, rfl, ⟨trivial, (by first | exact rpv_in (by assumption) (by omega) (by omega) | exact rpv_out (by omega))⟩⟩

set_option maxHeartbeats 1000000 in
theorem t_X11_measureLegs {K : Kmap} {V : Vmap} {x : Nat} (h_x : K x = some (0, 10)) : MC mX11_measureLegs K V [.ref x] (VS K (fun V1 => (True))) := by
  refine MC.start 4 (by decide +kernel) rfl rfl rfl (ls0 := [some (.ref x), none, none, none, none]) rfl ?_
  refine GO.iconst dX11_measureLegs_0 ?_
  refine GO.istore_n (ls1 := [some (.ref x), some (ti 0), none, none, none]) dX11_measureLegs_1 rfl rfl rfl ?_
  refine GO.loop1 (fun i1 W => 0 ≤ i1 ∧ i1 ≤ 8 ∧ True) (fun i1 => [some (.ref x), some (ti i1), none, none, none]) (fun i1 W => (2147483647 - i1).toNat) 0 ⟨by omega, by omega, trivial⟩ rfl (fun i1 Wi1 hp1613 ih1612 => ?_)
  obtain ⟨l_i1, u_i1, -⟩ := hp1613
  have r_i1 : ir i1 := ⟨by omega, by omega⟩
  show GO mX11_measureLegs K V (VS K (fun V1 => (True))) K Wi1 0 0 2 [some (.ref x), some (ti i1), none, none, none] []
  refine GO.iload_n dX11_measureLegs_2 rfl rfl ?_
  refine GO.aload_n dX11_measureLegs_3 rfl rfl ?_
  refine GO.getR h_x fl_RX11_26 rfl rfl dX11_measureLegs_4 (fun hv1615 h1614 => ?_)
  refine GO.getR h1614 fl_RX11_593 rfl rfl dX11_measureLegs_7 (fun hv1617 h1616 => ?_)
  refine GO.getI h1616 fl_RX11_199_k24 rfl rfl dX11_measureLegs_10 (fun l1618 u1619 => ?_)
  refine GO.icmp_ge (tgt := 124) dX11_measureLegs_13 (by decide) r_i1 vi_ir (fun c1620 => ?_) (fun c1620 => ?_)
  ·
    exact GO.retv rfl rfl dX11_measureLegs_124 ⟨rfl, rfl, trivial⟩
  ·
    refine GO.iconst dX11_measureLegs_16 ?_
    refine GO.istore_n (ls1 := [some (.ref x), some (ti i1), some (ti 0), none, none]) dX11_measureLegs_17 rfl rfl rfl ?_
    refine GO.loop1 (fun i1621 W => 0 ≤ i1621 ∧ i1621 ≤ 8 ∧ True) (fun i1621 => [some (.ref x), some (ti i1), some (ti i1621), none, none]) (fun i1621 W => (2147483647 - i1621).toNat) 0 ⟨by omega, by omega, trivial⟩ rfl (fun i1621 Wi1621 hp1883 ih1882 => ?_)
    obtain ⟨l_i1621, u_i1621, -⟩ := hp1883
    have r_i1621 : ir i1621 := ⟨by omega, by omega⟩
    show GO mX11_measureLegs K V (VS K (fun V1 => (True))) K Wi1621 0 0 18 [some (.ref x), some (ti i1), some (ti i1621), none, none] []
    refine GO.iload_n dX11_measureLegs_18 rfl rfl ?_
    refine GO.aload_n dX11_measureLegs_19 rfl rfl ?_
    refine GO.getR h_x fl_RX11_26 rfl rfl dX11_measureLegs_20 (fun hv1885 h1884 => ?_)
    refine GO.getR h1884 fl_RX11_593 rfl rfl dX11_measureLegs_23 (fun hv1887 h1886 => ?_)
    refine GO.getI h1886 fl_RX11_199_k24 rfl rfl dX11_measureLegs_26 (fun l1888 u1889 => ?_)
    refine GO.icmp_ge (tgt := 118) dX11_measureLegs_29 (by decide) r_i1621 vi_ir (fun c1890 => ?_) (fun c1890 => ?_)
    ·
      refine GO.iinc (X := i1) (n := 1) (Y := i1 + 1) (ls1 := [some (.ref x), some (ti (i1 + 1)), some (ti i1621), none, none]) dX11_measureLegs_118 rfl rfl rfl rfl ?_
      refine GO.goto (tgt := 2) dX11_measureLegs_121 (by decide) ?_
      refine GO.drop [true, true, false, true, true] rfl ?_
      exact ih1612 (i1 + 1) Wi1621 ⟨by omega, by omega, trivial⟩ (by show (2147483647 - (i1 + 1)).toNat < (2147483647 - i1).toNat; omega)
    ·
      refine GO.aload_n dX11_measureLegs_32 rfl rfl ?_
      refine GO.aload_n dX11_measureLegs_33 rfl rfl ?_
      refine GO.getRaw h_x fl_RX11_26 hv1885 dX11_measureLegs_34 ?_
      refine GO.getRaw h1884 fl_RX11_593 hv1887 dX11_measureLegs_37 ?_
      refine GO.iload_n dX11_measureLegs_40 rfl rfl ?_
      refine GO.iconst dX11_measureLegs_41 ?_
      refine GO.callV (ci := 24) (N := mX8_get_k24) dX11_measureLegs_42 (RX8, TX8, 4) rfl gV_RX11_209 h1886 (t_X8_get_k24 h1886 r_i1 (ir_c rfl)) rfl [.ref x] rfl rfl (Nat.le_of_ble_eq_true rfl) rfl (k_ip fun X1895 r1896 h1897 => ?_)
      refine GO.iconst dX11_measureLegs_45 ?_
      refine GO.callV (ci := 10) (N := mX11_placeOf) dX11_measureLegs_46 (RX11, TX11, 20) rfl gV_RX11_169 h_x (t_X11_placeOf h_x r1896 (ir_c rfl)) rfl [] rfl rfl (Nat.le_of_ble_eq_true rfl) rfl (k_rp (fun h1900 => ?_) (fun o1898 h1899 h1900 => ?_))
      ·
        refine GO.astore_nN (ls1 := [some (.ref x), some (ti i1), some (ti i1621), some (.null), none]) dX11_measureLegs_49 rfl rfl rfl ?_
        refine GO.aload_n dX11_measureLegs_50 rfl rfl ?_
        refine GO.aload_n dX11_measureLegs_51 rfl rfl ?_
        refine GO.getRaw h_x fl_RX11_26 hv1885 dX11_measureLegs_52 ?_
        refine GO.getRaw h1884 fl_RX11_593 hv1887 dX11_measureLegs_55 ?_
        refine GO.iload_n dX11_measureLegs_58 rfl rfl ?_
        refine GO.iconst dX11_measureLegs_59 ?_
        refine GO.callV (ci := 24) (N := mX8_get_k24) dX11_measureLegs_60 (RX8, TX8, 4) rfl gV_RX11_209 h1886 (t_X8_get_k24 h1886 r_i1621 (ir_c rfl)) rfl [.ref x] rfl rfl (Nat.le_of_ble_eq_true rfl) rfl (k_ip fun X1905 r1906 h1907 => ?_)
        refine GO.iconst dX11_measureLegs_63 ?_
        refine GO.callV (ci := 10) (N := mX11_placeOf) dX11_measureLegs_64 (RX11, TX11, 20) rfl gV_RX11_169 h_x (t_X11_placeOf h_x r1906 (ir_c rfl)) rfl [] rfl rfl (Nat.le_of_ble_eq_true rfl) rfl (k_rp (fun h1910 => ?_) (fun o1908 h1909 h1910 => ?_))
        ·
          refine GO.astoreN (ls1 := [some (.ref x), some (ti i1), some (ti i1621), some (.null), some (.null)]) dX11_measureLegs_67 rfl rfl ?_
          refine GO.aload_nN dX11_measureLegs_69 rfl rfl ?_
          refine GO.ifnullN (tgt := 112) dX11_measureLegs_70 (by decide) ?_
          refine GO.iinc (X := i1621) (n := 1) (Y := i1621 + 1) (ls1 := [some (.ref x), some (ti i1), some (ti (i1621 + 1)), some (.null), some (.null)]) dX11_measureLegs_112 rfl rfl rfl rfl ?_
          refine GO.goto (tgt := 18) dX11_measureLegs_115 (by decide) ?_
          refine GO.drop [true, true, true, false, false] rfl ?_
          exact ih1882 (i1621 + 1) Wi1621 ⟨by omega, by omega, trivial⟩ (by show (2147483647 - (i1621 + 1)).toNat < (2147483647 - i1621).toNat; omega)
        ·
          refine GO.astore (ls1 := [some (.ref x), some (ti i1), some (ti i1621), some (.null), some (.ref o1908)]) dX11_measureLegs_67 rfl rfl ?_
          refine GO.aload_nN dX11_measureLegs_69 rfl rfl ?_
          refine GO.ifnullN (tgt := 112) dX11_measureLegs_70 (by decide) ?_
          refine GO.iinc (X := i1621) (n := 1) (Y := i1621 + 1) (ls1 := [some (.ref x), some (ti i1), some (ti (i1621 + 1)), some (.null), some (.ref o1908)]) dX11_measureLegs_112 rfl rfl rfl rfl ?_
          refine GO.goto (tgt := 18) dX11_measureLegs_115 (by decide) ?_
          refine GO.drop [true, true, true, false, false] rfl ?_
          exact ih1882 (i1621 + 1) Wi1621 ⟨by omega, by omega, trivial⟩ (by show (2147483647 - (i1621 + 1)).toNat < (2147483647 - i1621).toNat; omega)
      ·
        refine GO.astore_n (ls1 := [some (.ref x), some (ti i1), some (ti i1621), some (.ref o1898), none]) dX11_measureLegs_49 rfl rfl rfl ?_
        refine GO.aload_n dX11_measureLegs_50 rfl rfl ?_
        refine GO.aload_n dX11_measureLegs_51 rfl rfl ?_
        refine GO.getRaw h_x fl_RX11_26 hv1885 dX11_measureLegs_52 ?_
        refine GO.getRaw h1884 fl_RX11_593 hv1887 dX11_measureLegs_55 ?_
        refine GO.iload_n dX11_measureLegs_58 rfl rfl ?_
        refine GO.iconst dX11_measureLegs_59 ?_
        refine GO.callV (ci := 24) (N := mX8_get_k24) dX11_measureLegs_60 (RX8, TX8, 4) rfl gV_RX11_209 h1886 (t_X8_get_k24 h1886 r_i1621 (ir_c rfl)) rfl [.ref x] rfl rfl (Nat.le_of_ble_eq_true rfl) rfl (k_ip fun X1915 r1916 h1917 => ?_)
        refine GO.iconst dX11_measureLegs_63 ?_
        refine GO.callV (ci := 10) (N := mX11_placeOf) dX11_measureLegs_64 (RX11, TX11, 20) rfl gV_RX11_169 h_x (t_X11_placeOf h_x r1916 (ir_c rfl)) rfl [] rfl rfl (Nat.le_of_ble_eq_true rfl) rfl (k_rp (fun h1920 => ?_) (fun o1918 h1919 h1920 => ?_))
        ·
          refine GO.astoreN (ls1 := [some (.ref x), some (ti i1), some (ti i1621), some (.ref o1898), some (.null)]) dX11_measureLegs_67 rfl rfl ?_
          refine GO.aload_n dX11_measureLegs_69 rfl rfl ?_
          refine GO.ifnull dX11_measureLegs_70 ?_
          refine GO.aloadN dX11_measureLegs_73 rfl ?_
          refine GO.ifnullN (tgt := 112) dX11_measureLegs_75 (by decide) ?_
          refine GO.iinc (X := i1621) (n := 1) (Y := i1621 + 1) (ls1 := [some (.ref x), some (ti i1), some (ti (i1621 + 1)), some (.ref o1898), some (.null)]) dX11_measureLegs_112 rfl rfl rfl rfl ?_
          refine GO.goto (tgt := 18) dX11_measureLegs_115 (by decide) ?_
          refine GO.drop [true, true, true, false, false] rfl ?_
          exact ih1882 (i1621 + 1) Wi1621 ⟨by omega, by omega, trivial⟩ (by show (2147483647 - (i1621 + 1)).toNat < (2147483647 - i1621).toNat; omega)
        ·
          refine GO.astore (ls1 := [some (.ref x), some (ti i1), some (ti i1621), some (.ref o1898), some (.ref o1918)]) dX11_measureLegs_67 rfl rfl ?_
          refine GO.aload_n dX11_measureLegs_69 rfl rfl ?_
          refine GO.ifnull dX11_measureLegs_70 ?_
          refine GO.aload dX11_measureLegs_73 rfl ?_
          refine GO.ifnull dX11_measureLegs_75 ?_
          refine GO.aload_n dX11_measureLegs_78 rfl rfl ?_
          refine GO.getRaw h_x fl_RX11_26 hv1885 dX11_measureLegs_79 ?_
          refine GO.getA (n := 64) h1884 fl_RX11_623 rfl rfl rfl rfl dX11_measureLegs_82 (fun hv1924 h1923 => ?_)
          refine GO.iload_n dX11_measureLegs_85 rfl rfl ?_
          refine GO.bipush dX11_measureLegs_86 rfl ?_
          refine GO.imul dX11_measureLegs_88 ?_
          refine GO.iload_n dX11_measureLegs_89 rfl rfl ?_
          refine GO.iadd dX11_measureLegs_90 ?_
          refine GO.iconst dX11_measureLegs_91 ?_
          refine GO.aload_n dX11_measureLegs_92 rfl rfl ?_
          refine GO.getR h_x fl_RX11_12 rfl rfl dX11_measureLegs_93 (fun hv1926 h1925 => ?_)
          refine GO.aload_n dX11_measureLegs_96 rfl rfl ?_
          refine GO.getI h1899 fl_RX11_344 rfl rfl dX11_measureLegs_97 (fun _ _ => ?_)
          refine GO.aload dX11_measureLegs_100 rfl ?_
          refine GO.getI h1919 fl_RX11_344 rfl rfl dX11_measureLegs_102 (fun _ _ => ?_)
          refine GO.callV (ci := 0) (N := mX0_far) dX11_measureLegs_105 (RX0, TX0, 13) rfl gV_RX11_388 h1925 (t_X0_far h1925 vi_ir vi_ir) rfl [ti 2, ti ((i1 * 8) + i1621), .ref (vq Wi1621 (vq Wi1621 x 2) 3)] rfl rfl (Nat.le_of_ble_eq_true rfl) rfl (k_ip fun X1927 r1928 h1929 => ?_)
          refine GO.imul dX11_measureLegs_108 ?_
          refine GO.norm (fun z1930 r1931 hn1932 => ?_)
          refine GO.callS (N := mX4_put_t139) dX11_measureLegs_109 gS_RX11_108 (t_X4_put_t139 h1923 ⟨by omega, by omega⟩ r1931) rfl [] rfl rfl (Nat.le_of_ble_eq_true rfl) rfl (k_vs fun V1935 h1934 hF1933 => ?_)
          have raw_put := h1934.2
          have rw109 := h1934.2
          refine GO.iinc (X := i1621) (n := 1) (Y := i1621 + 1) (ls1 := [some (.ref x), some (ti i1), some (ti (i1621 + 1)), some (.ref o1898), some (.ref o1918)]) dX11_measureLegs_112 rfl rfl rfl rfl ?_
          refine GO.goto (tgt := 18) dX11_measureLegs_115 (by decide) ?_
          refine GO.drop [true, true, true, false, false] rfl ?_
          exact ih1882 (i1621 + 1) V1935 ⟨by omega, by omega, trivial⟩ (by show (2147483647 - (i1621 + 1)).toNat < (2147483647 - i1621).toNat; omega)
