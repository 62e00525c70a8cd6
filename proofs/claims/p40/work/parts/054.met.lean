def mX11_blocks : MRec := (RX11, cX11_blocks, 2, (some .int), yX11_blocks, 3, 67, 0, 0, 0)
def mX11_worthOf : MRec := (RX11, cX11_worthOf, 4, (some .int), yX11_worthOf, 1, 24, 0, 0, 0)
def mX11_best : MRec := (RX11, cX11_best, 7, (some .int), yX11_best, 3, 67, 0, 0, 0)
def mX8_isFull_k24 : MRec := (RX8, cX8_isFull, 1, (some .boolean), yX8_isFull, 0, 0, 0, 0, 0)
def mX8_put_k24 : MRec := (RX8, cX8_put, 6, (none : Option Jvm.ClassFile.FieldType), yX8_put, 0, 0, 0, 0, 3794275180128377091639574036764685364535950857523710002444946112771297432041422848)
def mX8_append_k24 : MRec := (RX8, cX8_append, 7, (some .int), yX8_append, 1, 25, 0, 0, 84615164005151820665845159428194693098035803213703176196812137434697978042933216801575076459993558905437787910500421904367616)
def mX11_stop : MRec := (RX11, cX11_stop, 3, (some .int), yX11_stop, 3, 66, 0, 0, 84615164005151820665845159428194693098035803213703176196812137434697978042933216801575076459993558905437792522186440331755520)
def mX8_has_k24 : MRec := (RX8, cX8_has, 2, (some .boolean), yX8_has, 0, 0, 0, 0, 0)
def mX11_open : MRec := (RX11, cX11_open, 5, (some .boolean), yX11_open, 1, 22, 0, 0, 3794275180128377091639574036764685364535950857523710002444946117382983450468810752)
def mX11_measureLegs : MRec := (RX11, cX11_measureLegs, 5, (none : Option Jvm.ClassFile.FieldType), yX11_measureLegs, 2, 44, 0, 0, 3794275180128377091639574036764685364535950857523710002444946112771297432041422848)
def mX11_plan : MRec := (RX11, cX11_plan, 6, (some .int), yX11_plan, 19, 425, 0, 0, 3794275180128377091639574036764685364535950857523710002444946126606355487323586560)
def mX11_planned : MRec := (RX11, cX11_planned, 5, (some .int), yX11_planned, 20, 450, 0, 0, 3794275180128377091639574036764685364535950857523710002444946126606355487323586560)
set_option maxHeartbeats 1000000 in
theorem t_X11_blocks {K : Kmap} {V : Vmap} {x : Nat} {p0 : Int} (h_x : K x = some (0, 10)) (r_p0 : ir p0) : MC mX11_blocks K V [.ref x, ti p0] (IP K V (fun X => True)) := by
  refine MC.start 0 (by decide +kernel) rfl rfl rfl (ls0 := [some (.ref x), some (ti p0)]) rfl ?_
  refine GO.iload_n dX11_blocks_0 rfl rfl ?_
  refine GO.iconst dX11_blocks_1 ?_
  refine GO.iconst dX11_blocks_2 ?_
  refine GO.aload_n dX11_blocks_3 rfl rfl ?_
  refine GO.getR h_x fl_RX11_88 rfl rfl dX11_blocks_4 (fun hv2 h1 => ?_)
  refine GO.getI h1 fl_RX11_199 rfl rfl dX11_blocks_7 (fun _ _ => ?_)
  refine GO.ishl dX11_blocks_10 ?_
  refine GO.iconst dX11_blocks_11 ?_
  refine GO.isub dX11_blocks_12 ?_
  refine GO.norm (fun z3 r4 _ => ?_)
  refine GO.callS (N := mX11_between) dX11_blocks_13 gS_RX11_112 (t_X11_between r_p0 (ir_c rfl) r4) rfl [] rfl rfl (Nat.le_of_ble_eq_true rfl) rfl (k_ip fun X5 r6 h7 => ?_)
  refine GO.if_eq (tgt := 27) dX11_blocks_16 (by decide) r6 (fun c8 => ?_) (fun c8 => ?_)
  ·
    have q9 := h7.2.2 (by omega)
    refine GO.iconst dX11_blocks_27 ?_
    exact GO.reti rfl rfl dX11_blocks_28 ⟨rfl, rfl, _, rfl, (ir_c rfl), trivial⟩
  ·
    have q10 := h7.2.1 (by omega)
    refine GO.aload_n dX11_blocks_19 rfl rfl ?_
    refine GO.iload_n dX11_blocks_20 rfl rfl ?_
    refine GO.callV (ci := 10) (N := mX11_blockers) dX11_blocks_21 (RX11, TX11, 20) rfl gV_RX11_581 h_x (t_X11_blockers h_x r_p0) rfl [] rfl rfl (Nat.le_of_ble_eq_true rfl) rfl (k_ip fun X11 r12 h13 => ?_)
    refine GO.goto (tgt := 28) dX11_blocks_24 (by decide) ?_
    have q14 : -2147483648 ≤ X11 ∧ X11 ≤ 2147483647 := r12
    exact GO.reti rfl rfl dX11_blocks_28 ⟨rfl, rfl, _, rfl, r12, trivial⟩

set_option maxHeartbeats 1000000 in
theorem t_X11_worthOf {K : Kmap} {V : Vmap} {x : Nat} {p0 : Int} (h_x : K x = some (0, 10)) (r_p0 : ir p0) : MC mX11_worthOf K V [.ref x, ti p0] (IP K V (fun X => True)) := by
  refine MC.start 2 (by decide +kernel) rfl rfl rfl (ls0 := [some (.ref x), some (ti p0), none, none]) rfl ?_
  refine GO.iconst dX11_worthOf_0 ?_
  refine GO.istore_n (ls1 := [some (.ref x), some (ti p0), some (ti 0), none]) dX11_worthOf_1 rfl rfl rfl ?_
  refine GO.iconst dX11_worthOf_2 ?_
  refine GO.istore_n (ls1 := [some (.ref x), some (ti p0), some (ti 0), some (ti 0)]) dX11_worthOf_3 rfl rfl rfl ?_
  refine GO.loop2 (fun i1 i2 W => (-2147483648) ≤ i1 ∧ i1 ≤ 2147483647 ∧ 0 ≤ i2 ∧ i2 ≤ 2147483647 ∧ V = W) (fun i1 i2 => [some (.ref x), some (ti p0), some (ti i1), some (ti i2)]) (fun i1 i2 W => (2147483647 - i2).toNat) 0 0 ⟨by omega, by omega, by omega, by omega, rfl⟩ rfl (fun i1 i2 V542 hp544 ih543 => ?_)
  obtain ⟨l_i1, u_i1, l_i2, u_i2, rfl⟩ := hp544
  have r_i1 : ir i1 := ⟨by omega, by omega⟩
  have r_i2 : ir i2 := ⟨by omega, by omega⟩
  show GO mX11_worthOf K V (IP K V (fun X => True)) K V 0 0 4 [some (.ref x), some (ti p0), some (ti i1), some (ti i2)] []
  refine GO.iload_n dX11_worthOf_4 rfl rfl ?_
  refine GO.aload_n dX11_worthOf_5 rfl rfl ?_
  refine GO.getR h_x fl_RX11_88 rfl rfl dX11_worthOf_6 (fun hv546 h545 => ?_)
  refine GO.getI h545 fl_RX11_199 rfl rfl dX11_worthOf_9 (fun _ _ => ?_)
  refine GO.icmp_ge (tgt := 41) dX11_worthOf_12 (by decide) r_i2 vi_ir (fun c547 => ?_) (fun c547 => ?_)
  ·
    refine GO.iload_n dX11_worthOf_41 rfl rfl ?_
    exact GO.reti rfl rfl dX11_worthOf_42 ⟨rfl, rfl, _, rfl, r_i1, trivial⟩
  ·
    refine GO.iload_n dX11_worthOf_15 rfl rfl ?_
    refine GO.iload_n dX11_worthOf_16 rfl rfl ?_
    refine GO.ishr dX11_worthOf_17 ?_
    refine GO.iconst dX11_worthOf_18 ?_
    refine GO.iand dX11_worthOf_19 ?_
    refine GO.if_eq (tgt := 35) dX11_worthOf_20 (by decide) wand_ir (fun c548 => ?_) (fun c548 => ?_)
    ·
      refine GO.iinc (X := i2) (n := 1) (Y := i2 + 1) (ls1 := [some (.ref x), some (ti p0), some (ti i1), some (ti (i2 + 1))]) dX11_worthOf_35 rfl rfl rfl rfl ?_
      refine GO.goto (tgt := 4) dX11_worthOf_38 (by decide) ?_
      have q549 : -2147483648 ≤ vi V (vq V x 16) 3 ∧ vi V (vq V x 16) 3 ≤ 2147483647 := vi_ir
      exact ih543 i1 (i2 + 1) V ⟨by omega, by omega, by omega, by omega, rfl⟩ (by show (2147483647 - (i2 + 1)).toNat < (2147483647 - i2).toNat; omega)
    ·
      refine GO.iload_n dX11_worthOf_23 rfl rfl ?_
      refine GO.aload_n dX11_worthOf_24 rfl rfl ?_
      refine GO.getRaw h_x fl_RX11_88 hv546 dX11_worthOf_25 ?_
      refine GO.iload_n dX11_worthOf_28 rfl rfl ?_
      refine GO.iconst dX11_worthOf_29 ?_
      refine GO.callV (ci := 7) (N := mX8_get) dX11_worthOf_30 (RX8, TX8, 4) rfl gV_RX11_209 h545 (t_X8_get h545 r_i2 (ir_c rfl)) rfl [ti i1] rfl rfl (Nat.le_of_ble_eq_true rfl) rfl (k_ip fun X552 r553 h554 => ?_)
      refine GO.iadd dX11_worthOf_33 ?_
      refine GO.norm (fun z555 r556 _ => ?_)
      refine GO.istore_n (ls1 := [some (.ref x), some (ti p0), some (ti z555), some (ti i2)]) dX11_worthOf_34 rfl rfl rfl ?_
      refine GO.iinc (X := i2) (n := 1) (Y := i2 + 1) (ls1 := [some (.ref x), some (ti p0), some (ti z555), some (ti (i2 + 1))]) dX11_worthOf_35 rfl rfl rfl rfl ?_
      refine GO.goto (tgt := 4) dX11_worthOf_38 (by decide) ?_
      have q557 : -2147483648 ≤ vi V (vq V x 16) 3 ∧ vi V (vq V x 16) 3 ≤ 2147483647 := vi_ir
      have q558 : -2147483648 ≤ z555 ∧ z555 ≤ 2147483647 := r556
      exact ih543 z555 (i2 + 1) V ⟨by omega, by omega, by omega, by omega, rfl⟩ (by show (2147483647 - (i2 + 1)).toNat < (2147483647 - i2).toNat; omega)

set_option maxHeartbeats 1000000 in
theorem t_X11_best {K : Kmap} {V : Vmap} {x : Nat} (h_x : K x = some (0, 10)) : MC mX11_best K V [.ref x] (IP K V (fun X => True)) := by
  refine MC.start 6 (by decide +kernel) rfl rfl rfl (ls0 := [some (.ref x), none, none, none, none, none, none]) rfl ?_
  refine GO.aload_n dX11_best_0 rfl rfl ?_
  refine GO.aload_n dX11_best_1 rfl rfl ?_
  refine GO.getR h_x fl_RX11_12 rfl rfl dX11_best_2 (fun hv2 h1 => ?_)
  refine GO.getI h1 fl_RX11_145 rfl rfl dX11_best_5 (fun _ _ => ?_)
  refine GO.callV (ci := 10) (N := mX11_decidingOn) dX11_best_8 (RX11, TX11, 20) rfl gV_RX11_369 h_x (t_X11_decidingOn h_x vi_ir) rfl [] rfl rfl (Nat.le_of_ble_eq_true rfl) rfl (k_ip fun X3 r4 h5 => ?_)
  refine GO.istore_n (ls1 := [some (.ref x), some (ti X3), none, none, none, none, none]) dX11_best_11 rfl rfl rfl ?_
  refine GO.iconst dX11_best_12 ?_
  refine GO.istore_n (ls1 := [some (.ref x), some (ti X3), some (ti 0), none, none, none, none]) dX11_best_13 rfl rfl rfl ?_
  refine GO.iconst dX11_best_14 ?_
  refine GO.istore_n (ls1 := [some (.ref x), some (ti X3), some (ti 0), some (ti 0), none, none, none]) dX11_best_15 rfl rfl rfl ?_
  refine GO.iconst dX11_best_16 ?_
  refine GO.istore (ls1 := [some (.ref x), some (ti X3), some (ti 0), some (ti 0), some (ti 1), none, none]) dX11_best_17 rfl rfl ?_
  refine GO.loop3 (fun i6 i7 i8 W => 0 ≤ i6 ∧ i6 ≤ 2147483646 ∧ (-2147483648) ≤ i7 ∧ i7 ≤ 2147483647 ∧ 1 ≤ i8 ∧ i8 ≤ 2147483647 ∧ V = W) (fun i6 i7 i8 => [some (.ref x), some (ti X3), some (ti i6), some (ti i7), some (ti i8), none, none]) (fun i6 i7 i8 W => (2147483647 - i8).toNat) 0 0 1 ⟨by omega, by omega, by omega, by omega, by omega, by omega, rfl⟩ rfl (fun i6 i7 i8 V2263 hp2265 ih2264 => ?_)
  obtain ⟨l_i6, u_i6, l_i7, u_i7, l_i8, u_i8, rfl⟩ := hp2265
  have r_i6 : ir i6 := ⟨by omega, by omega⟩
  have r_i7 : ir i7 := ⟨by omega, by omega⟩
  have r_i8 : ir i8 := ⟨by omega, by omega⟩
  show GO mX11_best K V (IP K V (fun X => True)) K V 0 0 19 [some (.ref x), some (ti X3), some (ti i6), some (ti i7), some (ti i8), none, none] []
  refine GO.iload dX11_best_19 rfl ?_
  refine GO.iconst dX11_best_21 ?_
  refine GO.aload_n dX11_best_22 rfl rfl ?_
  refine GO.getR h_x fl_RX11_88 rfl rfl dX11_best_23 (fun hv2267 h2266 => ?_)
  refine GO.getI h2266 fl_RX11_199 rfl rfl dX11_best_26 (fun _ _ => ?_)
  refine GO.ishl dX11_best_29 ?_
  refine GO.icmp_ge (tgt := 100) dX11_best_30 (by decide) r_i8 wshl_ir (fun c2268 => ?_) (fun c2268 => ?_)
  ·
    refine GO.iload_n dX11_best_100 rfl rfl ?_
    exact GO.reti rfl rfl dX11_best_101 ⟨rfl, rfl, _, rfl, r_i6, trivial⟩
  ·
    refine GO.aload_n dX11_best_33 rfl rfl ?_
    refine GO.iload dX11_best_34 rfl ?_
    refine GO.callV (ci := 10) (N := mX11_worthOf) dX11_best_36 (RX11, TX11, 20) rfl gV_RX11_584 h_x (t_X11_worthOf h_x r_i8) rfl [] rfl rfl (Nat.le_of_ble_eq_true rfl) rfl (k_ip fun X2269 r2270 h2271 => ?_)
    refine GO.istore (ls1 := [some (.ref x), some (ti X3), some (ti i6), some (ti i7), some (ti i8), some (ti X2269), none]) dX11_best_39 rfl rfl ?_
    refine GO.iload dX11_best_41 rfl ?_
    refine GO.iload_n dX11_best_43 rfl rfl ?_
    have hj2281 : ∀ (z2280 : Int), ∀ (l2282 : 0 ≤ z2280), ∀ (u2283 : z2280 ≤ 1), GO mX11_best K V (IP K V (fun X => True)) K V 0 0 64 [some (.ref x), some (ti X3), some (ti i6), some (ti i7), some (ti i8), some (ti X2269), none] [ti z2280] := by
      intro z2280 l2282 u2283
      have r2284 : ir z2280 := ⟨by omega, by omega⟩
      refine GO.istore (ls1 := [some (.ref x), some (ti X3), some (ti i6), some (ti i7), some (ti i8), some (ti X2269), some (ti z2280)]) dX11_best_64 rfl rfl ?_
      refine GO.iload dX11_best_66 rfl ?_
      refine GO.iload_n dX11_best_68 rfl rfl ?_
      refine GO.icmp_gt (tgt := 77) dX11_best_69 (by decide) r2270 r_i7 (fun c2285 => ?_) (fun c2285 => ?_)
      ·
        refine GO.aload_n dX11_best_77 rfl rfl ?_
        refine GO.iload dX11_best_78 rfl ?_
        refine GO.callV (ci := 10) (N := mX11_blockers) dX11_best_80 (RX11, TX11, 20) rfl gV_RX11_581 h_x (t_X11_blockers h_x r_i8) rfl [] rfl rfl (Nat.le_of_ble_eq_true rfl) rfl (k_ip fun X2286 r2287 h2288 => ?_)
        refine GO.iload_n dX11_best_83 rfl rfl ?_
        refine GO.iand dX11_best_84 ?_
        refine GO.if_ne (tgt := 94) dX11_best_85 (by decide) wand_ir (fun c2289 => ?_) (fun c2289 => ?_)
        ·
          refine GO.iinc (X := i8) (n := 1) (Y := i8 + 1) (ls1 := [some (.ref x), some (ti X3), some (ti i6), some (ti i7), some (ti (i8 + 1)), some (ti X2269), some (ti z2280)]) dX11_best_94 rfl rfl rfl rfl ?_
          refine GO.goto (tgt := 19) dX11_best_97 (by decide) ?_
          refine GO.drop [true, true, true, true, true, false, false] rfl ?_
          have q2290 : -2147483648 ≤ wshl 1 (vi V (vq V x 16) 3) ∧ wshl 1 (vi V (vq V x 16) 3) ≤ 2147483647 := wshl_ir
          have q2291 : -2147483648 ≤ X2269 ∧ X2269 ≤ 2147483647 := r2270
          exact ih2264 i6 i7 (i8 + 1) V ⟨by omega, by omega, by omega, by omega, by omega, by omega, rfl⟩ (by show (2147483647 - (i8 + 1)).toNat < (2147483647 - i8).toNat; omega)
        ·
          refine GO.iload dX11_best_88 rfl ?_
          refine GO.istore_n (ls1 := [some (.ref x), some (ti X3), some (ti i8), some (ti i7), some (ti i8), some (ti X2269), some (ti z2280)]) dX11_best_90 rfl rfl rfl ?_
          refine GO.iload dX11_best_91 rfl ?_
          refine GO.istore_n (ls1 := [some (.ref x), some (ti X3), some (ti i8), some (ti X2269), some (ti i8), some (ti X2269), some (ti z2280)]) dX11_best_93 rfl rfl rfl ?_
          refine GO.iinc (X := i8) (n := 1) (Y := i8 + 1) (ls1 := [some (.ref x), some (ti X3), some (ti i8), some (ti X2269), some (ti (i8 + 1)), some (ti X2269), some (ti z2280)]) dX11_best_94 rfl rfl rfl rfl ?_
          refine GO.goto (tgt := 19) dX11_best_97 (by decide) ?_
          refine GO.drop [true, true, true, true, true, false, false] rfl ?_
          have q2292 : -2147483648 ≤ wshl 1 (vi V (vq V x 16) 3) ∧ wshl 1 (vi V (vq V x 16) 3) ≤ 2147483647 := wshl_ir
          have q2293 : -2147483648 ≤ X2269 ∧ X2269 ≤ 2147483647 := r2270
          exact ih2264 i8 X2269 (i8 + 1) V ⟨by omega, by omega, by omega, by omega, by omega, by omega, rfl⟩ (by show (2147483647 - (i8 + 1)).toNat < (2147483647 - i8).toNat; omega)
      ·
        refine GO.iload dX11_best_72 rfl ?_
        refine GO.if_eq (tgt := 94) dX11_best_74 (by decide) r2284 (fun c2294 => ?_) (fun c2294 => ?_)
        ·
          refine GO.iinc (X := i8) (n := 1) (Y := i8 + 1) (ls1 := [some (.ref x), some (ti X3), some (ti i6), some (ti i7), some (ti (i8 + 1)), some (ti X2269), some (ti z2280)]) dX11_best_94 rfl rfl rfl rfl ?_
          refine GO.goto (tgt := 19) dX11_best_97 (by decide) ?_
          refine GO.drop [true, true, true, true, true, false, false] rfl ?_
          have q2295 : -2147483648 ≤ wshl 1 (vi V (vq V x 16) 3) ∧ wshl 1 (vi V (vq V x 16) 3) ≤ 2147483647 := wshl_ir
          have q2296 : -2147483648 ≤ X2269 ∧ X2269 ≤ 2147483647 := r2270
          exact ih2264 i6 i7 (i8 + 1) V ⟨by omega, by omega, by omega, by omega, by omega, by omega, rfl⟩ (by show (2147483647 - (i8 + 1)).toNat < (2147483647 - i8).toNat; omega)
        ·
          refine GO.aload_n dX11_best_77 rfl rfl ?_
          refine GO.iload dX11_best_78 rfl ?_
          refine GO.callV (ci := 10) (N := mX11_blockers) dX11_best_80 (RX11, TX11, 20) rfl gV_RX11_581 h_x (t_X11_blockers h_x r_i8) rfl [] rfl rfl (Nat.le_of_ble_eq_true rfl) rfl (k_ip fun X2297 r2298 h2299 => ?_)
          refine GO.iload_n dX11_best_83 rfl rfl ?_
          refine GO.iand dX11_best_84 ?_
          refine GO.if_ne (tgt := 94) dX11_best_85 (by decide) wand_ir (fun c2300 => ?_) (fun c2300 => ?_)
          ·
            refine GO.iinc (X := i8) (n := 1) (Y := i8 + 1) (ls1 := [some (.ref x), some (ti X3), some (ti i6), some (ti i7), some (ti (i8 + 1)), some (ti X2269), some (ti z2280)]) dX11_best_94 rfl rfl rfl rfl ?_
            refine GO.goto (tgt := 19) dX11_best_97 (by decide) ?_
            refine GO.drop [true, true, true, true, true, false, false] rfl ?_
            have q2301 : -2147483648 ≤ wshl 1 (vi V (vq V x 16) 3) ∧ wshl 1 (vi V (vq V x 16) 3) ≤ 2147483647 := wshl_ir
            have q2302 : -2147483648 ≤ X2269 ∧ X2269 ≤ 2147483647 := r2270
            exact ih2264 i6 i7 (i8 + 1) V ⟨by omega, by omega, by omega, by omega, by omega, by omega, rfl⟩ (by show (2147483647 - (i8 + 1)).toNat < (2147483647 - i8).toNat; omega)
          ·
            refine GO.iload dX11_best_88 rfl ?_
            refine GO.istore_n (ls1 := [some (.ref x), some (ti X3), some (ti i8), some (ti i7), some (ti i8), some (ti X2269), some (ti z2280)]) dX11_best_90 rfl rfl rfl ?_
            refine GO.iload dX11_best_91 rfl ?_
            refine GO.istore_n (ls1 := [some (.ref x), some (ti X3), some (ti i8), some (ti X2269), some (ti i8), some (ti X2269), some (ti z2280)]) dX11_best_93 rfl rfl rfl ?_
            refine GO.iinc (X := i8) (n := 1) (Y := i8 + 1) (ls1 := [some (.ref x), some (ti X3), some (ti i8), some (ti X2269), some (ti (i8 + 1)), some (ti X2269), some (ti z2280)]) dX11_best_94 rfl rfl rfl rfl ?_
            refine GO.goto (tgt := 19) dX11_best_97 (by decide) ?_
            refine GO.drop [true, true, true, true, true, false, false] rfl ?_
            have q2303 : -2147483648 ≤ wshl 1 (vi V (vq V x 16) 3) ∧ wshl 1 (vi V (vq V x 16) 3) ≤ 2147483647 := wshl_ir
            have q2304 : -2147483648 ≤ X2269 ∧ X2269 ≤ 2147483647 := r2270
            exact ih2264 i8 X2269 (i8 + 1) V ⟨by omega, by omega, by omega, by omega, by omega, by omega, rfl⟩ (by show (2147483647 - (i8 + 1)).toNat < (2147483647 - i8).toNat; omega)
    have hj2313 : GO mX11_best K V (IP K V (fun X => True)) K V 0 0 63 [some (.ref x), some (ti X3), some (ti i6), some (ti i7), some (ti i8), some (ti X2269), none] [] := by
      skip
      refine GO.iconst dX11_best_63 ?_
      exact hj2281 0 (by omega) (by omega)
    refine GO.icmp_ne (tgt := 63) dX11_best_44 (by decide) r2270 r_i7 (fun c2314 => ?_) (fun c2314 => ?_)
    ·
      exact hj2313 
    ·
      refine GO.iload dX11_best_47 rfl ?_
      refine GO.callS (N := mJ6_bitCount_0f7a4) dX11_best_49 gS_RX11_286 (t_J6_bitCount_0f7a4 r_i8) rfl [] rfl rfl (Nat.le_of_ble_eq_true rfl) rfl (k_ip fun X2315 r2316 h2317 => ?_)
      refine GO.iload_n dX11_best_52 rfl rfl ?_
      refine GO.callS (N := mJ6_bitCount_0f7a4) dX11_best_53 gS_RX11_286 (t_J6_bitCount_0f7a4 r_i6) rfl [ti X2315] rfl rfl (Nat.le_of_ble_eq_true rfl) rfl (k_ip fun X2318 r2319 h2320 => ?_)
      refine GO.icmp_ge (tgt := 63) dX11_best_56 (by decide) r2316 r2319 (fun c2321 => ?_) (fun c2321 => ?_)
      ·
        exact hj2313 
      ·
        refine GO.iconst dX11_best_59 ?_
        refine GO.goto (tgt := 64) dX11_best_60 (by decide) ?_
        exact hj2281 1 (by omega) (by omega)

set_option maxHeartbeats 1000000 in
theorem t_X8_isFull_k24 {K : Kmap} {V : Vmap} {x : Nat} (h_x : K x = some (0, 24)) : MC mX8_isFull_k24 K V [.ref x] (IP K V (fun X => (X = 0 ∨ X = 1) ∧ (X ≠ 0 → True) ∧ (X = 0 → vi V x 3 ≤ 7))) := by
  refine MC.start 0 (by decide +kernel) rfl rfl rfl (ls0 := [some (.ref x)]) rfl ?_
  refine GO.aload_n dX8_isFull_0 rfl rfl ?_
  refine GO.getI h_x fl_RX8_9_k24 rfl rfl dX8_isFull_1 (fun l1 u2 => ?_)
  refine GO.aload_n dX8_isFull_4 rfl rfl ?_
  refine GO.getI h_x fl_RX8_18_k24 rfl rfl dX8_isFull_5 (fun l3 u4 => ?_)
  refine GO.icmp_lt (tgt := 15) dX8_isFull_8 (by decide) vi_ir vi_ir (fun c5 => ?_) (fun c5 => ?_)
  ·
    refine GO.iconst dX8_isFull_15 ?_
    exact GO.retz rfl rfl dX8_isFull_16 (Or.inl rfl) ⟨rfl, rfl, _, rfl, (ir_c rfl), ⟨Or.inl rfl, fun _ => trivial, fun h => by omega⟩⟩
  ·
    refine GO.iconst dX8_isFull_11 ?_
    refine GO.goto (tgt := 16) dX8_isFull_12 (by decide) ?_
    exact GO.retz rfl rfl dX8_isFull_16 (Or.inr rfl) ⟨rfl, rfl, _, rfl, (ir_c rfl), ⟨Or.inr rfl, fun _ => trivial, fun h => absurd h (by decide)⟩⟩

set_option maxHeartbeats 1000000 in
theorem t_X8_put_k24 {K : Kmap} {V : Vmap} {x : Nat} {p0 : Int} {p1 : Int} {p2 : Int} (h_x : K x = some (0, 24)) (r_p0 : ir p0) (r_p1 : ir p1) (r_p2 : ir p2) : MC mX8_put_k24 K V [.ref x, ti p0, ti p1, ti p2] (VS K (fun V1 => (True))) := by
  refine MC.start 2 (by decide +kernel) rfl rfl rfl (ls0 := [some (.ref x), some (ti p0), some (ti p1), some (ti p2), none, none]) rfl ?_
  refine GO.iload_n dX8_put_0 rfl rfl ?_
  refine GO.aload_n dX8_put_1 rfl rfl ?_
  refine GO.getI h_x fl_RX8_15_k24 rfl rfl dX8_put_2 (fun l1 u2 => ?_)
  refine GO.imul dX8_put_5 ?_
  refine GO.norm (fun z3 r4 _ => ?_)
  refine GO.iload_n dX8_put_6 rfl rfl ?_
  refine GO.iadd dX8_put_7 ?_
  refine GO.norm (fun z5 r6 _ => ?_)
  refine GO.istore (ls1 := [some (.ref x), some (ti p0), some (ti p1), some (ti p2), some (ti z5), none]) dX8_put_8 rfl rfl ?_
  refine GO.iload_n dX8_put_10 rfl rfl ?_
  have hj16 : ∀ (z15 : Int), ∀ (l17 : 0 ≤ z15), ∀ (u18 : z15 ≤ 1), GO mX8_put_k24 K V (VS K (fun V1 => (True))) K V 0 0 39 [some (.ref x), some (ti p0), some (ti p1), some (ti p2), some (ti z5), none] [ti z15] := by
    intro z15 l17 u18
    have r19 : ir z15 := ⟨by omega, by omega⟩
    refine GO.istore (ls1 := [some (.ref x), some (ti p0), some (ti p1), some (ti p2), some (ti z5), some (ti z15)]) dX8_put_39 rfl rfl ?_
    refine GO.iload dX8_put_41 rfl ?_
    refine GO.if_eq (tgt := 69) dX8_put_43 (by decide) r19 (fun c20 => ?_) (fun c20 => ?_)
    ·
      exact GO.retv rfl rfl dX8_put_69 ⟨rfl, rfl, trivial⟩
    ·
      refine GO.iload dX8_put_46 rfl ?_
      refine GO.if_lt (tgt := 69) dX8_put_48 (by decide) r6 (fun c21 => ?_) (fun c21 => ?_)
      ·
        exact GO.retv rfl rfl dX8_put_69 ⟨rfl, rfl, trivial⟩
      ·
        refine GO.iload dX8_put_51 rfl ?_
        refine GO.aload_n dX8_put_53 rfl rfl ?_
        refine GO.getB h_x fl_RX8_27_k24 rfl rfl dX8_put_54 (fun n24 hv23 h22 b25 => ?_)
        refine GO.alen h22 dX8_put_57 (fun h26 => ?_)
        refine GO.icmp_ge (tgt := 69) dX8_put_58 (by decide) r6 ⟨by omega, by omega⟩ (fun c27 => ?_) (fun c27 => ?_)
        ·
          exact GO.retv rfl rfl dX8_put_69 ⟨rfl, rfl, trivial⟩
        ·
          refine GO.aload_n dX8_put_61 rfl rfl ?_
          refine GO.getRaw h_x fl_RX8_27_k24 hv23 dX8_put_62 ?_
          refine GO.iload dX8_put_65 rfl ?_
          refine GO.iload_n dX8_put_67 rfl rfl ?_
          have q30 : -2147483648 ≤ z5 ∧ z5 ≤ 2147483647 := r6
          refine GO.iast (t := 0) rfl rfl (by decide +kernel) h22 r6 (by omega) (by omega) r_p2 (r_p2).1 (r_p2).2 dX8_put_68 (fun V32 e31 => ?_)
          exact GO.retv rfl rfl dX8_put_69 ⟨rfl, rfl, trivial⟩
  have hj41 : GO mX8_put_k24 K V (VS K (fun V1 => (True))) K V 0 0 38 [some (.ref x), some (ti p0), some (ti p1), some (ti p2), some (ti z5), none] [] := by
    skip
    refine GO.iconst dX8_put_38 ?_
    exact hj16 0 (by omega) (by omega)
  refine GO.if_lt (tgt := 38) dX8_put_11 (by decide) r_p0 (fun c42 => ?_) (fun c42 => ?_)
  ·
    exact hj41 
  ·
    refine GO.iload_n dX8_put_14 rfl rfl ?_
    refine GO.aload_n dX8_put_15 rfl rfl ?_
    refine GO.getI h_x fl_RX8_9_k24 rfl rfl dX8_put_16 (fun l43 u44 => ?_)
    refine GO.icmp_ge (tgt := 38) dX8_put_19 (by decide) r_p0 vi_ir (fun c45 => ?_) (fun c45 => ?_)
    ·
      exact hj41 
    ·
      refine GO.iload_n dX8_put_22 rfl rfl ?_
      refine GO.if_lt (tgt := 38) dX8_put_23 (by decide) r_p1 (fun c46 => ?_) (fun c46 => ?_)
      ·
        exact hj41 
      ·
        refine GO.iload_n dX8_put_26 rfl rfl ?_
        refine GO.aload_n dX8_put_27 rfl rfl ?_
        refine GO.getI h_x fl_RX8_15_k24 rfl rfl dX8_put_28 (fun l47 u48 => ?_)
        refine GO.icmp_ge (tgt := 38) dX8_put_31 (by decide) r_p1 vi_ir (fun c49 => ?_) (fun c49 => ?_)
        ·
          exact hj41 
        ·
          refine GO.iconst dX8_put_34 ?_
          refine GO.goto (tgt := 39) dX8_put_35 (by decide) ?_
          exact hj16 1 (by omega) (by omega)

set_option maxHeartbeats 1000000 in
theorem t_X8_append_k24 {K : Kmap} {V : Vmap} {x : Nat} {p0 : Int} {p1 : Int} {p2 : Int} {p3 : Int} {p4 : Int} (h_x : K x = some (0, 24)) (r_p0 : ir p0) (r_p1 : ir p1) (r_p2 : ir p2) (r_p3 : ir p3) (r_p4 : ir p4) : MC mX8_append_k24 K V [.ref x, ti p0, ti p1, ti p2, ti p3, ti p4] (IS K (fun X V1 => True)) := by
  refine MC.start 1 (by decide +kernel) rfl rfl rfl (ls0 := [some (.ref x), some (ti p0), some (ti p1), some (ti p2), some (ti p3), some (ti p4), none]) rfl ?_
  refine GO.aload_n dX8_append_0 rfl rfl ?_
  refine GO.callV (ci := 24) (N := mX8_isFull_k24) dX8_append_1 (RX8, TX8, 4) rfl gV_RX8_31 h_x (t_X8_isFull_k24 h_x) rfl [] rfl rfl (Nat.le_of_ble_eq_true rfl) rfl (k_ip fun X1 r2 h3 => ?_)
  refine GO.if_eq (tgt := 9) dX8_append_4 (by decide) r2 (fun c4 => ?_) (fun c4 => ?_)
  ·
    have q5 := h3.2.2 (by omega)
    refine GO.aload_n dX8_append_9 rfl rfl ?_
    refine GO.getI h_x fl_RX8_9_k24 rfl rfl dX8_append_10 (fun l6 u7 => ?_)
    refine GO.name (fun z8 hz9 => ?_)
    have r10 : ir z8 := hz9 ▸ vi_ir
    refine GO.istore (ls1 := [some (.ref x), some (ti p0), some (ti p1), some (ti p2), some (ti p3), some (ti p4), some (ti z8)]) dX8_append_13 rfl rfl ?_
    refine GO.aload_n dX8_append_15 rfl rfl ?_
    refine GO.dup dX8_append_16 rfl ?_
    refine GO.getI h_x fl_RX8_9_k24 rfl rfl dX8_append_17 (fun l11 u12 => ?_)
    refine GO.iconst dX8_append_20 ?_
    refine GO.iadd dX8_append_21 ?_
    have q14 : -2147483648 ≤ vi V x 3 ∧ vi V x 3 ≤ 2147483647 := vi_ir
    have q15 : -2147483648 ≤ z8 ∧ z8 ≤ 2147483647 := r10
    refine GO.putI h_x fp_RX8_9_k24 rfl (by decide +kernel) ⟨by omega, by omega⟩ (by omega) (by omega) dX8_append_22 (fun V16 e13 => ?_)
    refine GO.aload_n dX8_append_25 rfl rfl ?_
    refine GO.iload dX8_append_26 rfl ?_
    refine GO.iconst dX8_append_28 ?_
    refine GO.iload_n dX8_append_29 rfl rfl ?_
    refine GO.callV (ci := 24) (N := mX8_put_k24) dX8_append_30 (RX8, TX8, 4) rfl gV_RX8_35 h_x (t_X8_put_k24 h_x r10 (ir_c rfl) r_p0) rfl [] rfl rfl (Nat.le_of_ble_eq_true rfl) rfl (k_vs fun V19 h18 hF17 => ?_)
    refine GO.aload_n dX8_append_33 rfl rfl ?_
    refine GO.iload dX8_append_34 rfl ?_
    refine GO.iconst dX8_append_36 ?_
    refine GO.iload_n dX8_append_37 rfl rfl ?_
    refine GO.callV (ci := 24) (N := mX8_put_k24) dX8_append_38 (RX8, TX8, 4) rfl gV_RX8_35 h_x (t_X8_put_k24 h_x r10 (ir_c rfl) r_p1) rfl [] rfl rfl (Nat.le_of_ble_eq_true rfl) rfl (k_vs fun V22 h21 hF20 => ?_)
    refine GO.aload_n dX8_append_41 rfl rfl ?_
    refine GO.iload dX8_append_42 rfl ?_
    refine GO.iconst dX8_append_44 ?_
    refine GO.iload_n dX8_append_45 rfl rfl ?_
    refine GO.callV (ci := 24) (N := mX8_put_k24) dX8_append_46 (RX8, TX8, 4) rfl gV_RX8_35 h_x (t_X8_put_k24 h_x r10 (ir_c rfl) r_p2) rfl [] rfl rfl (Nat.le_of_ble_eq_true rfl) rfl (k_vs fun V25 h24 hF23 => ?_)
    refine GO.aload_n dX8_append_49 rfl rfl ?_
    refine GO.iload dX8_append_50 rfl ?_
    refine GO.iconst dX8_append_52 ?_
    refine GO.iload dX8_append_53 rfl ?_
    refine GO.callV (ci := 24) (N := mX8_put_k24) dX8_append_55 (RX8, TX8, 4) rfl gV_RX8_35 h_x (t_X8_put_k24 h_x r10 (ir_c rfl) r_p3) rfl [] rfl rfl (Nat.le_of_ble_eq_true rfl) rfl (k_vs fun V28 h27 hF26 => ?_)
    refine GO.aload_n dX8_append_58 rfl rfl ?_
    refine GO.iload dX8_append_59 rfl ?_
    refine GO.iconst dX8_append_61 ?_
    refine GO.iload dX8_append_62 rfl ?_
    refine GO.callV (ci := 24) (N := mX8_put_k24) dX8_append_64 (RX8, TX8, 4) rfl gV_RX8_35 h_x (t_X8_put_k24 h_x r10 (ir_c rfl) r_p4) rfl [] rfl rfl (Nat.le_of_ble_eq_true rfl) rfl (k_vs fun V31 h30 hF29 => ?_)
    refine GO.iload dX8_append_67 rfl ?_
    exact GO.reti rfl rfl dX8_append_69 ⟨rfl, _, rfl, r10, trivial⟩
  ·
    refine GO.iconst dX8_append_7 ?_
    exact GO.reti rfl rfl dX8_append_8 ⟨rfl, _, rfl, (ir_c rfl), trivial⟩

set_option maxHeartbeats 1000000 in
theorem t_X11_stop {K : Kmap} {V : Vmap} {x : Nat} {p0 : Int} {p1 : Int} (h_x : K x = some (0, 10)) (r_p0 : ir p0) (r_p1 : ir p1) : MC mX11_stop K V [.ref x, ti p0, ti p1] (IS K (fun X V1 => True)) := by
  refine MC.start 0 (by decide +kernel) rfl rfl rfl (ls0 := [some (.ref x), some (ti p0), some (ti p1)]) rfl ?_
  refine GO.aload_n dX11_stop_0 rfl rfl ?_
  refine GO.iload_n dX11_stop_1 rfl rfl ?_
  refine GO.callV (ci := 10) (N := mX11_standingStation) dX11_stop_2 (RX11, TX11, 20) rfl gV_RX11_195 h_x (t_X11_standingStation h_x r_p0) rfl [] rfl rfl (Nat.le_of_ble_eq_true rfl) rfl (k_rp (fun h3 => ?_) (fun o1 h2 h3 => ?_))
  ·
    refine GO.ifnullN (tgt := 30) dX11_stop_5 (by decide) ?_
    refine GO.iconst dX11_stop_30 ?_
    exact GO.reti rfl rfl dX11_stop_31 ⟨rfl, _, rfl, (ir_c rfl), trivial⟩
  ·
    refine GO.ifnull dX11_stop_5 ?_
    refine GO.iload_n dX11_stop_8 rfl rfl ?_
    refine GO.iconst dX11_stop_9 ?_
    refine GO.sipush dX11_stop_10 rfl ?_
    refine GO.callS (N := mX11_between) dX11_stop_13 gS_RX11_112 (t_X11_between r_p1 (ir_c rfl) (ir_c rfl)) rfl [] rfl rfl (Nat.le_of_ble_eq_true rfl) rfl (k_ip fun X4 r5 h6 => ?_)
    refine GO.if_eq (tgt := 30) dX11_stop_16 (by decide) r5 (fun c7 => ?_) (fun c7 => ?_)
    ·
      have q8 := h6.2.2 (by omega)
      refine GO.iconst dX11_stop_30 ?_
      exact GO.reti rfl rfl dX11_stop_31 ⟨rfl, _, rfl, (ir_c rfl), trivial⟩
    ·
      have q9 := h6.2.1 (by omega)
      refine GO.aload_n dX11_stop_19 rfl rfl ?_
      refine GO.getR h_x fl_RX11_26 rfl rfl dX11_stop_20 (fun hv11 h10 => ?_)
      refine GO.iload_n dX11_stop_23 rfl rfl ?_
      refine GO.callV (ci := 5) (N := mX6_hasStation) dX11_stop_24 (RX6, TX6, 10) rfl gV_RX11_590 h10 (t_X6_hasStation h10 r_p0) rfl [] rfl rfl (Nat.le_of_ble_eq_true rfl) rfl (k_ip fun X12 r13 h14 => ?_)
      refine GO.if_eq (tgt := 32) dX11_stop_27 (by decide) r13 (fun c15 => ?_) (fun c15 => ?_)
      ·
        refine GO.aload_n dX11_stop_32 rfl rfl ?_
        refine GO.getRaw h_x fl_RX11_26 hv11 dX11_stop_33 ?_
        refine GO.callV (ci := 5) (N := mX6_forget) dX11_stop_36 (RX6, TX6, 10) rfl gV_RX11_435 h10 (t_X6_forget h10) rfl [] rfl rfl (Nat.le_of_ble_eq_true rfl) rfl (k_vs fun V20 h19 hF18 => ?_)
        refine GO.aload_n dX11_stop_39 rfl rfl ?_
        refine GO.getRaw h_x fl_RX11_26 (Eq.trans (hF18 _ _ _ h_x h_x (by decide +kernel)) hv11) dX11_stop_40 ?_
        refine GO.getR h10 fl_RX11_593 rfl rfl dX11_stop_43 (fun hv24 h23 => ?_)
        refine GO.iload_n dX11_stop_46 rfl rfl ?_
        refine GO.iload_n dX11_stop_47 rfl rfl ?_
        refine GO.iconst dX11_stop_48 ?_
        refine GO.iconst dX11_stop_49 ?_
        refine GO.iconst dX11_stop_50 ?_
        refine GO.callV (ci := 24) (N := mX8_append_k24) dX11_stop_51 (RX8, TX8, 4) rfl gV_RX11_205 h23 (t_X8_append_k24 h23 r_p0 r_p1 (ir_c rfl) (ir_c rfl) (ir_c rfl)) rfl [] rfl rfl (Nat.le_of_ble_eq_true rfl) rfl (k_is fun X25 V29 r26 h27 hF28 => ?_)
        have q30 : -2147483648 ≤ X25 ∧ X25 ≤ 2147483647 := r26
        exact GO.reti rfl rfl dX11_stop_54 ⟨rfl, _, rfl, r26, trivial⟩
      ·
        refine GO.iconst dX11_stop_30 ?_
        exact GO.reti rfl rfl dX11_stop_31 ⟨rfl, _, rfl, (ir_c rfl), trivial⟩

set_option maxHeartbeats 1000000 in
theorem t_X8_has_k24 {K : Kmap} {V : Vmap} {x : Nat} {p0 : Int} (h_x : K x = some (0, 24)) (r_p0 : ir p0) : MC mX8_has_k24 K V [.ref x, ti p0] (IP K V (fun X => (X = 0 ∨ X = 1) ∧ (X ≠ 0 → True) ∧ (X = 0 → True))) := by
  refine MC.start 0 (by decide +kernel) rfl rfl rfl (ls0 := [some (.ref x), some (ti p0)]) rfl ?_
  refine GO.iload_n dX8_has_0 rfl rfl ?_
  refine GO.if_lt (tgt := 16) dX8_has_1 (by decide) r_p0 (fun c1 => ?_) (fun c1 => ?_)
  ·
    refine GO.iconst dX8_has_16 ?_
    exact GO.retz rfl rfl dX8_has_17 (Or.inl rfl) ⟨rfl, rfl, _, rfl, (ir_c rfl), ⟨Or.inl rfl, fun _ => trivial, fun _ => trivial⟩⟩
  ·
    refine GO.iload_n dX8_has_4 rfl rfl ?_
    refine GO.aload_n dX8_has_5 rfl rfl ?_
    refine GO.getI h_x fl_RX8_9_k24 rfl rfl dX8_has_6 (fun l2 u3 => ?_)
    refine GO.icmp_ge (tgt := 16) dX8_has_9 (by decide) r_p0 vi_ir (fun c4 => ?_) (fun c4 => ?_)
    ·
      refine GO.iconst dX8_has_16 ?_
      exact GO.retz rfl rfl dX8_has_17 (Or.inl rfl) ⟨rfl, rfl, _, rfl, (ir_c rfl), ⟨Or.inl rfl, fun _ => trivial, fun _ => trivial⟩⟩
    ·
      refine GO.iconst dX8_has_12 ?_
      refine GO.goto (tgt := 17) dX8_has_13 (by decide) ?_
      exact GO.retz rfl rfl dX8_has_17 (Or.inr rfl) ⟨rfl, rfl, _, rfl, (ir_c rfl), ⟨Or.inr rfl, fun _ => trivial, fun _ => trivial⟩⟩

set_option maxHeartbeats 1000000 in
theorem t_X11_open {K : Kmap} {V : Vmap} {x : Nat} {p0 : Int} {p1 : Int} {p2 : Int} {p3 : Int} (h_x : K x = some (0, 10)) (r_p0 : ir p0) (r_p1 : ir p1) (r_p2 : ir p2) (r_p3 : ir p3) : MC mX11_open K V [.ref x, ti p0, ti p1, ti p2, ti p3] (IS K (fun X V1 => (X = 0 ∨ X = 1) ∧ (X ≠ 0 → True) ∧ (X = 0 → True))) := by
  refine MC.start 0 (by decide +kernel) rfl rfl rfl (ls0 := [some (.ref x), some (ti p0), some (ti p1), some (ti p2), some (ti p3)]) rfl ?_
  refine GO.iload_n dX11_open_0 rfl rfl ?_
  refine GO.iconst dX11_open_1 ?_
  refine GO.iconst dX11_open_2 ?_
  refine GO.callS (N := mX11_between) dX11_open_3 gS_RX11_112 (t_X11_between r_p0 (ir_c rfl) (ir_c rfl)) rfl [] rfl rfl (Nat.le_of_ble_eq_true rfl) rfl (k_ip fun X1 r2 h3 => ?_)
  refine GO.if_eq (tgt := 32) dX11_open_6 (by decide) r2 (fun c4 => ?_) (fun c4 => ?_)
  ·
    have q5 := h3.2.2 (by omega)
    refine GO.iconst dX11_open_32 ?_
    exact GO.retz rfl rfl dX11_open_33 (Or.inl rfl) ⟨rfl, _, rfl, (ir_c rfl), ⟨Or.inl rfl, fun _ => trivial, fun _ => trivial⟩⟩
  ·
    have q6 := h3.2.1 (by omega)
    refine GO.aload_n dX11_open_9 rfl rfl ?_
    refine GO.getR h_x fl_RX11_26 rfl rfl dX11_open_10 (fun hv8 h7 => ?_)
    refine GO.getR h7 fl_RX11_593 rfl rfl dX11_open_13 (fun hv10 h9 => ?_)
    refine GO.iload_n dX11_open_16 rfl rfl ?_
    refine GO.callV (ci := 24) (N := mX8_has_k24) dX11_open_17 (RX8, TX8, 4) rfl gV_RX11_431 h9 (t_X8_has_k24 h9 r_p1) rfl [] rfl rfl (Nat.le_of_ble_eq_true rfl) rfl (k_ip fun X11 r12 h13 => ?_)
    refine GO.if_eq (tgt := 32) dX11_open_20 (by decide) r12 (fun c14 => ?_) (fun c14 => ?_)
    ·
      refine GO.iconst dX11_open_32 ?_
      exact GO.retz rfl rfl dX11_open_33 (Or.inl rfl) ⟨rfl, _, rfl, (ir_c rfl), ⟨Or.inl rfl, fun _ => trivial, fun _ => trivial⟩⟩
    ·
      refine GO.iload_n dX11_open_23 rfl rfl ?_
      refine GO.iload dX11_open_24 rfl ?_
      refine GO.callS (N := mX11_areYearDays) dX11_open_26 gS_RX11_135 (t_X11_areYearDays r_p2 r_p3) rfl [] rfl rfl (Nat.le_of_ble_eq_true rfl) rfl (k_ip fun X15 r16 h17 => ?_)
      refine GO.if_ne (tgt := 34) dX11_open_29 (by decide) r16 (fun c18 => ?_) (fun c18 => ?_)
      ·
        have q19 := h17.2.1 (by omega)
        refine GO.aload_n dX11_open_34 rfl rfl ?_
        refine GO.getRaw h_x fl_RX11_26 hv8 dX11_open_35 ?_
        refine GO.callV (ci := 5) (N := mX6_forget) dX11_open_38 (RX6, TX6, 10) rfl gV_RX11_435 h7 (t_X6_forget h7) rfl [] rfl rfl (Nat.le_of_ble_eq_true rfl) rfl (k_vs fun V24 h23 hF22 => ?_)
        refine GO.aload_n dX11_open_41 rfl rfl ?_
        refine GO.getRaw h_x fl_RX11_26 (Eq.trans (hF22 _ _ _ h_x h_x (by decide +kernel)) hv8) dX11_open_42 ?_
        refine GO.getB h7 fl_RX11_596 rfl rfl dX11_open_45 (fun n29 hv28 h27 b30 => ?_)
        refine GO.iload_n dX11_open_48 rfl rfl ?_
        refine GO.bipush dX11_open_49 rfl ?_
        refine GO.imul dX11_open_51 ?_
        refine GO.iload_n dX11_open_52 rfl rfl ?_
        refine GO.iadd dX11_open_53 ?_
        refine GO.norm (fun z31 r32 _ => ?_)
        refine GO.iload_n dX11_open_54 rfl rfl ?_
        refine GO.callS (N := mX4_put) dX11_open_55 gS_RX11_108 (t_X4_put h27 r32 r_p2) rfl [] rfl rfl (Nat.le_of_ble_eq_true rfl) rfl (k_vs fun V35 h34 hF33 => ?_)
        refine GO.aload_n dX11_open_58 rfl rfl ?_
        refine GO.getRaw h_x fl_RX11_26 (Eq.trans (hF33 _ _ _ h_x h_x (by decide +kernel)) (Eq.trans (hF22 _ _ _ h_x h_x (by decide +kernel)) hv8)) dX11_open_59 ?_
        refine GO.getB h7 fl_RX11_599 rfl rfl dX11_open_62 (fun n40 hv39 h38 b41 => ?_)
        refine GO.iload_n dX11_open_65 rfl rfl ?_
        refine GO.bipush dX11_open_66 rfl ?_
        refine GO.imul dX11_open_68 ?_
        refine GO.iload_n dX11_open_69 rfl rfl ?_
        refine GO.iadd dX11_open_70 ?_
        refine GO.norm (fun z42 r43 _ => ?_)
        refine GO.iload dX11_open_71 rfl ?_
        refine GO.callS (N := mX4_put) dX11_open_73 gS_RX11_108 (t_X4_put h38 r43 r_p3) rfl [] rfl rfl (Nat.le_of_ble_eq_true rfl) rfl (k_vs fun V46 h45 hF44 => ?_)
        refine GO.iconst dX11_open_76 ?_
        exact GO.retz rfl rfl dX11_open_77 (Or.inr rfl) ⟨rfl, _, rfl, (ir_c rfl), ⟨Or.inr rfl, fun _ => trivial, fun _ => trivial⟩⟩
      ·
        have q47 := h17.2.2 (by omega)
        refine GO.iconst dX11_open_32 ?_
        exact GO.retz rfl rfl dX11_open_33 (Or.inl rfl) ⟨rfl, _, rfl, (ir_c rfl), ⟨Or.inl rfl, fun _ => trivial, fun _ => trivial⟩⟩

set_option maxHeartbeats 1000000 in
theorem t_X11_measureLegs {K : Kmap} {V : Vmap} {x : Nat} (h_x : K x = some (0, 10)) : MC mX11_measureLegs K V [.ref x] (VS K (fun V1 => (True))) := by
  refine MC.start 4 (by decide +kernel) rfl rfl rfl (ls0 := [some (.ref x), none, none, none, none]) rfl ?_
  refine GO.iconst dX11_measureLegs_0 ?_
  refine GO.istore_n (ls1 := [some (.ref x), some (ti 0), none, none, none]) dX11_measureLegs_1 rfl rfl rfl ?_
  refine GO.loop1 (fun i1 W => 0 ≤ i1 ∧ i1 ≤ 8 ∧ True) (fun i1 => [some (.ref x), some (ti i1), none, none, none]) (fun i1 W => (2147483647 - i1).toNat) 0 ⟨by omega, by omega, trivial⟩ rfl (fun i1 Wi1 hp1643 ih1642 => ?_)
  obtain ⟨l_i1, u_i1, -⟩ := hp1643
  have r_i1 : ir i1 := ⟨by omega, by omega⟩
  show GO mX11_measureLegs K V (VS K (fun V1 => (True))) K Wi1 0 0 2 [some (.ref x), some (ti i1), none, none, none] []
  refine GO.iload_n dX11_measureLegs_2 rfl rfl ?_
  refine GO.aload_n dX11_measureLegs_3 rfl rfl ?_
  refine GO.getR h_x fl_RX11_26 rfl rfl dX11_measureLegs_4 (fun hv1645 h1644 => ?_)
  refine GO.getR h1644 fl_RX11_593 rfl rfl dX11_measureLegs_7 (fun hv1647 h1646 => ?_)
  refine GO.getI h1646 fl_RX11_199_k24 rfl rfl dX11_measureLegs_10 (fun l1648 u1649 => ?_)
  refine GO.icmp_ge (tgt := 124) dX11_measureLegs_13 (by decide) r_i1 vi_ir (fun c1650 => ?_) (fun c1650 => ?_)
  ·
    exact GO.retv rfl rfl dX11_measureLegs_124 ⟨rfl, rfl, trivial⟩
  ·
    refine GO.iconst dX11_measureLegs_16 ?_
    refine GO.istore_n (ls1 := [some (.ref x), some (ti i1), some (ti 0), none, none]) dX11_measureLegs_17 rfl rfl rfl ?_
    refine GO.loop1 (fun i1651 W => 0 ≤ i1651 ∧ i1651 ≤ 8 ∧ True) (fun i1651 => [some (.ref x), some (ti i1), some (ti i1651), none, none]) (fun i1651 W => (2147483647 - i1651).toNat) 0 ⟨by omega, by omega, trivial⟩ rfl (fun i1651 Wi1651 hp1918 ih1917 => ?_)
    obtain ⟨l_i1651, u_i1651, -⟩ := hp1918
    have r_i1651 : ir i1651 := ⟨by omega, by omega⟩
    show GO mX11_measureLegs K V (VS K (fun V1 => (True))) K Wi1651 0 0 18 [some (.ref x), some (ti i1), some (ti i1651), none, none] []
    refine GO.iload_n dX11_measureLegs_18 rfl rfl ?_
    refine GO.aload_n dX11_measureLegs_19 rfl rfl ?_
    refine GO.getR h_x fl_RX11_26 rfl rfl dX11_measureLegs_20 (fun hv1920 h1919 => ?_)
    refine GO.getR h1919 fl_RX11_593 rfl rfl dX11_measureLegs_23 (fun hv1922 h1921 => ?_)
    refine GO.getI h1921 fl_RX11_199_k24 rfl rfl dX11_measureLegs_26 (fun l1923 u1924 => ?_)
    refine GO.icmp_ge (tgt := 118) dX11_measureLegs_29 (by decide) r_i1651 vi_ir (fun c1925 => ?_) (fun c1925 => ?_)
    ·
      refine GO.iinc (X := i1) (n := 1) (Y := i1 + 1) (ls1 := [some (.ref x), some (ti (i1 + 1)), some (ti i1651), none, none]) dX11_measureLegs_118 rfl rfl rfl rfl ?_
      refine GO.goto (tgt := 2) dX11_measureLegs_121 (by decide) ?_
      refine GO.drop [true, true, false, true, true] rfl ?_
      exact ih1642 (i1 + 1) Wi1651 ⟨by omega, by omega, trivial⟩ (by show (2147483647 - (i1 + 1)).toNat < (2147483647 - i1).toNat; omega)
    ·
      refine GO.aload_n dX11_measureLegs_32 rfl rfl ?_
      refine GO.aload_n dX11_measureLegs_33 rfl rfl ?_
      refine GO.getRaw h_x fl_RX11_26 hv1920 dX11_measureLegs_34 ?_
      refine GO.getRaw h1919 fl_RX11_593 hv1922 dX11_measureLegs_37 ?_
      refine GO.iload_n dX11_measureLegs_40 rfl rfl ?_
      refine GO.iconst dX11_measureLegs_41 ?_
      refine GO.callV (ci := 24) (N := mX8_get_k24) dX11_measureLegs_42 (RX8, TX8, 4) rfl gV_RX11_209 h1921 (t_X8_get_k24 h1921 r_i1 (ir_c rfl)) rfl [.ref x] rfl rfl (Nat.le_of_ble_eq_true rfl) rfl (k_ip fun X1930 r1931 h1932 => ?_)
      refine GO.iconst dX11_measureLegs_45 ?_
      refine GO.callV (ci := 10) (N := mX11_placeOf) dX11_measureLegs_46 (RX11, TX11, 20) rfl gV_RX11_169 h_x (t_X11_placeOf h_x r1931 (ir_c rfl)) rfl [] rfl rfl (Nat.le_of_ble_eq_true rfl) rfl (k_rp (fun h1935 => ?_) (fun o1933 h1934 h1935 => ?_))
      ·
        refine GO.astore_nN (ls1 := [some (.ref x), some (ti i1), some (ti i1651), some (.null), none]) dX11_measureLegs_49 rfl rfl rfl ?_
        refine GO.aload_n dX11_measureLegs_50 rfl rfl ?_
        refine GO.aload_n dX11_measureLegs_51 rfl rfl ?_
        refine GO.getRaw h_x fl_RX11_26 hv1920 dX11_measureLegs_52 ?_
        refine GO.getRaw h1919 fl_RX11_593 hv1922 dX11_measureLegs_55 ?_
        refine GO.iload_n dX11_measureLegs_58 rfl rfl ?_
        refine GO.iconst dX11_measureLegs_59 ?_
        refine GO.callV (ci := 24) (N := mX8_get_k24) dX11_measureLegs_60 (RX8, TX8, 4) rfl gV_RX11_209 h1921 (t_X8_get_k24 h1921 r_i1651 (ir_c rfl)) rfl [.ref x] rfl rfl (Nat.le_of_ble_eq_true rfl) rfl (k_ip fun X1940 r1941 h1942 => ?_)
        refine GO.iconst dX11_measureLegs_63 ?_
        refine GO.callV (ci := 10) (N := mX11_placeOf) dX11_measureLegs_64 (RX11, TX11, 20) rfl gV_RX11_169 h_x (t_X11_placeOf h_x r1941 (ir_c rfl)) rfl [] rfl rfl (Nat.le_of_ble_eq_true rfl) rfl (k_rp (fun h1945 => ?_) (fun o1943 h1944 h1945 => ?_))
        ·
          refine GO.astoreN (ls1 := [some (.ref x), some (ti i1), some (ti i1651), some (.null), some (.null)]) dX11_measureLegs_67 rfl rfl ?_
          refine GO.aload_nN dX11_measureLegs_69 rfl rfl ?_
          refine GO.ifnullN (tgt := 112) dX11_measureLegs_70 (by decide) ?_
          refine GO.iinc (X := i1651) (n := 1) (Y := i1651 + 1) (ls1 := [some (.ref x), some (ti i1), some (ti (i1651 + 1)), some (.null), some (.null)]) dX11_measureLegs_112 rfl rfl rfl rfl ?_
          refine GO.goto (tgt := 18) dX11_measureLegs_115 (by decide) ?_
          refine GO.drop [true, true, true, false, false] rfl ?_
          exact ih1917 (i1651 + 1) Wi1651 ⟨by omega, by omega, trivial⟩ (by show (2147483647 - (i1651 + 1)).toNat < (2147483647 - i1651).toNat; omega)
        ·
          refine GO.astore (ls1 := [some (.ref x), some (ti i1), some (ti i1651), some (.null), some (.ref o1943)]) dX11_measureLegs_67 rfl rfl ?_
          refine GO.aload_nN dX11_measureLegs_69 rfl rfl ?_
          refine GO.ifnullN (tgt := 112) dX11_measureLegs_70 (by decide) ?_
          refine GO.iinc (X := i1651) (n := 1) (Y := i1651 + 1) (ls1 := [some (.ref x), some (ti i1), some (ti (i1651 + 1)), some (.null), some (.ref o1943)]) dX11_measureLegs_112 rfl rfl rfl rfl ?_
          refine GO.goto (tgt := 18) dX11_measureLegs_115 (by decide) ?_
          refine GO.drop [true, true, true, false, false] rfl ?_
          exact ih1917 (i1651 + 1) Wi1651 ⟨by omega, by omega, trivial⟩ (by show (2147483647 - (i1651 + 1)).toNat < (2147483647 - i1651).toNat; omega)
      ·
        refine GO.astore_n (ls1 := [some (.ref x), some (ti i1), some (ti i1651), some (.ref o1933), none]) dX11_measureLegs_49 rfl rfl rfl ?_
        refine GO.aload_n dX11_measureLegs_50 rfl rfl ?_
        refine GO.aload_n dX11_measureLegs_51 rfl rfl ?_
        refine GO.getRaw h_x fl_RX11_26 hv1920 dX11_measureLegs_52 ?_
        refine GO.getRaw h1919 fl_RX11_593 hv1922 dX11_measureLegs_55 ?_
        refine GO.iload_n dX11_measureLegs_58 rfl rfl ?_
        refine GO.iconst dX11_measureLegs_59 ?_
        refine GO.callV (ci := 24) (N := mX8_get_k24) dX11_measureLegs_60 (RX8, TX8, 4) rfl gV_RX11_209 h1921 (t_X8_get_k24 h1921 r_i1651 (ir_c rfl)) rfl [.ref x] rfl rfl (Nat.le_of_ble_eq_true rfl) rfl (k_ip fun X1950 r1951 h1952 => ?_)
        refine GO.iconst dX11_measureLegs_63 ?_
        refine GO.callV (ci := 10) (N := mX11_placeOf) dX11_measureLegs_64 (RX11, TX11, 20) rfl gV_RX11_169 h_x (t_X11_placeOf h_x r1951 (ir_c rfl)) rfl [] rfl rfl (Nat.le_of_ble_eq_true rfl) rfl (k_rp (fun h1955 => ?_) (fun o1953 h1954 h1955 => ?_))
        ·
          refine GO.astoreN (ls1 := [some (.ref x), some (ti i1), some (ti i1651), some (.ref o1933), some (.null)]) dX11_measureLegs_67 rfl rfl ?_
          refine GO.aload_n dX11_measureLegs_69 rfl rfl ?_
          refine GO.ifnull dX11_measureLegs_70 ?_
          refine GO.aloadN dX11_measureLegs_73 rfl ?_
          refine GO.ifnullN (tgt := 112) dX11_measureLegs_75 (by decide) ?_
          refine GO.iinc (X := i1651) (n := 1) (Y := i1651 + 1) (ls1 := [some (.ref x), some (ti i1), some (ti (i1651 + 1)), some (.ref o1933), some (.null)]) dX11_measureLegs_112 rfl rfl rfl rfl ?_
          refine GO.goto (tgt := 18) dX11_measureLegs_115 (by decide) ?_
          refine GO.drop [true, true, true, false, false] rfl ?_
          exact ih1917 (i1651 + 1) Wi1651 ⟨by omega, by omega, trivial⟩ (by show (2147483647 - (i1651 + 1)).toNat < (2147483647 - i1651).toNat; omega)
        ·
          refine GO.astore (ls1 := [some (.ref x), some (ti i1), some (ti i1651), some (.ref o1933), some (.ref o1953)]) dX11_measureLegs_67 rfl rfl ?_
          refine GO.aload_n dX11_measureLegs_69 rfl rfl ?_
          refine GO.ifnull dX11_measureLegs_70 ?_
          refine GO.aload dX11_measureLegs_73 rfl ?_
          refine GO.ifnull dX11_measureLegs_75 ?_
          refine GO.aload_n dX11_measureLegs_78 rfl rfl ?_
          refine GO.getRaw h_x fl_RX11_26 hv1920 dX11_measureLegs_79 ?_
          refine GO.getB h1919 fl_RX11_623 rfl rfl dX11_measureLegs_82 (fun n1960 hv1959 h1958 b1961 => ?_)
          refine GO.iload_n dX11_measureLegs_85 rfl rfl ?_
          refine GO.bipush dX11_measureLegs_86 rfl ?_
          refine GO.imul dX11_measureLegs_88 ?_
          refine GO.iload_n dX11_measureLegs_89 rfl rfl ?_
          refine GO.iadd dX11_measureLegs_90 ?_
          refine GO.iconst dX11_measureLegs_91 ?_
          refine GO.aload_n dX11_measureLegs_92 rfl rfl ?_
          refine GO.getR h_x fl_RX11_12 rfl rfl dX11_measureLegs_93 (fun hv1963 h1962 => ?_)
          refine GO.aload_n dX11_measureLegs_96 rfl rfl ?_
          refine GO.getI h1934 fl_RX11_344 rfl rfl dX11_measureLegs_97 (fun _ _ => ?_)
          refine GO.aload dX11_measureLegs_100 rfl ?_
          refine GO.getI h1954 fl_RX11_344 rfl rfl dX11_measureLegs_102 (fun _ _ => ?_)
          refine GO.callV (ci := 0) (N := mX0_far) dX11_measureLegs_105 (RX0, TX0, 13) rfl gV_RX11_388 h1962 (t_X0_far h1962 vi_ir vi_ir) rfl [ti 2, ti ((i1 * 8) + i1651), .ref (vq Wi1651 (vq Wi1651 x 2) 3)] rfl rfl (Nat.le_of_ble_eq_true rfl) rfl (k_ip fun X1964 r1965 h1966 => ?_)
          refine GO.imul dX11_measureLegs_108 ?_
          refine GO.norm (fun z1967 r1968 _ => ?_)
          refine GO.callS (N := mX4_put) dX11_measureLegs_109 gS_RX11_108 (t_X4_put h1958 ⟨by omega, by omega⟩ r1968) rfl [] rfl rfl (Nat.le_of_ble_eq_true rfl) rfl (k_vs fun V1971 h1970 hF1969 => ?_)
          refine GO.iinc (X := i1651) (n := 1) (Y := i1651 + 1) (ls1 := [some (.ref x), some (ti i1), some (ti (i1651 + 1)), some (.ref o1933), some (.ref o1953)]) dX11_measureLegs_112 rfl rfl rfl rfl ?_
          refine GO.goto (tgt := 18) dX11_measureLegs_115 (by decide) ?_
          refine GO.drop [true, true, true, false, false] rfl ?_
          exact ih1917 (i1651 + 1) V1971 ⟨by omega, by omega, trivial⟩ (by show (2147483647 - (i1651 + 1)).toNat < (2147483647 - i1651).toNat; omega)

set_option maxHeartbeats 1000000 in
theorem t_X11_plan {K : Kmap} {V : Vmap} {x : Nat} {p0 : Int} {p1 : Int} {p2 : Int} (h_x : K x = some (0, 10)) (r_p0 : ir p0) (r_p1 : ir p1) (r_p2 : ir p2) : MC mX11_plan K V [.ref x, ti p0, ti p1, ti p2] (IS K (fun X V1 => True)) := by
  refine MC.start 2 (by decide +kernel) rfl rfl rfl (ls0 := [some (.ref x), some (ti p0), some (ti p1), some (ti p2), none, none]) rfl ?_
  refine GO.aload_n dX11_plan_0 rfl rfl ?_
  refine GO.iload_n dX11_plan_1 rfl rfl ?_
  refine GO.callV (ci := 10) (N := mX11_shipOf) dX11_plan_2 (RX11, TX11, 20) rfl gV_RX11_403 h_x (t_X11_shipOf h_x r_p0) rfl [] rfl rfl (Nat.le_of_ble_eq_true rfl) rfl (k_rp (fun h3 => ?_) (fun o1 h2 h3 => ?_))
  ·
    refine GO.astoreN (ls1 := [some (.ref x), some (ti p0), some (ti p1), some (ti p2), some (.null), none]) dX11_plan_5 rfl rfl ?_
    refine GO.aloadN dX11_plan_7 rfl ?_
    refine GO.ifnullN (tgt := 30) dX11_plan_9 (by decide) ?_
    refine GO.iconst dX11_plan_30 ?_
    exact GO.reti rfl rfl dX11_plan_31 ⟨rfl, _, rfl, (ir_c rfl), trivial⟩
  ·
    refine GO.astore (ls1 := [some (.ref x), some (ti p0), some (ti p1), some (ti p2), some (.ref o1), none]) dX11_plan_5 rfl rfl ?_
    refine GO.aload dX11_plan_7 rfl ?_
    refine GO.ifnull dX11_plan_9 ?_
    refine GO.iload_n dX11_plan_12 rfl rfl ?_
    refine GO.callS (N := mX11_isSea) dX11_plan_13 gS_RX11_394 (t_X11_isSea r_p1) rfl [] rfl rfl (Nat.le_of_ble_eq_true rfl) rfl (k_ip fun X4 r5 h6 => ?_)
    refine GO.if_eq (tgt := 30) dX11_plan_16 (by decide) r5 (fun c7 => ?_) (fun c7 => ?_)
    ·
      have q8 := h6.2.2 (by omega)
      refine GO.iconst dX11_plan_30 ?_
      exact GO.reti rfl rfl dX11_plan_31 ⟨rfl, _, rfl, (ir_c rfl), trivial⟩
    ·
      have q9 := h6.2.1 (by omega)
      refine GO.iload_n dX11_plan_19 rfl rfl ?_
      refine GO.iconst dX11_plan_20 ?_
      refine GO.sipush dX11_plan_21 rfl ?_
      refine GO.callS (N := mX11_between) dX11_plan_24 gS_RX11_112 (t_X11_between r_p2 (ir_c rfl) (ir_c rfl)) rfl [] rfl rfl (Nat.le_of_ble_eq_true rfl) rfl (k_ip fun X10 r11 h12 => ?_)
      refine GO.if_ne (tgt := 32) dX11_plan_27 (by decide) r11 (fun c13 => ?_) (fun c13 => ?_)
      ·
        have q14 := h12.2.1 (by omega)
        refine GO.aload_n dX11_plan_32 rfl rfl ?_
        refine GO.getR h_x fl_RX11_26 rfl rfl dX11_plan_33 (fun hv16 h15 => ?_)
        refine GO.getR h15 fl_RX11_593 rfl rfl dX11_plan_36 (fun hv18 h17 => ?_)
        refine GO.getI h17 fl_RX11_199_k24 rfl rfl dX11_plan_39 (fun l19 u20 => ?_)
        refine GO.if_eq (tgt := 60) dX11_plan_42 (by decide) vi_ir (fun c21 => ?_) (fun c21 => ?_)
        ·
          refine GO.iconst dX11_plan_60 ?_
          exact GO.reti rfl rfl dX11_plan_61 ⟨rfl, _, rfl, (ir_c rfl), trivial⟩
        ·
          refine GO.aload_n dX11_plan_45 rfl rfl ?_
          refine GO.getRaw h_x fl_RX11_26 hv16 dX11_plan_46 ?_
          refine GO.callV (ci := 5) (N := mX6_needs) dX11_plan_49 (RX6, TX6, 10) rfl gV_RX11_602 h15 (t_X6_needs h15) rfl [] rfl rfl (Nat.le_of_ble_eq_true rfl) rfl (k_ip fun X24 r25 h26 => ?_)
          refine GO.aload dX11_plan_52 rfl ?_
          refine GO.getI h2 fl_RX11_407 rfl rfl dX11_plan_54 (fun _ _ => ?_)
          refine GO.icmp_le (tgt := 62) dX11_plan_57 (by decide) r25 vi_ir (fun c27 => ?_) (fun c27 => ?_)
          ·
            refine GO.iload_n dX11_plan_62 rfl rfl ?_
            refine GO.aload_n dX11_plan_63 rfl rfl ?_
            refine GO.getR h_x fl_RX11_12 rfl rfl dX11_plan_64 (fun hv29 h28 => ?_)
            refine GO.getB h28 fl_RX11_400 rfl rfl dX11_plan_67 (fun n32 hv31 h30 b33 => ?_)
            refine GO.iload_n dX11_plan_70 rfl rfl ?_
            refine GO.callS (N := mX4_get) dX11_plan_71 gS_RX11_253 (t_X4_get rfl h30 r_p1) rfl [ti p2] rfl rfl (Nat.le_of_ble_eq_true rfl) rfl (k_ip fun X34 r35 h36 => ?_)
            refine GO.iadd dX11_plan_74 ?_
            refine GO.norm (fun z37 r38 _ => ?_)
            refine GO.istore (ls1 := [some (.ref x), some (ti p0), some (ti p1), some (ti p2), some (.ref o1), some (ti z37)]) dX11_plan_75 rfl rfl ?_
            refine GO.aload_n dX11_plan_77 rfl rfl ?_
            refine GO.getRaw h_x fl_RX11_26 hv16 dX11_plan_78 ?_
            refine GO.getI h15 fl_RX11_605 rfl rfl dX11_plan_81 (fun _ _ => ?_)
            refine GO.iload dX11_plan_84 rfl ?_
            refine GO.icmp_eq (tgt := 102) dX11_plan_86 (by decide) vi_ir r38 (fun c41 => ?_) (fun c41 => ?_)
            ·
              refine GO.aload_n dX11_plan_102 rfl rfl ?_
              refine GO.getRaw h_x fl_RX11_26 hv16 dX11_plan_103 ?_
              refine GO.getI h15 fl_RX11_614 rfl rfl dX11_plan_106 (fun _ _ => ?_)
              have q44 : -2147483648 ≤ vi V (vq V x 2) 9 ∧ vi V (vq V x 2) 9 ≤ 2147483647 := vi_ir
              exact GO.reti rfl rfl dX11_plan_109 ⟨rfl, _, rfl, vi_ir, trivial⟩
            ·
              refine GO.aload_n dX11_plan_89 rfl rfl ?_
              refine GO.callV (ci := 10) (N := mX11_measureLegs) dX11_plan_90 (RX11, TX11, 20) rfl gV_RX11_608 h_x (t_X11_measureLegs h_x) rfl [] rfl rfl (Nat.le_of_ble_eq_true rfl) rfl (k_vs fun V47 h46 hF45 => ?_)
              refine GO.aload_n dX11_plan_93 rfl rfl ?_
              refine GO.getRaw h_x fl_RX11_26 (Eq.trans (hF45 _ _ _ h_x h_x (by decide +kernel)) hv16) dX11_plan_94 ?_
              refine GO.iload dX11_plan_97 rfl ?_
              refine GO.callV (ci := 5) (N := mX6_seek) dX11_plan_99 (RX6, TX6, 10) rfl gV_RX11_611 h15 (t_X6_seek h15 r38) rfl [] rfl rfl (Nat.le_of_ble_eq_true rfl) rfl (k_vs fun V52 h51 hF50 => ?_)
              refine GO.aload_n dX11_plan_102 rfl rfl ?_
              refine GO.getRaw h_x fl_RX11_26 (Eq.trans (hF50 _ _ _ h_x h_x (by decide +kernel)) (Eq.trans (hF45 _ _ _ h_x h_x (by decide +kernel)) hv16)) dX11_plan_103 ?_
              refine GO.getI h15 fl_RX11_614 rfl rfl dX11_plan_106 (fun _ _ => ?_)
              have q55 : -2147483648 ≤ vi V52 (vq V x 2) 9 ∧ vi V52 (vq V x 2) 9 ≤ 2147483647 := vi_ir
              exact GO.reti rfl rfl dX11_plan_109 ⟨rfl, _, rfl, vi_ir, trivial⟩
          ·
            refine GO.iconst dX11_plan_60 ?_
            exact GO.reti rfl rfl dX11_plan_61 ⟨rfl, _, rfl, (ir_c rfl), trivial⟩
      ·
        have q56 := h12.2.2 (by omega)
        refine GO.iconst dX11_plan_30 ?_
        exact GO.reti rfl rfl dX11_plan_31 ⟨rfl, _, rfl, (ir_c rfl), trivial⟩

set_option maxHeartbeats 1000000 in
theorem t_X11_planned {K : Kmap} {V : Vmap} {x : Nat} {p0 : Int} {p1 : Int} {p2 : Int} {p3 : Int} (h_x : K x = some (0, 10)) (r_p0 : ir p0) (r_p1 : ir p1) (r_p2 : ir p2) (r_p3 : ir p3) : MC mX11_planned K V [.ref x, ti p0, ti p1, ti p2, ti p3] (IS K (fun X V1 => True)) := by
  refine MC.start 0 (by decide +kernel) rfl rfl rfl (ls0 := [some (.ref x), some (ti p0), some (ti p1), some (ti p2), some (ti p3)]) rfl ?_
  refine GO.aload_n dX11_planned_0 rfl rfl ?_
  refine GO.iload_n dX11_planned_1 rfl rfl ?_
  refine GO.iload_n dX11_planned_2 rfl rfl ?_
  refine GO.iload_n dX11_planned_3 rfl rfl ?_
  refine GO.callV (ci := 10) (N := mX11_plan) dX11_planned_4 (RX11, TX11, 20) rfl gV_RX11_617 h_x (t_X11_plan h_x r_p0 r_p1 r_p2) rfl [] rfl rfl (Nat.le_of_ble_eq_true rfl) rfl (k_is fun X1 V5 r2 h3 hF4 => ?_)
  refine GO.iconst dX11_planned_7 ?_
  refine GO.icmp_eq (tgt := 26) dX11_planned_8 (by decide) r2 (ir_c rfl) (fun c6 => ?_) (fun c6 => ?_)
  ·
    refine GO.iconst dX11_planned_26 ?_
    exact GO.reti rfl rfl dX11_planned_27 ⟨rfl, _, rfl, (ir_c rfl), trivial⟩
  ·
    refine GO.aload_n dX11_planned_11 rfl rfl ?_
    refine GO.getR h_x fl_RX11_26 rfl rfl dX11_planned_12 (fun hv8 h7 => ?_)
    refine GO.getR h7 fl_RX11_593 rfl rfl dX11_planned_15 (fun hv10 h9 => ?_)
    refine GO.iload dX11_planned_18 rfl ?_
    refine GO.callV (ci := 24) (N := mX8_has_k24) dX11_planned_20 (RX8, TX8, 4) rfl gV_RX11_431 h9 (t_X8_has_k24 h9 r_p3) rfl [] rfl rfl (Nat.le_of_ble_eq_true rfl) rfl (k_ip fun X11 r12 h13 => ?_)
    refine GO.if_ne (tgt := 28) dX11_planned_23 (by decide) r12 (fun c14 => ?_) (fun c14 => ?_)
    ·
      refine GO.aload_n dX11_planned_28 rfl rfl ?_
      refine GO.getRaw h_x fl_RX11_26 hv8 dX11_planned_29 ?_
      refine GO.getB h7 fl_RX11_620 rfl rfl dX11_planned_32 (fun n19 hv18 h17 b20 => ?_)
      refine GO.iload dX11_planned_35 rfl ?_
      refine GO.callS (N := mX4_get) dX11_planned_37 gS_RX11_253 (t_X4_get rfl h17 r_p3) rfl [] rfl rfl (Nat.le_of_ble_eq_true rfl) rfl (k_ip fun X21 r22 h23 => ?_)
      have q24 : -2147483648 ≤ X21 ∧ X21 ≤ 2147483647 := r22
      exact GO.reti rfl rfl dX11_planned_40 ⟨rfl, _, rfl, r22, trivial⟩
    ·
      refine GO.iconst dX11_planned_26 ?_
      exact GO.reti rfl rfl dX11_planned_27 ⟨rfl, _, rfl, (ir_c rfl), trivial⟩
