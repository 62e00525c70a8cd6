def mX12_tapeNumber : MRec := (RX12, cX12_tapeNumber, 4, (some .int), yX12_tapeNumber, 0, 0, 0, 0, 0)
def mX12_check : MRec := (RX12, cX12_check, 4, (some .int), yX12_check, 3, 64, 0, 0, 713623846352979940529142984724747568191373312)
def mX12_lookAt : MRec := (RX12, cX12_lookAt, 3, (some .int), yX12_lookAt, 0, 0, 0, 0, 0)
def mX12_look : MRec := (RX12, cX12_look, 3, (some .int), yX12_look, 1, 22, 0, 0, 0)
def mX12_at : MRec := (RX12, cX12_at, 3, (some .int), yX12_at, 1, 21, 0, 0, 0)
def mX12_about : MRec := (RX12, cX12_about, 3, (some .int), yX12_about, 1, 21, 0, 0, 0)
def mX12_sum : MRec := (RX12, cX12_sum, 2, (some .long), yX12_sum, 1, 22, 0, 0, 0)
def mX12_count : MRec := (RX12, cX12_count, 4, (some .int), yX12_count, 1, 22, 0, 0, 0)
set_option maxHeartbeats 1000000 in
theorem t_X12_tapeNumber {K : Kmap} {V : Vmap} {x : Nat} {p0 : Int} (h_x : K x = some (0, 11)) (r_p0 : ir p0) (q_0 : p0 ≥ 0) (q_1 : p0 ≤ 99) : MC mX12_tapeNumber K V [.ref x, ti p0] (IP K V (fun X => True)) := by
  refine MC.start 2 (by decide +kernel) rfl rfl rfl (ls0 := [some (.ref x), some (ti p0), none, none]) rfl ?_
  refine GO.iconst dX12_tapeNumber_0 ?_
  refine GO.istore_n (ls1 := [some (.ref x), some (ti p0), some (ti 0), none]) dX12_tapeNumber_1 rfl rfl rfl ?_
  refine GO.iconst dX12_tapeNumber_2 ?_
  refine GO.iload_n dX12_tapeNumber_3 rfl rfl ?_
  refine GO.imul dX12_tapeNumber_4 ?_
  refine GO.name (fun z1 hz2 => ?_)
  refine GO.istore_n (ls1 := [some (.ref x), some (ti p0), some (ti 0), some (ti z1)]) dX12_tapeNumber_5 rfl rfl rfl ?_
  have q266 : -2147483648 ≤ p0 ∧ p0 ≤ 2147483647 := r_p0
  refine GO.loop2 (fun i3 i4 W => (-2147483648) ≤ i3 ∧ i3 ≤ 2147483647 ∧ 0 ≤ i4 ∧ i4 ≤ 400 ∧ V = W) (fun i3 i4 => [some (.ref x), some (ti p0), some (ti i3), some (ti i4)]) (fun i3 i4 W => (2147483647 - i4).toNat) 0 z1 ⟨by omega, by omega, by omega, by omega, rfl⟩ rfl (fun i3 i4 V265 hp268 ih267 => ?_)
  obtain ⟨l_i3, u_i3, l_i4, u_i4, rfl⟩ := hp268
  have r_i3 : ir i3 := ⟨by omega, by omega⟩
  have r_i4 : ir i4 := ⟨by omega, by omega⟩
  show GO mX12_tapeNumber K V (IP K V (fun X => True)) K V 0 0 6 [some (.ref x), some (ti p0), some (ti i3), some (ti i4)] []
  refine GO.iload_n dX12_tapeNumber_6 rfl rfl ?_
  refine GO.iconst dX12_tapeNumber_7 ?_
  refine GO.iload_n dX12_tapeNumber_8 rfl rfl ?_
  refine GO.imul dX12_tapeNumber_9 ?_
  refine GO.iconst dX12_tapeNumber_10 ?_
  refine GO.iadd dX12_tapeNumber_11 ?_
  have q269 : -2147483648 ≤ p0 ∧ p0 ≤ 2147483647 := r_p0
  refine GO.icmp_ge (tgt := 37) dX12_tapeNumber_12 (by decide) r_i4 ⟨by omega, by omega⟩ (fun c270 => ?_) (fun c270 => ?_)
  ·
    refine GO.iload_n dX12_tapeNumber_37 rfl rfl ?_
    exact GO.reti rfl rfl dX12_tapeNumber_38 ⟨rfl, rfl, _, rfl, r_i3, trivial⟩
  ·
    refine GO.iload_n dX12_tapeNumber_15 rfl rfl ?_
    refine GO.bipush dX12_tapeNumber_16 rfl ?_
    refine GO.ishl dX12_tapeNumber_18 ?_
    refine GO.aload_n dX12_tapeNumber_19 rfl rfl ?_
    refine GO.getA (n := 400) h_x fl_RX12_84 rfl rfl rfl rfl dX12_tapeNumber_20 (fun hv272 h271 => ?_)
    refine GO.iload_n dX12_tapeNumber_23 rfl rfl ?_
    refine GO.bald (t := 31) rfl rfl h271 r_i4 (by omega) (by omega) dX12_tapeNumber_24 (fun l273 u274 => ?_)
    refine GO.sipush dX12_tapeNumber_25 rfl ?_
    refine GO.iand dX12_tapeNumber_28 ?_
    have h275 := wand_rng (X := vi V (vq V x 29) (i4).toNat)
    refine GO.ior dX12_tapeNumber_29 ?_
    refine GO.name (fun z276 hz277 => ?_)
    have r278 : ir z276 := hz277 ▸ wor_ir
    refine GO.istore_n (ls1 := [some (.ref x), some (ti p0), some (ti z276), some (ti i4)]) dX12_tapeNumber_30 rfl rfl rfl ?_
    refine GO.iinc (X := i4) (n := 1) (Y := i4 + 1) (ls1 := [some (.ref x), some (ti p0), some (ti z276), some (ti (i4 + 1))]) dX12_tapeNumber_31 rfl rfl rfl rfl ?_
    refine GO.goto (tgt := 6) dX12_tapeNumber_34 (by decide) ?_
    have q279 : -2147483648 ≤ z276 ∧ z276 ≤ 2147483647 := r278
    have q280 : -2147483648 ≤ wor (wshl i3 8) (wand (vi V (vq V x 29) (i4).toNat) 255) ∧ wor (wshl i3 8) (wand (vi V (vq V x 29) (i4).toNat) 255) ≤ 2147483647 := wor_ir
    exact ih267 z276 (i4 + 1) V ⟨by omega, by omega, by omega, by omega, rfl⟩ (by show (2147483647 - (i4 + 1)).toNat < (2147483647 - i4).toNat; omega)

set_option maxHeartbeats 1000000 in
theorem t_X12_check {K : Kmap} {V : Vmap} {x : Nat} {p0 : Int} (h_x : K x = some (0, 11)) (r_p0 : ir p0) : MC mX12_check K V [.ref x, ti p0] (IS K (fun X V1 => (X ≥ (-2147483648) ∧ X ≤ 2147483647) ∧ (MKC V V1 x p0))) := by
  refine MC.start 2 (by decide +kernel) rfl rfl rfl (ls0 := [some (.ref x), some (ti p0), none, none]) rfl ?_
  refine GO.iload_n dX12_check_0 rfl rfl ?_
  refine GO.if_lt (tgt := 15) dX12_check_1 (by decide) r_p0 (fun c1 => ?_) (fun c1 => ?_)
  ·
    refine GO.bipush dX12_check_15 rfl ?_
    exact GO.reti rfl rfl dX12_check_17 ⟨rfl, _, rfl, (ir_c rfl), ⟨(by first | exact trivial | omega), (by first | exact MKC.no (by omega) | exact Or.inr ⟨by omega, by omega, by omega⟩)⟩⟩
  ·
    refine GO.iload_n dX12_check_4 rfl rfl ?_
    refine GO.aload_n dX12_check_5 rfl rfl ?_
    refine GO.getI h_x fl_RX12_436 rfl rfl dX12_check_6 (fun l2 u3 => ?_)
    refine GO.bipush dX12_check_9 rfl ?_
    refine GO.idivP dX12_check_11 vi_ir (ir_c rfl) (by omega) (by omega) ?_
    refine GO.icmp_le (tgt := 18) dX12_check_12 (by decide) r_p0 ⟨by omega, by omega⟩ (fun c4 => ?_) (fun c4 => ?_)
    ·
      refine GO.aload_n dX12_check_18 rfl rfl ?_
      refine GO.iconst dX12_check_19 ?_
      refine GO.putI h_x fp_RX12_436 rfl (by decide +kernel) (ir_c rfl) (by decide) (by decide) dX12_check_20 (fun V6 e5 => ?_)
      refine GO.iconst dX12_check_23 ?_
      refine GO.istore_n (ls1 := [some (.ref x), some (ti p0), some (ti 0), none]) dX12_check_24 rfl rfl rfl ?_
      refine GO.iconst dX12_check_25 ?_
      refine GO.istore_n (ls1 := [some (.ref x), some (ti p0), some (ti 0), some (ti 0)]) dX12_check_26 rfl rfl rfl ?_
      have q9 : -2147483648 ≤ p0 ∧ p0 ≤ 2147483647 := r_p0
      have e10 : vi V6 x 30 = 0 := upd2_int e5 (ir_c rfl)
      refine GO.loop2 (fun i7 i8 W => 0 ≤ i7 ∧ i7 ≤ 101 ∧ 0 ≤ i8 ∧ i8 ≤ 60 ∧ (i7 ≤ (2 * p0) ∧ i7 ≥ 0 ∧ vi W x 30 = 0) ∧ (i7 % 2 = 0) ∧ V6 = W) (fun i7 i8 => [some (.ref x), some (ti p0), some (ti i7), some (ti i8)]) (fun i7 i8 W => (2147483647 - i8).toNat) 0 0 ⟨by omega, by omega, by omega, by omega, by omega, by omega, rfl⟩ rfl (fun i7 i8 V290 hp292 ih291 => ?_)
      obtain ⟨l_i7, u_i7, l_i8, u_i8, n_i7, w0_i7, rfl⟩ := hp292
      have r_i7 : ir i7 := ⟨by omega, by omega⟩
      have r_i8 : ir i8 := ⟨by omega, by omega⟩
      show GO mX12_check K V (IS K (fun X V1 => (X ≥ (-2147483648) ∧ X ≤ 2147483647) ∧ (MKC V V1 x p0))) K V6 0 0 27 [some (.ref x), some (ti p0), some (ti i7), some (ti i8)] []
      refine GO.iload_n dX12_check_27 rfl rfl ?_
      refine GO.aload_n dX12_check_28 rfl rfl ?_
      refine GO.getI h_x fl_RX12_375 rfl rfl dX12_check_29 (fun l293 u294 => ?_)
      refine GO.icmp_ge (tgt := 101) dX12_check_32 (by decide) r_i8 vi_ir (fun c296 => ?_) (fun c296 => ?_)
      ·
        refine GO.iload_n dX12_check_101 rfl rfl ?_
        refine GO.iconst dX12_check_102 ?_
        refine GO.iload_n dX12_check_103 rfl rfl ?_
        refine GO.imul dX12_check_104 ?_
        refine GO.icmp_ge (tgt := 112) dX12_check_105 (by decide) r_i7 ⟨by omega, by omega⟩ (fun c297 => ?_) (fun c297 => ?_)
        ·
          refine GO.iconst dX12_check_112 ?_
          exact GO.reti rfl rfl dX12_check_113 ⟨rfl, _, rfl, (ir_c rfl), ⟨(by first | exact trivial | omega), (by first | exact MKC.no (by omega) | exact Or.inr ⟨by omega, by omega, by omega⟩)⟩⟩
        ·
          refine GO.iload_n dX12_check_108 rfl rfl ?_
          refine GO.goto (tgt := 113) dX12_check_109 (by decide) ?_
          exact GO.reti rfl rfl dX12_check_113 ⟨rfl, _, rfl, r_i7, ⟨(by first | exact trivial | omega), (by first | exact MKC.no (by omega) | exact Or.inr ⟨by omega, by omega, by omega⟩)⟩⟩
      ·
        refine GO.aload_n dX12_check_35 rfl rfl ?_
        refine GO.iload_n dX12_check_36 rfl rfl ?_
        refine GO.callV (ci := 11) (N := mX12_stands) dX12_check_37 (RX12, TX12, 151) rfl gV_RX12_433 h_x (t_X12_stands h_x r_i8) rfl [] rfl rfl (Nat.le_of_ble_eq_true rfl) rfl (k_ip fun X298 r299 h300 => ?_)
        refine GO.if_ne (tgt := 46) dX12_check_40 (by decide) r299 (fun c301 => ?_) (fun c301 => ?_)
        ·
          have q302 := h300.2.1 (by omega)
          refine GO.iload_n dX12_check_46 rfl rfl ?_
          refine GO.iconst dX12_check_47 ?_
          refine GO.iload_n dX12_check_48 rfl rfl ?_
          refine GO.imul dX12_check_49 ?_
          refine GO.icmp_eq (tgt := 62) dX12_check_50 (by decide) r_i7 ⟨by omega, by omega⟩ (fun c303 => ?_) (fun c303 => ?_)
          ·
            refine GO.iload_n dX12_check_62 rfl rfl ?_
            exact GO.reti rfl rfl dX12_check_63 ⟨rfl, _, rfl, r_i7, ⟨(by first | exact trivial | omega), (by first | exact MKC.no (by omega) | exact Or.inr ⟨by omega, by omega, by omega⟩)⟩⟩
          ·
            refine GO.aload_n dX12_check_53 rfl rfl ?_
            refine GO.iload_n dX12_check_54 rfl rfl ?_
            refine GO.callV (ci := 11) (N := mX12_tapeNumber) dX12_check_55 (RX12, TX12, 151) rfl gV_RX12_765 h_x (t_X12_tapeNumber h_x r_i7 (by omega) (by omega)) rfl [] rfl rfl (Nat.le_of_ble_eq_true rfl) rfl (k_ip fun X304 r305 h306 => ?_)
            refine GO.iload_n dX12_check_58 rfl rfl ?_
            refine GO.icmp_eq (tgt := 64) dX12_check_59 (by decide) r305 r_i8 (fun c307 => ?_) (fun c307 => ?_)
            ·
              refine GO.aload_n dX12_check_64 rfl rfl ?_
              refine GO.iload_n dX12_check_65 rfl rfl ?_
              refine GO.iconst dX12_check_66 ?_
              refine GO.iadd dX12_check_67 ?_
              refine GO.callV (ci := 11) (N := mX12_tapeNumber) dX12_check_68 (RX12, TX12, 151) rfl gV_RX12_765 h_x (t_X12_tapeNumber h_x ⟨by omega, by omega⟩ (by omega) (by omega)) rfl [] rfl rfl (Nat.le_of_ble_eq_true rfl) rfl (k_ip fun X308 r309 h310 => ?_)
              refine GO.aload_n dX12_check_71 rfl rfl ?_
              refine GO.getA (n := 60) h_x fl_RX12_56 rfl rfl rfl rfl dX12_check_72 (fun hv312 h311 => ?_)
              refine GO.iload_n dX12_check_75 rfl rfl ?_
              have q313 : -2147483648 ≤ X304 ∧ X304 ≤ 2147483647 := r305
              refine GO.iald (t := 22) rfl rfl h311 r_i8 (by omega) (by omega) dX12_check_76 (fun _ _ => ?_)
              refine GO.aload_n dX12_check_77 rfl rfl ?_
              refine GO.getA (n := 60) h_x fl_RX12_59 rfl rfl rfl rfl dX12_check_78 (fun hv316 h315 => ?_)
              refine GO.iload_n dX12_check_81 rfl rfl ?_
              refine GO.iald (t := 23) rfl rfl h315 r_i8 (by omega) (by omega) dX12_check_82 (fun _ _ => ?_)
              refine GO.iadd dX12_check_83 ?_
              refine GO.norm (fun z318 r319 hn320 => ?_)
              refine GO.icmp_eq (tgt := 91) dX12_check_84 (by decide) r309 r319 (fun c321 => ?_) (fun c321 => ?_)
              ·
                refine GO.iload_n dX12_check_91 rfl rfl ?_
                refine GO.iconst dX12_check_92 ?_
                refine GO.iadd dX12_check_93 ?_
                refine GO.name (fun z322 hz323 => ?_)
                refine GO.istore_n (ls1 := [some (.ref x), some (ti p0), some (ti z322), some (ti i8)]) dX12_check_94 rfl rfl rfl ?_
                refine GO.iinc (X := i8) (n := 1) (Y := i8 + 1) (ls1 := [some (.ref x), some (ti p0), some (ti z322), some (ti (i8 + 1))]) dX12_check_95 rfl rfl rfl rfl ?_
                refine GO.goto (tgt := 27) dX12_check_98 (by decide) ?_
                exact ih291 z322 (i8 + 1) V6 ⟨by omega, by omega, by omega, by omega, by omega, by omega, rfl⟩ (by show (2147483647 - (i8 + 1)).toNat < (2147483647 - i8).toNat; omega)
              ·
                refine GO.iload_n dX12_check_87 rfl rfl ?_
                refine GO.iconst dX12_check_88 ?_
                refine GO.iadd dX12_check_89 ?_
                exact GO.reti rfl rfl dX12_check_90 ⟨rfl, _, rfl, ⟨by omega, by omega⟩, ⟨(by first | exact trivial | omega), (by first | exact MKC.no (by omega) | exact Or.inr ⟨by omega, by omega, by omega⟩)⟩⟩
            ·
              refine GO.iload_n dX12_check_62 rfl rfl ?_
              exact GO.reti rfl rfl dX12_check_63 ⟨rfl, _, rfl, r_i7, ⟨(by first | exact trivial | omega), (by first | exact MKC.no (by omega) | exact Or.inr ⟨by omega, by omega, by omega⟩)⟩⟩
        ·
          refine GO.goto (tgt := 95) dX12_check_43 (by decide) ?_
          refine GO.iinc (X := i8) (n := 1) (Y := i8 + 1) (ls1 := [some (.ref x), some (ti p0), some (ti i7), some (ti (i8 + 1))]) dX12_check_95 rfl rfl rfl rfl ?_
          refine GO.goto (tgt := 27) dX12_check_98 (by decide) ?_
          exact ih291 i7 (i8 + 1) V6 ⟨by omega, by omega, by omega, by omega, by omega, by omega, rfl⟩ (by show (2147483647 - (i8 + 1)).toNat < (2147483647 - i8).toNat; omega)
    ·
      refine GO.bipush dX12_check_15 rfl ?_
      exact GO.reti rfl rfl dX12_check_17 ⟨rfl, _, rfl, (ir_c rfl), ⟨(by first | exact trivial | omega), (by first | exact MKC.no (by omega) | exact Or.inr ⟨by omega, by omega, by omega⟩)⟩⟩

set_option maxHeartbeats 1000000 in
theorem t_X12_lookAt {K : Kmap} {V : Vmap} {x : Nat} {p0 : Int} {p1 : Int} (h_x : K x = some (0, 11)) (r_p0 : ir p0) (r_p1 : ir p1) (q_0 : p0 ≥ 0) (q_1 : p0 ≤ 59) : MC mX12_lookAt K V [.ref x, ti p0, ti p1] (IP K V (fun X => True)) := by
  refine MC.start 0 (by decide +kernel) rfl rfl rfl (ls0 := [some (.ref x), some (ti p0), some (ti p1)]) rfl ?_
  refine GO.iload_n dX12_lookAt_0 rfl rfl ?_
  have q1 : -2147483648 ≤ p1 ∧ p1 ≤ 2147483647 := r_p1
  rcases (show (p1 < 6 ∨ 13 < p1) ∨ p1 = 6 ∨ p1 = 7 ∨ p1 = 8 ∨ p1 = 9 ∨ p1 = 10 ∨ p1 = 11 ∨ p1 = 12 ∨ p1 = 13 by omega) with c2 | c2 | c2 | c2 | c2 | c2 | c2 | c2 | c2
  ·
    refine GO.tableOut (tgt := 90) dX12_lookAt_1 r_p1 c2 (by decide) ?_
    refine GO.iconst dX12_lookAt_90 ?_
    exact GO.reti rfl rfl dX12_lookAt_91 ⟨rfl, rfl, _, rfl, (ir_c rfl), trivial⟩
  ·
    refine GO.tableAt (n := 6) (tgt := 48) dX12_lookAt_1 (ir_c rfl) c2 (by decide) (by decide) rfl (by decide) ?_
    refine GO.aload_n dX12_lookAt_48 rfl rfl ?_
    refine GO.getA (n := 60) h_x fl_RX12_53 rfl rfl rfl rfl dX12_lookAt_49 (fun hv4 h3 => ?_)
    refine GO.iload_n dX12_lookAt_52 rfl rfl ?_
    have q5 : -2147483648 ≤ p0 ∧ p0 ≤ 2147483647 := r_p0
    refine GO.iald (t := 21) rfl rfl h3 r_p0 (by omega) (by omega) dX12_lookAt_53 (fun l6 u7 => ?_)
    exact GO.reti rfl rfl dX12_lookAt_54 ⟨rfl, rfl, _, rfl, vi_ir, trivial⟩
  ·
    refine GO.tableAt (n := 7) (tgt := 55) dX12_lookAt_1 (ir_c rfl) c2 (by decide) (by decide) rfl (by decide) ?_
    refine GO.aload_n dX12_lookAt_55 rfl rfl ?_
    refine GO.getA (n := 60) h_x fl_RX12_56 rfl rfl rfl rfl dX12_lookAt_56 (fun hv9 h8 => ?_)
    refine GO.iload_n dX12_lookAt_59 rfl rfl ?_
    have q10 : -2147483648 ≤ p0 ∧ p0 ≤ 2147483647 := r_p0
    refine GO.iald (t := 22) rfl rfl h8 r_p0 (by omega) (by omega) dX12_lookAt_60 (fun _ _ => ?_)
    have q11 : -2147483648 ≤ vi V (vq V x 20) (p0).toNat ∧ vi V (vq V x 20) (p0).toNat ≤ 2147483647 := vi_ir
    exact GO.reti rfl rfl dX12_lookAt_61 ⟨rfl, rfl, _, rfl, vi_ir, trivial⟩
  ·
    refine GO.tableAt (n := 8) (tgt := 62) dX12_lookAt_1 (ir_c rfl) c2 (by decide) (by decide) rfl (by decide) ?_
    refine GO.aload_n dX12_lookAt_62 rfl rfl ?_
    refine GO.getA (n := 60) h_x fl_RX12_59 rfl rfl rfl rfl dX12_lookAt_63 (fun hv13 h12 => ?_)
    refine GO.iload_n dX12_lookAt_66 rfl rfl ?_
    have q14 : -2147483648 ≤ p0 ∧ p0 ≤ 2147483647 := r_p0
    refine GO.iald (t := 23) rfl rfl h12 r_p0 (by omega) (by omega) dX12_lookAt_67 (fun _ _ => ?_)
    have q15 : -2147483648 ≤ vi V (vq V x 21) (p0).toNat ∧ vi V (vq V x 21) (p0).toNat ≤ 2147483647 := vi_ir
    exact GO.reti rfl rfl dX12_lookAt_68 ⟨rfl, rfl, _, rfl, vi_ir, trivial⟩
  ·
    refine GO.tableAt (n := 9) (tgt := 69) dX12_lookAt_1 (ir_c rfl) c2 (by decide) (by decide) rfl (by decide) ?_
    refine GO.aload_n dX12_lookAt_69 rfl rfl ?_
    refine GO.getA (n := 60) h_x fl_RX12_62 rfl rfl rfl rfl dX12_lookAt_70 (fun hv17 h16 => ?_)
    refine GO.iload_n dX12_lookAt_73 rfl rfl ?_
    have q18 : -2147483648 ≤ p0 ∧ p0 ≤ 2147483647 := r_p0
    refine GO.iald (t := 24) rfl rfl h16 r_p0 (by omega) (by omega) dX12_lookAt_74 (fun _ _ => ?_)
    have q19 : -2147483648 ≤ vi V (vq V x 22) (p0).toNat ∧ vi V (vq V x 22) (p0).toNat ≤ 2147483647 := vi_ir
    exact GO.reti rfl rfl dX12_lookAt_75 ⟨rfl, rfl, _, rfl, vi_ir, trivial⟩
  ·
    refine GO.tableAt (n := 10) (tgt := 76) dX12_lookAt_1 (ir_c rfl) c2 (by decide) (by decide) rfl (by decide) ?_
    refine GO.aload_n dX12_lookAt_76 rfl rfl ?_
    refine GO.getA (n := 240) h_x fl_RX12_65 rfl rfl rfl rfl dX12_lookAt_77 (fun hv21 h20 => ?_)
    refine GO.iconst dX12_lookAt_80 ?_
    refine GO.iload_n dX12_lookAt_81 rfl rfl ?_
    refine GO.imul dX12_lookAt_82 ?_
    refine GO.iload_n dX12_lookAt_83 rfl rfl ?_
    refine GO.iadd dX12_lookAt_84 ?_
    refine GO.bipush dX12_lookAt_85 rfl ?_
    refine GO.isub dX12_lookAt_87 ?_
    have q22 : -2147483648 ≤ p0 ∧ p0 ≤ 2147483647 := r_p0
    refine GO.iald (t := 25) rfl rfl h20 ⟨by omega, by omega⟩ (by omega) (by omega) dX12_lookAt_88 (fun _ _ => ?_)
    have q23 : -2147483648 ≤ vi V (vq V x 23) (((4 * p0) + p1) - 10).toNat ∧ vi V (vq V x 23) (((4 * p0) + p1) - 10).toNat ≤ 2147483647 := vi_ir
    exact GO.reti rfl rfl dX12_lookAt_89 ⟨rfl, rfl, _, rfl, vi_ir, trivial⟩
  ·
    refine GO.tableAt (n := 11) (tgt := 76) dX12_lookAt_1 (ir_c rfl) c2 (by decide) (by decide) rfl (by decide) ?_
    refine GO.aload_n dX12_lookAt_76 rfl rfl ?_
    refine GO.getA (n := 240) h_x fl_RX12_65 rfl rfl rfl rfl dX12_lookAt_77 (fun hv25 h24 => ?_)
    refine GO.iconst dX12_lookAt_80 ?_
    refine GO.iload_n dX12_lookAt_81 rfl rfl ?_
    refine GO.imul dX12_lookAt_82 ?_
    refine GO.iload_n dX12_lookAt_83 rfl rfl ?_
    refine GO.iadd dX12_lookAt_84 ?_
    refine GO.bipush dX12_lookAt_85 rfl ?_
    refine GO.isub dX12_lookAt_87 ?_
    have q26 : -2147483648 ≤ p0 ∧ p0 ≤ 2147483647 := r_p0
    refine GO.iald (t := 25) rfl rfl h24 ⟨by omega, by omega⟩ (by omega) (by omega) dX12_lookAt_88 (fun _ _ => ?_)
    have q27 : -2147483648 ≤ vi V (vq V x 23) (((4 * p0) + p1) - 10).toNat ∧ vi V (vq V x 23) (((4 * p0) + p1) - 10).toNat ≤ 2147483647 := vi_ir
    exact GO.reti rfl rfl dX12_lookAt_89 ⟨rfl, rfl, _, rfl, vi_ir, trivial⟩
  ·
    refine GO.tableAt (n := 12) (tgt := 76) dX12_lookAt_1 (ir_c rfl) c2 (by decide) (by decide) rfl (by decide) ?_
    refine GO.aload_n dX12_lookAt_76 rfl rfl ?_
    refine GO.getA (n := 240) h_x fl_RX12_65 rfl rfl rfl rfl dX12_lookAt_77 (fun hv29 h28 => ?_)
    refine GO.iconst dX12_lookAt_80 ?_
    refine GO.iload_n dX12_lookAt_81 rfl rfl ?_
    refine GO.imul dX12_lookAt_82 ?_
    refine GO.iload_n dX12_lookAt_83 rfl rfl ?_
    refine GO.iadd dX12_lookAt_84 ?_
    refine GO.bipush dX12_lookAt_85 rfl ?_
    refine GO.isub dX12_lookAt_87 ?_
    have q30 : -2147483648 ≤ p0 ∧ p0 ≤ 2147483647 := r_p0
    refine GO.iald (t := 25) rfl rfl h28 ⟨by omega, by omega⟩ (by omega) (by omega) dX12_lookAt_88 (fun _ _ => ?_)
    have q31 : -2147483648 ≤ vi V (vq V x 23) (((4 * p0) + p1) - 10).toNat ∧ vi V (vq V x 23) (((4 * p0) + p1) - 10).toNat ≤ 2147483647 := vi_ir
    exact GO.reti rfl rfl dX12_lookAt_89 ⟨rfl, rfl, _, rfl, vi_ir, trivial⟩
  ·
    refine GO.tableAt (n := 13) (tgt := 76) dX12_lookAt_1 (ir_c rfl) c2 (by decide) (by decide) rfl (by decide) ?_
    refine GO.aload_n dX12_lookAt_76 rfl rfl ?_
    refine GO.getA (n := 240) h_x fl_RX12_65 rfl rfl rfl rfl dX12_lookAt_77 (fun hv33 h32 => ?_)
    refine GO.iconst dX12_lookAt_80 ?_
    refine GO.iload_n dX12_lookAt_81 rfl rfl ?_
    refine GO.imul dX12_lookAt_82 ?_
    refine GO.iload_n dX12_lookAt_83 rfl rfl ?_
    refine GO.iadd dX12_lookAt_84 ?_
    refine GO.bipush dX12_lookAt_85 rfl ?_
    refine GO.isub dX12_lookAt_87 ?_
    have q34 : -2147483648 ≤ p0 ∧ p0 ≤ 2147483647 := r_p0
    refine GO.iald (t := 25) rfl rfl h32 ⟨by omega, by omega⟩ (by omega) (by omega) dX12_lookAt_88 (fun _ _ => ?_)
    have q35 : -2147483648 ≤ vi V (vq V x 23) (((4 * p0) + p1) - 10).toNat ∧ vi V (vq V x 23) (((4 * p0) + p1) - 10).toNat ≤ 2147483647 := vi_ir
    exact GO.reti rfl rfl dX12_lookAt_89 ⟨rfl, rfl, _, rfl, vi_ir, trivial⟩

set_option maxHeartbeats 1000000 in
theorem t_X12_look {K : Kmap} {V : Vmap} {x : Nat} {p0 : Int} {p1 : Int} (h_x : K x = some (0, 11)) (r_p0 : ir p0) (r_p1 : ir p1) : MC mX12_look K V [.ref x, ti p0, ti p1] (IP K V (fun X => True)) := by
  refine MC.start 0 (by decide +kernel) rfl rfl rfl (ls0 := [some (.ref x), some (ti p0), some (ti p1)]) rfl ?_
  refine GO.iload_n dX12_look_0 rfl rfl ?_
  refine GO.if_lt (tgt := 12) dX12_look_1 (by decide) r_p0 (fun c1 => ?_) (fun c1 => ?_)
  ·
    refine GO.iconst dX12_look_12 ?_
    exact GO.reti rfl rfl dX12_look_13 ⟨rfl, rfl, _, rfl, (ir_c rfl), trivial⟩
  ·
    refine GO.iload_n dX12_look_4 rfl rfl ?_
    refine GO.aload_n dX12_look_5 rfl rfl ?_
    refine GO.getI h_x fl_RX12_375 rfl rfl dX12_look_6 (fun l2 u3 => ?_)
    refine GO.icmp_lt (tgt := 14) dX12_look_9 (by decide) r_p0 vi_ir (fun c4 => ?_) (fun c4 => ?_)
    ·
      refine GO.iload_n dX12_look_14 rfl rfl ?_
      have q5 : -2147483648 ≤ p1 ∧ p1 ≤ 2147483647 := r_p1
      rcases (show (p1 < 0 ∨ 5 < p1) ∨ p1 = 0 ∨ p1 = 1 ∨ p1 = 2 ∨ p1 = 3 ∨ p1 = 4 ∨ p1 = 5 by omega) with c6 | c6 | c6 | c6 | c6 | c6 | c6
      ·
        refine GO.tableOut (tgt := 135) dX12_look_15 r_p1 c6 (by decide) ?_
        refine GO.aload_n dX12_look_135 rfl rfl ?_
        refine GO.getA (n := 60) h_x fl_RX12_35 rfl rfl rfl rfl dX12_look_136 (fun hv8 h7 => ?_)
        refine GO.iload_n dX12_look_139 rfl rfl ?_
        have q9 : -2147483648 ≤ p0 ∧ p0 ≤ 2147483647 := r_p0
        refine GO.iald (t := 15) rfl rfl h7 r_p0 (by omega) (by omega) dX12_look_140 (fun l10 u11 => ?_)
        refine GO.iconst dX12_look_141 ?_
        refine GO.icmp_ne (tgt := 154) dX12_look_142 (by decide) vi_ir (ir_c rfl) (fun c12 => ?_) (fun c12 => ?_)
        ·
          refine GO.iconst dX12_look_154 ?_
          exact GO.reti rfl rfl dX12_look_155 ⟨rfl, rfl, _, rfl, (ir_c rfl), trivial⟩
        ·
          refine GO.aload_n dX12_look_145 rfl rfl ?_
          refine GO.iload_n dX12_look_146 rfl rfl ?_
          refine GO.iload_n dX12_look_147 rfl rfl ?_
          refine GO.callV (ci := 11) (N := mX12_lookAt) dX12_look_148 (RX12, TX12, 151) rfl gV_RX12_768 h_x (t_X12_lookAt h_x r_p0 r_p1 (by omega) (by omega)) rfl [] rfl rfl (Nat.le_of_ble_eq_true rfl) rfl (k_ip fun X13 r14 h15 => ?_)
          refine GO.goto (tgt := 155) dX12_look_151 (by decide) ?_
          have q16 : -2147483648 ≤ X13 ∧ X13 ≤ 2147483647 := r14
          exact GO.reti rfl rfl dX12_look_155 ⟨rfl, rfl, _, rfl, r14, trivial⟩
      ·
        refine GO.tableAt (n := 0) (tgt := 52) dX12_look_15 (ir_c rfl) c6 (by decide) (by decide) rfl (by decide) ?_
        refine GO.aload_n dX12_look_52 rfl rfl ?_
        refine GO.getA (n := 60) h_x fl_RX12_35 rfl rfl rfl rfl dX12_look_53 (fun hv18 h17 => ?_)
        refine GO.iload_n dX12_look_56 rfl rfl ?_
        have q19 : -2147483648 ≤ p0 ∧ p0 ≤ 2147483647 := r_p0
        refine GO.iald (t := 15) rfl rfl h17 r_p0 (by omega) (by omega) dX12_look_57 (fun l20 u21 => ?_)
        exact GO.reti rfl rfl dX12_look_58 ⟨rfl, rfl, _, rfl, vi_ir, trivial⟩
      ·
        refine GO.tableAt (n := 1) (tgt := 59) dX12_look_15 (ir_c rfl) c6 (by decide) (by decide) rfl (by decide) ?_
        refine GO.aload_n dX12_look_59 rfl rfl ?_
        refine GO.getA (n := 60) h_x fl_RX12_38 rfl rfl rfl rfl dX12_look_60 (fun hv23 h22 => ?_)
        refine GO.iload_n dX12_look_63 rfl rfl ?_
        have q24 : -2147483648 ≤ p0 ∧ p0 ≤ 2147483647 := r_p0
        refine GO.iald (t := 16) rfl rfl h22 r_p0 (by omega) (by omega) dX12_look_64 (fun l25 u26 => ?_)
        exact GO.reti rfl rfl dX12_look_65 ⟨rfl, rfl, _, rfl, vi_ir, trivial⟩
      ·
        refine GO.tableAt (n := 2) (tgt := 66) dX12_look_15 (ir_c rfl) c6 (by decide) (by decide) rfl (by decide) ?_
        refine GO.aload_n dX12_look_66 rfl rfl ?_
        refine GO.getA (n := 60) h_x fl_RX12_41 rfl rfl rfl rfl dX12_look_67 (fun hv28 h27 => ?_)
        refine GO.iload_n dX12_look_70 rfl rfl ?_
        have q29 : -2147483648 ≤ p0 ∧ p0 ≤ 2147483647 := r_p0
        refine GO.iald (t := 17) rfl rfl h27 r_p0 (by omega) (by omega) dX12_look_71 (fun l30 u31 => ?_)
        exact GO.reti rfl rfl dX12_look_72 ⟨rfl, rfl, _, rfl, vi_ir, trivial⟩
      ·
        refine GO.tableAt (n := 3) (tgt := 73) dX12_look_15 (ir_c rfl) c6 (by decide) (by decide) rfl (by decide) ?_
        refine GO.aload_n dX12_look_73 rfl rfl ?_
        refine GO.getA (n := 60) h_x fl_RX12_44 rfl rfl rfl rfl dX12_look_74 (fun hv33 h32 => ?_)
        refine GO.iload_n dX12_look_77 rfl rfl ?_
        have q34 : -2147483648 ≤ p0 ∧ p0 ≤ 2147483647 := r_p0
        refine GO.iald (t := 18) rfl rfl h32 r_p0 (by omega) (by omega) dX12_look_78 (fun l35 u36 => ?_)
        exact GO.reti rfl rfl dX12_look_79 ⟨rfl, rfl, _, rfl, vi_ir, trivial⟩
      ·
        refine GO.tableAt (n := 4) (tgt := 80) dX12_look_15 (ir_c rfl) c6 (by decide) (by decide) rfl (by decide) ?_
        refine GO.aload_n dX12_look_80 rfl rfl ?_
        refine GO.getA (n := 60) h_x fl_RX12_35 rfl rfl rfl rfl dX12_look_81 (fun hv38 h37 => ?_)
        refine GO.iload_n dX12_look_84 rfl rfl ?_
        have q39 : -2147483648 ≤ p0 ∧ p0 ≤ 2147483647 := r_p0
        refine GO.iald (t := 15) rfl rfl h37 r_p0 (by omega) (by omega) dX12_look_85 (fun l40 u41 => ?_)
        refine GO.if_eq (tgt := 109) dX12_look_86 (by decide) vi_ir (fun c42 => ?_) (fun c42 => ?_)
        ·
          refine GO.aload_n dX12_look_109 rfl rfl ?_
          refine GO.getA (n := 60) h_x fl_RX12_47 rfl rfl rfl rfl dX12_look_110 (fun hv44 h43 => ?_)
          refine GO.iload_n dX12_look_113 rfl rfl ?_
          refine GO.iald (t := 19) rfl rfl h43 r_p0 (by omega) (by omega) dX12_look_114 (fun _ _ => ?_)
          refine GO.goto (tgt := 119) dX12_look_115 (by decide) ?_
          have q45 : -2147483648 ≤ vi V (vq V x 17) (p0).toNat ∧ vi V (vq V x 17) (p0).toNat ≤ 2147483647 := vi_ir
          exact GO.reti rfl rfl dX12_look_119 ⟨rfl, rfl, _, rfl, vi_ir, trivial⟩
        ·
          refine GO.aload_n dX12_look_89 rfl rfl ?_
          refine GO.getRaw h_x fl_RX12_35 hv38 dX12_look_90 ?_
          refine GO.iload_n dX12_look_93 rfl rfl ?_
          refine GO.iald (t := 15) rfl rfl h37 r_p0 (by omega) (by omega) dX12_look_94 (fun l48 u49 => ?_)
          refine GO.iconst dX12_look_95 ?_
          refine GO.icmp_eq (tgt := 109) dX12_look_96 (by decide) vi_ir (ir_c rfl) (fun c50 => ?_) (fun c50 => ?_)
          ·
            refine GO.aload_n dX12_look_109 rfl rfl ?_
            refine GO.getA (n := 60) h_x fl_RX12_47 rfl rfl rfl rfl dX12_look_110 (fun hv52 h51 => ?_)
            refine GO.iload_n dX12_look_113 rfl rfl ?_
            refine GO.iald (t := 19) rfl rfl h51 r_p0 (by omega) (by omega) dX12_look_114 (fun _ _ => ?_)
            refine GO.goto (tgt := 119) dX12_look_115 (by decide) ?_
            have q53 : -2147483648 ≤ vi V (vq V x 17) (p0).toNat ∧ vi V (vq V x 17) (p0).toNat ≤ 2147483647 := vi_ir
            exact GO.reti rfl rfl dX12_look_119 ⟨rfl, rfl, _, rfl, vi_ir, trivial⟩
          ·
            refine GO.aload_n dX12_look_99 rfl rfl ?_
            refine GO.getRaw h_x fl_RX12_35 hv38 dX12_look_100 ?_
            refine GO.iload_n dX12_look_103 rfl rfl ?_
            refine GO.iald (t := 15) rfl rfl h37 r_p0 (by omega) (by omega) dX12_look_104 (fun l56 u57 => ?_)
            refine GO.iconst dX12_look_105 ?_
            refine GO.icmp_ne (tgt := 118) dX12_look_106 (by decide) vi_ir (ir_c rfl) (fun c58 => ?_) (fun c58 => ?_)
            ·
              refine GO.iconst dX12_look_118 ?_
              exact GO.reti rfl rfl dX12_look_119 ⟨rfl, rfl, _, rfl, (ir_c rfl), trivial⟩
            ·
              refine GO.aload_n dX12_look_109 rfl rfl ?_
              refine GO.getA (n := 60) h_x fl_RX12_47 rfl rfl rfl rfl dX12_look_110 (fun hv60 h59 => ?_)
              refine GO.iload_n dX12_look_113 rfl rfl ?_
              refine GO.iald (t := 19) rfl rfl h59 r_p0 (by omega) (by omega) dX12_look_114 (fun _ _ => ?_)
              refine GO.goto (tgt := 119) dX12_look_115 (by decide) ?_
              have q61 : -2147483648 ≤ vi V (vq V x 17) (p0).toNat ∧ vi V (vq V x 17) (p0).toNat ≤ 2147483647 := vi_ir
              exact GO.reti rfl rfl dX12_look_119 ⟨rfl, rfl, _, rfl, vi_ir, trivial⟩
      ·
        refine GO.tableAt (n := 5) (tgt := 120) dX12_look_15 (ir_c rfl) c6 (by decide) (by decide) rfl (by decide) ?_
        refine GO.aload_n dX12_look_120 rfl rfl ?_
        refine GO.getA (n := 60) h_x fl_RX12_80 rfl rfl rfl rfl dX12_look_121 (fun hv63 h62 => ?_)
        refine GO.iload_n dX12_look_124 rfl rfl ?_
        have q64 : -2147483648 ≤ p0 ∧ p0 ≤ 2147483647 := r_p0
        refine GO.zald (t := 30) rfl rfl h62 r_p0 (by omega) (by omega) dX12_look_125 (fun l65 u66 => ?_)
        refine GO.if_eq (tgt := 133) dX12_look_126 (by decide) vi_ir (fun c67 => ?_) (fun c67 => ?_)
        ·
          refine GO.iconst dX12_look_133 ?_
          exact GO.reti rfl rfl dX12_look_134 ⟨rfl, rfl, _, rfl, (ir_c rfl), trivial⟩
        ·
          refine GO.iconst dX12_look_129 ?_
          refine GO.goto (tgt := 134) dX12_look_130 (by decide) ?_
          exact GO.reti rfl rfl dX12_look_134 ⟨rfl, rfl, _, rfl, (ir_c rfl), trivial⟩
    ·
      refine GO.iconst dX12_look_12 ?_
      exact GO.reti rfl rfl dX12_look_13 ⟨rfl, rfl, _, rfl, (ir_c rfl), trivial⟩

set_option maxHeartbeats 1000000 in
theorem t_X12_at {K : Kmap} {V : Vmap} {x : Nat} {p0 : Int} {p1 : Int} (h_x : K x = some (0, 11)) (r_p0 : ir p0) (r_p1 : ir p1) : MC mX12_at K V [.ref x, ti p0, ti p1] (IP K V (fun X => True)) := by
  refine MC.start 0 (by decide +kernel) rfl rfl rfl (ls0 := [some (.ref x), some (ti p0), some (ti p1)]) rfl ?_
  refine GO.aload_n dX12_at_0 rfl rfl ?_
  refine GO.iload_n dX12_at_1 rfl rfl ?_
  refine GO.callV (ci := 11) (N := mX12_isShip) dX12_at_2 (RX12, TX12, 151) rfl gV_RX12_618 h_x (t_X12_isShip h_x r_p0) rfl [] rfl rfl (Nat.le_of_ble_eq_true rfl) rfl (k_ip fun X1 r2 h3 => ?_)
  refine GO.if_ne (tgt := 10) dX12_at_5 (by decide) r2 (fun c4 => ?_) (fun c4 => ?_)
  ·
    have q5 := h3.2.1 (by omega)
    refine GO.iload_n dX12_at_10 rfl rfl ?_
    have q6 : -2147483648 ≤ p1 ∧ p1 ≤ 2147483647 := r_p1
    rcases (show (p1 < 0 ∨ 4 < p1) ∨ p1 = 0 ∨ p1 = 1 ∨ p1 = 2 ∨ p1 = 3 ∨ p1 = 4 by omega) with c7 | c7 | c7 | c7 | c7 | c7
    ·
      refine GO.tableOut (tgt := 79) dX12_at_11 r_p1 c7 (by decide) ?_
      refine GO.iconst dX12_at_79 ?_
      exact GO.reti rfl rfl dX12_at_80 ⟨rfl, rfl, _, rfl, (ir_c rfl), trivial⟩
    ·
      refine GO.tableAt (n := 0) (tgt := 44) dX12_at_11 (ir_c rfl) c7 (by decide) (by decide) rfl (by decide) ?_
      refine GO.aload_n dX12_at_44 rfl rfl ?_
      refine GO.getA (n := 10) h_x fl_RX12_217 rfl rfl rfl rfl dX12_at_45 (fun hv9 h8 => ?_)
      refine GO.iload_n dX12_at_48 rfl rfl ?_
      have q10 : -2147483648 ≤ p0 ∧ p0 ≤ 2147483647 := r_p0
      have q11 : -2147483648 ≤ vi V x 91 ∧ vi V x 91 ≤ 2147483647 := vi_ir
      refine GO.iald (t := 75) rfl rfl h8 r_p0 (by omega) (by omega) dX12_at_49 (fun _ _ => ?_)
      have q12 : -2147483648 ≤ vi V (vq V x 97) (p0).toNat ∧ vi V (vq V x 97) (p0).toNat ≤ 2147483647 := vi_ir
      exact GO.reti rfl rfl dX12_at_50 ⟨rfl, rfl, _, rfl, vi_ir, trivial⟩
    ·
      refine GO.tableAt (n := 1) (tgt := 51) dX12_at_11 (ir_c rfl) c7 (by decide) (by decide) rfl (by decide) ?_
      refine GO.aload_n dX12_at_51 rfl rfl ?_
      refine GO.getA (n := 10) h_x fl_RX12_220 rfl rfl rfl rfl dX12_at_52 (fun hv14 h13 => ?_)
      refine GO.iload_n dX12_at_55 rfl rfl ?_
      have q15 : -2147483648 ≤ p0 ∧ p0 ≤ 2147483647 := r_p0
      have q16 : -2147483648 ≤ vi V x 91 ∧ vi V x 91 ≤ 2147483647 := vi_ir
      refine GO.iald (t := 76) rfl rfl h13 r_p0 (by omega) (by omega) dX12_at_56 (fun _ _ => ?_)
      have q17 : -2147483648 ≤ vi V (vq V x 98) (p0).toNat ∧ vi V (vq V x 98) (p0).toNat ≤ 2147483647 := vi_ir
      exact GO.reti rfl rfl dX12_at_57 ⟨rfl, rfl, _, rfl, vi_ir, trivial⟩
    ·
      refine GO.tableAt (n := 2) (tgt := 58) dX12_at_11 (ir_c rfl) c7 (by decide) (by decide) rfl (by decide) ?_
      refine GO.aload_n dX12_at_58 rfl rfl ?_
      refine GO.getA (n := 10) h_x fl_RX12_223 rfl rfl rfl rfl dX12_at_59 (fun hv19 h18 => ?_)
      refine GO.iload_n dX12_at_62 rfl rfl ?_
      have q20 : -2147483648 ≤ p0 ∧ p0 ≤ 2147483647 := r_p0
      have q21 : -2147483648 ≤ vi V x 91 ∧ vi V x 91 ≤ 2147483647 := vi_ir
      refine GO.iald (t := 77) rfl rfl h18 r_p0 (by omega) (by omega) dX12_at_63 (fun _ _ => ?_)
      have q22 : -2147483648 ≤ vi V (vq V x 99) (p0).toNat ∧ vi V (vq V x 99) (p0).toNat ≤ 2147483647 := vi_ir
      exact GO.reti rfl rfl dX12_at_64 ⟨rfl, rfl, _, rfl, vi_ir, trivial⟩
    ·
      refine GO.tableAt (n := 3) (tgt := 65) dX12_at_11 (ir_c rfl) c7 (by decide) (by decide) rfl (by decide) ?_
      refine GO.aload_n dX12_at_65 rfl rfl ?_
      refine GO.getA (n := 10) h_x fl_RX12_226 rfl rfl rfl rfl dX12_at_66 (fun hv24 h23 => ?_)
      refine GO.iload_n dX12_at_69 rfl rfl ?_
      have q25 : -2147483648 ≤ p0 ∧ p0 ≤ 2147483647 := r_p0
      have q26 : -2147483648 ≤ vi V x 91 ∧ vi V x 91 ≤ 2147483647 := vi_ir
      refine GO.iald (t := 78) rfl rfl h23 r_p0 (by omega) (by omega) dX12_at_70 (fun _ _ => ?_)
      have q27 : -2147483648 ≤ vi V (vq V x 100) (p0).toNat ∧ vi V (vq V x 100) (p0).toNat ≤ 2147483647 := vi_ir
      exact GO.reti rfl rfl dX12_at_71 ⟨rfl, rfl, _, rfl, vi_ir, trivial⟩
    ·
      refine GO.tableAt (n := 4) (tgt := 72) dX12_at_11 (ir_c rfl) c7 (by decide) (by decide) rfl (by decide) ?_
      refine GO.aload_n dX12_at_72 rfl rfl ?_
      refine GO.getA (n := 10) h_x fl_RX12_229 rfl rfl rfl rfl dX12_at_73 (fun hv29 h28 => ?_)
      refine GO.iload_n dX12_at_76 rfl rfl ?_
      have q30 : -2147483648 ≤ p0 ∧ p0 ≤ 2147483647 := r_p0
      have q31 : -2147483648 ≤ vi V x 91 ∧ vi V x 91 ≤ 2147483647 := vi_ir
      refine GO.iald (t := 79) rfl rfl h28 r_p0 (by omega) (by omega) dX12_at_77 (fun _ _ => ?_)
      have q32 : -2147483648 ≤ vi V (vq V x 101) (p0).toNat ∧ vi V (vq V x 101) (p0).toNat ≤ 2147483647 := vi_ir
      exact GO.reti rfl rfl dX12_at_78 ⟨rfl, rfl, _, rfl, vi_ir, trivial⟩
  ·
    have q33 := h3.2.2 (by omega)
    refine GO.iconst dX12_at_8 ?_
    exact GO.reti rfl rfl dX12_at_9 ⟨rfl, rfl, _, rfl, (ir_c rfl), trivial⟩

set_option maxHeartbeats 1000000 in
theorem t_X12_about {K : Kmap} {V : Vmap} {x : Nat} {p0 : Int} {p1 : Int} (h_x : K x = some (0, 11)) (r_p0 : ir p0) (r_p1 : ir p1) : MC mX12_about K V [.ref x, ti p0, ti p1] (IP K V (fun X => True)) := by
  refine MC.start 0 (by decide +kernel) rfl rfl rfl (ls0 := [some (.ref x), some (ti p0), some (ti p1)]) rfl ?_
  refine GO.aload_n dX12_about_0 rfl rfl ?_
  refine GO.iload_n dX12_about_1 rfl rfl ?_
  refine GO.callV (ci := 11) (N := mX12_isWork) dX12_about_2 (RX12, TX12, 151) rfl gV_RX12_566 h_x (t_X12_isWork h_x r_p0) rfl [] rfl rfl (Nat.le_of_ble_eq_true rfl) rfl (k_ip fun X1 r2 h3 => ?_)
  refine GO.if_ne (tgt := 10) dX12_about_5 (by decide) r2 (fun c4 => ?_) (fun c4 => ?_)
  ·
    have q5 := h3.2.1 (by omega)
    refine GO.iload_n dX12_about_10 rfl rfl ?_
    have q6 : -2147483648 ≤ p1 ∧ p1 ≤ 2147483647 := r_p1
    rcases (show (p1 < 0 ∨ 10 < p1) ∨ p1 = 0 ∨ p1 = 1 ∨ p1 = 2 ∨ p1 = 3 ∨ p1 = 4 ∨ p1 = 5 ∨ p1 = 6 ∨ p1 = 7 ∨ p1 = 8 ∨ p1 = 9 ∨ p1 = 10 by omega) with c7 | c7 | c7 | c7 | c7 | c7 | c7 | c7 | c7 | c7 | c7 | c7
    ·
      refine GO.tableOut (tgt := 145) dX12_about_11 r_p1 c7 (by decide) ?_
      refine GO.iconst dX12_about_145 ?_
      exact GO.reti rfl rfl dX12_about_146 ⟨rfl, rfl, _, rfl, (ir_c rfl), trivial⟩
    ·
      refine GO.tableAt (n := 0) (tgt := 68) dX12_about_11 (ir_c rfl) c7 (by decide) (by decide) rfl (by decide) ?_
      refine GO.aload_n dX12_about_68 rfl rfl ?_
      refine GO.getA (n := 100) h_x fl_RX12_163 rfl rfl rfl rfl dX12_about_69 (fun hv9 h8 => ?_)
      refine GO.iload_n dX12_about_72 rfl rfl ?_
      have q10 : -2147483648 ≤ p0 ∧ p0 ≤ 2147483647 := r_p0
      refine GO.iald (t := 57) rfl rfl h8 r_p0 (by omega) (by omega) dX12_about_73 (fun _ _ => ?_)
      have q11 : -2147483648 ≤ vi V (vq V x 67) (p0).toNat ∧ vi V (vq V x 67) (p0).toNat ≤ 2147483647 := vi_ir
      exact GO.reti rfl rfl dX12_about_74 ⟨rfl, rfl, _, rfl, vi_ir, trivial⟩
    ·
      refine GO.tableAt (n := 1) (tgt := 75) dX12_about_11 (ir_c rfl) c7 (by decide) (by decide) rfl (by decide) ?_
      refine GO.aload_n dX12_about_75 rfl rfl ?_
      refine GO.getA (n := 100) h_x fl_RX12_166 rfl rfl rfl rfl dX12_about_76 (fun hv13 h12 => ?_)
      refine GO.iload_n dX12_about_79 rfl rfl ?_
      have q14 : -2147483648 ≤ p0 ∧ p0 ≤ 2147483647 := r_p0
      refine GO.iald (t := 58) rfl rfl h12 r_p0 (by omega) (by omega) dX12_about_80 (fun l15 u16 => ?_)
      exact GO.reti rfl rfl dX12_about_81 ⟨rfl, rfl, _, rfl, vi_ir, trivial⟩
    ·
      refine GO.tableAt (n := 2) (tgt := 82) dX12_about_11 (ir_c rfl) c7 (by decide) (by decide) rfl (by decide) ?_
      refine GO.aload_n dX12_about_82 rfl rfl ?_
      refine GO.getA (n := 100) h_x fl_RX12_169 rfl rfl rfl rfl dX12_about_83 (fun hv18 h17 => ?_)
      refine GO.iload_n dX12_about_86 rfl rfl ?_
      have q19 : -2147483648 ≤ p0 ∧ p0 ≤ 2147483647 := r_p0
      refine GO.iald (t := 59) rfl rfl h17 r_p0 (by omega) (by omega) dX12_about_87 (fun l20 u21 => ?_)
      exact GO.reti rfl rfl dX12_about_88 ⟨rfl, rfl, _, rfl, vi_ir, trivial⟩
    ·
      refine GO.tableAt (n := 3) (tgt := 89) dX12_about_11 (ir_c rfl) c7 (by decide) (by decide) rfl (by decide) ?_
      refine GO.aload_n dX12_about_89 rfl rfl ?_
      refine GO.getA (n := 100) h_x fl_RX12_172 rfl rfl rfl rfl dX12_about_90 (fun hv23 h22 => ?_)
      refine GO.iload_n dX12_about_93 rfl rfl ?_
      have q24 : -2147483648 ≤ p0 ∧ p0 ≤ 2147483647 := r_p0
      refine GO.iald (t := 60) rfl rfl h22 r_p0 (by omega) (by omega) dX12_about_94 (fun _ _ => ?_)
      have q25 : -2147483648 ≤ vi V (vq V x 70) (p0).toNat ∧ vi V (vq V x 70) (p0).toNat ≤ 2147483647 := vi_ir
      exact GO.reti rfl rfl dX12_about_95 ⟨rfl, rfl, _, rfl, vi_ir, trivial⟩
    ·
      refine GO.tableAt (n := 4) (tgt := 96) dX12_about_11 (ir_c rfl) c7 (by decide) (by decide) rfl (by decide) ?_
      refine GO.aload_n dX12_about_96 rfl rfl ?_
      refine GO.getA (n := 100) h_x fl_RX12_175 rfl rfl rfl rfl dX12_about_97 (fun hv27 h26 => ?_)
      refine GO.iload_n dX12_about_100 rfl rfl ?_
      have q28 : -2147483648 ≤ p0 ∧ p0 ≤ 2147483647 := r_p0
      refine GO.iald (t := 61) rfl rfl h26 r_p0 (by omega) (by omega) dX12_about_101 (fun _ _ => ?_)
      have q29 : -2147483648 ≤ vi V (vq V x 71) (p0).toNat ∧ vi V (vq V x 71) (p0).toNat ≤ 2147483647 := vi_ir
      exact GO.reti rfl rfl dX12_about_102 ⟨rfl, rfl, _, rfl, vi_ir, trivial⟩
    ·
      refine GO.tableAt (n := 5) (tgt := 103) dX12_about_11 (ir_c rfl) c7 (by decide) (by decide) rfl (by decide) ?_
      refine GO.aload_n dX12_about_103 rfl rfl ?_
      refine GO.getA (n := 100) h_x fl_RX12_184 rfl rfl rfl rfl dX12_about_104 (fun hv31 h30 => ?_)
      refine GO.iload_n dX12_about_107 rfl rfl ?_
      have q32 : -2147483648 ≤ p0 ∧ p0 ≤ 2147483647 := r_p0
      refine GO.iald (t := 64) rfl rfl h30 r_p0 (by omega) (by omega) dX12_about_108 (fun _ _ => ?_)
      have q33 : -2147483648 ≤ vi V (vq V x 74) (p0).toNat ∧ vi V (vq V x 74) (p0).toNat ≤ 2147483647 := vi_ir
      exact GO.reti rfl rfl dX12_about_109 ⟨rfl, rfl, _, rfl, vi_ir, trivial⟩
    ·
      refine GO.tableAt (n := 6) (tgt := 110) dX12_about_11 (ir_c rfl) c7 (by decide) (by decide) rfl (by decide) ?_
      refine GO.aload_n dX12_about_110 rfl rfl ?_
      refine GO.getA (n := 100) h_x fl_RX12_187 rfl rfl rfl rfl dX12_about_111 (fun hv35 h34 => ?_)
      refine GO.iload_n dX12_about_114 rfl rfl ?_
      have q36 : -2147483648 ≤ p0 ∧ p0 ≤ 2147483647 := r_p0
      refine GO.iald (t := 65) rfl rfl h34 r_p0 (by omega) (by omega) dX12_about_115 (fun _ _ => ?_)
      have q37 : -2147483648 ≤ vi V (vq V x 75) (p0).toNat ∧ vi V (vq V x 75) (p0).toNat ≤ 2147483647 := vi_ir
      exact GO.reti rfl rfl dX12_about_116 ⟨rfl, rfl, _, rfl, vi_ir, trivial⟩
    ·
      refine GO.tableAt (n := 7) (tgt := 117) dX12_about_11 (ir_c rfl) c7 (by decide) (by decide) rfl (by decide) ?_
      refine GO.aload_n dX12_about_117 rfl rfl ?_
      refine GO.getA (n := 100) h_x fl_RX12_190 rfl rfl rfl rfl dX12_about_118 (fun hv39 h38 => ?_)
      refine GO.iload_n dX12_about_121 rfl rfl ?_
      have q40 : -2147483648 ≤ p0 ∧ p0 ≤ 2147483647 := r_p0
      refine GO.iald (t := 66) rfl rfl h38 r_p0 (by omega) (by omega) dX12_about_122 (fun _ _ => ?_)
      have q41 : -2147483648 ≤ vi V (vq V x 76) (p0).toNat ∧ vi V (vq V x 76) (p0).toNat ≤ 2147483647 := vi_ir
      exact GO.reti rfl rfl dX12_about_123 ⟨rfl, rfl, _, rfl, vi_ir, trivial⟩
    ·
      refine GO.tableAt (n := 8) (tgt := 124) dX12_about_11 (ir_c rfl) c7 (by decide) (by decide) rfl (by decide) ?_
      refine GO.aload_n dX12_about_124 rfl rfl ?_
      refine GO.getA (n := 100) h_x fl_RX12_193 rfl rfl rfl rfl dX12_about_125 (fun hv43 h42 => ?_)
      refine GO.iload_n dX12_about_128 rfl rfl ?_
      have q44 : -2147483648 ≤ p0 ∧ p0 ≤ 2147483647 := r_p0
      refine GO.iald (t := 67) rfl rfl h42 r_p0 (by omega) (by omega) dX12_about_129 (fun _ _ => ?_)
      have q45 : -2147483648 ≤ vi V (vq V x 77) (p0).toNat ∧ vi V (vq V x 77) (p0).toNat ≤ 2147483647 := vi_ir
      exact GO.reti rfl rfl dX12_about_130 ⟨rfl, rfl, _, rfl, vi_ir, trivial⟩
    ·
      refine GO.tableAt (n := 9) (tgt := 131) dX12_about_11 (ir_c rfl) c7 (by decide) (by decide) rfl (by decide) ?_
      refine GO.aload_n dX12_about_131 rfl rfl ?_
      refine GO.getA (n := 100) h_x fl_RX12_196 rfl rfl rfl rfl dX12_about_132 (fun hv47 h46 => ?_)
      refine GO.iload_n dX12_about_135 rfl rfl ?_
      have q48 : -2147483648 ≤ p0 ∧ p0 ≤ 2147483647 := r_p0
      refine GO.iald (t := 68) rfl rfl h46 r_p0 (by omega) (by omega) dX12_about_136 (fun _ _ => ?_)
      have q49 : -2147483648 ≤ vi V (vq V x 78) (p0).toNat ∧ vi V (vq V x 78) (p0).toNat ≤ 2147483647 := vi_ir
      exact GO.reti rfl rfl dX12_about_137 ⟨rfl, rfl, _, rfl, vi_ir, trivial⟩
    ·
      refine GO.tableAt (n := 10) (tgt := 138) dX12_about_11 (ir_c rfl) c7 (by decide) (by decide) rfl (by decide) ?_
      refine GO.aload_n dX12_about_138 rfl rfl ?_
      refine GO.getA (n := 100) h_x fl_RX12_199 rfl rfl rfl rfl dX12_about_139 (fun hv51 h50 => ?_)
      refine GO.iload_n dX12_about_142 rfl rfl ?_
      have q52 : -2147483648 ≤ p0 ∧ p0 ≤ 2147483647 := r_p0
      refine GO.iald (t := 69) rfl rfl h50 r_p0 (by omega) (by omega) dX12_about_143 (fun _ _ => ?_)
      have q53 : -2147483648 ≤ vi V (vq V x 79) (p0).toNat ∧ vi V (vq V x 79) (p0).toNat ≤ 2147483647 := vi_ir
      exact GO.reti rfl rfl dX12_about_144 ⟨rfl, rfl, _, rfl, vi_ir, trivial⟩
  ·
    refine GO.iconst dX12_about_8 ?_
    exact GO.reti rfl rfl dX12_about_9 ⟨rfl, rfl, _, rfl, (ir_c rfl), trivial⟩

set_option maxHeartbeats 1000000 in
theorem t_X12_sum {K : Kmap} {V : Vmap} {x : Nat} {p0 : Int} (h_x : K x = some (0, 11)) (r_p0 : ir p0) : MC mX12_sum K V [.ref x, ti p0] (JP K V) := by
  refine MC.start 0 (by decide +kernel) rfl rfl rfl (ls0 := [some (.ref x), some (ti p0)]) rfl ?_
  refine GO.iload_n dX12_sum_0 rfl rfl ?_
  have q1 : -2147483648 ≤ p0 ∧ p0 ≤ 2147483647 := r_p0
  rcases (show (p0 < 0 ∨ 7 < p0) ∨ p0 = 0 ∨ p0 = 1 ∨ p0 = 2 ∨ p0 = 3 ∨ p0 = 4 ∨ p0 = 5 ∨ p0 = 6 ∨ p0 = 7 by omega) with c2 | c2 | c2 | c2 | c2 | c2 | c2 | c2 | c2
  ·
    refine GO.tableOut (tgt := 88) dX12_sum_1 r_p0 c2 (by decide) ?_
    refine GO.iload_n dX12_sum_88 rfl rfl ?_
    refine GO.bipush dX12_sum_89 rfl ?_
    refine GO.bipush dX12_sum_91 rfl ?_
    refine GO.aload_n dX12_sum_93 rfl rfl ?_
    refine GO.getI h_x fl_RX12_393 rfl rfl dX12_sum_94 (fun l3 u4 => ?_)
    refine GO.iadd dX12_sum_97 ?_
    refine GO.callS (N := mX12_in) dX12_sum_98 gS_RX12_371 (t_X12_in r_p0 (ir_c rfl) ⟨by omega, by omega⟩) rfl [] rfl rfl (Nat.le_of_ble_eq_true rfl) rfl (k_ip fun X5 r6 h7 => ?_)
    have raw_in := h7.2.2.2
    have rw98 := h7.2.2.2
    refine GO.if_eq (tgt := 115) dX12_sum_101 (by decide) r6 (fun c8 => ?_) (fun c8 => ?_)
    ·
      have q9 := h7.2.2.1 (by omega)
      refine GO.iload_n dX12_sum_115 rfl rfl ?_
      refine GO.bipush dX12_sum_116 rfl ?_
      refine GO.bipush dX12_sum_118 rfl ?_
      refine GO.aload_n dX12_sum_120 rfl rfl ?_
      refine GO.getI h_x fl_RX12_667 rfl rfl dX12_sum_121 (fun l10 u11 => ?_)
      refine GO.iadd dX12_sum_124 ?_
      refine GO.callS (N := mX12_in) dX12_sum_125 gS_RX12_371 (t_X12_in r_p0 (ir_c rfl) ⟨by omega, by omega⟩) rfl [] rfl rfl (Nat.le_of_ble_eq_true rfl) rfl (k_ip fun X12 r13 h14 => ?_)
      have raw_in := h14.2.2.2
      have rw125 := h14.2.2.2
      refine GO.if_eq (tgt := 144) dX12_sum_128 (by decide) r13 (fun c15 => ?_) (fun c15 => ?_)
      ·
        have q16 := h14.2.2.1 (by omega)
        refine GO.ldc2 dX12_sum_144 gw_2536 ?_
        refine GO.anyL (fun z17 => ?_)
        exact GO.retl rfl rfl dX12_sum_147 ⟨rfl, rfl, _, rfl⟩
      ·
        have q18 := h14.2.1 (by omega)
        refine GO.aload_n dX12_sum_131 rfl rfl ?_
        refine GO.getA (n := 10) h_x fl_RX12_298 rfl rfl rfl rfl dX12_sum_132 (fun hv20 h19 => ?_)
        refine GO.iload_n dX12_sum_135 rfl rfl ?_
        refine GO.bipush dX12_sum_136 rfl ?_
        refine GO.isub dX12_sum_138 ?_
        refine GO.iald (t := 101) rfl rfl h19 ⟨by omega, by omega⟩ (by omega) (by omega) dX12_sum_139 (fun l21 u22 => ?_)
        refine GO.i2l dX12_sum_140 ?_
        refine GO.anyL (fun z23 => ?_)
        refine GO.goto (tgt := 147) dX12_sum_141 (by decide) ?_
        exact GO.retl rfl rfl dX12_sum_147 ⟨rfl, rfl, _, rfl⟩
    ·
      have q24 := h7.2.1 (by omega)
      refine GO.aload_n dX12_sum_104 rfl rfl ?_
      refine GO.getA (n := 9) h_x fl_RX12_32 rfl rfl rfl rfl dX12_sum_105 (fun hv26 h25 => ?_)
      refine GO.iload_n dX12_sum_108 rfl rfl ?_
      refine GO.bipush dX12_sum_109 rfl ?_
      refine GO.isub dX12_sum_111 ?_
      refine GO.iald (t := 14) rfl rfl h25 ⟨by omega, by omega⟩ (by omega) (by omega) dX12_sum_112 (fun _ _ => ?_)
      refine GO.i2l dX12_sum_113 ?_
      refine GO.anyL (fun z27 => ?_)
      exact GO.retl rfl rfl dX12_sum_114 ⟨rfl, rfl, _, rfl⟩
  ·
    refine GO.tableAt (n := 0) (tgt := 48) dX12_sum_1 (ir_c rfl) c2 (by decide) (by decide) rfl (by decide) ?_
    refine GO.aload_n dX12_sum_48 rfl rfl ?_
    refine GO.getL h_x fl_RX12_429 rfl rfl dX12_sum_49 ?_
    refine GO.anyL (fun z28 => ?_)
    exact GO.retl rfl rfl dX12_sum_52 ⟨rfl, rfl, _, rfl⟩
  ·
    refine GO.tableAt (n := 1) (tgt := 53) dX12_sum_1 (ir_c rfl) c2 (by decide) (by decide) rfl (by decide) ?_
    refine GO.aload_n dX12_sum_53 rfl rfl ?_
    refine GO.getL h_x fl_RX12_654 rfl rfl dX12_sum_54 ?_
    refine GO.anyL (fun z29 => ?_)
    exact GO.retl rfl rfl dX12_sum_57 ⟨rfl, rfl, _, rfl⟩
  ·
    refine GO.tableAt (n := 2) (tgt := 58) dX12_sum_1 (ir_c rfl) c2 (by decide) (by decide) rfl (by decide) ?_
    refine GO.aload_n dX12_sum_58 rfl rfl ?_
    refine GO.getL h_x fl_RX12_657 rfl rfl dX12_sum_59 ?_
    refine GO.anyL (fun z30 => ?_)
    exact GO.retl rfl rfl dX12_sum_62 ⟨rfl, rfl, _, rfl⟩
  ·
    refine GO.tableAt (n := 3) (tgt := 63) dX12_sum_1 (ir_c rfl) c2 (by decide) (by decide) rfl (by decide) ?_
    refine GO.aload_n dX12_sum_63 rfl rfl ?_
    refine GO.getL h_x fl_RX12_632 rfl rfl dX12_sum_64 ?_
    refine GO.anyL (fun z31 => ?_)
    exact GO.retl rfl rfl dX12_sum_67 ⟨rfl, rfl, _, rfl⟩
  ·
    refine GO.tableAt (n := 4) (tgt := 68) dX12_sum_1 (ir_c rfl) c2 (by decide) (by decide) rfl (by decide) ?_
    refine GO.aload_n dX12_sum_68 rfl rfl ?_
    refine GO.getL h_x fl_RX12_679 rfl rfl dX12_sum_69 ?_
    refine GO.anyL (fun z32 => ?_)
    exact GO.retl rfl rfl dX12_sum_72 ⟨rfl, rfl, _, rfl⟩
  ·
    refine GO.tableAt (n := 5) (tgt := 73) dX12_sum_1 (ir_c rfl) c2 (by decide) (by decide) rfl (by decide) ?_
    refine GO.aload_n dX12_sum_73 rfl rfl ?_
    refine GO.getL h_x fl_RX12_682 rfl rfl dX12_sum_74 ?_
    refine GO.anyL (fun z33 => ?_)
    exact GO.retl rfl rfl dX12_sum_77 ⟨rfl, rfl, _, rfl⟩
  ·
    refine GO.tableAt (n := 6) (tgt := 78) dX12_sum_1 (ir_c rfl) c2 (by decide) (by decide) rfl (by decide) ?_
    refine GO.aload_n dX12_sum_78 rfl rfl ?_
    refine GO.getL h_x fl_RX12_635 rfl rfl dX12_sum_79 ?_
    refine GO.anyL (fun z34 => ?_)
    exact GO.retl rfl rfl dX12_sum_82 ⟨rfl, rfl, _, rfl⟩
  ·
    refine GO.tableAt (n := 7) (tgt := 83) dX12_sum_1 (ir_c rfl) c2 (by decide) (by decide) rfl (by decide) ?_
    refine GO.aload_n dX12_sum_83 rfl rfl ?_
    refine GO.getL h_x fl_RX12_673 rfl rfl dX12_sum_84 ?_
    refine GO.anyL (fun z35 => ?_)
    exact GO.retl rfl rfl dX12_sum_87 ⟨rfl, rfl, _, rfl⟩

set_option maxHeartbeats 1000000 in
theorem t_X12_count {K : Kmap} {V : Vmap} {x : Nat} {p0 : Int} (h_x : K x = some (0, 11)) (r_p0 : ir p0) : MC mX12_count K V [.ref x, ti p0] (IP K V (fun X => True)) := by
  refine MC.start 2 (by decide +kernel) rfl rfl rfl (ls0 := [some (.ref x), some (ti p0), none, none]) rfl ?_
  refine GO.iconst dX12_count_0 ?_
  refine GO.istore_n (ls1 := [some (.ref x), some (ti p0), some (ti 0), none]) dX12_count_1 rfl rfl rfl ?_
  refine GO.iload_n dX12_count_2 rfl rfl ?_
  have q1 : -2147483648 ≤ p0 ∧ p0 ≤ 2147483647 := r_p0
  rcases (show (p0 < 0 ∨ 16 < p0) ∨ p0 = 0 ∨ p0 = 1 ∨ p0 = 2 ∨ p0 = 3 ∨ p0 = 4 ∨ p0 = 5 ∨ p0 = 6 ∨ p0 = 7 ∨ p0 = 8 ∨ p0 = 9 ∨ p0 = 10 ∨ p0 = 11 ∨ p0 = 12 ∨ p0 = 13 ∨ p0 = 14 ∨ p0 = 15 ∨ p0 = 16 by omega) with c2 | c2 | c2 | c2 | c2 | c2 | c2 | c2 | c2 | c2 | c2 | c2 | c2 | c2 | c2 | c2 | c2 | c2
  ·
    refine GO.tableOut (tgt := 199) dX12_count_3 r_p0 c2 (by decide) ?_
    refine GO.iload_n dX12_count_199 rfl rfl ?_
    refine GO.bipush dX12_count_200 rfl ?_
    refine GO.bipush dX12_count_202 rfl ?_
    refine GO.aload_n dX12_count_204 rfl rfl ?_
    refine GO.getI h_x fl_RX12_393 rfl rfl dX12_count_205 (fun l3 u4 => ?_)
    refine GO.iadd dX12_count_208 ?_
    refine GO.callS (N := mX12_in) dX12_count_209 gS_RX12_371 (t_X12_in r_p0 (ir_c rfl) ⟨by omega, by omega⟩) rfl [] rfl rfl (Nat.le_of_ble_eq_true rfl) rfl (k_ip fun X5 r6 h7 => ?_)
    have raw_in := h7.2.2.2
    have rw209 := h7.2.2.2
    refine GO.if_eq (tgt := 227) dX12_count_212 (by decide) r6 (fun c8 => ?_) (fun c8 => ?_)
    ·
      have q9 := h7.2.2.1 (by omega)
      refine GO.iconst dX12_count_227 ?_
      exact GO.reti rfl rfl dX12_count_228 ⟨rfl, rfl, _, rfl, (ir_c rfl), trivial⟩
    ·
      have q10 := h7.2.1 (by omega)
      refine GO.aload_n dX12_count_215 rfl rfl ?_
      refine GO.getA (n := 9) h_x fl_RX12_29 rfl rfl rfl rfl dX12_count_216 (fun hv12 h11 => ?_)
      refine GO.iload_n dX12_count_219 rfl rfl ?_
      refine GO.bipush dX12_count_220 rfl ?_
      refine GO.isub dX12_count_222 ?_
      refine GO.iald (t := 13) rfl rfl h11 ⟨by omega, by omega⟩ (by omega) (by omega) dX12_count_223 (fun _ _ => ?_)
      refine GO.goto (tgt := 228) dX12_count_224 (by decide) ?_
      have q13 : -2147483648 ≤ vi V (vq V x 11) (p0 - 20).toNat ∧ vi V (vq V x 11) (p0 - 20).toNat ≤ 2147483647 := vi_ir
      exact GO.reti rfl rfl dX12_count_228 ⟨rfl, rfl, _, rfl, vi_ir, trivial⟩
  ·
    refine GO.tableAt (n := 0) (tgt := 84) dX12_count_3 (ir_c rfl) c2 (by decide) (by decide) rfl (by decide) ?_
    refine GO.aload_n dX12_count_84 rfl rfl ?_
    refine GO.getI h_x fl_RX12_396 rfl rfl dX12_count_85 (fun l14 u15 => ?_)
    exact GO.reti rfl rfl dX12_count_88 ⟨rfl, rfl, _, rfl, vi_ir, trivial⟩
  ·
    refine GO.tableAt (n := 1) (tgt := 89) dX12_count_3 (ir_c rfl) c2 (by decide) (by decide) rfl (by decide) ?_
    refine GO.aload_n dX12_count_89 rfl rfl ?_
    refine GO.getI h_x fl_RX12_365 rfl rfl dX12_count_90 (fun l16 u17 => ?_)
    exact GO.reti rfl rfl dX12_count_93 ⟨rfl, rfl, _, rfl, vi_ir, trivial⟩
  ·
    refine GO.tableAt (n := 2) (tgt := 94) dX12_count_3 (ir_c rfl) c2 (by decide) (by decide) rfl (by decide) ?_
    refine GO.aload_n dX12_count_94 rfl rfl ?_
    refine GO.getI h_x fl_RX12_368 rfl rfl dX12_count_95 (fun l18 u19 => ?_)
    exact GO.reti rfl rfl dX12_count_98 ⟨rfl, rfl, _, rfl, vi_ir, trivial⟩
  ·
    refine GO.tableAt (n := 3) (tgt := 99) dX12_count_3 (ir_c rfl) c2 (by decide) (by decide) rfl (by decide) ?_
    refine GO.aload_n dX12_count_99 rfl rfl ?_
    refine GO.getI h_x fl_RX12_393 rfl rfl dX12_count_100 (fun l20 u21 => ?_)
    exact GO.reti rfl rfl dX12_count_103 ⟨rfl, rfl, _, rfl, vi_ir, trivial⟩
  ·
    refine GO.tableAt (n := 4) (tgt := 104) dX12_count_3 (ir_c rfl) c2 (by decide) (by decide) rfl (by decide) ?_
    refine GO.aload_n dX12_count_104 rfl rfl ?_
    refine GO.getI h_x fl_RX12_375 rfl rfl dX12_count_105 (fun l22 u23 => ?_)
    exact GO.reti rfl rfl dX12_count_108 ⟨rfl, rfl, _, rfl, vi_ir, trivial⟩
  ·
    refine GO.tableAt (n := 5) (tgt := 109) dX12_count_3 (ir_c rfl) c2 (by decide) (by decide) rfl (by decide) ?_
    refine GO.aload_n dX12_count_109 rfl rfl ?_
    refine GO.getI h_x fl_RX12_535 rfl rfl dX12_count_110 (fun l24 u25 => ?_)
    exact GO.reti rfl rfl dX12_count_113 ⟨rfl, rfl, _, rfl, vi_ir, trivial⟩
  ·
    refine GO.tableAt (n := 6) (tgt := 114) dX12_count_3 (ir_c rfl) c2 (by decide) (by decide) rfl (by decide) ?_
    refine GO.aload_n dX12_count_114 rfl rfl ?_
    refine GO.getI h_x fl_RX12_547 rfl rfl dX12_count_115 (fun l26 u27 => ?_)
    exact GO.reti rfl rfl dX12_count_118 ⟨rfl, rfl, _, rfl, vi_ir, trivial⟩
  ·
    refine GO.tableAt (n := 7) (tgt := 119) dX12_count_3 (ir_c rfl) c2 (by decide) (by decide) rfl (by decide) ?_
    refine GO.aload_n dX12_count_119 rfl rfl ?_
    refine GO.getI h_x fl_RX12_378 rfl rfl dX12_count_120 (fun l28 u29 => ?_)
    exact GO.reti rfl rfl dX12_count_123 ⟨rfl, rfl, _, rfl, vi_ir, trivial⟩
  ·
    refine GO.tableAt (n := 8) (tgt := 124) dX12_count_3 (ir_c rfl) c2 (by decide) (by decide) rfl (by decide) ?_
    refine GO.aload_n dX12_count_124 rfl rfl ?_
    refine GO.getI h_x fl_RX12_612 rfl rfl dX12_count_125 (fun l30 u31 => ?_)
    exact GO.reti rfl rfl dX12_count_128 ⟨rfl, rfl, _, rfl, vi_ir, trivial⟩
  ·
    refine GO.tableAt (n := 9) (tgt := 129) dX12_count_3 (ir_c rfl) c2 (by decide) (by decide) rfl (by decide) ?_
    refine GO.iconst dX12_count_129 ?_
    refine GO.istore_n (ls1 := [some (.ref x), some (ti p0), some (ti 0), some (ti 0)]) dX12_count_130 rfl rfl rfl ?_
    refine GO.loop2 (fun i32 i33 W => (-2147483648) ≤ i32 ∧ i32 ≤ 2147483647 ∧ 0 ≤ i33 ∧ i33 ≤ 40 ∧ V = W) (fun i32 i33 => [some (.ref x), some (ti p0), some (ti i32), some (ti i33)]) (fun i32 i33 W => (2147483647 - i33).toNat) 0 0 ⟨by omega, by omega, by omega, by omega, rfl⟩ rfl (fun i32 i33 V424 hp426 ih425 => ?_)
    obtain ⟨l_i32, u_i32, l_i33, u_i33, rfl⟩ := hp426
    have r_i32 : ir i32 := ⟨by omega, by omega⟩
    have r_i33 : ir i33 := ⟨by omega, by omega⟩
    show GO mX12_count K V (IP K V (fun X => True)) K V 0 0 131 [some (.ref x), some (ti p0), some (ti i32), some (ti i33)] []
    refine GO.iload_n dX12_count_131 rfl rfl ?_
    refine GO.aload_n dX12_count_132 rfl rfl ?_
    refine GO.getI h_x fl_RX12_648 rfl rfl dX12_count_133 (fun l427 u428 => ?_)
    refine GO.icmp_ge (tgt := 162) dX12_count_136 (by decide) r_i33 vi_ir (fun c429 => ?_) (fun c429 => ?_)
    ·
      refine GO.iload_n dX12_count_162 rfl rfl ?_
      exact GO.reti rfl rfl dX12_count_163 ⟨rfl, rfl, _, rfl, r_i32, trivial⟩
    ·
      refine GO.iload_n dX12_count_139 rfl rfl ?_
      refine GO.aload_n dX12_count_140 rfl rfl ?_
      refine GO.getA (n := 40) h_x fl_RX12_259 rfl rfl rfl rfl dX12_count_141 (fun hv431 h430 => ?_)
      refine GO.iload_n dX12_count_144 rfl rfl ?_
      refine GO.zald (t := 89) rfl rfl h430 r_i33 (by omega) (by omega) dX12_count_145 (fun l432 u433 => ?_)
      refine GO.if_eq (tgt := 153) dX12_count_146 (by decide) vi_ir (fun c434 => ?_) (fun c434 => ?_)
      ·
        refine GO.iconst dX12_count_153 ?_
        refine GO.iadd dX12_count_154 ?_
        refine GO.name (fun z435 hz436 => ?_)
        refine GO.istore_n (ls1 := [some (.ref x), some (ti p0), some (ti z435), some (ti i33)]) dX12_count_155 rfl rfl rfl ?_
        refine GO.iinc (X := i33) (n := 1) (Y := i33 + 1) (ls1 := [some (.ref x), some (ti p0), some (ti z435), some (ti (i33 + 1))]) dX12_count_156 rfl rfl rfl rfl ?_
        refine GO.goto (tgt := 131) dX12_count_159 (by decide) ?_
        exact ih425 z435 (i33 + 1) V ⟨by omega, by omega, by omega, by omega, rfl⟩ (by show (2147483647 - (i33 + 1)).toNat < (2147483647 - i33).toNat; omega)
      ·
        refine GO.iconst dX12_count_149 ?_
        refine GO.goto (tgt := 154) dX12_count_150 (by decide) ?_
        refine GO.iadd dX12_count_154 ?_
        refine GO.norm (fun z437 r438 hn439 => ?_)
        refine GO.istore_n (ls1 := [some (.ref x), some (ti p0), some (ti z437), some (ti i33)]) dX12_count_155 rfl rfl rfl ?_
        refine GO.iinc (X := i33) (n := 1) (Y := i33 + 1) (ls1 := [some (.ref x), some (ti p0), some (ti z437), some (ti (i33 + 1))]) dX12_count_156 rfl rfl rfl rfl ?_
        refine GO.goto (tgt := 131) dX12_count_159 (by decide) ?_
        have q440 : -2147483648 ≤ z437 ∧ z437 ≤ 2147483647 := r438
        exact ih425 z437 (i33 + 1) V ⟨by omega, by omega, by omega, by omega, rfl⟩ (by show (2147483647 - (i33 + 1)).toNat < (2147483647 - i33).toNat; omega)
  ·
    refine GO.tableAt (n := 10) (tgt := 164) dX12_count_3 (ir_c rfl) c2 (by decide) (by decide) rfl (by decide) ?_
    refine GO.aload_n dX12_count_164 rfl rfl ?_
    refine GO.getI h_x fl_RX12_660 rfl rfl dX12_count_165 (fun l441 u442 => ?_)
    exact GO.reti rfl rfl dX12_count_168 ⟨rfl, rfl, _, rfl, vi_ir, trivial⟩
  ·
    refine GO.tableAt (n := 11) (tgt := 169) dX12_count_3 (ir_c rfl) c2 (by decide) (by decide) rfl (by decide) ?_
    refine GO.aload_n dX12_count_169 rfl rfl ?_
    refine GO.getI h_x fl_RX12_667 rfl rfl dX12_count_170 (fun l443 u444 => ?_)
    exact GO.reti rfl rfl dX12_count_173 ⟨rfl, rfl, _, rfl, vi_ir, trivial⟩
  ·
    refine GO.tableAt (n := 12) (tgt := 174) dX12_count_3 (ir_c rfl) c2 (by decide) (by decide) rfl (by decide) ?_
    refine GO.aload_n dX12_count_174 rfl rfl ?_
    refine GO.getI h_x fl_RX12_709 rfl rfl dX12_count_175 (fun l445 u446 => ?_)
    exact GO.reti rfl rfl dX12_count_178 ⟨rfl, rfl, _, rfl, vi_ir, trivial⟩
  ·
    refine GO.tableAt (n := 13) (tgt := 179) dX12_count_3 (ir_c rfl) c2 (by decide) (by decide) rfl (by decide) ?_
    refine GO.aload_n dX12_count_179 rfl rfl ?_
    refine GO.getI h_x fl_RX12_718 rfl rfl dX12_count_180 (fun l447 u448 => ?_)
    exact GO.reti rfl rfl dX12_count_183 ⟨rfl, rfl, _, rfl, vi_ir, trivial⟩
  ·
    refine GO.tableAt (n := 14) (tgt := 184) dX12_count_3 (ir_c rfl) c2 (by decide) (by decide) rfl (by decide) ?_
    refine GO.aload_n dX12_count_184 rfl rfl ?_
    refine GO.getI h_x fl_RX12_736 rfl rfl dX12_count_185 (fun l449 u450 => ?_)
    exact GO.reti rfl rfl dX12_count_188 ⟨rfl, rfl, _, rfl, vi_ir, trivial⟩
  ·
    refine GO.tableAt (n := 15) (tgt := 189) dX12_count_3 (ir_c rfl) c2 (by decide) (by decide) rfl (by decide) ?_
    refine GO.aload_n dX12_count_189 rfl rfl ?_
    refine GO.getI h_x fl_RX12_761 rfl rfl dX12_count_190 (fun l451 u452 => ?_)
    exact GO.reti rfl rfl dX12_count_193 ⟨rfl, rfl, _, rfl, vi_ir, trivial⟩
  ·
    refine GO.tableAt (n := 16) (tgt := 194) dX12_count_3 (ir_c rfl) c2 (by decide) (by decide) rfl (by decide) ?_
    refine GO.aload_n dX12_count_194 rfl rfl ?_
    refine GO.getI h_x fl_RX12_436 rfl rfl dX12_count_195 (fun l453 u454 => ?_)
    exact GO.reti rfl rfl dX12_count_198 ⟨rfl, rfl, _, rfl, vi_ir, trivial⟩
