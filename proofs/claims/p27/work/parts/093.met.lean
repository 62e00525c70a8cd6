def mX12_isDoubt : MRec := (RX12, cX12_isDoubt, 4, (some .boolean), yX12_isDoubt, 1, 20, 0, 0, 0)
def mX12_doubt : MRec := (RX12, cX12_doubt, 4, (some .int), yX12_doubt, 2, 43, 0, 0, 0)
def mX12_word : MRec := (RX12, cX12_word, 2, (some .int), yX12_word, 1, 22, 0, 0, 1231312693637327475383720003129487931415978857779377470587357355445721799600117205648298355717619712775701695299584)
def mX12_isWord : MRec := (RX12, cX12_isWord, 2, (some .boolean), yX12_isWord, 0, 0, 0, 0, 0)
def mX12_asks : MRec := (RX12, cX12_asks, 5, (some .boolean), yX12_asks, 1, 21, 0, 0, 7387876161823964852302320018776927588452451113212271250240305013296072832155726989640174922790921682651242748182528)
def mX12_isBlocked : MRec := (RX12, cX12_isBlocked, 5, (some .boolean), yX12_isBlocked, 0, 0, 0, 0, 0)
def mX12_blocks : MRec := (RX12, cX12_blocks, 4, (some .int), yX12_blocks, 1, 24, 0, 0, 0)
def mX12_worthOf : MRec := (RX12, cX12_worthOf, 4, (some .int), yX12_worthOf, 0, 0, 0, 0, 0)
def mX12_bits : MRec := (RX12, cX12_bits, 3, (some .int), yX12_bits, 0, 0, 0, 0, 0)
def mX12_best : MRec := (RX12, cX12_best, 5, (some .int), yX12_best, 2, 47, 0, 0, 0)
def mX12_stop : MRec := (RX12, cX12_stop, 4, (some .int), yX12_stop, 3, 64, 0, 0, 29551504647295859409209280075107710353925596542086401196384791038192979236476177943226340255203144314612884122370048)
set_option maxHeartbeats 1000000 in
theorem t_X12_isDoubt {K : Kmap} {V : Vmap} {x : Nat} {p0 : Int} {p1 : Int} (h_x : K x = some (0, 11)) (r_p0 : ir p0) (r_p1 : ir p1) (q_0 : p0 ≥ 0) (q_1 : p0 ≤ 199) (q_2 : p1 ≥ 0) (q_3 : p1 ≤ 199) : MC mX12_isDoubt K V [.ref x, ti p0, ti p1] (IP K V (fun X => (X = 0 ∨ X = 1) ∧ (X ≠ 0 → True) ∧ (X = 0 → True))) := by
  refine MC.start 1 (by decide +kernel) rfl rfl rfl (ls0 := [some (.ref x), some (ti p0), some (ti p1), none]) rfl ?_
  refine GO.aload_n dX12_isDoubt_0 rfl rfl ?_
  refine GO.getA (n := 200) h_x fl_RX12_316 rfl rfl rfl rfl dX12_isDoubt_1 (fun hv2 h1 => ?_)
  refine GO.iload_n dX12_isDoubt_4 rfl rfl ?_
  have q3 : -2147483648 ≤ p0 ∧ p0 ≤ 2147483647 := r_p0
  refine GO.iald (t := 107) rfl rfl h1 r_p0 (by omega) (by omega) dX12_isDoubt_5 (fun l4 u5 => ?_)
  refine GO.aload_n dX12_isDoubt_6 rfl rfl ?_
  refine GO.getRaw h_x fl_RX12_316 hv2 dX12_isDoubt_7 ?_
  refine GO.iload_n dX12_isDoubt_10 rfl rfl ?_
  have q8 : -2147483648 ≤ p1 ∧ p1 ≤ 2147483647 := r_p1
  refine GO.iald (t := 107) rfl rfl h1 r_p1 (by omega) (by omega) dX12_isDoubt_11 (fun l9 u10 => ?_)
  refine GO.isub dX12_isDoubt_12 ?_
  refine GO.callS (N := mX12_size) dX12_isDoubt_13 gS_RX12_385 (t_X12_size ⟨by omega, by omega⟩ (by omega) (by omega)) rfl [] rfl rfl (Nat.le_of_ble_eq_true rfl) rfl (k_ip fun X11 r12 h13 => ?_)
  refine GO.istore_n (ls1 := [some (.ref x), some (ti p0), some (ti p1), some (ti X11)]) dX12_isDoubt_16 rfl rfl rfl ?_
  refine GO.aload_n dX12_isDoubt_17 rfl rfl ?_
  refine GO.getA (n := 200) h_x fl_RX12_304 rfl rfl rfl rfl dX12_isDoubt_18 (fun hv15 h14 => ?_)
  refine GO.iload_n dX12_isDoubt_21 rfl rfl ?_
  refine GO.iald (t := 103) rfl rfl h14 r_p0 (by omega) (by omega) dX12_isDoubt_22 (fun l16 u17 => ?_)
  refine GO.aload_n dX12_isDoubt_23 rfl rfl ?_
  refine GO.getRaw h_x fl_RX12_304 hv15 dX12_isDoubt_24 ?_
  refine GO.iload_n dX12_isDoubt_27 rfl rfl ?_
  refine GO.iald (t := 103) rfl rfl h14 r_p1 (by omega) (by omega) dX12_isDoubt_28 (fun l20 u21 => ?_)
  refine GO.icmp_ne (tgt := 80) dX12_isDoubt_29 (by decide) vi_ir vi_ir (fun c22 => ?_) (fun c22 => ?_)
  ·
    refine GO.iconst dX12_isDoubt_80 ?_
    exact GO.retz rfl rfl dX12_isDoubt_81 (by omega) ⟨rfl, rfl, _, rfl, (ir_c rfl), ⟨by omega, fun _ => trivial, fun _ => trivial⟩⟩
  ·
    refine GO.aload_n dX12_isDoubt_32 rfl rfl ?_
    refine GO.getA (n := 200) h_x fl_RX12_310 rfl rfl rfl rfl dX12_isDoubt_33 (fun hv24 h23 => ?_)
    refine GO.iload_n dX12_isDoubt_36 rfl rfl ?_
    refine GO.iald (t := 105) rfl rfl h23 r_p0 (by omega) (by omega) dX12_isDoubt_37 (fun l25 u26 => ?_)
    refine GO.aload_n dX12_isDoubt_38 rfl rfl ?_
    refine GO.getRaw h_x fl_RX12_310 hv24 dX12_isDoubt_39 ?_
    refine GO.iload_n dX12_isDoubt_42 rfl rfl ?_
    refine GO.iald (t := 105) rfl rfl h23 r_p1 (by omega) (by omega) dX12_isDoubt_43 (fun l29 u30 => ?_)
    refine GO.icmp_eq (tgt := 80) dX12_isDoubt_44 (by decide) vi_ir vi_ir (fun c31 => ?_) (fun c31 => ?_)
    ·
      refine GO.iconst dX12_isDoubt_80 ?_
      exact GO.retz rfl rfl dX12_isDoubt_81 (by omega) ⟨rfl, rfl, _, rfl, (ir_c rfl), ⟨by omega, fun _ => trivial, fun _ => trivial⟩⟩
    ·
      refine GO.iload_n dX12_isDoubt_47 rfl rfl ?_
      refine GO.aload_n dX12_isDoubt_48 rfl rfl ?_
      refine GO.getA (n := 4) h_x fl_RX12_244 rfl rfl rfl rfl dX12_isDoubt_49 (fun hv33 h32 => ?_)
      refine GO.aload_n dX12_isDoubt_52 rfl rfl ?_
      refine GO.getRaw h_x fl_RX12_310 hv24 dX12_isDoubt_53 ?_
      refine GO.iload_n dX12_isDoubt_56 rfl rfl ?_
      refine GO.iald (t := 105) rfl rfl h23 r_p0 (by omega) (by omega) dX12_isDoubt_57 (fun l36 u37 => ?_)
      refine GO.iald (t := 84) rfl rfl h32 vi_ir (by omega) (by omega) dX12_isDoubt_58 (fun _ _ => ?_)
      refine GO.aload_n dX12_isDoubt_59 rfl rfl ?_
      refine GO.getRaw h_x fl_RX12_244 hv33 dX12_isDoubt_60 ?_
      refine GO.aload_n dX12_isDoubt_63 rfl rfl ?_
      refine GO.getRaw h_x fl_RX12_310 hv24 dX12_isDoubt_64 ?_
      refine GO.iload_n dX12_isDoubt_67 rfl rfl ?_
      refine GO.iald (t := 105) rfl rfl h23 r_p1 (by omega) (by omega) dX12_isDoubt_68 (fun l42 u43 => ?_)
      refine GO.iald (t := 84) rfl rfl h32 vi_ir (by omega) (by omega) dX12_isDoubt_69 (fun _ _ => ?_)
      refine GO.iadd dX12_isDoubt_70 ?_
      refine GO.norm (fun z44 r45 _ => ?_)
      refine GO.iconst dX12_isDoubt_71 ?_
      refine GO.idiv dX12_isDoubt_72 (ir_c rfl) (by omega) ?_
      refine GO.icmp_ge (tgt := 80) dX12_isDoubt_73 (by decide) r12 wdiv_ir (fun c46 => ?_) (fun c46 => ?_)
      ·
        refine GO.iconst dX12_isDoubt_80 ?_
        exact GO.retz rfl rfl dX12_isDoubt_81 (by omega) ⟨rfl, rfl, _, rfl, (ir_c rfl), ⟨by omega, fun _ => trivial, fun _ => trivial⟩⟩
      ·
        refine GO.iconst dX12_isDoubt_76 ?_
        refine GO.goto (tgt := 81) dX12_isDoubt_77 (by decide) ?_
        exact GO.retz rfl rfl dX12_isDoubt_81 (by omega) ⟨rfl, rfl, _, rfl, (ir_c rfl), ⟨by omega, fun _ => trivial, fun _ => trivial⟩⟩

set_option maxHeartbeats 1000000 in
theorem t_X12_doubt {K : Kmap} {V : Vmap} {x : Nat} {p0 : Int} (h_x : K x = some (0, 11)) (r_p0 : ir p0) : MC mX12_doubt K V [.ref x, ti p0] (IP K V (fun X => True)) := by
  refine MC.start 2 (by decide +kernel) rfl rfl rfl (ls0 := [some (.ref x), some (ti p0), none, none]) rfl ?_
  refine GO.iload_n dX12_doubt_0 rfl rfl ?_
  refine GO.iconst dX12_doubt_1 ?_
  refine GO.iconst dX12_doubt_2 ?_
  refine GO.callS (N := mX12_in) dX12_doubt_3 gS_RX12_371 (t_X12_in r_p0 (ir_c rfl) (ir_c rfl)) rfl [] rfl rfl (Nat.le_of_ble_eq_true rfl) rfl (k_ip fun X1 r2 h3 => ?_)
  refine GO.if_ne (tgt := 11) dX12_doubt_6 (by decide) r2 (fun c4 => ?_) (fun c4 => ?_)
  ·
    have q5 := h3.2.1 (by omega)
    refine GO.iconst dX12_doubt_11 ?_
    refine GO.istore_n (ls1 := [some (.ref x), some (ti p0), some (ti 0), none]) dX12_doubt_12 rfl rfl rfl ?_
    refine GO.loop1 (fun i6 W => 0 ≤ i6 ∧ i6 ≤ 200 ∧ V = W) (fun i6 => [some (.ref x), some (ti p0), some (ti i6), none]) (fun i6 W => (2147483647 - i6).toNat) 0 ⟨by omega, by omega, rfl⟩ rfl (fun i6 V680 hp682 ih681 => ?_)
    obtain ⟨l_i6, u_i6, rfl⟩ := hp682
    have r_i6 : ir i6 := ⟨by omega, by omega⟩
    show GO mX12_doubt K V (IP K V (fun X => True)) K V 0 0 13 [some (.ref x), some (ti p0), some (ti i6), none] []
    refine GO.iload_n dX12_doubt_13 rfl rfl ?_
    refine GO.aload_n dX12_doubt_14 rfl rfl ?_
    refine GO.getI h_x fl_RX12_709 rfl rfl dX12_doubt_15 (fun l683 u684 => ?_)
    refine GO.icmp_ge (tgt := 64) dX12_doubt_18 (by decide) r_i6 vi_ir (fun c685 => ?_) (fun c685 => ?_)
    ·
      refine GO.iconst dX12_doubt_64 ?_
      exact GO.reti rfl rfl dX12_doubt_65 ⟨rfl, rfl, _, rfl, (ir_c rfl), trivial⟩
    ·
      refine GO.iload_n dX12_doubt_21 rfl rfl ?_
      refine GO.iconst dX12_doubt_22 ?_
      refine GO.iadd dX12_doubt_23 ?_
      refine GO.name (fun z686 hz687 => ?_)
      refine GO.istore_n (ls1 := [some (.ref x), some (ti p0), some (ti i6), some (ti z686)]) dX12_doubt_24 rfl rfl rfl ?_
      refine GO.loop1 (fun i688 W => 1 ≤ i688 ∧ i688 ≤ 200 ∧ V = W) (fun i688 => [some (.ref x), some (ti p0), some (ti i6), some (ti i688)]) (fun i688 W => (2147483647 - i688).toNat) z686 ⟨by omega, by omega, rfl⟩ rfl (fun i688 V697 hp699 ih698 => ?_)
      obtain ⟨l_i688, u_i688, rfl⟩ := hp699
      have r_i688 : ir i688 := ⟨by omega, by omega⟩
      show GO mX12_doubt K V (IP K V (fun X => True)) K V 0 0 25 [some (.ref x), some (ti p0), some (ti i6), some (ti i688)] []
      refine GO.iload_n dX12_doubt_25 rfl rfl ?_
      refine GO.aload_n dX12_doubt_26 rfl rfl ?_
      refine GO.getI h_x fl_RX12_709 rfl rfl dX12_doubt_27 (fun l700 u701 => ?_)
      refine GO.icmp_ge (tgt := 58) dX12_doubt_30 (by decide) r_i688 vi_ir (fun c702 => ?_) (fun c702 => ?_)
      ·
        refine GO.iinc (X := i6) (n := 1) (Y := i6 + 1) (ls1 := [some (.ref x), some (ti p0), some (ti (i6 + 1)), some (ti i688)]) dX12_doubt_58 rfl rfl rfl rfl ?_
        refine GO.goto (tgt := 13) dX12_doubt_61 (by decide) ?_
        refine GO.drop [true, true, true, false] rfl ?_
        exact ih681 (i6 + 1) V ⟨by omega, by omega, rfl⟩ (by show (2147483647 - (i6 + 1)).toNat < (2147483647 - i6).toNat; omega)
      ·
        refine GO.aload_n dX12_doubt_33 rfl rfl ?_
        refine GO.iload_n dX12_doubt_34 rfl rfl ?_
        refine GO.iload_n dX12_doubt_35 rfl rfl ?_
        refine GO.callV (ci := 11) (N := mX12_isDoubt) dX12_doubt_36 (RX12, TX12, 151) rfl gV_RX12_715 h_x (t_X12_isDoubt h_x r_i6 r_i688 (by omega) (by omega) (by omega) (by omega)) rfl [] rfl rfl (Nat.le_of_ble_eq_true rfl) rfl (k_ip fun X703 r704 h705 => ?_)
        refine GO.if_eq (tgt := 52) dX12_doubt_39 (by decide) r704 (fun c706 => ?_) (fun c706 => ?_)
        ·
          refine GO.iinc (X := i688) (n := 1) (Y := i688 + 1) (ls1 := [some (.ref x), some (ti p0), some (ti i6), some (ti (i688 + 1))]) dX12_doubt_52 rfl rfl rfl rfl ?_
          refine GO.goto (tgt := 25) dX12_doubt_55 (by decide) ?_
          exact ih698 (i688 + 1) V ⟨by omega, by omega, rfl⟩ (by show (2147483647 - (i688 + 1)).toNat < (2147483647 - i688).toNat; omega)
        ·
          refine GO.iload_n dX12_doubt_42 rfl rfl ?_
          refine GO.if_ne (tgt := 50) dX12_doubt_43 (by decide) r_p0 (fun c707 => ?_) (fun c707 => ?_)
          ·
            refine GO.iload_n dX12_doubt_50 rfl rfl ?_
            exact GO.reti rfl rfl dX12_doubt_51 ⟨rfl, rfl, _, rfl, r_i688, trivial⟩
          ·
            refine GO.iload_n dX12_doubt_46 rfl rfl ?_
            refine GO.goto (tgt := 51) dX12_doubt_47 (by decide) ?_
            exact GO.reti rfl rfl dX12_doubt_51 ⟨rfl, rfl, _, rfl, r_i6, trivial⟩
  ·
    have q708 := h3.2.2 (by omega)
    refine GO.iconst dX12_doubt_9 ?_
    exact GO.reti rfl rfl dX12_doubt_10 ⟨rfl, rfl, _, rfl, (ir_c rfl), trivial⟩

set_option maxHeartbeats 1000000 in
theorem t_X12_word {K : Kmap} {V : Vmap} {x : Nat} {p0 : Int} (h_x : K x = some (0, 11)) (r_p0 : ir p0) : MC mX12_word K V [.ref x, ti p0] (IS K (fun X V1 => True)) := by
  refine MC.start 0 (by decide +kernel) rfl rfl rfl (ls0 := [some (.ref x), some (ti p0)]) rfl ?_
  refine GO.iload_n dX12_word_0 rfl rfl ?_
  refine GO.iconst dX12_word_1 ?_
  refine GO.sipush dX12_word_2 rfl ?_
  refine GO.callS (N := mX12_in) dX12_word_5 gS_RX12_371 (t_X12_in r_p0 (ir_c rfl) (ir_c rfl)) rfl [] rfl rfl (Nat.le_of_ble_eq_true rfl) rfl (k_ip fun X1 r2 h3 => ?_)
  refine GO.if_eq (tgt := 20) dX12_word_8 (by decide) r2 (fun c4 => ?_) (fun c4 => ?_)
  ·
    have q5 := h3.2.2 (by omega)
    refine GO.iconst dX12_word_20 ?_
    exact GO.reti rfl rfl dX12_word_21 ⟨rfl, _, rfl, (ir_c rfl), trivial⟩
  ·
    have q6 := h3.2.1 (by omega)
    refine GO.aload_n dX12_word_11 rfl rfl ?_
    refine GO.getI h_x fl_RX12_718 rfl rfl dX12_word_12 (fun l7 u8 => ?_)
    refine GO.bipush dX12_word_15 rfl ?_
    refine GO.icmp_ne (tgt := 22) dX12_word_17 (by decide) vi_ir (ir_c rfl) (fun c9 => ?_) (fun c9 => ?_)
    ·
      refine GO.aload_n dX12_word_22 rfl rfl ?_
      refine GO.getA (n := 7) h_x fl_RX12_319 rfl rfl rfl rfl dX12_word_23 (fun hv11 h10 => ?_)
      refine GO.aload_n dX12_word_26 rfl rfl ?_
      refine GO.getI h_x fl_RX12_718 rfl rfl dX12_word_27 (fun l12 u13 => ?_)
      refine GO.iload_n dX12_word_30 rfl rfl ?_
      refine GO.iast (t := 108) rfl rfl (by decide +kernel) h10 vi_ir (by omega) (by omega) r_p0 (r_p0).1 (r_p0).2 dX12_word_31 (fun V15 e14 => ?_)
      refine GO.aload_n dX12_word_32 rfl rfl ?_
      refine GO.aload_n dX12_word_33 rfl rfl ?_
      refine GO.getI h_x fl_RX12_718 rfl rfl dX12_word_34 (fun l16 u17 => ?_)
      have e18 : vi V15 x 133 = vi V x 133 := vi_up e14 (Or.inl (K_ne h_x h10 (by decide)))
      refine GO.iconst dX12_word_37 ?_
      refine GO.iadd dX12_word_38 ?_
      refine GO.putI h_x fp_RX12_718 rfl (by decide +kernel) ⟨by omega, by omega⟩ (by omega) (by omega) dX12_word_39 (fun V20 e19 => ?_)
      refine GO.aload_n dX12_word_42 rfl rfl ?_
      refine GO.getI h_x fl_RX12_718 rfl rfl dX12_word_43 (fun l21 u22 => ?_)
      have e23 : vi V20 x 133 = (vi V15 x 133) + 1 := upd2_int e19 ⟨by omega, by omega⟩
      refine GO.iconst dX12_word_46 ?_
      refine GO.isub dX12_word_47 ?_
      exact GO.reti rfl rfl dX12_word_48 ⟨rfl, _, rfl, ⟨by omega, by omega⟩, trivial⟩
    ·
      refine GO.iconst dX12_word_20 ?_
      exact GO.reti rfl rfl dX12_word_21 ⟨rfl, _, rfl, (ir_c rfl), trivial⟩

set_option maxHeartbeats 1000000 in
theorem t_X12_isWord {K : Kmap} {V : Vmap} {x : Nat} {p0 : Int} (h_x : K x = some (0, 11)) (r_p0 : ir p0) : MC mX12_isWord K V [.ref x, ti p0] (IP K V (fun X => (X = 0 ∨ X = 1) ∧ (X ≠ 0 → p0 ≥ 0 ∧ p0 ≤ 6) ∧ (X = 0 → True))) := by
  refine MC.start 0 (by decide +kernel) rfl rfl rfl (ls0 := [some (.ref x), some (ti p0)]) rfl ?_
  refine GO.iload_n dX12_isWord_0 rfl rfl ?_
  refine GO.if_lt (tgt := 16) dX12_isWord_1 (by decide) r_p0 (fun c1 => ?_) (fun c1 => ?_)
  ·
    refine GO.iconst dX12_isWord_16 ?_
    exact GO.retz rfl rfl dX12_isWord_17 (by omega) ⟨rfl, rfl, _, rfl, (ir_c rfl), ⟨by omega, fun h => by omega, fun _ => trivial⟩⟩
  ·
    refine GO.iload_n dX12_isWord_4 rfl rfl ?_
    refine GO.aload_n dX12_isWord_5 rfl rfl ?_
    refine GO.getI h_x fl_RX12_718 rfl rfl dX12_isWord_6 (fun l2 u3 => ?_)
    refine GO.icmp_ge (tgt := 16) dX12_isWord_9 (by decide) r_p0 vi_ir (fun c4 => ?_) (fun c4 => ?_)
    ·
      refine GO.iconst dX12_isWord_16 ?_
      exact GO.retz rfl rfl dX12_isWord_17 (by omega) ⟨rfl, rfl, _, rfl, (ir_c rfl), ⟨by omega, fun h => by omega, fun _ => trivial⟩⟩
    ·
      refine GO.iconst dX12_isWord_12 ?_
      refine GO.goto (tgt := 17) dX12_isWord_13 (by decide) ?_
      exact GO.retz rfl rfl dX12_isWord_17 (by omega) ⟨rfl, rfl, _, rfl, (ir_c rfl), ⟨by omega, fun h => by omega, fun _ => trivial⟩⟩

set_option maxHeartbeats 1000000 in
theorem t_X12_asks {K : Kmap} {V : Vmap} {x : Nat} {p0 : Int} {p1 : Int} {p2 : Int} (h_x : K x = some (0, 11)) (r_p0 : ir p0) (r_p1 : ir p1) (r_p2 : ir p2) : MC mX12_asks K V [.ref x, ti p0, ti p1, ti p2] (IS K (fun X V1 => (X = 0 ∨ X = 1) ∧ (X ≠ 0 → True) ∧ (X = 0 → True))) := by
  refine MC.start 1 (by decide +kernel) rfl rfl rfl (ls0 := [some (.ref x), some (ti p0), some (ti p1), some (ti p2), none]) rfl ?_
  refine GO.aload_n dX12_asks_0 rfl rfl ?_
  refine GO.iload_n dX12_asks_1 rfl rfl ?_
  refine GO.callV (ci := 11) (N := mX12_isParty) dX12_asks_2 (RX12, TX12, 151) rfl gV_RX12_406 h_x (t_X12_isParty h_x r_p0) rfl [] rfl rfl (Nat.le_of_ble_eq_true rfl) rfl (k_ip fun X1 r2 h3 => ?_)
  refine GO.if_eq (tgt := 34) dX12_asks_5 (by decide) r2 (fun c4 => ?_) (fun c4 => ?_)
  ·
    refine GO.iconst dX12_asks_34 ?_
    exact GO.retz rfl rfl dX12_asks_35 (by omega) ⟨rfl, _, rfl, (ir_c rfl), ⟨by omega, fun _ => trivial, fun _ => trivial⟩⟩
  ·
    have q5 := h3.2.1 (by omega)
    refine GO.aload_n dX12_asks_8 rfl rfl ?_
    refine GO.iload_n dX12_asks_9 rfl rfl ?_
    refine GO.callV (ci := 11) (N := mX12_isWord) dX12_asks_10 (RX12, TX12, 151) rfl gV_RX12_721 h_x (t_X12_isWord h_x r_p1) rfl [] rfl rfl (Nat.le_of_ble_eq_true rfl) rfl (k_ip fun X6 r7 h8 => ?_)
    refine GO.if_eq (tgt := 34) dX12_asks_13 (by decide) r7 (fun c9 => ?_) (fun c9 => ?_)
    ·
      refine GO.iconst dX12_asks_34 ?_
      exact GO.retz rfl rfl dX12_asks_35 (by omega) ⟨rfl, _, rfl, (ir_c rfl), ⟨by omega, fun _ => trivial, fun _ => trivial⟩⟩
    ·
      have q10 := h8.2.1 (by omega)
      refine GO.iload_n dX12_asks_16 rfl rfl ?_
      refine GO.iconst dX12_asks_17 ?_
      have hj17 : ∀ (l18 : (-1) ≤ p2), ∀ (u19 : p2 ≤ 6), GO mX12_asks K V (IS K (fun X V1 => (X = 0 ∨ X = 1) ∧ (X ≠ 0 → True) ∧ (X = 0 → True))) K V 0 0 29 [some (.ref x), some (ti p0), some (ti p1), some (ti p2), none] [] := by
        intro l18 u19
        refine GO.iload_n dX12_asks_29 rfl rfl ?_
        refine GO.iload_n dX12_asks_30 rfl rfl ?_
        refine GO.icmp_ne (tgt := 36) dX12_asks_31 (by decide) r_p1 r_p2 (fun c20 => ?_) (fun c20 => ?_)
        ·
          refine GO.bipush dX12_asks_36 rfl ?_
          refine GO.iload_n dX12_asks_38 rfl rfl ?_
          refine GO.imul dX12_asks_39 ?_
          refine GO.iload_n dX12_asks_40 rfl rfl ?_
          refine GO.iadd dX12_asks_41 ?_
          refine GO.name (fun z21 hz22 => ?_)
          refine GO.istore (ls1 := [some (.ref x), some (ti p0), some (ti p1), some (ti p2), some (ti z21)]) dX12_asks_42 rfl rfl ?_
          refine GO.iload_n dX12_asks_44 rfl rfl ?_
          refine GO.iconst dX12_asks_45 ?_
          have hj39 : GO mX12_asks K V (IS K (fun X V1 => (X = 0 ∨ X = 1) ∧ (X ≠ 0 → True) ∧ (X = 0 → True))) K V 0 0 79 [some (.ref x), some (ti p0), some (ti p1), some (ti p2), some (ti z21)] [] := by
            skip
            refine GO.iload_n dX12_asks_79 rfl rfl ?_
            refine GO.iconst dX12_asks_80 ?_
            refine GO.icmp_ne (tgt := 95) dX12_asks_81 (by decide) r_p2 (ir_c rfl) (fun c40 => ?_) (fun c40 => ?_)
            ·
              refine GO.aload_n dX12_asks_95 rfl rfl ?_
              refine GO.getA (n := 441) h_x fl_RX12_325 rfl rfl rfl rfl dX12_asks_96 (fun hv42 h41 => ?_)
              refine GO.bipush dX12_asks_99 rfl ?_
              refine GO.iload dX12_asks_101 rfl ?_
              refine GO.imul dX12_asks_103 ?_
              refine GO.iload_n dX12_asks_104 rfl rfl ?_
              refine GO.iadd dX12_asks_105 ?_
              refine GO.iconst dX12_asks_106 ?_
              have q43 : -2147483648 ≤ p2 ∧ p2 ≤ 2147483647 := r_p2
              have q44 : -2147483648 ≤ p1 ∧ p1 ≤ 2147483647 := r_p1
              have q45 : -2147483648 ≤ p0 ∧ p0 ≤ 2147483647 := r_p0
              refine GO.zast (t := 110) rfl rfl (by decide +kernel) h41 ⟨by omega, by omega⟩ (by omega) (by omega) (by omega) (by omega) (by omega) dX12_asks_107 (fun V47 e46 => ?_)
              refine GO.iconst dX12_asks_108 ?_
              exact GO.retz rfl rfl dX12_asks_109 (by omega) ⟨rfl, _, rfl, (ir_c rfl), ⟨by omega, fun _ => trivial, fun _ => trivial⟩⟩
            ·
              refine GO.aload_n dX12_asks_84 rfl rfl ?_
              refine GO.getA (n := 63) h_x fl_RX12_322 rfl rfl rfl rfl dX12_asks_85 (fun hv49 h48 => ?_)
              refine GO.iload dX12_asks_88 rfl ?_
              refine GO.iconst dX12_asks_90 ?_
              have q50 : -2147483648 ≤ p1 ∧ p1 ≤ 2147483647 := r_p1
              have q51 : -2147483648 ≤ p0 ∧ p0 ≤ 2147483647 := r_p0
              refine GO.zast (t := 109) rfl rfl (by decide +kernel) h48 ⟨by omega, by omega⟩ (by omega) (by omega) (by omega) (by omega) (by omega) dX12_asks_91 (fun V53 e52 => ?_)
              refine GO.goto (tgt := 108) dX12_asks_92 (by decide) ?_
              refine GO.iconst dX12_asks_108 ?_
              exact GO.retz rfl rfl dX12_asks_109 (by omega) ⟨rfl, _, rfl, (ir_c rfl), ⟨by omega, fun _ => trivial, fun _ => trivial⟩⟩
          refine GO.icmp_ne (tgt := 62) dX12_asks_46 (by decide) r_p2 (ir_c rfl) (fun c54 => ?_) (fun c54 => ?_)
          ·
            refine GO.aload_n dX12_asks_62 rfl rfl ?_
            refine GO.getA (n := 441) h_x fl_RX12_325 rfl rfl rfl rfl dX12_asks_63 (fun hv56 h55 => ?_)
            refine GO.bipush dX12_asks_66 rfl ?_
            refine GO.iload dX12_asks_68 rfl ?_
            refine GO.imul dX12_asks_70 ?_
            refine GO.iload_n dX12_asks_71 rfl rfl ?_
            refine GO.iadd dX12_asks_72 ?_
            have q57 : -2147483648 ≤ p2 ∧ p2 ≤ 2147483647 := r_p2
            have q58 : -2147483648 ≤ p1 ∧ p1 ≤ 2147483647 := r_p1
            have q59 : -2147483648 ≤ p0 ∧ p0 ≤ 2147483647 := r_p0
            refine GO.zald (t := 110) rfl rfl h55 ⟨by omega, by omega⟩ (by omega) (by omega) dX12_asks_73 (fun l60 u61 => ?_)
            refine GO.if_eq (tgt := 79) dX12_asks_74 (by decide) vi_ir (fun c62 => ?_) (fun c62 => ?_)
            ·
              exact hj39 
            ·
              refine GO.iconst dX12_asks_77 ?_
              exact GO.retz rfl rfl dX12_asks_78 (by omega) ⟨rfl, _, rfl, (ir_c rfl), ⟨by omega, fun _ => trivial, fun _ => trivial⟩⟩
          ·
            refine GO.aload_n dX12_asks_49 rfl rfl ?_
            refine GO.getA (n := 63) h_x fl_RX12_322 rfl rfl rfl rfl dX12_asks_50 (fun hv64 h63 => ?_)
            refine GO.iload dX12_asks_53 rfl ?_
            have q65 : -2147483648 ≤ p1 ∧ p1 ≤ 2147483647 := r_p1
            have q66 : -2147483648 ≤ p0 ∧ p0 ≤ 2147483647 := r_p0
            refine GO.zald (t := 109) rfl rfl h63 ⟨by omega, by omega⟩ (by omega) (by omega) dX12_asks_55 (fun l67 u68 => ?_)
            refine GO.if_eq (tgt := 79) dX12_asks_56 (by decide) vi_ir (fun c69 => ?_) (fun c69 => ?_)
            ·
              exact hj39 
            ·
              refine GO.goto (tgt := 77) dX12_asks_59 (by decide) ?_
              refine GO.iconst dX12_asks_77 ?_
              exact GO.retz rfl rfl dX12_asks_78 (by omega) ⟨rfl, _, rfl, (ir_c rfl), ⟨by omega, fun _ => trivial, fun _ => trivial⟩⟩
        ·
          refine GO.iconst dX12_asks_34 ?_
          exact GO.retz rfl rfl dX12_asks_35 (by omega) ⟨rfl, _, rfl, (ir_c rfl), ⟨by omega, fun _ => trivial, fun _ => trivial⟩⟩
      refine GO.icmp_eq (tgt := 29) dX12_asks_18 (by decide) r_p2 (ir_c rfl) (fun c70 => ?_) (fun c70 => ?_)
      ·
        have q71 : -2147483648 ≤ p2 ∧ p2 ≤ 2147483647 := r_p2
        exact hj17  (by omega) (by omega)
      ·
        refine GO.aload_n dX12_asks_21 rfl rfl ?_
        refine GO.iload_n dX12_asks_22 rfl rfl ?_
        refine GO.callV (ci := 11) (N := mX12_isWord) dX12_asks_23 (RX12, TX12, 151) rfl gV_RX12_721 h_x (t_X12_isWord h_x r_p2) rfl [] rfl rfl (Nat.le_of_ble_eq_true rfl) rfl (k_ip fun X72 r73 h74 => ?_)
        refine GO.if_eq (tgt := 34) dX12_asks_26 (by decide) r73 (fun c75 => ?_) (fun c75 => ?_)
        ·
          refine GO.iconst dX12_asks_34 ?_
          exact GO.retz rfl rfl dX12_asks_35 (by omega) ⟨rfl, _, rfl, (ir_c rfl), ⟨by omega, fun _ => trivial, fun _ => trivial⟩⟩
        ·
          have q76 := h74.2.1 (by omega)
          have q77 : -2147483648 ≤ p2 ∧ p2 ≤ 2147483647 := r_p2
          exact hj17  (by omega) (by omega)

set_option maxHeartbeats 1000000 in
theorem t_X12_isBlocked {K : Kmap} {V : Vmap} {x : Nat} {p0 : Int} {p1 : Int} (h_x : K x = some (0, 11)) (r_p0 : ir p0) (r_p1 : ir p1) (q_0 : p0 ≥ 0) (q_1 : p0 ≤ 8) : MC mX12_isBlocked K V [.ref x, ti p0, ti p1] (IP K V (fun X => (X = 0 ∨ X = 1) ∧ (X ≠ 0 → True) ∧ (X = 0 → True))) := by
  refine MC.start 2 (by decide +kernel) rfl rfl rfl (ls0 := [some (.ref x), some (ti p0), some (ti p1), none, none]) rfl ?_
  refine GO.iconst dX12_isBlocked_0 ?_
  refine GO.istore_n (ls1 := [some (.ref x), some (ti p0), some (ti p1), some (ti 0), none]) dX12_isBlocked_1 rfl rfl rfl ?_
  refine GO.loop1 (fun i1 W => 0 ≤ i1 ∧ i1 ≤ 7 ∧ V = W) (fun i1 => [some (.ref x), some (ti p0), some (ti p1), some (ti i1), none]) (fun i1 W => (2147483647 - i1).toNat) 0 ⟨by omega, by omega, rfl⟩ rfl (fun i1 V310 hp312 ih311 => ?_)
  obtain ⟨l_i1, u_i1, rfl⟩ := hp312
  have r_i1 : ir i1 := ⟨by omega, by omega⟩
  show GO mX12_isBlocked K V (IP K V (fun X => (X = 0 ∨ X = 1) ∧ (X ≠ 0 → True) ∧ (X = 0 → True))) K V 0 0 2 [some (.ref x), some (ti p0), some (ti p1), some (ti i1), none] []
  refine GO.iload_n dX12_isBlocked_2 rfl rfl ?_
  refine GO.aload_n dX12_isBlocked_3 rfl rfl ?_
  refine GO.getI h_x fl_RX12_718 rfl rfl dX12_isBlocked_4 (fun l313 u314 => ?_)
  refine GO.icmp_ge (tgt := 99) dX12_isBlocked_7 (by decide) r_i1 vi_ir (fun c315 => ?_) (fun c315 => ?_)
  ·
    refine GO.iconst dX12_isBlocked_99 ?_
    exact GO.retz rfl rfl dX12_isBlocked_100 (by omega) ⟨rfl, rfl, _, rfl, (ir_c rfl), ⟨by omega, fun _ => trivial, fun _ => trivial⟩⟩
  ·
    refine GO.iload_n dX12_isBlocked_10 rfl rfl ?_
    refine GO.iload_n dX12_isBlocked_11 rfl rfl ?_
    refine GO.ishr dX12_isBlocked_12 ?_
    refine GO.iconst dX12_isBlocked_13 ?_
    refine GO.iand dX12_isBlocked_14 ?_
    refine GO.iconst dX12_isBlocked_15 ?_
    have hj323 : GO mX12_isBlocked K V (IP K V (fun X => (X = 0 ∨ X = 1) ∧ (X ≠ 0 → True) ∧ (X = 0 → True))) K V 0 0 35 [some (.ref x), some (ti p0), some (ti p1), some (ti i1), none] [] := by
      skip
      refine GO.iconst dX12_isBlocked_35 ?_
      refine GO.istore (ls1 := [some (.ref x), some (ti p0), some (ti p1), some (ti i1), some (ti 0)]) dX12_isBlocked_36 rfl rfl ?_
      refine GO.loop1 (fun i324 W => 0 ≤ i324 ∧ i324 ≤ 7 ∧ V = W) (fun i324 => [some (.ref x), some (ti p0), some (ti p1), some (ti i1), some (ti i324)]) (fun i324 W => (2147483647 - i324).toNat) 0 ⟨by omega, by omega, rfl⟩ rfl (fun i324 V369 hp371 ih370 => ?_)
      obtain ⟨l_i324, u_i324, rfl⟩ := hp371
      have r_i324 : ir i324 := ⟨by omega, by omega⟩
      show GO mX12_isBlocked K V (IP K V (fun X => (X = 0 ∨ X = 1) ∧ (X ≠ 0 → True) ∧ (X = 0 → True))) K V 0 0 38 [some (.ref x), some (ti p0), some (ti p1), some (ti i1), some (ti i324)] []
      refine GO.iload dX12_isBlocked_38 rfl ?_
      refine GO.aload_n dX12_isBlocked_40 rfl rfl ?_
      refine GO.getI h_x fl_RX12_718 rfl rfl dX12_isBlocked_41 (fun l372 u373 => ?_)
      refine GO.icmp_ge (tgt := 93) dX12_isBlocked_44 (by decide) r_i324 vi_ir (fun c374 => ?_) (fun c374 => ?_)
      ·
        refine GO.iinc (X := i1) (n := 1) (Y := i1 + 1) (ls1 := [some (.ref x), some (ti p0), some (ti p1), some (ti (i1 + 1)), some (ti i324)]) dX12_isBlocked_93 rfl rfl rfl rfl ?_
        refine GO.goto (tgt := 2) dX12_isBlocked_96 (by decide) ?_
        refine GO.drop [true, true, true, true, false] rfl ?_
        exact ih311 (i1 + 1) V ⟨by omega, by omega, rfl⟩ (by show (2147483647 - (i1 + 1)).toNat < (2147483647 - i1).toNat; omega)
      ·
        refine GO.iload_n dX12_isBlocked_47 rfl rfl ?_
        refine GO.iload_n dX12_isBlocked_48 rfl rfl ?_
        refine GO.ishr dX12_isBlocked_49 ?_
        refine GO.iconst dX12_isBlocked_50 ?_
        refine GO.iand dX12_isBlocked_51 ?_
        refine GO.if_ne (tgt := 87) dX12_isBlocked_52 (by decide) wand_ir (fun c375 => ?_) (fun c375 => ?_)
        ·
          refine GO.iinc (X := i324) (n := 1) (Y := i324 + 1) (ls1 := [some (.ref x), some (ti p0), some (ti p1), some (ti i1), some (ti (i324 + 1))]) dX12_isBlocked_87 rfl rfl rfl rfl ?_
          refine GO.goto (tgt := 38) dX12_isBlocked_90 (by decide) ?_
          exact ih370 (i324 + 1) V ⟨by omega, by omega, rfl⟩ (by show (2147483647 - (i324 + 1)).toNat < (2147483647 - i324).toNat; omega)
        ·
          refine GO.iload_n dX12_isBlocked_55 rfl rfl ?_
          refine GO.iload dX12_isBlocked_56 rfl ?_
          refine GO.ishr dX12_isBlocked_58 ?_
          refine GO.iconst dX12_isBlocked_59 ?_
          refine GO.iand dX12_isBlocked_60 ?_
          refine GO.iconst dX12_isBlocked_61 ?_
          refine GO.icmp_ne (tgt := 87) dX12_isBlocked_62 (by decide) wand_ir (ir_c rfl) (fun c376 => ?_) (fun c376 => ?_)
          ·
            refine GO.iinc (X := i324) (n := 1) (Y := i324 + 1) (ls1 := [some (.ref x), some (ti p0), some (ti p1), some (ti i1), some (ti (i324 + 1))]) dX12_isBlocked_87 rfl rfl rfl rfl ?_
            refine GO.goto (tgt := 38) dX12_isBlocked_90 (by decide) ?_
            exact ih370 (i324 + 1) V ⟨by omega, by omega, rfl⟩ (by show (2147483647 - (i324 + 1)).toNat < (2147483647 - i324).toNat; omega)
          ·
            refine GO.aload_n dX12_isBlocked_65 rfl rfl ?_
            refine GO.getA (n := 441) h_x fl_RX12_325 rfl rfl rfl rfl dX12_isBlocked_66 (fun hv378 h377 => ?_)
            refine GO.bipush dX12_isBlocked_69 rfl ?_
            refine GO.bipush dX12_isBlocked_71 rfl ?_
            refine GO.iload_n dX12_isBlocked_73 rfl rfl ?_
            refine GO.imul dX12_isBlocked_74 ?_
            refine GO.iload_n dX12_isBlocked_75 rfl rfl ?_
            refine GO.iadd dX12_isBlocked_76 ?_
            refine GO.imul dX12_isBlocked_77 ?_
            refine GO.iload dX12_isBlocked_78 rfl ?_
            refine GO.iadd dX12_isBlocked_80 ?_
            have q379 : -2147483648 ≤ p0 ∧ p0 ≤ 2147483647 := r_p0
            refine GO.zald (t := 110) rfl rfl h377 ⟨by omega, by omega⟩ (by omega) (by omega) dX12_isBlocked_81 (fun l380 u381 => ?_)
            refine GO.if_eq (tgt := 87) dX12_isBlocked_82 (by decide) vi_ir (fun c382 => ?_) (fun c382 => ?_)
            ·
              refine GO.iinc (X := i324) (n := 1) (Y := i324 + 1) (ls1 := [some (.ref x), some (ti p0), some (ti p1), some (ti i1), some (ti (i324 + 1))]) dX12_isBlocked_87 rfl rfl rfl rfl ?_
              refine GO.goto (tgt := 38) dX12_isBlocked_90 (by decide) ?_
              exact ih370 (i324 + 1) V ⟨by omega, by omega, rfl⟩ (by show (2147483647 - (i324 + 1)).toNat < (2147483647 - i324).toNat; omega)
            ·
              refine GO.iconst dX12_isBlocked_85 ?_
              exact GO.retz rfl rfl dX12_isBlocked_86 (by omega) ⟨rfl, rfl, _, rfl, (ir_c rfl), ⟨by omega, fun _ => trivial, fun _ => trivial⟩⟩
    refine GO.icmp_ne (tgt := 35) dX12_isBlocked_16 (by decide) wand_ir (ir_c rfl) (fun c383 => ?_) (fun c383 => ?_)
    ·
      exact hj323 
    ·
      refine GO.aload_n dX12_isBlocked_19 rfl rfl ?_
      refine GO.getA (n := 63) h_x fl_RX12_322 rfl rfl rfl rfl dX12_isBlocked_20 (fun hv385 h384 => ?_)
      refine GO.bipush dX12_isBlocked_23 rfl ?_
      refine GO.iload_n dX12_isBlocked_25 rfl rfl ?_
      refine GO.imul dX12_isBlocked_26 ?_
      refine GO.iload_n dX12_isBlocked_27 rfl rfl ?_
      refine GO.iadd dX12_isBlocked_28 ?_
      have q386 : -2147483648 ≤ p0 ∧ p0 ≤ 2147483647 := r_p0
      refine GO.zald (t := 109) rfl rfl h384 ⟨by omega, by omega⟩ (by omega) (by omega) dX12_isBlocked_29 (fun l387 u388 => ?_)
      refine GO.if_eq (tgt := 35) dX12_isBlocked_30 (by decide) vi_ir (fun c389 => ?_) (fun c389 => ?_)
      ·
        exact hj323 
      ·
        refine GO.iconst dX12_isBlocked_33 ?_
        exact GO.retz rfl rfl dX12_isBlocked_34 (by omega) ⟨rfl, rfl, _, rfl, (ir_c rfl), ⟨by omega, fun _ => trivial, fun _ => trivial⟩⟩

set_option maxHeartbeats 1000000 in
theorem t_X12_blocks {K : Kmap} {V : Vmap} {x : Nat} {p0 : Int} (h_x : K x = some (0, 11)) (r_p0 : ir p0) : MC mX12_blocks K V [.ref x, ti p0] (IP K V (fun X => True)) := by
  refine MC.start 2 (by decide +kernel) rfl rfl rfl (ls0 := [some (.ref x), some (ti p0), none, none]) rfl ?_
  refine GO.iload_n dX12_blocks_0 rfl rfl ?_
  refine GO.iconst dX12_blocks_1 ?_
  refine GO.iconst dX12_blocks_2 ?_
  refine GO.aload_n dX12_blocks_3 rfl rfl ?_
  refine GO.getI h_x fl_RX12_718 rfl rfl dX12_blocks_4 (fun l1 u2 => ?_)
  refine GO.ishl dX12_blocks_7 ?_
  refine GO.iconst dX12_blocks_8 ?_
  refine GO.isub dX12_blocks_9 ?_
  refine GO.norm (fun z3 r4 _ => ?_)
  refine GO.callS (N := mX12_in) dX12_blocks_10 gS_RX12_371 (t_X12_in r_p0 (ir_c rfl) r4) rfl [] rfl rfl (Nat.le_of_ble_eq_true rfl) rfl (k_ip fun X5 r6 h7 => ?_)
  refine GO.if_ne (tgt := 18) dX12_blocks_13 (by decide) r6 (fun c8 => ?_) (fun c8 => ?_)
  ·
    have q9 := h7.2.1 (by omega)
    refine GO.iconst dX12_blocks_18 ?_
    refine GO.istore_n (ls1 := [some (.ref x), some (ti p0), some (ti 0), none]) dX12_blocks_19 rfl rfl rfl ?_
    refine GO.iconst dX12_blocks_20 ?_
    refine GO.istore_n (ls1 := [some (.ref x), some (ti p0), some (ti 0), some (ti 0)]) dX12_blocks_21 rfl rfl rfl ?_
    refine GO.loop2 (fun i10 i11 W => (-2147483648) ≤ i10 ∧ i10 ≤ 2147483647 ∧ 0 ≤ i11 ∧ i11 ≤ 9 ∧ V = W) (fun i10 i11 => [some (.ref x), some (ti p0), some (ti i10), some (ti i11)]) (fun i10 i11 W => (2147483647 - i11).toNat) 0 0 ⟨by omega, by omega, by omega, by omega, rfl⟩ rfl (fun i10 i11 V376 hp378 ih377 => ?_)
    obtain ⟨l_i10, u_i10, l_i11, u_i11, rfl⟩ := hp378
    have r_i10 : ir i10 := ⟨by omega, by omega⟩
    have r_i11 : ir i11 := ⟨by omega, by omega⟩
    show GO mX12_blocks K V (IP K V (fun X => True)) K V 0 0 22 [some (.ref x), some (ti p0), some (ti i10), some (ti i11)] []
    refine GO.iload_n dX12_blocks_22 rfl rfl ?_
    refine GO.aload_n dX12_blocks_23 rfl rfl ?_
    refine GO.getI h_x fl_RX12_393 rfl rfl dX12_blocks_24 (fun l379 u380 => ?_)
    refine GO.icmp_ge (tgt := 55) dX12_blocks_27 (by decide) r_i11 vi_ir (fun c381 => ?_) (fun c381 => ?_)
    ·
      refine GO.iload_n dX12_blocks_55 rfl rfl ?_
      exact GO.reti rfl rfl dX12_blocks_56 ⟨rfl, rfl, _, rfl, r_i10, trivial⟩
    ·
      refine GO.iload_n dX12_blocks_30 rfl rfl ?_
      refine GO.aload_n dX12_blocks_31 rfl rfl ?_
      refine GO.iload_n dX12_blocks_32 rfl rfl ?_
      refine GO.iload_n dX12_blocks_33 rfl rfl ?_
      refine GO.callV (ci := 11) (N := mX12_isBlocked) dX12_blocks_34 (RX12, TX12, 151) rfl gV_RX12_724 h_x (t_X12_isBlocked h_x r_i11 r_p0 (by omega) (by omega)) rfl [ti i10] rfl rfl (Nat.le_of_ble_eq_true rfl) rfl (k_ip fun X382 r383 h384 => ?_)
      refine GO.if_eq (tgt := 46) dX12_blocks_37 (by decide) r383 (fun c385 => ?_) (fun c385 => ?_)
      ·
        refine GO.iconst dX12_blocks_46 ?_
        refine GO.ior dX12_blocks_47 ?_
        refine GO.name (fun z386 hz387 => ?_)
        have r388 : ir z386 := hz387 ▸ wor_ir
        refine GO.istore_n (ls1 := [some (.ref x), some (ti p0), some (ti z386), some (ti i11)]) dX12_blocks_48 rfl rfl rfl ?_
        refine GO.iinc (X := i11) (n := 1) (Y := i11 + 1) (ls1 := [some (.ref x), some (ti p0), some (ti z386), some (ti (i11 + 1))]) dX12_blocks_49 rfl rfl rfl rfl ?_
        refine GO.goto (tgt := 22) dX12_blocks_52 (by decide) ?_
        have q389 : -2147483648 ≤ z386 ∧ z386 ≤ 2147483647 := r388
        have q390 : -2147483648 ≤ wor i10 0 ∧ wor i10 0 ≤ 2147483647 := wor_ir
        exact ih377 z386 (i11 + 1) V ⟨by omega, by omega, by omega, by omega, rfl⟩ (by show (2147483647 - (i11 + 1)).toNat < (2147483647 - i11).toNat; omega)
      ·
        refine GO.iconst dX12_blocks_40 ?_
        refine GO.iload_n dX12_blocks_41 rfl rfl ?_
        refine GO.ishl dX12_blocks_42 ?_
        refine GO.goto (tgt := 47) dX12_blocks_43 (by decide) ?_
        refine GO.ior dX12_blocks_47 ?_
        refine GO.name (fun z391 hz392 => ?_)
        have r393 : ir z391 := hz392 ▸ wor_ir
        refine GO.istore_n (ls1 := [some (.ref x), some (ti p0), some (ti z391), some (ti i11)]) dX12_blocks_48 rfl rfl rfl ?_
        refine GO.iinc (X := i11) (n := 1) (Y := i11 + 1) (ls1 := [some (.ref x), some (ti p0), some (ti z391), some (ti (i11 + 1))]) dX12_blocks_49 rfl rfl rfl rfl ?_
        refine GO.goto (tgt := 22) dX12_blocks_52 (by decide) ?_
        have q394 : -2147483648 ≤ z391 ∧ z391 ≤ 2147483647 := r393
        have q395 : -2147483648 ≤ wor i10 (wshl 1 i11) ∧ wor i10 (wshl 1 i11) ≤ 2147483647 := wor_ir
        exact ih377 z391 (i11 + 1) V ⟨by omega, by omega, by omega, by omega, rfl⟩ (by show (2147483647 - (i11 + 1)).toNat < (2147483647 - i11).toNat; omega)
  ·
    have q396 := h7.2.2 (by omega)
    refine GO.iconst dX12_blocks_16 ?_
    exact GO.reti rfl rfl dX12_blocks_17 ⟨rfl, rfl, _, rfl, (ir_c rfl), trivial⟩

set_option maxHeartbeats 1000000 in
theorem t_X12_worthOf {K : Kmap} {V : Vmap} {x : Nat} {p0 : Int} (h_x : K x = some (0, 11)) (r_p0 : ir p0) : MC mX12_worthOf K V [.ref x, ti p0] (IP K V (fun X => True)) := by
  refine MC.start 2 (by decide +kernel) rfl rfl rfl (ls0 := [some (.ref x), some (ti p0), none, none]) rfl ?_
  refine GO.iconst dX12_worthOf_0 ?_
  refine GO.istore_n (ls1 := [some (.ref x), some (ti p0), some (ti 0), none]) dX12_worthOf_1 rfl rfl rfl ?_
  refine GO.iconst dX12_worthOf_2 ?_
  refine GO.istore_n (ls1 := [some (.ref x), some (ti p0), some (ti 0), some (ti 0)]) dX12_worthOf_3 rfl rfl rfl ?_
  refine GO.loop2 (fun i1 i2 W => (-2147483648) ≤ i1 ∧ i1 ≤ 2147483647 ∧ 0 ≤ i2 ∧ i2 ≤ 7 ∧ V = W) (fun i1 i2 => [some (.ref x), some (ti p0), some (ti i1), some (ti i2)]) (fun i1 i2 W => (2147483647 - i2).toNat) 0 0 ⟨by omega, by omega, by omega, by omega, rfl⟩ rfl (fun i1 i2 V263 hp265 ih264 => ?_)
  obtain ⟨l_i1, u_i1, l_i2, u_i2, rfl⟩ := hp265
  have r_i1 : ir i1 := ⟨by omega, by omega⟩
  have r_i2 : ir i2 := ⟨by omega, by omega⟩
  show GO mX12_worthOf K V (IP K V (fun X => True)) K V 0 0 4 [some (.ref x), some (ti p0), some (ti i1), some (ti i2)] []
  refine GO.iload_n dX12_worthOf_4 rfl rfl ?_
  refine GO.aload_n dX12_worthOf_5 rfl rfl ?_
  refine GO.getI h_x fl_RX12_718 rfl rfl dX12_worthOf_6 (fun l266 u267 => ?_)
  refine GO.icmp_ge (tgt := 40) dX12_worthOf_9 (by decide) r_i2 vi_ir (fun c268 => ?_) (fun c268 => ?_)
  ·
    refine GO.iload_n dX12_worthOf_40 rfl rfl ?_
    exact GO.reti rfl rfl dX12_worthOf_41 ⟨rfl, rfl, _, rfl, r_i1, trivial⟩
  ·
    refine GO.iload_n dX12_worthOf_12 rfl rfl ?_
    refine GO.iload_n dX12_worthOf_13 rfl rfl ?_
    refine GO.iload_n dX12_worthOf_14 rfl rfl ?_
    refine GO.ishr dX12_worthOf_15 ?_
    refine GO.iconst dX12_worthOf_16 ?_
    refine GO.iand dX12_worthOf_17 ?_
    refine GO.iconst dX12_worthOf_18 ?_
    refine GO.icmp_ne (tgt := 31) dX12_worthOf_19 (by decide) wand_ir (ir_c rfl) (fun c269 => ?_) (fun c269 => ?_)
    ·
      refine GO.iconst dX12_worthOf_31 ?_
      refine GO.iadd dX12_worthOf_32 ?_
      refine GO.name (fun z270 hz271 => ?_)
      refine GO.istore_n (ls1 := [some (.ref x), some (ti p0), some (ti z270), some (ti i2)]) dX12_worthOf_33 rfl rfl rfl ?_
      refine GO.iinc (X := i2) (n := 1) (Y := i2 + 1) (ls1 := [some (.ref x), some (ti p0), some (ti z270), some (ti (i2 + 1))]) dX12_worthOf_34 rfl rfl rfl rfl ?_
      refine GO.goto (tgt := 4) dX12_worthOf_37 (by decide) ?_
      exact ih264 z270 (i2 + 1) V ⟨by omega, by omega, by omega, by omega, rfl⟩ (by show (2147483647 - (i2 + 1)).toNat < (2147483647 - i2).toNat; omega)
    ·
      refine GO.aload_n dX12_worthOf_22 rfl rfl ?_
      refine GO.getA (n := 7) h_x fl_RX12_319 rfl rfl rfl rfl dX12_worthOf_23 (fun hv273 h272 => ?_)
      refine GO.iload_n dX12_worthOf_26 rfl rfl ?_
      refine GO.iald (t := 108) rfl rfl h272 r_i2 (by omega) (by omega) dX12_worthOf_27 (fun _ _ => ?_)
      refine GO.goto (tgt := 32) dX12_worthOf_28 (by decide) ?_
      refine GO.iadd dX12_worthOf_32 ?_
      refine GO.norm (fun z274 r275 _ => ?_)
      refine GO.istore_n (ls1 := [some (.ref x), some (ti p0), some (ti z274), some (ti i2)]) dX12_worthOf_33 rfl rfl rfl ?_
      refine GO.iinc (X := i2) (n := 1) (Y := i2 + 1) (ls1 := [some (.ref x), some (ti p0), some (ti z274), some (ti (i2 + 1))]) dX12_worthOf_34 rfl rfl rfl rfl ?_
      refine GO.goto (tgt := 4) dX12_worthOf_37 (by decide) ?_
      have q276 : -2147483648 ≤ z274 ∧ z274 ≤ 2147483647 := r275
      exact ih264 z274 (i2 + 1) V ⟨by omega, by omega, by omega, by omega, rfl⟩ (by show (2147483647 - (i2 + 1)).toNat < (2147483647 - i2).toNat; omega)

set_option maxHeartbeats 1000000 in
theorem t_X12_bits {K : Kmap} {V : Vmap} {p0 : Int} (r_p0 : ir p0) : MC mX12_bits K V [ti p0] (IP K V (fun X => True)) := by
  refine MC.start 2 (by decide +kernel) rfl rfl rfl (ls0 := [some (ti p0), none, none]) rfl ?_
  refine GO.iconst dX12_bits_0 ?_
  refine GO.istore_n (ls1 := [some (ti p0), some (ti 0), none]) dX12_bits_1 rfl rfl rfl ?_
  refine GO.iconst dX12_bits_2 ?_
  refine GO.istore_n (ls1 := [some (ti p0), some (ti 0), some (ti 0)]) dX12_bits_3 rfl rfl rfl ?_
  refine GO.loop2 (fun i1 i2 W => (-2147483648) ≤ i1 ∧ i1 ≤ 2147483647 ∧ 0 ≤ i2 ∧ i2 ≤ 9 ∧ V = W) (fun i1 i2 => [some (ti p0), some (ti i1), some (ti i2)]) (fun i1 i2 W => (2147483647 - i2).toNat) 0 0 ⟨by omega, by omega, by omega, by omega, rfl⟩ rfl (fun i1 i2 V87 hp89 ih88 => ?_)
  obtain ⟨l_i1, u_i1, l_i2, u_i2, rfl⟩ := hp89
  have r_i1 : ir i1 := ⟨by omega, by omega⟩
  have r_i2 : ir i2 := ⟨by omega, by omega⟩
  show GO mX12_bits K V (IP K V (fun X => True)) K V 0 0 4 [some (ti p0), some (ti i1), some (ti i2)] []
  refine GO.iload_n dX12_bits_4 rfl rfl ?_
  refine GO.bipush dX12_bits_5 rfl ?_
  refine GO.icmp_ge (tgt := 24) dX12_bits_7 (by decide) r_i2 (ir_c rfl) (fun c90 => ?_) (fun c90 => ?_)
  ·
    refine GO.iload_n dX12_bits_24 rfl rfl ?_
    exact GO.reti rfl rfl dX12_bits_25 ⟨rfl, rfl, _, rfl, r_i1, trivial⟩
  ·
    refine GO.iload_n dX12_bits_10 rfl rfl ?_
    refine GO.iload_n dX12_bits_11 rfl rfl ?_
    refine GO.iload_n dX12_bits_12 rfl rfl ?_
    refine GO.ishr dX12_bits_13 ?_
    refine GO.iconst dX12_bits_14 ?_
    refine GO.iand dX12_bits_15 ?_
    refine GO.iadd dX12_bits_16 ?_
    refine GO.norm (fun z91 r92 _ => ?_)
    refine GO.istore_n (ls1 := [some (ti p0), some (ti z91), some (ti i2)]) dX12_bits_17 rfl rfl rfl ?_
    refine GO.iinc (X := i2) (n := 1) (Y := i2 + 1) (ls1 := [some (ti p0), some (ti z91), some (ti (i2 + 1))]) dX12_bits_18 rfl rfl rfl rfl ?_
    refine GO.goto (tgt := 4) dX12_bits_21 (by decide) ?_
    have q93 : -2147483648 ≤ z91 ∧ z91 ≤ 2147483647 := r92
    exact ih88 z91 (i2 + 1) V ⟨by omega, by omega, by omega, by omega, rfl⟩ (by show (2147483647 - (i2 + 1)).toNat < (2147483647 - i2).toNat; omega)

set_option maxHeartbeats 1000000 in
theorem t_X12_best {K : Kmap} {V : Vmap} {x : Nat} (h_x : K x = some (0, 11)) : MC mX12_best K V [.ref x] (IP K V (fun X => True)) := by
  refine MC.start 4 (by decide +kernel) rfl rfl rfl (ls0 := [some (.ref x), none, none, none, none]) rfl ?_
  refine GO.iconst dX12_best_0 ?_
  refine GO.istore_n (ls1 := [some (.ref x), some (ti 0), none, none, none]) dX12_best_1 rfl rfl rfl ?_
  refine GO.iconst dX12_best_2 ?_
  refine GO.istore_n (ls1 := [some (.ref x), some (ti 0), some (ti 0), none, none]) dX12_best_3 rfl rfl rfl ?_
  refine GO.loop2 (fun i1 i2 W => (-2147483648) ≤ i1 ∧ i1 ≤ 2147483647 ∧ 0 ≤ i2 ∧ i2 ≤ 9 ∧ V = W) (fun i1 i2 => [some (.ref x), some (ti i1), some (ti i2), none, none]) (fun i1 i2 W => (2147483647 - i2).toNat) 0 0 ⟨by omega, by omega, by omega, by omega, rfl⟩ rfl (fun i1 i2 V19519 hp19521 ih19520 => ?_)
  obtain ⟨l_i1, u_i1, l_i2, u_i2, rfl⟩ := hp19521
  have r_i1 : ir i1 := ⟨by omega, by omega⟩
  have r_i2 : ir i2 := ⟨by omega, by omega⟩
  show GO mX12_best K V (IP K V (fun X => True)) K V 0 0 4 [some (.ref x), some (ti i1), some (ti i2), none, none] []
  refine GO.iload_n dX12_best_4 rfl rfl ?_
  refine GO.aload_n dX12_best_5 rfl rfl ?_
  refine GO.getI h_x fl_RX12_393 rfl rfl dX12_best_6 (fun l19522 u19523 => ?_)
  refine GO.icmp_ge (tgt := 40) dX12_best_9 (by decide) r_i2 vi_ir (fun c19524 => ?_) (fun c19524 => ?_)
  ·
    refine GO.iconst dX12_best_40 ?_
    refine GO.istore_n (ls1 := [some (.ref x), some (ti i1), some (ti 0), none, none]) dX12_best_41 rfl rfl rfl ?_
    refine GO.iconst dX12_best_42 ?_
    refine GO.istore_n (ls1 := [some (.ref x), some (ti i1), some (ti 0), some (ti 1), none]) dX12_best_43 rfl rfl rfl ?_
    refine GO.loop2 (fun i19525 i19526 W => 0 ≤ i19525 ∧ i19525 ≤ 2147483646 ∧ 1 ≤ i19526 ∧ i19526 ≤ 2147483647 ∧ V = W) (fun i19525 i19526 => [some (.ref x), some (ti i1), some (ti i19525), some (ti i19526), none]) (fun i19525 i19526 W => (2147483647 - i19526).toNat) 0 1 ⟨by omega, by omega, by omega, by omega, rfl⟩ rfl (fun i19525 i19526 V20175 hp20177 ih20176 => ?_)
    obtain ⟨l_i19525, u_i19525, l_i19526, u_i19526, rfl⟩ := hp20177
    have r_i19525 : ir i19525 := ⟨by omega, by omega⟩
    have r_i19526 : ir i19526 := ⟨by omega, by omega⟩
    show GO mX12_best K V (IP K V (fun X => True)) K V 0 0 44 [some (.ref x), some (ti i1), some (ti i19525), some (ti i19526), none] []
    refine GO.iload_n dX12_best_44 rfl rfl ?_
    refine GO.iconst dX12_best_45 ?_
    refine GO.aload_n dX12_best_46 rfl rfl ?_
    refine GO.getI h_x fl_RX12_718 rfl rfl dX12_best_47 (fun l20178 u20179 => ?_)
    refine GO.ishl dX12_best_50 ?_
    refine GO.icmp_ge (tgt := 109) dX12_best_51 (by decide) r_i19526 wshl_ir (fun c20180 => ?_) (fun c20180 => ?_)
    ·
      refine GO.iload_n dX12_best_109 rfl rfl ?_
      exact GO.reti rfl rfl dX12_best_110 ⟨rfl, rfl, _, rfl, r_i19525, trivial⟩
    ·
      refine GO.aload_n dX12_best_54 rfl rfl ?_
      refine GO.iload_n dX12_best_55 rfl rfl ?_
      refine GO.callV (ci := 11) (N := mX12_blocks) dX12_best_56 (RX12, TX12, 151) rfl gV_RX12_727 h_x (t_X12_blocks h_x r_i19526) rfl [] rfl rfl (Nat.le_of_ble_eq_true rfl) rfl (k_ip fun X20181 r20182 h20183 => ?_)
      refine GO.iload_n dX12_best_59 rfl rfl ?_
      refine GO.iand dX12_best_60 ?_
      refine GO.if_eq (tgt := 67) dX12_best_61 (by decide) wand_ir (fun c20184 => ?_) (fun c20184 => ?_)
      ·
        refine GO.aload_n dX12_best_67 rfl rfl ?_
        refine GO.iload_n dX12_best_68 rfl rfl ?_
        refine GO.callV (ci := 11) (N := mX12_worthOf) dX12_best_69 (RX12, TX12, 151) rfl gV_RX12_730 h_x (t_X12_worthOf h_x r_i19526) rfl [] rfl rfl (Nat.le_of_ble_eq_true rfl) rfl (k_ip fun X20185 r20186 h20187 => ?_)
        refine GO.aload_n dX12_best_72 rfl rfl ?_
        refine GO.iload_n dX12_best_73 rfl rfl ?_
        refine GO.callV (ci := 11) (N := mX12_worthOf) dX12_best_74 (RX12, TX12, 151) rfl gV_RX12_730 h_x (t_X12_worthOf h_x r_i19525) rfl [ti X20185] rfl rfl (Nat.le_of_ble_eq_true rfl) rfl (k_ip fun X20188 r20189 h20190 => ?_)
        refine GO.isub dX12_best_77 ?_
        refine GO.norm (fun z20191 r20192 _ => ?_)
        refine GO.istore (ls1 := [some (.ref x), some (ti i1), some (ti i19525), some (ti i19526), some (ti z20191)]) dX12_best_78 rfl rfl ?_
        refine GO.iload dX12_best_80 rfl ?_
        refine GO.if_gt (tgt := 101) dX12_best_82 (by decide) r20192 (fun c20193 => ?_) (fun c20193 => ?_)
        ·
          refine GO.iload_n dX12_best_101 rfl rfl ?_
          refine GO.istore_n (ls1 := [some (.ref x), some (ti i1), some (ti i19526), some (ti i19526), some (ti z20191)]) dX12_best_102 rfl rfl rfl ?_
          refine GO.iinc (X := i19526) (n := 1) (Y := i19526 + 1) (ls1 := [some (.ref x), some (ti i1), some (ti i19526), some (ti (i19526 + 1)), some (ti z20191)]) dX12_best_103 rfl rfl rfl rfl ?_
          refine GO.goto (tgt := 44) dX12_best_106 (by decide) ?_
          refine GO.drop [true, true, true, true, false] rfl ?_
          have q20194 : -2147483648 ≤ wshl 1 (vi V x 133) ∧ wshl 1 (vi V x 133) ≤ 2147483647 := wshl_ir
          exact ih20176 i19526 (i19526 + 1) V ⟨by omega, by omega, by omega, by omega, rfl⟩ (by show (2147483647 - (i19526 + 1)).toNat < (2147483647 - i19526).toNat; omega)
        ·
          refine GO.iload dX12_best_85 rfl ?_
          refine GO.if_ne (tgt := 103) dX12_best_87 (by decide) r20192 (fun c20195 => ?_) (fun c20195 => ?_)
          ·
            refine GO.iinc (X := i19526) (n := 1) (Y := i19526 + 1) (ls1 := [some (.ref x), some (ti i1), some (ti i19525), some (ti (i19526 + 1)), some (ti z20191)]) dX12_best_103 rfl rfl rfl rfl ?_
            refine GO.goto (tgt := 44) dX12_best_106 (by decide) ?_
            refine GO.drop [true, true, true, true, false] rfl ?_
            have q20196 : -2147483648 ≤ wshl 1 (vi V x 133) ∧ wshl 1 (vi V x 133) ≤ 2147483647 := wshl_ir
            exact ih20176 i19525 (i19526 + 1) V ⟨by omega, by omega, by omega, by omega, rfl⟩ (by show (2147483647 - (i19526 + 1)).toNat < (2147483647 - i19526).toNat; omega)
          ·
            refine GO.iload_n dX12_best_90 rfl rfl ?_
            refine GO.callS (N := mX12_bits) dX12_best_91 gS_RX12_733 (t_X12_bits r_i19526) rfl [] rfl rfl (Nat.le_of_ble_eq_true rfl) rfl (k_ip fun X20197 r20198 h20199 => ?_)
            refine GO.iload_n dX12_best_94 rfl rfl ?_
            refine GO.callS (N := mX12_bits) dX12_best_95 gS_RX12_733 (t_X12_bits r_i19525) rfl [ti X20197] rfl rfl (Nat.le_of_ble_eq_true rfl) rfl (k_ip fun X20200 r20201 h20202 => ?_)
            refine GO.icmp_ge (tgt := 103) dX12_best_98 (by decide) r20198 r20201 (fun c20203 => ?_) (fun c20203 => ?_)
            ·
              refine GO.iinc (X := i19526) (n := 1) (Y := i19526 + 1) (ls1 := [some (.ref x), some (ti i1), some (ti i19525), some (ti (i19526 + 1)), some (ti z20191)]) dX12_best_103 rfl rfl rfl rfl ?_
              refine GO.goto (tgt := 44) dX12_best_106 (by decide) ?_
              refine GO.drop [true, true, true, true, false] rfl ?_
              have q20204 : -2147483648 ≤ wshl 1 (vi V x 133) ∧ wshl 1 (vi V x 133) ≤ 2147483647 := wshl_ir
              exact ih20176 i19525 (i19526 + 1) V ⟨by omega, by omega, by omega, by omega, rfl⟩ (by show (2147483647 - (i19526 + 1)).toNat < (2147483647 - i19526).toNat; omega)
            ·
              refine GO.iload_n dX12_best_101 rfl rfl ?_
              refine GO.istore_n (ls1 := [some (.ref x), some (ti i1), some (ti i19526), some (ti i19526), some (ti z20191)]) dX12_best_102 rfl rfl rfl ?_
              refine GO.iinc (X := i19526) (n := 1) (Y := i19526 + 1) (ls1 := [some (.ref x), some (ti i1), some (ti i19526), some (ti (i19526 + 1)), some (ti z20191)]) dX12_best_103 rfl rfl rfl rfl ?_
              refine GO.goto (tgt := 44) dX12_best_106 (by decide) ?_
              refine GO.drop [true, true, true, true, false] rfl ?_
              have q20205 : -2147483648 ≤ wshl 1 (vi V x 133) ∧ wshl 1 (vi V x 133) ≤ 2147483647 := wshl_ir
              exact ih20176 i19526 (i19526 + 1) V ⟨by omega, by omega, by omega, by omega, rfl⟩ (by show (2147483647 - (i19526 + 1)).toNat < (2147483647 - i19526).toNat; omega)
      ·
        refine GO.goto (tgt := 103) dX12_best_64 (by decide) ?_
        refine GO.iinc (X := i19526) (n := 1) (Y := i19526 + 1) (ls1 := [some (.ref x), some (ti i1), some (ti i19525), some (ti (i19526 + 1)), none]) dX12_best_103 rfl rfl rfl rfl ?_
        refine GO.goto (tgt := 44) dX12_best_106 (by decide) ?_
        have q20206 : -2147483648 ≤ wshl 1 (vi V x 133) ∧ wshl 1 (vi V x 133) ≤ 2147483647 := wshl_ir
        exact ih20176 i19525 (i19526 + 1) V ⟨by omega, by omega, by omega, by omega, rfl⟩ (by show (2147483647 - (i19526 + 1)).toNat < (2147483647 - i19526).toNat; omega)
  ·
    refine GO.iload_n dX12_best_12 rfl rfl ?_
    refine GO.aload_n dX12_best_13 rfl rfl ?_
    refine GO.iload_n dX12_best_14 rfl rfl ?_
    refine GO.aload_n dX12_best_15 rfl rfl ?_
    refine GO.getI h_x fl_RX12_396 rfl rfl dX12_best_16 (fun l20207 u20208 => ?_)
    refine GO.callV (ci := 11) (N := mX12_decidesOn) dX12_best_19 (RX12, TX12, 151) rfl gV_RX12_412 h_x (t_X12_decidesOn h_x r_i2 vi_ir (by omega) (by omega)) rfl [ti i1] rfl rfl (Nat.le_of_ble_eq_true rfl) rfl (k_ip fun X20209 r20210 h20211 => ?_)
    refine GO.if_eq (tgt := 31) dX12_best_22 (by decide) r20210 (fun c20212 => ?_) (fun c20212 => ?_)
    ·
      refine GO.iconst dX12_best_31 ?_
      refine GO.ior dX12_best_32 ?_
      refine GO.name (fun z20213 hz20214 => ?_)
      have r20215 : ir z20213 := hz20214 ▸ wor_ir
      refine GO.istore_n (ls1 := [some (.ref x), some (ti z20213), some (ti i2), none, none]) dX12_best_33 rfl rfl rfl ?_
      refine GO.iinc (X := i2) (n := 1) (Y := i2 + 1) (ls1 := [some (.ref x), some (ti z20213), some (ti (i2 + 1)), none, none]) dX12_best_34 rfl rfl rfl rfl ?_
      refine GO.goto (tgt := 4) dX12_best_37 (by decide) ?_
      have q20216 : -2147483648 ≤ z20213 ∧ z20213 ≤ 2147483647 := r20215
      have q20217 : -2147483648 ≤ wor i1 0 ∧ wor i1 0 ≤ 2147483647 := wor_ir
      exact ih19520 z20213 (i2 + 1) V ⟨by omega, by omega, by omega, by omega, rfl⟩ (by show (2147483647 - (i2 + 1)).toNat < (2147483647 - i2).toNat; omega)
    ·
      refine GO.iconst dX12_best_25 ?_
      refine GO.iload_n dX12_best_26 rfl rfl ?_
      refine GO.ishl dX12_best_27 ?_
      refine GO.goto (tgt := 32) dX12_best_28 (by decide) ?_
      refine GO.ior dX12_best_32 ?_
      refine GO.name (fun z20218 hz20219 => ?_)
      have r20220 : ir z20218 := hz20219 ▸ wor_ir
      refine GO.istore_n (ls1 := [some (.ref x), some (ti z20218), some (ti i2), none, none]) dX12_best_33 rfl rfl rfl ?_
      refine GO.iinc (X := i2) (n := 1) (Y := i2 + 1) (ls1 := [some (.ref x), some (ti z20218), some (ti (i2 + 1)), none, none]) dX12_best_34 rfl rfl rfl rfl ?_
      refine GO.goto (tgt := 4) dX12_best_37 (by decide) ?_
      have q20221 : -2147483648 ≤ z20218 ∧ z20218 ≤ 2147483647 := r20220
      have q20222 : -2147483648 ≤ wor i1 (wshl 1 i2) ∧ wor i1 (wshl 1 i2) ≤ 2147483647 := wor_ir
      exact ih19520 z20218 (i2 + 1) V ⟨by omega, by omega, by omega, by omega, rfl⟩ (by show (2147483647 - (i2 + 1)).toNat < (2147483647 - i2).toNat; omega)

set_option maxHeartbeats 1000000 in
theorem t_X12_stop {K : Kmap} {V : Vmap} {x : Nat} {p0 : Int} {p1 : Int} (h_x : K x = some (0, 11)) (r_p0 : ir p0) (r_p1 : ir p1) : MC mX12_stop K V [.ref x, ti p0, ti p1] (IS K (fun X V1 => True)) := by
  refine MC.start 1 (by decide +kernel) rfl rfl rfl (ls0 := [some (.ref x), some (ti p0), some (ti p1), none]) rfl ?_
  refine GO.aload_n dX12_stop_0 rfl rfl ?_
  refine GO.iload_n dX12_stop_1 rfl rfl ?_
  refine GO.callV (ci := 11) (N := mX12_stands) dX12_stop_2 (RX12, TX12, 151) rfl gV_RX12_433 h_x (t_X12_stands h_x r_p0) rfl [] rfl rfl (Nat.le_of_ble_eq_true rfl) rfl (k_ip fun X1 r2 h3 => ?_)
  refine GO.if_eq (tgt := 28) dX12_stop_5 (by decide) r2 (fun c4 => ?_) (fun c4 => ?_)
  ·
    refine GO.iconst dX12_stop_28 ?_
    exact GO.reti rfl rfl dX12_stop_29 ⟨rfl, _, rfl, (ir_c rfl), trivial⟩
  ·
    have q5 := h3.2.1 (by omega)
    refine GO.iload_n dX12_stop_8 rfl rfl ?_
    refine GO.iconst dX12_stop_9 ?_
    refine GO.sipush dX12_stop_10 rfl ?_
    refine GO.callS (N := mX12_in) dX12_stop_13 gS_RX12_371 (t_X12_in r_p1 (ir_c rfl) (ir_c rfl)) rfl [] rfl rfl (Nat.le_of_ble_eq_true rfl) rfl (k_ip fun X6 r7 h8 => ?_)
    refine GO.if_eq (tgt := 28) dX12_stop_16 (by decide) r7 (fun c9 => ?_) (fun c9 => ?_)
    ·
      have q10 := h8.2.2 (by omega)
      refine GO.iconst dX12_stop_28 ?_
      exact GO.reti rfl rfl dX12_stop_29 ⟨rfl, _, rfl, (ir_c rfl), trivial⟩
    ·
      have q11 := h8.2.1 (by omega)
      refine GO.aload_n dX12_stop_19 rfl rfl ?_
      refine GO.getI h_x fl_RX12_736 rfl rfl dX12_stop_20 (fun l12 u13 => ?_)
      refine GO.bipush dX12_stop_23 rfl ?_
      refine GO.icmp_ne (tgt := 30) dX12_stop_25 (by decide) vi_ir (ir_c rfl) (fun c14 => ?_) (fun c14 => ?_)
      ·
        refine GO.iconst dX12_stop_30 ?_
        refine GO.istore_n (ls1 := [some (.ref x), some (ti p0), some (ti p1), some (ti 0)]) dX12_stop_31 rfl rfl rfl ?_
        refine GO.loop1 (fun i15 W => 0 ≤ i15 ∧ i15 ≤ 7 ∧ V = W) (fun i15 => [some (.ref x), some (ti p0), some (ti p1), some (ti i15)]) (fun i15 W => (2147483647 - i15).toNat) 0 ⟨by omega, by omega, rfl⟩ rfl (fun i15 V136 hp138 ih137 => ?_)
        obtain ⟨l_i15, u_i15, rfl⟩ := hp138
        have r_i15 : ir i15 := ⟨by omega, by omega⟩
        show GO mX12_stop K V (IS K (fun X V1 => True)) K V 0 0 32 [some (.ref x), some (ti p0), some (ti p1), some (ti i15)] []
        refine GO.iload_n dX12_stop_32 rfl rfl ?_
        refine GO.aload_n dX12_stop_33 rfl rfl ?_
        refine GO.getI h_x fl_RX12_736 rfl rfl dX12_stop_34 (fun l139 u140 => ?_)
        refine GO.icmp_ge (tgt := 58) dX12_stop_37 (by decide) r_i15 vi_ir (fun c141 => ?_) (fun c141 => ?_)
        ·
          refine GO.aload_n dX12_stop_58 rfl rfl ?_
          refine GO.getA (n := 8) h_x fl_RX12_328 rfl rfl rfl rfl dX12_stop_59 (fun hv143 h142 => ?_)
          refine GO.aload_n dX12_stop_62 rfl rfl ?_
          refine GO.getI h_x fl_RX12_736 rfl rfl dX12_stop_63 (fun l144 u145 => ?_)
          refine GO.iload_n dX12_stop_66 rfl rfl ?_
          have q147 : -2147483648 ≤ p0 ∧ p0 ≤ 2147483647 := r_p0
          refine GO.iast (t := 111) rfl rfl (by decide +kernel) h142 vi_ir (by omega) (by omega) r_p0 (by omega) (by omega) dX12_stop_67 (fun V148 e146 => ?_)
          refine GO.aload_n dX12_stop_68 rfl rfl ?_
          refine GO.getA (n := 8) h_x fl_RX12_331 rfl rfl rfl rfl dX12_stop_69 (fun hv150 h149 => ?_)
          refine GO.aload_n dX12_stop_72 rfl rfl ?_
          refine GO.getI h_x fl_RX12_736 rfl rfl dX12_stop_73 (fun l151 u152 => ?_)
          have e153 : vi V148 x 137 = vi V x 137 := vi_up e146 (Or.inl (K_ne h_x h142 (by decide)))
          refine GO.iload_n dX12_stop_76 rfl rfl ?_
          refine GO.iast (t := 112) rfl rfl (by decide +kernel) h149 vi_ir (by omega) (by omega) r_p1 (r_p1).1 (r_p1).2 dX12_stop_77 (fun V155 e154 => ?_)
          refine GO.aload_n dX12_stop_78 rfl rfl ?_
          refine GO.aload_n dX12_stop_79 rfl rfl ?_
          refine GO.getI h_x fl_RX12_736 rfl rfl dX12_stop_80 (fun l156 u157 => ?_)
          have e158 : vi V155 x 137 = vi V148 x 137 := vi_up e154 (Or.inl (K_ne h_x h149 (by decide)))
          refine GO.iconst dX12_stop_83 ?_
          refine GO.iadd dX12_stop_84 ?_
          refine GO.putI h_x fp_RX12_736 rfl (by decide +kernel) ⟨by omega, by omega⟩ (by omega) (by omega) dX12_stop_85 (fun V160 e159 => ?_)
          refine GO.aload_n dX12_stop_88 rfl rfl ?_
          refine GO.getI h_x fl_RX12_736 rfl rfl dX12_stop_89 (fun l161 u162 => ?_)
          have e163 : vi V160 x 137 = (vi V155 x 137) + 1 := upd2_int e159 ⟨by omega, by omega⟩
          refine GO.iconst dX12_stop_92 ?_
          refine GO.isub dX12_stop_93 ?_
          exact GO.reti rfl rfl dX12_stop_94 ⟨rfl, _, rfl, ⟨by omega, by omega⟩, trivial⟩
        ·
          refine GO.aload_n dX12_stop_40 rfl rfl ?_
          refine GO.getA (n := 8) h_x fl_RX12_328 rfl rfl rfl rfl dX12_stop_41 (fun hv165 h164 => ?_)
          refine GO.iload_n dX12_stop_44 rfl rfl ?_
          refine GO.iald (t := 111) rfl rfl h164 r_i15 (by omega) (by omega) dX12_stop_45 (fun l166 u167 => ?_)
          refine GO.iload_n dX12_stop_46 rfl rfl ?_
          refine GO.icmp_ne (tgt := 52) dX12_stop_47 (by decide) vi_ir r_p0 (fun c168 => ?_) (fun c168 => ?_)
          ·
            refine GO.iinc (X := i15) (n := 1) (Y := i15 + 1) (ls1 := [some (.ref x), some (ti p0), some (ti p1), some (ti (i15 + 1))]) dX12_stop_52 rfl rfl rfl rfl ?_
            refine GO.goto (tgt := 32) dX12_stop_55 (by decide) ?_
            exact ih137 (i15 + 1) V ⟨by omega, by omega, rfl⟩ (by show (2147483647 - (i15 + 1)).toNat < (2147483647 - i15).toNat; omega)
          ·
            refine GO.iconst dX12_stop_50 ?_
            exact GO.reti rfl rfl dX12_stop_51 ⟨rfl, _, rfl, (ir_c rfl), trivial⟩
      ·
        refine GO.iconst dX12_stop_28 ?_
        exact GO.reti rfl rfl dX12_stop_29 ⟨rfl, _, rfl, (ir_c rfl), trivial⟩
