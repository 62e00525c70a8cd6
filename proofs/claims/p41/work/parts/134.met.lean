def mX12_doubt : MRec := (RX12, cX12_doubt, 4, (some .int), yX12_doubt, 2, 43, 0, 0, 0)
def mX12_word : MRec := (RX12, cX12_word, 2, (some .int), yX12_word, 1, 22, 0, 0, 1231312693637327475383720003129487931415978857779377470587357355445721799600117205648298355717619712775701695299584)
def mX12_isWord : MRec := (RX12, cX12_isWord, 2, (some .boolean), yX12_isWord, 0, 0, 0, 0, 0)
def mX12_asks : MRec := (RX12, cX12_asks, 5, (some .boolean), yX12_asks, 1, 21, 0, 0, 7387876161823964852302320018776927588452451113212271250240305013296072832155726989640174922790921682651242748182528)
def mX12_isBlocked : MRec := (RX12, cX12_isBlocked, 5, (some .boolean), yX12_isBlocked, 0, 0, 0, 0, 0)
def mX12_blocks : MRec := (RX12, cX12_blocks, 4, (some .int), yX12_blocks, 1, 24, 0, 0, 0)
def mX12_worthOf : MRec := (RX12, cX12_worthOf, 4, (some .int), yX12_worthOf, 0, 0, 0, 0, 0)
def mX12_bits : MRec := (RX12, cX12_bits, 3, (some .int), yX12_bits, 0, 0, 0, 0, 0)
def mX12_best : MRec := (RX12, cX12_best, 5, (some .int), yX12_best, 2, 47, 0, 0, 0)
set_option maxHeartbeats 1000000 in
theorem t_X12_doubt {K : Kmap} {V : Vmap} {x : Nat} {p0 : Int} (h_x : K x = some (0, 11)) (r_p0 : ir p0) : MC mX12_doubt K V [.ref x, ti p0] (IP K V (fun X => True)) := by
  refine MC.start 2 (by decide +kernel) rfl rfl rfl (ls0 := [some (.ref x), some (ti p0), none, none]) rfl ?_
  refine GO.iload_n dX12_doubt_0 rfl rfl ?_
  refine GO.iconst dX12_doubt_1 ?_
  refine GO.iconst dX12_doubt_2 ?_
  refine GO.callS (N := mX12_in) dX12_doubt_3 gS_RX12_371 (t_X12_in r_p0 (ir_c rfl) (ir_c rfl)) rfl [] rfl rfl (Nat.le_of_ble_eq_true rfl) rfl (k_ip fun X1 r2 h3 => ?_)
  have raw_in := h3.2.2.2
  have rw3 := h3.2.2.2
  refine GO.if_ne (tgt := 11) dX12_doubt_6 (by decide) r2 (fun c4 => ?_) (fun c4 => ?_)
  ·
    have q5 := h3.2.1 (by omega)
    refine GO.iconst dX12_doubt_11 ?_
    refine GO.istore_n (ls1 := [some (.ref x), some (ti p0), some (ti 0), none]) dX12_doubt_12 rfl rfl rfl ?_
    refine GO.loop1 (fun i6 W => 0 ≤ i6 ∧ i6 ≤ 200 ∧ V = W) (fun i6 => [some (.ref x), some (ti p0), some (ti i6), none]) (fun i6 W => (2147483647 - i6).toNat) 0 ⟨by omega, by omega, rfl⟩ rfl (fun i6 V680 hp682 ih681 => ?_)
    obtain ⟨l_i6, u_i6, rfl⟩ := hp682
    have r_i6 : ir i6 := ⟨by omega, by omega⟩
    show GO mX12_doubt K V (IP K V (fun X => True)) K V 0 0 13 [some (.ref x), some (ti p0), some (ti i6), none] []
    refine GO.iload_n dX12_doubt_13 rfl rfl ?_
    refine GO.aload_n dX12_doubt_14 rfl rfl ?_
    refine GO.getI h_x fl_RX12_709 rfl rfl dX12_doubt_15 (fun l683 u684 => ?_)
    refine GO.icmp_ge (tgt := 64) dX12_doubt_18 (by decide) r_i6 vi_ir (fun c685 => ?_) (fun c685 => ?_)
    ·
      refine GO.iconst dX12_doubt_64 ?_
      exact GO.reti rfl rfl dX12_doubt_65 ⟨rfl, rfl, _, rfl, (ir_c rfl), trivial⟩
    ·
      refine GO.iload_n dX12_doubt_21 rfl rfl ?_
      refine GO.iconst dX12_doubt_22 ?_
      refine GO.iadd dX12_doubt_23 ?_
      refine GO.name (fun z686 hz687 => ?_)
      refine GO.istore_n (ls1 := [some (.ref x), some (ti p0), some (ti i6), some (ti z686)]) dX12_doubt_24 rfl rfl rfl ?_
      refine GO.loop1 (fun i688 W => 1 ≤ i688 ∧ i688 ≤ 200 ∧ V = W) (fun i688 => [some (.ref x), some (ti p0), some (ti i6), some (ti i688)]) (fun i688 W => (2147483647 - i688).toNat) z686 ⟨by omega, by omega, rfl⟩ rfl (fun i688 V697 hp699 ih698 => ?_)
      obtain ⟨l_i688, u_i688, rfl⟩ := hp699
      have r_i688 : ir i688 := ⟨by omega, by omega⟩
      show GO mX12_doubt K V (IP K V (fun X => True)) K V 0 0 25 [some (.ref x), some (ti p0), some (ti i6), some (ti i688)] []
      refine GO.iload_n dX12_doubt_25 rfl rfl ?_
      refine GO.aload_n dX12_doubt_26 rfl rfl ?_
      refine GO.getI h_x fl_RX12_709 rfl rfl dX12_doubt_27 (fun l700 u701 => ?_)
      refine GO.icmp_ge (tgt := 58) dX12_doubt_30 (by decide) r_i688 vi_ir (fun c702 => ?_) (fun c702 => ?_)
      ·
        refine GO.iinc (X := i6) (n := 1) (Y := i6 + 1) (ls1 := [some (.ref x), some (ti p0), some (ti (i6 + 1)), some (ti i688)]) dX12_doubt_58 rfl rfl rfl rfl ?_
        refine GO.goto (tgt := 13) dX12_doubt_61 (by decide) ?_
        refine GO.drop [true, true, true, false] rfl ?_
        exact ih681 (i6 + 1) V ⟨by omega, by omega, rfl⟩ (by show (2147483647 - (i6 + 1)).toNat < (2147483647 - i6).toNat; omega)
      ·
        refine GO.aload_n dX12_doubt_33 rfl rfl ?_
        refine GO.iload_n dX12_doubt_34 rfl rfl ?_
        refine GO.iload_n dX12_doubt_35 rfl rfl ?_
        refine GO.callV (ci := 11) (N := mX12_isDoubt) dX12_doubt_36 (RX12, TX12, 151) rfl gV_RX12_715 h_x (t_X12_isDoubt h_x r_i6 r_i688 (by omega) (by omega) (by omega) (by omega)) rfl [] rfl rfl (Nat.le_of_ble_eq_true rfl) rfl (k_ip fun X703 r704 h705 => ?_)
        refine GO.if_eq (tgt := 52) dX12_doubt_39 (by decide) r704 (fun c706 => ?_) (fun c706 => ?_)
        ·
          refine GO.iinc (X := i688) (n := 1) (Y := i688 + 1) (ls1 := [some (.ref x), some (ti p0), some (ti i6), some (ti (i688 + 1))]) dX12_doubt_52 rfl rfl rfl rfl ?_
          refine GO.goto (tgt := 25) dX12_doubt_55 (by decide) ?_
          exact ih698 (i688 + 1) V ⟨by omega, by omega, rfl⟩ (by show (2147483647 - (i688 + 1)).toNat < (2147483647 - i688).toNat; omega)
        ·
          refine GO.iload_n dX12_doubt_42 rfl rfl ?_
          refine GO.if_ne (tgt := 50) dX12_doubt_43 (by decide) r_p0 (fun c707 => ?_) (fun c707 => ?_)
          ·
            refine GO.iload_n dX12_doubt_50 rfl rfl ?_
            exact GO.reti rfl rfl dX12_doubt_51 ⟨rfl, rfl, _, rfl, r_i688, trivial⟩
          ·
            refine GO.iload_n dX12_doubt_46 rfl rfl ?_
            refine GO.goto (tgt := 51) dX12_doubt_47 (by decide) ?_
            exact GO.reti rfl rfl dX12_doubt_51 ⟨rfl, rfl, _, rfl, r_i6, trivial⟩
  ·
    have q708 := h3.2.2.1 (by omega)
    refine GO.iconst dX12_doubt_9 ?_
    exact GO.reti rfl rfl dX12_doubt_10 ⟨rfl, rfl, _, rfl, (ir_c rfl), trivial⟩

set_option maxHeartbeats 1000000 in
theorem t_X12_word {K : Kmap} {V : Vmap} {x : Nat} {p0 : Int} (h_x : K x = some (0, 11)) (r_p0 : ir p0) : MC mX12_word K V [.ref x, ti p0] (IS K (fun X V1 => ((X = (-1) ∧ vi V1 x 133 = vi V x 133 ∧ (vi V x 133 ≥ 7 ∨ p0 < 0 ∨ p0 > 1000)) ∨ (X = vi V x 133 ∧ vi V1 x 133 = (vi V x 133 + 1) ∧ vi V x 133 < 7 ∧ p0 ≥ 0 ∧ p0 ≤ 1000)))) := by
  refine MC.start 0 (by decide +kernel) rfl rfl rfl (ls0 := [some (.ref x), some (ti p0)]) rfl ?_
  refine GO.iload_n dX12_word_0 rfl rfl ?_
  refine GO.iconst dX12_word_1 ?_
  refine GO.sipush dX12_word_2 rfl ?_
  refine GO.callS (N := mX12_in) dX12_word_5 gS_RX12_371 (t_X12_in r_p0 (ir_c rfl) (ir_c rfl)) rfl [] rfl rfl (Nat.le_of_ble_eq_true rfl) rfl (k_ip fun X1 r2 h3 => ?_)
  have raw_in := h3.2.2.2
  have rw5 := h3.2.2.2
  refine GO.if_eq (tgt := 20) dX12_word_8 (by decide) r2 (fun c4 => ?_) (fun c4 => ?_)
  ·
    have q5 := h3.2.2.1 (by omega)
    refine GO.iconst dX12_word_20 ?_
    have q6 : -2147483648 ≤ vi V x 133 ∧ vi V x 133 ≤ 2147483647 := vi_ir
    exact GO.reti rfl rfl dX12_word_21 ⟨rfl, _, rfl, (ir_c rfl), by omega⟩
  ·
    have q7 := h3.2.1 (by omega)
    refine GO.aload_n dX12_word_11 rfl rfl ?_
    refine GO.getI h_x fl_RX12_718 rfl rfl dX12_word_12 (fun l8 u9 => ?_)
    refine GO.bipush dX12_word_15 rfl ?_
    refine GO.icmp_ne (tgt := 22) dX12_word_17 (by decide) vi_ir (ir_c rfl) (fun c10 => ?_) (fun c10 => ?_)
    ·
      refine GO.aload_n dX12_word_22 rfl rfl ?_
      refine GO.getA (n := 7) h_x fl_RX12_319 rfl rfl rfl rfl dX12_word_23 (fun hv12 h11 => ?_)
      refine GO.aload_n dX12_word_26 rfl rfl ?_
      refine GO.getI h_x fl_RX12_718 rfl rfl dX12_word_27 (fun l13 u14 => ?_)
      refine GO.iload_n dX12_word_30 rfl rfl ?_
      refine GO.iast (t := 108) rfl rfl (by decide +kernel) h11 vi_ir (by omega) (by omega) r_p0 (r_p0).1 (r_p0).2 dX12_word_31 (fun V16 e15 => ?_)
      refine GO.aload_n dX12_word_32 rfl rfl ?_
      refine GO.aload_n dX12_word_33 rfl rfl ?_
      refine GO.getI h_x fl_RX12_718 rfl rfl dX12_word_34 (fun l17 u18 => ?_)
      have e19 : vi V16 x 133 = vi V x 133 := vi_up e15 (Or.inl (K_ne h_x h11 (by decide)))
      refine GO.iconst dX12_word_37 ?_
      refine GO.iadd dX12_word_38 ?_
      refine GO.putI h_x fp_RX12_718 rfl (by decide +kernel) ⟨by omega, by omega⟩ (by omega) (by omega) dX12_word_39 (fun V21 e20 => ?_)
      refine GO.aload_n dX12_word_42 rfl rfl ?_
      refine GO.getI h_x fl_RX12_718 rfl rfl dX12_word_43 (fun l22 u23 => ?_)
      have e24 : vi V21 x 133 = (vi V16 x 133) + 1 := upd2_int e20 ⟨by omega, by omega⟩
      refine GO.iconst dX12_word_46 ?_
      refine GO.isub dX12_word_47 ?_
      exact GO.reti rfl rfl dX12_word_48 ⟨rfl, _, rfl, ⟨by omega, by omega⟩, by omega⟩
    ·
      refine GO.iconst dX12_word_20 ?_
      exact GO.reti rfl rfl dX12_word_21 ⟨rfl, _, rfl, (ir_c rfl), by omega⟩

set_option maxHeartbeats 1000000 in
theorem t_X12_isWord {K : Kmap} {V : Vmap} {x : Nat} {p0 : Int} (h_x : K x = some (0, 11)) (r_p0 : ir p0) : MC mX12_isWord K V [.ref x, ti p0] (IP K V (fun X => (X = 0 ∨ X = 1) ∧ (X ≠ 0 → p0 ≥ 0 ∧ p0 ≤ 6 ∧ p0 < vi V x 133) ∧ (X = 0 → (p0 < 0 ∨ p0 ≥ vi V x 133)))) := by
  refine MC.start 0 (by decide +kernel) rfl rfl rfl (ls0 := [some (.ref x), some (ti p0)]) rfl ?_
  refine GO.iload_n dX12_isWord_0 rfl rfl ?_
  refine GO.if_lt (tgt := 16) dX12_isWord_1 (by decide) r_p0 (fun c1 => ?_) (fun c1 => ?_)
  ·
    refine GO.iconst dX12_isWord_16 ?_
    have q2 : -2147483648 ≤ vi V x 133 ∧ vi V x 133 ≤ 2147483647 := vi_ir
    exact GO.retz rfl rfl dX12_isWord_17 (Or.inl rfl) ⟨rfl, rfl, _, rfl, (ir_c rfl), ⟨Or.inl rfl, fun h => absurd rfl h, fun h => by omega⟩⟩
  ·
    refine GO.iload_n dX12_isWord_4 rfl rfl ?_
    refine GO.aload_n dX12_isWord_5 rfl rfl ?_
    refine GO.getI h_x fl_RX12_718 rfl rfl dX12_isWord_6 (fun l3 u4 => ?_)
    refine GO.icmp_ge (tgt := 16) dX12_isWord_9 (by decide) r_p0 vi_ir (fun c5 => ?_) (fun c5 => ?_)
    ·
      refine GO.iconst dX12_isWord_16 ?_
      have q6 : -2147483648 ≤ p0 ∧ p0 ≤ 2147483647 := r_p0
      exact GO.retz rfl rfl dX12_isWord_17 (Or.inl rfl) ⟨rfl, rfl, _, rfl, (ir_c rfl), ⟨Or.inl rfl, fun h => absurd rfl h, fun h => by omega⟩⟩
    ·
      refine GO.iconst dX12_isWord_12 ?_
      refine GO.goto (tgt := 17) dX12_isWord_13 (by decide) ?_
      have q7 : -2147483648 ≤ p0 ∧ p0 ≤ 2147483647 := r_p0
      exact GO.retz rfl rfl dX12_isWord_17 (Or.inr rfl) ⟨rfl, rfl, _, rfl, (ir_c rfl), ⟨Or.inr rfl, fun h => by omega, fun h => absurd h (by decide)⟩⟩

set_option maxHeartbeats 1000000 in
theorem t_X12_asks {K : Kmap} {V : Vmap} {x : Nat} {p0 : Int} {p1 : Int} {p2 : Int} (h_x : K x = some (0, 11)) (r_p0 : ir p0) (r_p1 : ir p1) (r_p2 : ir p2) : MC mX12_asks K V [.ref x, ti p0, ti p1, ti p2] (IS K (fun X V1 => (X = 0 ∨ X = 1) ∧ (X ≠ 0 → True) ∧ (X = 0 → True) ∧ (ASR V V1 x p0 p1 p2 X))) := by
  refine MC.start 1 (by decide +kernel) rfl rfl rfl (ls0 := [some (.ref x), some (ti p0), some (ti p1), some (ti p2), none]) rfl ?_
  refine GO.aload_n dX12_asks_0 rfl rfl ?_
  refine GO.iload_n dX12_asks_1 rfl rfl ?_
  refine GO.callV (ci := 11) (N := mX12_isParty) dX12_asks_2 (RX12, TX12, 151) rfl gV_RX12_406 h_x (t_X12_isParty h_x r_p0) rfl [] rfl rfl (Nat.le_of_ble_eq_true rfl) rfl (k_ip fun X1 r2 h3 => ?_)
  refine GO.if_eq (tgt := 34) dX12_asks_5 (by decide) r2 (fun c4 => ?_) (fun c4 => ?_)
  ·
    have cc5 := c4
    have q5 := h3.2.2 (by omega)
    refine GO.iconst dX12_asks_34 ?_
    exact GO.retz rfl rfl dX12_asks_35 (Or.inl rfl) ⟨rfl, _, rfl, (ir_c rfl), ⟨Or.inl rfl, fun _ => trivial, fun _ => trivial, (by first | exact ASR.no (by omega))⟩⟩
  ·
    have cc5 := c4
    have q6 := h3.2.1 (by omega)
    refine GO.aload_n dX12_asks_8 rfl rfl ?_
    refine GO.iload_n dX12_asks_9 rfl rfl ?_
    refine GO.callV (ci := 11) (N := mX12_isWord) dX12_asks_10 (RX12, TX12, 151) rfl gV_RX12_721 h_x (t_X12_isWord h_x r_p1) rfl [] rfl rfl (Nat.le_of_ble_eq_true rfl) rfl (k_ip fun X7 r8 h9 => ?_)
    refine GO.if_eq (tgt := 34) dX12_asks_13 (by decide) r8 (fun c10 => ?_) (fun c10 => ?_)
    ·
      have cc13 := c10
      have q11 := h9.2.2 (by omega)
      refine GO.iconst dX12_asks_34 ?_
      exact GO.retz rfl rfl dX12_asks_35 (Or.inl rfl) ⟨rfl, _, rfl, (ir_c rfl), ⟨Or.inl rfl, fun _ => trivial, fun _ => trivial, (by first | exact ASR.no (by omega))⟩⟩
    ·
      have cc13 := c10
      have q12 := h9.2.1 (by omega)
      refine GO.iload_n dX12_asks_16 rfl rfl ?_
      refine GO.iconst dX12_asks_17 ?_
      refine GO.icmp_eq (tgt := 29) dX12_asks_18 (by decide) r_p2 (ir_c rfl) (fun c13 => ?_) (fun c13 => ?_)
      ·
        have cc18 := c13
        refine GO.iload_n dX12_asks_29 rfl rfl ?_
        refine GO.iload_n dX12_asks_30 rfl rfl ?_
        have q15 : -2147483648 ≤ p2 ∧ p2 ≤ 2147483647 := r_p2
        have q16 : -2147483648 ≤ p1 ∧ p1 ≤ 2147483647 := r_p1
        have q17 : -2147483648 ≤ vi V x 133 ∧ vi V x 133 ≤ 2147483647 := vi_ir
        refine GO.icmp_ne (tgt := 36) dX12_asks_31 (by decide) r_p1 r_p2 (fun c14 => ?_) (fun h => by exfalso; omega)
        have cc31 := c14
        refine GO.bipush dX12_asks_36 rfl ?_
        refine GO.iload_n dX12_asks_38 rfl rfl ?_
        refine GO.imul dX12_asks_39 ?_
        refine GO.iload_n dX12_asks_40 rfl rfl ?_
        refine GO.iadd dX12_asks_41 ?_
        refine GO.name (fun z18 hz19 => ?_)
        refine GO.istore (ls1 := [some (.ref x), some (ti p0), some (ti p1), some (ti p2), some (ti z18)]) dX12_asks_42 rfl rfl ?_
        refine GO.iload_n dX12_asks_44 rfl rfl ?_
        refine GO.iconst dX12_asks_45 ?_
        refine GO.icmp_ne (tgt := 62) dX12_asks_46 (by decide) r_p2 (ir_c rfl) (fun h => by exfalso; omega) (fun c20 => ?_)
        have cc46 := c20
        refine GO.aload_n dX12_asks_49 rfl rfl ?_
        refine GO.getA (n := 63) h_x fl_RX12_322 rfl rfl rfl rfl dX12_asks_50 (fun hv22 h21 => ?_)
        refine GO.iload dX12_asks_53 rfl ?_
        have q23 : -2147483648 ≤ p0 ∧ p0 ≤ 2147483647 := r_p0
        have q24 : -2147483648 ≤ vi V x 9 ∧ vi V x 9 ≤ 2147483647 := vi_ir
        refine GO.zald (t := 109) rfl rfl h21 ⟨by omega, by omega⟩ (by omega) (by omega) dX12_asks_55 (fun l25 u26 => ?_)
        refine GO.if_eq (tgt := 79) dX12_asks_56 (by decide) vi_ir (fun c27 => ?_) (fun c27 => ?_)
        ·
          have cc56 := c27
          refine GO.iload_n dX12_asks_79 rfl rfl ?_
          refine GO.iconst dX12_asks_80 ?_
          refine GO.icmp_ne (tgt := 95) dX12_asks_81 (by decide) r_p2 (ir_c rfl) (fun h => by exfalso; omega) (fun c28 => ?_)
          have cc81 := c28
          refine GO.aload_n dX12_asks_84 rfl rfl ?_
          refine GO.getRaw h_x fl_RX12_322 hv22 dX12_asks_85 ?_
          refine GO.iload dX12_asks_88 rfl ?_
          refine GO.iconst dX12_asks_90 ?_
          refine GO.zast (t := 109) rfl rfl (by decide +kernel) h21 ⟨by omega, by omega⟩ (by omega) (by omega) (by omega) (by omega) (by omega) dX12_asks_91 (fun V32 e31 => ?_)
          refine GO.goto (tgt := 108) dX12_asks_92 (by decide) ?_
          refine GO.iconst dX12_asks_108 ?_
          exact GO.retz rfl rfl dX12_asks_109 (Or.inr rfl) ⟨rfl, _, rfl, (ir_c rfl), ⟨Or.inr rfl, fun _ => trivial, fun _ => trivial, (by first | exact ASR.b1 (by assumption) cc56 (by assumption) (by omega) (by omega) | exact ASR.b0 (by assumption) cc56 (by omega) (by omega) | exact ASR.no (by omega))⟩⟩
        ·
          have cc56 := c27
          refine GO.goto (tgt := 77) dX12_asks_59 (by decide) ?_
          refine GO.iconst dX12_asks_77 ?_
          exact GO.retz rfl rfl dX12_asks_78 (Or.inl rfl) ⟨rfl, _, rfl, (ir_c rfl), ⟨Or.inl rfl, fun _ => trivial, fun _ => trivial, (by first | exact ASR.b1 (by assumption) cc56 (by assumption) (by omega) (by omega) | exact ASR.b0 (by assumption) cc56 (by omega) (by omega) | exact ASR.no (by omega))⟩⟩
      ·
        have cc18 := c13
        refine GO.aload_n dX12_asks_21 rfl rfl ?_
        refine GO.iload_n dX12_asks_22 rfl rfl ?_
        refine GO.callV (ci := 11) (N := mX12_isWord) dX12_asks_23 (RX12, TX12, 151) rfl gV_RX12_721 h_x (t_X12_isWord h_x r_p2) rfl [] rfl rfl (Nat.le_of_ble_eq_true rfl) rfl (k_ip fun X33 r34 h35 => ?_)
        refine GO.if_eq (tgt := 34) dX12_asks_26 (by decide) r34 (fun c36 => ?_) (fun c36 => ?_)
        ·
          have cc26 := c36
          have q37 := h35.2.2 (by omega)
          refine GO.iconst dX12_asks_34 ?_
          exact GO.retz rfl rfl dX12_asks_35 (Or.inl rfl) ⟨rfl, _, rfl, (ir_c rfl), ⟨Or.inl rfl, fun _ => trivial, fun _ => trivial, (by first | exact ASR.no (by omega))⟩⟩
        ·
          have cc26 := c36
          have q38 := h35.2.1 (by omega)
          refine GO.iload_n dX12_asks_29 rfl rfl ?_
          refine GO.iload_n dX12_asks_30 rfl rfl ?_
          refine GO.icmp_ne (tgt := 36) dX12_asks_31 (by decide) r_p1 r_p2 (fun c39 => ?_) (fun c39 => ?_)
          ·
            have cc31 := c39
            refine GO.bipush dX12_asks_36 rfl ?_
            refine GO.iload_n dX12_asks_38 rfl rfl ?_
            refine GO.imul dX12_asks_39 ?_
            refine GO.iload_n dX12_asks_40 rfl rfl ?_
            refine GO.iadd dX12_asks_41 ?_
            refine GO.name (fun z40 hz41 => ?_)
            refine GO.istore (ls1 := [some (.ref x), some (ti p0), some (ti p1), some (ti p2), some (ti z40)]) dX12_asks_42 rfl rfl ?_
            refine GO.iload_n dX12_asks_44 rfl rfl ?_
            refine GO.iconst dX12_asks_45 ?_
            have q43 : -2147483648 ≤ p2 ∧ p2 ≤ 2147483647 := r_p2
            have q44 : -2147483648 ≤ vi V x 133 ∧ vi V x 133 ≤ 2147483647 := vi_ir
            have q45 : -2147483648 ≤ p1 ∧ p1 ≤ 2147483647 := r_p1
            have q46 : -2147483648 ≤ p0 ∧ p0 ≤ 2147483647 := r_p0
            have q47 : -2147483648 ≤ vi V x 9 ∧ vi V x 9 ≤ 2147483647 := vi_ir
            refine GO.icmp_ne (tgt := 62) dX12_asks_46 (by decide) r_p2 (ir_c rfl) (fun c42 => ?_) (fun h => by exfalso; omega)
            have cc46 := c42
            refine GO.aload_n dX12_asks_62 rfl rfl ?_
            refine GO.getA (n := 441) h_x fl_RX12_325 rfl rfl rfl rfl dX12_asks_63 (fun hv49 h48 => ?_)
            refine GO.bipush dX12_asks_66 rfl ?_
            refine GO.iload dX12_asks_68 rfl ?_
            refine GO.imul dX12_asks_70 ?_
            refine GO.iload_n dX12_asks_71 rfl rfl ?_
            refine GO.iadd dX12_asks_72 ?_
            refine GO.zald (t := 110) rfl rfl h48 ⟨by omega, by omega⟩ (by omega) (by omega) dX12_asks_73 (fun l50 u51 => ?_)
            refine GO.if_eq (tgt := 79) dX12_asks_74 (by decide) vi_ir (fun c52 => ?_) (fun c52 => ?_)
            ·
              have cc74 := c52
              refine GO.iload_n dX12_asks_79 rfl rfl ?_
              refine GO.iconst dX12_asks_80 ?_
              refine GO.icmp_ne (tgt := 95) dX12_asks_81 (by decide) r_p2 (ir_c rfl) (fun c53 => ?_) (fun h => by exfalso; omega)
              have cc81 := c53
              refine GO.aload_n dX12_asks_95 rfl rfl ?_
              refine GO.getRaw h_x fl_RX12_325 hv49 dX12_asks_96 ?_
              refine GO.bipush dX12_asks_99 rfl ?_
              refine GO.iload dX12_asks_101 rfl ?_
              refine GO.imul dX12_asks_103 ?_
              refine GO.iload_n dX12_asks_104 rfl rfl ?_
              refine GO.iadd dX12_asks_105 ?_
              refine GO.iconst dX12_asks_106 ?_
              refine GO.zast (t := 110) rfl rfl (by decide +kernel) h48 ⟨by omega, by omega⟩ (by omega) (by omega) (by omega) (by omega) (by omega) dX12_asks_107 (fun V57 e56 => ?_)
              refine GO.iconst dX12_asks_108 ?_
              exact GO.retz rfl rfl dX12_asks_109 (Or.inr rfl) ⟨rfl, _, rfl, (ir_c rfl), ⟨Or.inr rfl, fun _ => trivial, fun _ => trivial, (by first | exact ASR.w1 (by assumption) cc74 (by assumption) (by omega) (by omega) | exact ASR.w0 (by assumption) cc74 (by omega) (by omega) | exact ASR.no (by omega))⟩⟩
            ·
              have cc74 := c52
              refine GO.iconst dX12_asks_77 ?_
              exact GO.retz rfl rfl dX12_asks_78 (Or.inl rfl) ⟨rfl, _, rfl, (ir_c rfl), ⟨Or.inl rfl, fun _ => trivial, fun _ => trivial, (by first | exact ASR.w1 (by assumption) cc74 (by assumption) (by omega) (by omega) | exact ASR.w0 (by assumption) cc74 (by omega) (by omega) | exact ASR.no (by omega))⟩⟩
          ·
            have cc31 := c39
            refine GO.iconst dX12_asks_34 ?_
            exact GO.retz rfl rfl dX12_asks_35 (Or.inl rfl) ⟨rfl, _, rfl, (ir_c rfl), ⟨Or.inl rfl, fun _ => trivial, fun _ => trivial, (by first | exact ASR.no (by omega))⟩⟩

set_option maxHeartbeats 1000000 in
theorem t_X12_isBlocked {K : Kmap} {V : Vmap} {x : Nat} {p0 : Int} {p1 : Int} (h_x : K x = some (0, 11)) (r_p0 : ir p0) (r_p1 : ir p1) (q_0 : p0 ≥ 0) (q_1 : p0 ≤ 8) : MC mX12_isBlocked K V [.ref x, ti p0, ti p1] (IP K V (fun X => (X = 0 ∨ X = 1) ∧ (X ≠ 0 → True) ∧ (X = 0 → True) ∧ (X ≠ 0 ↔ BRp V x p0 p1))) := by
  refine MC.start 2 (by decide +kernel) rfl rfl rfl (ls0 := [some (.ref x), some (ti p0), some (ti p1), none, none]) rfl ?_
  refine GO.iconst dX12_isBlocked_0 ?_
  refine GO.istore_n (ls1 := [some (.ref x), some (ti p0), some (ti p1), some (ti 0), none]) dX12_isBlocked_1 rfl rfl rfl ?_
  refine GO.loop1 (fun i1 W => 0 ≤ i1 ∧ i1 ≤ 7 ∧ (BRn W x p0 p1 i1) ∧ V = W) (fun i1 => [some (.ref x), some (ti p0), some (ti p1), some (ti i1), none]) (fun i1 W => (2147483647 - i1).toNat) 0 ⟨by omega, by omega, (by first | exact BRn.nil), rfl⟩ rfl (fun i1 V394 hp396 ih395 => ?_)
  obtain ⟨l_i1, u_i1, hbn, rfl⟩ := hp396
  have r_i1 : ir i1 := ⟨by omega, by omega⟩
  show GO mX12_isBlocked K V (IP K V (fun X => (X = 0 ∨ X = 1) ∧ (X ≠ 0 → True) ∧ (X = 0 → True) ∧ (X ≠ 0 ↔ BRp V x p0 p1))) K V 0 0 2 [some (.ref x), some (ti p0), some (ti p1), some (ti i1), none] []
  refine GO.iload_n dX12_isBlocked_2 rfl rfl ?_
  refine GO.aload_n dX12_isBlocked_3 rfl rfl ?_
  refine GO.getI h_x fl_RX12_718 rfl rfl dX12_isBlocked_4 (fun l397 u398 => ?_)
  refine GO.icmp_ge (tgt := 99) dX12_isBlocked_7 (by decide) r_i1 vi_ir (fun c399 => ?_) (fun c399 => ?_)
  ·
    have cc7 := c399
    refine GO.iconst dX12_isBlocked_99 ?_
    exact GO.retz rfl rfl dX12_isBlocked_100 (Or.inl rfl) ⟨rfl, rfl, _, rfl, (ir_c rfl), ⟨Or.inl rfl, fun _ => trivial, fun _ => trivial, (by first | exact iff_of_false (fun h => h rfl) (BRn.end hbn (by omega)))⟩⟩
  ·
    have cc7 := c399
    refine GO.iload_n dX12_isBlocked_10 rfl rfl ?_
    refine GO.iload_n dX12_isBlocked_11 rfl rfl ?_
    refine GO.ishr dX12_isBlocked_12 ?_
    refine GO.iconst dX12_isBlocked_13 ?_
    refine GO.iand dX12_isBlocked_14 ?_
    refine GO.iconst dX12_isBlocked_15 ?_
    refine GO.icmp_ne (tgt := 35) dX12_isBlocked_16 (by decide) wand_ir (ir_c rfl) (fun c400 => ?_) (fun c400 => ?_)
    ·
      have cc16 := c400
      refine GO.iconst dX12_isBlocked_35 ?_
      refine GO.istore (ls1 := [some (.ref x), some (ti p0), some (ti p1), some (ti i1), some (ti 0)]) dX12_isBlocked_36 rfl rfl ?_
      refine GO.loop1 (fun i401 W => 0 ≤ i401 ∧ i401 ≤ 7 ∧ (BRm W x p0 p1 i1 i401) ∧ V = W) (fun i401 => [some (.ref x), some (ti p0), some (ti p1), some (ti i1), some (ti i401)]) (fun i401 W => (2147483647 - i401).toNat) 0 ⟨by omega, by omega, (by first | exact BRm.n1 cc16), rfl⟩ rfl (fun i401 V446 hp448 ih447 => ?_)
      obtain ⟨l_i401, u_i401, hbm, rfl⟩ := hp448
      have r_i401 : ir i401 := ⟨by omega, by omega⟩
      show GO mX12_isBlocked K V (IP K V (fun X => (X = 0 ∨ X = 1) ∧ (X ≠ 0 → True) ∧ (X = 0 → True) ∧ (X ≠ 0 ↔ BRp V x p0 p1))) K V 0 0 38 [some (.ref x), some (ti p0), some (ti p1), some (ti i1), some (ti i401)] []
      refine GO.iload dX12_isBlocked_38 rfl ?_
      refine GO.aload_n dX12_isBlocked_40 rfl rfl ?_
      refine GO.getI h_x fl_RX12_718 rfl rfl dX12_isBlocked_41 (fun l449 u450 => ?_)
      refine GO.icmp_ge (tgt := 93) dX12_isBlocked_44 (by decide) r_i401 vi_ir (fun c451 => ?_) (fun c451 => ?_)
      ·
        have cc44 := c451
        refine GO.iinc (X := i1) (n := 1) (Y := i1 + 1) (ls1 := [some (.ref x), some (ti p0), some (ti p1), some (ti (i1 + 1)), some (ti i401)]) dX12_isBlocked_93 rfl rfl rfl rfl ?_
        refine GO.goto (tgt := 2) dX12_isBlocked_96 (by decide) ?_
        refine GO.drop [true, true, true, true, false] rfl ?_
        exact ih395 (i1 + 1) V ⟨by omega, by omega, (by first | exact BRn.step hbn (by omega) hbm (by omega) | exact BRn.nil), rfl⟩ (by show (2147483647 - (i1 + 1)).toNat < (2147483647 - i1).toNat; omega)
      ·
        have cc44 := c451
        refine GO.iload_n dX12_isBlocked_47 rfl rfl ?_
        refine GO.iload_n dX12_isBlocked_48 rfl rfl ?_
        refine GO.ishr dX12_isBlocked_49 ?_
        refine GO.iconst dX12_isBlocked_50 ?_
        refine GO.iand dX12_isBlocked_51 ?_
        refine GO.if_ne (tgt := 87) dX12_isBlocked_52 (by decide) wand_ir (fun c452 => ?_) (fun c452 => ?_)
        ·
          have cc52 := c452
          refine GO.iinc (X := i401) (n := 1) (Y := i401 + 1) (ls1 := [some (.ref x), some (ti p0), some (ti p1), some (ti i1), some (ti (i401 + 1))]) dX12_isBlocked_87 rfl rfl rfl rfl ?_
          refine GO.goto (tgt := 38) dX12_isBlocked_90 (by decide) ?_
          exact ih447 (i401 + 1) V ⟨by omega, by omega, (by first | exact BRm.s1 hbm (by omega) cc52 | exact BRm.n1 cc16), rfl⟩ (by show (2147483647 - (i401 + 1)).toNat < (2147483647 - i401).toNat; omega)
        ·
          have cc52 := c452
          refine GO.iload_n dX12_isBlocked_55 rfl rfl ?_
          refine GO.iload dX12_isBlocked_56 rfl ?_
          refine GO.ishr dX12_isBlocked_58 ?_
          refine GO.iconst dX12_isBlocked_59 ?_
          refine GO.iand dX12_isBlocked_60 ?_
          refine GO.iconst dX12_isBlocked_61 ?_
          refine GO.icmp_ne (tgt := 87) dX12_isBlocked_62 (by decide) wand_ir (ir_c rfl) (fun c453 => ?_) (fun c453 => ?_)
          ·
            have cc62 := c453
            refine GO.iinc (X := i401) (n := 1) (Y := i401 + 1) (ls1 := [some (.ref x), some (ti p0), some (ti p1), some (ti i1), some (ti (i401 + 1))]) dX12_isBlocked_87 rfl rfl rfl rfl ?_
            refine GO.goto (tgt := 38) dX12_isBlocked_90 (by decide) ?_
            exact ih447 (i401 + 1) V ⟨by omega, by omega, (by first | exact BRm.s1 hbm (by omega) cc52 | exact BRm.s2 hbm (by omega) cc62 | exact BRm.n1 cc16), rfl⟩ (by show (2147483647 - (i401 + 1)).toNat < (2147483647 - i401).toNat; omega)
          ·
            have cc62 := c453
            refine GO.aload_n dX12_isBlocked_65 rfl rfl ?_
            refine GO.getA (n := 441) h_x fl_RX12_325 rfl rfl rfl rfl dX12_isBlocked_66 (fun hv455 h454 => ?_)
            refine GO.bipush dX12_isBlocked_69 rfl ?_
            refine GO.bipush dX12_isBlocked_71 rfl ?_
            refine GO.iload_n dX12_isBlocked_73 rfl rfl ?_
            refine GO.imul dX12_isBlocked_74 ?_
            refine GO.iload_n dX12_isBlocked_75 rfl rfl ?_
            refine GO.iadd dX12_isBlocked_76 ?_
            refine GO.imul dX12_isBlocked_77 ?_
            refine GO.iload dX12_isBlocked_78 rfl ?_
            refine GO.iadd dX12_isBlocked_80 ?_
            have q456 : -2147483648 ≤ p0 ∧ p0 ≤ 2147483647 := r_p0
            refine GO.zald (t := 110) rfl rfl h454 ⟨by omega, by omega⟩ (by omega) (by omega) dX12_isBlocked_81 (fun l457 u458 => ?_)
            refine GO.if_eq (tgt := 87) dX12_isBlocked_82 (by decide) vi_ir (fun c459 => ?_) (fun c459 => ?_)
            ·
              have cc82 := c459
              refine GO.iinc (X := i401) (n := 1) (Y := i401 + 1) (ls1 := [some (.ref x), some (ti p0), some (ti p1), some (ti i1), some (ti (i401 + 1))]) dX12_isBlocked_87 rfl rfl rfl rfl ?_
              refine GO.goto (tgt := 38) dX12_isBlocked_90 (by decide) ?_
              exact ih447 (i401 + 1) V ⟨by omega, by omega, (by first | exact BRm.s1 hbm (by omega) cc52 | exact BRm.s2 hbm (by omega) cc62 | exact BRm.s3 hbm (by omega) cc82 | exact BRm.n1 cc16), rfl⟩ (by show (2147483647 - (i401 + 1)).toNat < (2147483647 - i401).toNat; omega)
            ·
              have cc82 := c459
              refine GO.iconst dX12_isBlocked_85 ?_
              exact GO.retz rfl rfl dX12_isBlocked_86 (Or.inr rfl) ⟨rfl, rfl, _, rfl, (ir_c rfl), ⟨Or.inr rfl, fun _ => trivial, fun _ => trivial, (by first | exact iff_of_true (by decide) (BRp.want cc82 cc52 cc62 (by omega) (by omega) (by omega) (by omega)) | exact iff_of_false (fun h => h rfl) (BRn.end hbn (by omega)))⟩⟩
    ·
      have cc16 := c400
      refine GO.aload_n dX12_isBlocked_19 rfl rfl ?_
      refine GO.getA (n := 63) h_x fl_RX12_322 rfl rfl rfl rfl dX12_isBlocked_20 (fun hv461 h460 => ?_)
      refine GO.bipush dX12_isBlocked_23 rfl ?_
      refine GO.iload_n dX12_isBlocked_25 rfl rfl ?_
      refine GO.imul dX12_isBlocked_26 ?_
      refine GO.iload_n dX12_isBlocked_27 rfl rfl ?_
      refine GO.iadd dX12_isBlocked_28 ?_
      have q462 : -2147483648 ≤ p0 ∧ p0 ≤ 2147483647 := r_p0
      refine GO.zald (t := 109) rfl rfl h460 ⟨by omega, by omega⟩ (by omega) (by omega) dX12_isBlocked_29 (fun l463 u464 => ?_)
      refine GO.if_eq (tgt := 35) dX12_isBlocked_30 (by decide) vi_ir (fun c465 => ?_) (fun c465 => ?_)
      ·
        have cc30 := c465
        refine GO.iconst dX12_isBlocked_35 ?_
        refine GO.istore (ls1 := [some (.ref x), some (ti p0), some (ti p1), some (ti i1), some (ti 0)]) dX12_isBlocked_36 rfl rfl ?_
        refine GO.loop1 (fun i466 W => 0 ≤ i466 ∧ i466 ≤ 7 ∧ (BRm W x p0 p1 i1 i466) ∧ V = W) (fun i466 => [some (.ref x), some (ti p0), some (ti p1), some (ti i1), some (ti i466)]) (fun i466 W => (2147483647 - i466).toNat) 0 ⟨by omega, by omega, (by first | exact BRm.n1 cc16 | exact BRm.n2 cc30), rfl⟩ rfl (fun i466 V487 hp489 ih488 => ?_)
        obtain ⟨l_i466, u_i466, hbm, rfl⟩ := hp489
        have r_i466 : ir i466 := ⟨by omega, by omega⟩
        show GO mX12_isBlocked K V (IP K V (fun X => (X = 0 ∨ X = 1) ∧ (X ≠ 0 → True) ∧ (X = 0 → True) ∧ (X ≠ 0 ↔ BRp V x p0 p1))) K V 0 0 38 [some (.ref x), some (ti p0), some (ti p1), some (ti i1), some (ti i466)] []
        refine GO.iload dX12_isBlocked_38 rfl ?_
        refine GO.aload_n dX12_isBlocked_40 rfl rfl ?_
        refine GO.getI h_x fl_RX12_718 rfl rfl dX12_isBlocked_41 (fun l490 u491 => ?_)
        refine GO.icmp_ge (tgt := 93) dX12_isBlocked_44 (by decide) r_i466 vi_ir (fun c492 => ?_) (fun c492 => ?_)
        ·
          have cc44 := c492
          refine GO.iinc (X := i1) (n := 1) (Y := i1 + 1) (ls1 := [some (.ref x), some (ti p0), some (ti p1), some (ti (i1 + 1)), some (ti i466)]) dX12_isBlocked_93 rfl rfl rfl rfl ?_
          refine GO.goto (tgt := 2) dX12_isBlocked_96 (by decide) ?_
          refine GO.drop [true, true, true, true, false] rfl ?_
          exact ih395 (i1 + 1) V ⟨by omega, by omega, (by first | exact BRn.step hbn (by omega) hbm (by omega) | exact BRn.nil), rfl⟩ (by show (2147483647 - (i1 + 1)).toNat < (2147483647 - i1).toNat; omega)
        ·
          have cc44 := c492
          refine GO.iload_n dX12_isBlocked_47 rfl rfl ?_
          refine GO.iload_n dX12_isBlocked_48 rfl rfl ?_
          refine GO.ishr dX12_isBlocked_49 ?_
          refine GO.iconst dX12_isBlocked_50 ?_
          refine GO.iand dX12_isBlocked_51 ?_
          have q494 : -2147483648 ≤ wand (wshr p1 i1) 1 ∧ wand (wshr p1 i1) 1 ≤ 2147483647 := wand_ir
          refine GO.if_ne (tgt := 87) dX12_isBlocked_52 (by decide) wand_ir (fun c493 => ?_) (fun h => by exfalso; omega)
          have cc52 := c493
          refine GO.iinc (X := i466) (n := 1) (Y := i466 + 1) (ls1 := [some (.ref x), some (ti p0), some (ti p1), some (ti i1), some (ti (i466 + 1))]) dX12_isBlocked_87 rfl rfl rfl rfl ?_
          refine GO.goto (tgt := 38) dX12_isBlocked_90 (by decide) ?_
          exact ih488 (i466 + 1) V ⟨by omega, by omega, (by first | exact BRm.s1 hbm (by omega) cc52 | exact BRm.n1 cc16 | exact BRm.n2 cc30), rfl⟩ (by show (2147483647 - (i466 + 1)).toNat < (2147483647 - i466).toNat; omega)
      ·
        have cc30 := c465
        refine GO.iconst dX12_isBlocked_33 ?_
        exact GO.retz rfl rfl dX12_isBlocked_34 (Or.inr rfl) ⟨rfl, rfl, _, rfl, (ir_c rfl), ⟨Or.inr rfl, fun _ => trivial, fun _ => trivial, (by first | exact iff_of_true (by decide) (BRp.bar cc30 cc16 (by omega) (by omega)) | exact iff_of_false (fun h => h rfl) (BRn.end hbn (by omega)))⟩⟩

set_option maxHeartbeats 1000000 in
theorem t_X12_blocks {K : Kmap} {V : Vmap} {x : Nat} {p0 : Int} (h_x : K x = some (0, 11)) (r_p0 : ir p0) : MC mX12_blocks K V [.ref x, ti p0] (IP K V (fun X => (X ≥ (-2147483648) ∧ X ≤ 2147483647) ∧ (BRS V x p0 X))) := by
  refine MC.start 2 (by decide +kernel) rfl rfl rfl (ls0 := [some (.ref x), some (ti p0), none, none]) rfl ?_
  refine GO.useWT (fun hW_0 => ?_)
  have hz9 := (hW_0.int h_x (j := 9) (Nat.le_of_ble_eq_true rfl) rfl).2
  refine GO.iload_n dX12_blocks_0 rfl rfl ?_
  refine GO.iconst dX12_blocks_1 ?_
  refine GO.iconst dX12_blocks_2 ?_
  refine GO.aload_n dX12_blocks_3 rfl rfl ?_
  refine GO.getI h_x fl_RX12_718 rfl rfl dX12_blocks_4 (fun l1 u2 => ?_)
  refine GO.ishl dX12_blocks_7 ?_
  refine GO.iconst dX12_blocks_8 ?_
  refine GO.isub dX12_blocks_9 ?_
  refine GO.norm (fun z3 r4 hn5 => ?_)
  refine GO.callS (N := mX12_in) dX12_blocks_10 gS_RX12_371 (t_X12_in r_p0 (ir_c rfl) r4) rfl [] rfl rfl (Nat.le_of_ble_eq_true rfl) rfl (k_ip fun X6 r7 h8 => ?_)
  have raw_in := h8.2.2.2
  have rw10 := h8.2.2.2
  refine GO.if_ne (tgt := 18) dX12_blocks_13 (by decide) r7 (fun c9 => ?_) (fun c9 => ?_)
  ·
    have q10 := h8.2.1 (by omega)
    refine GO.iconst dX12_blocks_18 ?_
    refine GO.istore_n (ls1 := [some (.ref x), some (ti p0), some (ti 0), none]) dX12_blocks_19 rfl rfl rfl ?_
    refine GO.iconst dX12_blocks_20 ?_
    refine GO.istore_n (ls1 := [some (.ref x), some (ti p0), some (ti 0), some (ti 0)]) dX12_blocks_21 rfl rfl rfl ?_
    have q13 : -2147483648 ≤ vi V x 9 ∧ vi V x 9 ≤ 2147483647 := vi_ir
    refine GO.loop2 (fun i11 i12 W => (-2147483648) ≤ i11 ∧ i11 ≤ 2147483647 ∧ 0 ≤ i12 ∧ i12 ≤ 9 ∧ (i12 ≤ vi W x 9) ∧ (BKr W x p0 i11 i12) ∧ V = W) (fun i11 i12 => [some (.ref x), some (ti p0), some (ti i11), some (ti i12)]) (fun i11 i12 W => (2147483647 - i12).toNat) 0 0 ⟨by omega, by omega, by omega, by omega, by omega, (by first | exact BKr.nil), rfl⟩ rfl (fun i11 i12 V378 hp380 ih379 => ?_)
    obtain ⟨l_i11, u_i11, l_i12, u_i12, n_i11, hbr, rfl⟩ := hp380
    have r_i11 : ir i11 := ⟨by omega, by omega⟩
    have r_i12 : ir i12 := ⟨by omega, by omega⟩
    show GO mX12_blocks K V (IP K V (fun X => (X ≥ (-2147483648) ∧ X ≤ 2147483647) ∧ (BRS V x p0 X))) K V 0 0 22 [some (.ref x), some (ti p0), some (ti i11), some (ti i12)] []
    refine GO.iload_n dX12_blocks_22 rfl rfl ?_
    refine GO.aload_n dX12_blocks_23 rfl rfl ?_
    refine GO.getI h_x fl_RX12_393 rfl rfl dX12_blocks_24 (fun l381 u382 => ?_)
    refine GO.icmp_ge (tgt := 55) dX12_blocks_27 (by decide) r_i12 vi_ir (fun c383 => ?_) (fun c383 => ?_)
    ·
      refine GO.iload_n dX12_blocks_55 rfl rfl ?_
      exact GO.reti rfl rfl dX12_blocks_56 ⟨rfl, rfl, _, rfl, r_i11, ⟨(by first | exact trivial | omega), (by first | exact BRS.in (by omega) (by omega) (by assumption) (by omega) (by omega) hbr (by omega) | exact BRS.out (by omega) (by omega) (by assumption) (by omega))⟩⟩
    ·
      refine GO.iload_n dX12_blocks_30 rfl rfl ?_
      refine GO.aload_n dX12_blocks_31 rfl rfl ?_
      refine GO.iload_n dX12_blocks_32 rfl rfl ?_
      refine GO.iload_n dX12_blocks_33 rfl rfl ?_
      refine GO.callV (ci := 11) (N := mX12_isBlocked) dX12_blocks_34 (RX12, TX12, 151) rfl gV_RX12_724 h_x (t_X12_isBlocked h_x r_i12 r_p0 (by omega) (by omega)) rfl [ti i11] rfl rfl (Nat.le_of_ble_eq_true rfl) rfl (k_ip fun X384 r385 h386 => ?_)
      have raw_isBlocked := h386.2.2.2
      have rw34 := h386.2.2.2
      refine GO.if_eq (tgt := 46) dX12_blocks_37 (by decide) r385 (fun c387 => ?_) (fun c387 => ?_)
      ·
        refine GO.iconst dX12_blocks_46 ?_
        refine GO.ior dX12_blocks_47 ?_
        refine GO.name (fun z388 hz389 => ?_)
        have r390 : ir z388 := hz389 ▸ wor_ir
        refine GO.istore_n (ls1 := [some (.ref x), some (ti p0), some (ti z388), some (ti i12)]) dX12_blocks_48 rfl rfl rfl ?_
        refine GO.iinc (X := i12) (n := 1) (Y := i12 + 1) (ls1 := [some (.ref x), some (ti p0), some (ti z388), some (ti (i12 + 1))]) dX12_blocks_49 rfl rfl rfl rfl ?_
        refine GO.goto (tgt := 22) dX12_blocks_52 (by decide) ?_
        have q391 : -2147483648 ≤ z388 ∧ z388 ≤ 2147483647 := r390
        have q392 : -2147483648 ≤ wor i11 0 ∧ wor i11 0 ≤ 2147483647 := wor_ir
        exact ih379 z388 (i12 + 1) V ⟨by omega, by omega, by omega, by omega, by omega, (by first | exact BKr.yes hbr rw34 (by omega) (by assumption) (by omega) | exact BKr.no hbr rw34 (by omega) (by assumption) (by assumption) (by omega) | exact BKr.nil), rfl⟩ (by show (2147483647 - (i12 + 1)).toNat < (2147483647 - i12).toNat; omega)
      ·
        refine GO.iconst dX12_blocks_40 ?_
        refine GO.iload_n dX12_blocks_41 rfl rfl ?_
        refine GO.ishl dX12_blocks_42 ?_
        refine GO.goto (tgt := 47) dX12_blocks_43 (by decide) ?_
        refine GO.ior dX12_blocks_47 ?_
        refine GO.name (fun z393 hz394 => ?_)
        have r395 : ir z393 := hz394 ▸ wor_ir
        refine GO.istore_n (ls1 := [some (.ref x), some (ti p0), some (ti z393), some (ti i12)]) dX12_blocks_48 rfl rfl rfl ?_
        refine GO.iinc (X := i12) (n := 1) (Y := i12 + 1) (ls1 := [some (.ref x), some (ti p0), some (ti z393), some (ti (i12 + 1))]) dX12_blocks_49 rfl rfl rfl rfl ?_
        refine GO.goto (tgt := 22) dX12_blocks_52 (by decide) ?_
        have q396 : -2147483648 ≤ z393 ∧ z393 ≤ 2147483647 := r395
        have q397 : -2147483648 ≤ wor i11 (wshl 1 i12) ∧ wor i11 (wshl 1 i12) ≤ 2147483647 := wor_ir
        exact ih379 z393 (i12 + 1) V ⟨by omega, by omega, by omega, by omega, by omega, (by first | exact BKr.yes hbr rw34 (by omega) (by assumption) (by omega) | exact BKr.no hbr rw34 (by omega) (by assumption) (by assumption) (by omega) | exact BKr.nil), rfl⟩ (by show (2147483647 - (i12 + 1)).toNat < (2147483647 - i12).toNat; omega)
  ·
    have q398 := h8.2.2.1 (by omega)
    refine GO.iconst dX12_blocks_16 ?_
    exact GO.reti rfl rfl dX12_blocks_17 ⟨rfl, rfl, _, rfl, (ir_c rfl), ⟨(by first | exact trivial | omega), (by first | exact BRS.out (by omega) (by omega) (by assumption) (by omega))⟩⟩

set_option maxHeartbeats 1000000 in
theorem t_X12_worthOf {K : Kmap} {V : Vmap} {x : Nat} {p0 : Int} (h_x : K x = some (0, 11)) (r_p0 : ir p0) : MC mX12_worthOf K V [.ref x, ti p0] (IP K V (fun X => True)) := by
  refine MC.start 2 (by decide +kernel) rfl rfl rfl (ls0 := [some (.ref x), some (ti p0), none, none]) rfl ?_
  refine GO.iconst dX12_worthOf_0 ?_
  refine GO.istore_n (ls1 := [some (.ref x), some (ti p0), some (ti 0), none]) dX12_worthOf_1 rfl rfl rfl ?_
  refine GO.iconst dX12_worthOf_2 ?_
  refine GO.istore_n (ls1 := [some (.ref x), some (ti p0), some (ti 0), some (ti 0)]) dX12_worthOf_3 rfl rfl rfl ?_
  refine GO.loop2 (fun i1 i2 W => (-2147483648) ≤ i1 ∧ i1 ≤ 2147483647 ∧ 0 ≤ i2 ∧ i2 ≤ 7 ∧ V = W) (fun i1 i2 => [some (.ref x), some (ti p0), some (ti i1), some (ti i2)]) (fun i1 i2 W => (2147483647 - i2).toNat) 0 0 ⟨by omega, by omega, by omega, by omega, rfl⟩ rfl (fun i1 i2 V288 hp290 ih289 => ?_)
  obtain ⟨l_i1, u_i1, l_i2, u_i2, rfl⟩ := hp290
  have r_i1 : ir i1 := ⟨by omega, by omega⟩
  have r_i2 : ir i2 := ⟨by omega, by omega⟩
  show GO mX12_worthOf K V (IP K V (fun X => True)) K V 0 0 4 [some (.ref x), some (ti p0), some (ti i1), some (ti i2)] []
  refine GO.iload_n dX12_worthOf_4 rfl rfl ?_
  refine GO.aload_n dX12_worthOf_5 rfl rfl ?_
  refine GO.getI h_x fl_RX12_718 rfl rfl dX12_worthOf_6 (fun l291 u292 => ?_)
  refine GO.icmp_ge (tgt := 40) dX12_worthOf_9 (by decide) r_i2 vi_ir (fun c293 => ?_) (fun c293 => ?_)
  ·
    refine GO.iload_n dX12_worthOf_40 rfl rfl ?_
    exact GO.reti rfl rfl dX12_worthOf_41 ⟨rfl, rfl, _, rfl, r_i1, trivial⟩
  ·
    refine GO.iload_n dX12_worthOf_12 rfl rfl ?_
    refine GO.iload_n dX12_worthOf_13 rfl rfl ?_
    refine GO.iload_n dX12_worthOf_14 rfl rfl ?_
    refine GO.ishr dX12_worthOf_15 ?_
    refine GO.iconst dX12_worthOf_16 ?_
    refine GO.iand dX12_worthOf_17 ?_
    refine GO.iconst dX12_worthOf_18 ?_
    refine GO.icmp_ne (tgt := 31) dX12_worthOf_19 (by decide) wand_ir (ir_c rfl) (fun c294 => ?_) (fun c294 => ?_)
    ·
      refine GO.iconst dX12_worthOf_31 ?_
      refine GO.iadd dX12_worthOf_32 ?_
      refine GO.name (fun z295 hz296 => ?_)
      refine GO.istore_n (ls1 := [some (.ref x), some (ti p0), some (ti z295), some (ti i2)]) dX12_worthOf_33 rfl rfl rfl ?_
      refine GO.iinc (X := i2) (n := 1) (Y := i2 + 1) (ls1 := [some (.ref x), some (ti p0), some (ti z295), some (ti (i2 + 1))]) dX12_worthOf_34 rfl rfl rfl rfl ?_
      refine GO.goto (tgt := 4) dX12_worthOf_37 (by decide) ?_
      exact ih289 z295 (i2 + 1) V ⟨by omega, by omega, by omega, by omega, rfl⟩ (by show (2147483647 - (i2 + 1)).toNat < (2147483647 - i2).toNat; omega)
    ·
      refine GO.aload_n dX12_worthOf_22 rfl rfl ?_
      refine GO.getA (n := 7) h_x fl_RX12_319 rfl rfl rfl rfl dX12_worthOf_23 (fun hv298 h297 => ?_)
      refine GO.iload_n dX12_worthOf_26 rfl rfl ?_
      refine GO.iald (t := 108) rfl rfl h297 r_i2 (by omega) (by omega) dX12_worthOf_27 (fun _ _ => ?_)
      refine GO.goto (tgt := 32) dX12_worthOf_28 (by decide) ?_
      refine GO.iadd dX12_worthOf_32 ?_
      refine GO.norm (fun z299 r300 hn301 => ?_)
      refine GO.istore_n (ls1 := [some (.ref x), some (ti p0), some (ti z299), some (ti i2)]) dX12_worthOf_33 rfl rfl rfl ?_
      refine GO.iinc (X := i2) (n := 1) (Y := i2 + 1) (ls1 := [some (.ref x), some (ti p0), some (ti z299), some (ti (i2 + 1))]) dX12_worthOf_34 rfl rfl rfl rfl ?_
      refine GO.goto (tgt := 4) dX12_worthOf_37 (by decide) ?_
      have q302 : -2147483648 ≤ z299 ∧ z299 ≤ 2147483647 := r300
      exact ih289 z299 (i2 + 1) V ⟨by omega, by omega, by omega, by omega, rfl⟩ (by show (2147483647 - (i2 + 1)).toNat < (2147483647 - i2).toNat; omega)

set_option maxHeartbeats 1000000 in
theorem t_X12_bits {K : Kmap} {V : Vmap} {p0 : Int} (r_p0 : ir p0) : MC mX12_bits K V [ti p0] (IP K V (fun X => True)) := by
  refine MC.start 2 (by decide +kernel) rfl rfl rfl (ls0 := [some (ti p0), none, none]) rfl ?_
  refine GO.iconst dX12_bits_0 ?_
  refine GO.istore_n (ls1 := [some (ti p0), some (ti 0), none]) dX12_bits_1 rfl rfl rfl ?_
  refine GO.iconst dX12_bits_2 ?_
  refine GO.istore_n (ls1 := [some (ti p0), some (ti 0), some (ti 0)]) dX12_bits_3 rfl rfl rfl ?_
  refine GO.loop2 (fun i1 i2 W => (-2147483648) ≤ i1 ∧ i1 ≤ 2147483647 ∧ 0 ≤ i2 ∧ i2 ≤ 9 ∧ V = W) (fun i1 i2 => [some (ti p0), some (ti i1), some (ti i2)]) (fun i1 i2 W => (2147483647 - i2).toNat) 0 0 ⟨by omega, by omega, by omega, by omega, rfl⟩ rfl (fun i1 i2 V114 hp116 ih115 => ?_)
  obtain ⟨l_i1, u_i1, l_i2, u_i2, rfl⟩ := hp116
  have r_i1 : ir i1 := ⟨by omega, by omega⟩
  have r_i2 : ir i2 := ⟨by omega, by omega⟩
  show GO mX12_bits K V (IP K V (fun X => True)) K V 0 0 4 [some (ti p0), some (ti i1), some (ti i2)] []
  refine GO.iload_n dX12_bits_4 rfl rfl ?_
  refine GO.bipush dX12_bits_5 rfl ?_
  refine GO.icmp_ge (tgt := 24) dX12_bits_7 (by decide) r_i2 (ir_c rfl) (fun c117 => ?_) (fun c117 => ?_)
  ·
    refine GO.iload_n dX12_bits_24 rfl rfl ?_
    exact GO.reti rfl rfl dX12_bits_25 ⟨rfl, rfl, _, rfl, r_i1, trivial⟩
  ·
    refine GO.iload_n dX12_bits_10 rfl rfl ?_
    refine GO.iload_n dX12_bits_11 rfl rfl ?_
    refine GO.iload_n dX12_bits_12 rfl rfl ?_
    refine GO.ishr dX12_bits_13 ?_
    refine GO.iconst dX12_bits_14 ?_
    refine GO.iand dX12_bits_15 ?_
    refine GO.iadd dX12_bits_16 ?_
    refine GO.norm (fun z118 r119 hn120 => ?_)
    refine GO.istore_n (ls1 := [some (ti p0), some (ti z118), some (ti i2)]) dX12_bits_17 rfl rfl rfl ?_
    refine GO.iinc (X := i2) (n := 1) (Y := i2 + 1) (ls1 := [some (ti p0), some (ti z118), some (ti (i2 + 1))]) dX12_bits_18 rfl rfl rfl rfl ?_
    refine GO.goto (tgt := 4) dX12_bits_21 (by decide) ?_
    have q121 : -2147483648 ≤ z118 ∧ z118 ≤ 2147483647 := r119
    exact ih115 z118 (i2 + 1) V ⟨by omega, by omega, by omega, by omega, rfl⟩ (by show (2147483647 - (i2 + 1)).toNat < (2147483647 - i2).toNat; omega)

set_option maxHeartbeats 1000000 in
theorem t_X12_best {K : Kmap} {V : Vmap} {x : Nat} (h_x : K x = some (0, 11)) : MC mX12_best K V [.ref x] (IP K V (fun X => True)) := by
  refine MC.start 4 (by decide +kernel) rfl rfl rfl (ls0 := [some (.ref x), none, none, none, none]) rfl ?_
  refine GO.iconst dX12_best_0 ?_
  refine GO.istore_n (ls1 := [some (.ref x), some (ti 0), none, none, none]) dX12_best_1 rfl rfl rfl ?_
  refine GO.iconst dX12_best_2 ?_
  refine GO.istore_n (ls1 := [some (.ref x), some (ti 0), some (ti 0), none, none]) dX12_best_3 rfl rfl rfl ?_
  refine GO.loop2 (fun i1 i2 W => (-2147483648) ≤ i1 ∧ i1 ≤ 2147483647 ∧ 0 ≤ i2 ∧ i2 ≤ 9 ∧ V = W) (fun i1 i2 => [some (.ref x), some (ti i1), some (ti i2), none, none]) (fun i1 i2 W => (2147483647 - i2).toNat) 0 0 ⟨by omega, by omega, by omega, by omega, rfl⟩ rfl (fun i1 i2 V20303 hp20305 ih20304 => ?_)
  obtain ⟨l_i1, u_i1, l_i2, u_i2, rfl⟩ := hp20305
  have r_i1 : ir i1 := ⟨by omega, by omega⟩
  have r_i2 : ir i2 := ⟨by omega, by omega⟩
  show GO mX12_best K V (IP K V (fun X => True)) K V 0 0 4 [some (.ref x), some (ti i1), some (ti i2), none, none] []
  refine GO.iload_n dX12_best_4 rfl rfl ?_
  refine GO.aload_n dX12_best_5 rfl rfl ?_
  refine GO.getI h_x fl_RX12_393 rfl rfl dX12_best_6 (fun l20306 u20307 => ?_)
  refine GO.icmp_ge (tgt := 40) dX12_best_9 (by decide) r_i2 vi_ir (fun c20308 => ?_) (fun c20308 => ?_)
  ·
    refine GO.iconst dX12_best_40 ?_
    refine GO.istore_n (ls1 := [some (.ref x), some (ti i1), some (ti 0), none, none]) dX12_best_41 rfl rfl rfl ?_
    refine GO.iconst dX12_best_42 ?_
    refine GO.istore_n (ls1 := [some (.ref x), some (ti i1), some (ti 0), some (ti 1), none]) dX12_best_43 rfl rfl rfl ?_
    refine GO.loop2 (fun i20309 i20310 W => 0 ≤ i20309 ∧ i20309 ≤ 2147483646 ∧ 1 ≤ i20310 ∧ i20310 ≤ 2147483647 ∧ V = W) (fun i20309 i20310 => [some (.ref x), some (ti i1), some (ti i20309), some (ti i20310), none]) (fun i20309 i20310 W => (2147483647 - i20310).toNat) 0 1 ⟨by omega, by omega, by omega, by omega, rfl⟩ rfl (fun i20309 i20310 V20986 hp20988 ih20987 => ?_)
    obtain ⟨l_i20309, u_i20309, l_i20310, u_i20310, rfl⟩ := hp20988
    have r_i20309 : ir i20309 := ⟨by omega, by omega⟩
    have r_i20310 : ir i20310 := ⟨by omega, by omega⟩
    show GO mX12_best K V (IP K V (fun X => True)) K V 0 0 44 [some (.ref x), some (ti i1), some (ti i20309), some (ti i20310), none] []
    refine GO.iload_n dX12_best_44 rfl rfl ?_
    refine GO.iconst dX12_best_45 ?_
    refine GO.aload_n dX12_best_46 rfl rfl ?_
    refine GO.getI h_x fl_RX12_718 rfl rfl dX12_best_47 (fun l20989 u20990 => ?_)
    refine GO.ishl dX12_best_50 ?_
    refine GO.icmp_ge (tgt := 109) dX12_best_51 (by decide) r_i20310 wshl_ir (fun c20991 => ?_) (fun c20991 => ?_)
    ·
      refine GO.iload_n dX12_best_109 rfl rfl ?_
      exact GO.reti rfl rfl dX12_best_110 ⟨rfl, rfl, _, rfl, r_i20309, trivial⟩
    ·
      refine GO.aload_n dX12_best_54 rfl rfl ?_
      refine GO.iload_n dX12_best_55 rfl rfl ?_
      refine GO.callV (ci := 11) (N := mX12_blocks) dX12_best_56 (RX12, TX12, 151) rfl gV_RX12_727 h_x (t_X12_blocks h_x r_i20310) rfl [] rfl rfl (Nat.le_of_ble_eq_true rfl) rfl (k_ip fun X20992 r20993 h20994 => ?_)
      have raw_blocks := h20994.2
      have rw56 := h20994.2
      refine GO.iload_n dX12_best_59 rfl rfl ?_
      refine GO.iand dX12_best_60 ?_
      refine GO.if_eq (tgt := 67) dX12_best_61 (by decide) wand_ir (fun c20995 => ?_) (fun c20995 => ?_)
      ·
        refine GO.aload_n dX12_best_67 rfl rfl ?_
        refine GO.iload_n dX12_best_68 rfl rfl ?_
        refine GO.callV (ci := 11) (N := mX12_worthOf) dX12_best_69 (RX12, TX12, 151) rfl gV_RX12_730 h_x (t_X12_worthOf h_x r_i20310) rfl [] rfl rfl (Nat.le_of_ble_eq_true rfl) rfl (k_ip fun X20996 r20997 h20998 => ?_)
        refine GO.aload_n dX12_best_72 rfl rfl ?_
        refine GO.iload_n dX12_best_73 rfl rfl ?_
        refine GO.callV (ci := 11) (N := mX12_worthOf) dX12_best_74 (RX12, TX12, 151) rfl gV_RX12_730 h_x (t_X12_worthOf h_x r_i20309) rfl [ti X20996] rfl rfl (Nat.le_of_ble_eq_true rfl) rfl (k_ip fun X20999 r21000 h21001 => ?_)
        refine GO.isub dX12_best_77 ?_
        refine GO.norm (fun z21002 r21003 hn21004 => ?_)
        refine GO.istore (ls1 := [some (.ref x), some (ti i1), some (ti i20309), some (ti i20310), some (ti z21002)]) dX12_best_78 rfl rfl ?_
        refine GO.iload dX12_best_80 rfl ?_
        refine GO.if_gt (tgt := 101) dX12_best_82 (by decide) r21003 (fun c21005 => ?_) (fun c21005 => ?_)
        ·
          refine GO.iload_n dX12_best_101 rfl rfl ?_
          refine GO.istore_n (ls1 := [some (.ref x), some (ti i1), some (ti i20310), some (ti i20310), some (ti z21002)]) dX12_best_102 rfl rfl rfl ?_
          refine GO.iinc (X := i20310) (n := 1) (Y := i20310 + 1) (ls1 := [some (.ref x), some (ti i1), some (ti i20310), some (ti (i20310 + 1)), some (ti z21002)]) dX12_best_103 rfl rfl rfl rfl ?_
          refine GO.goto (tgt := 44) dX12_best_106 (by decide) ?_
          refine GO.drop [true, true, true, true, false] rfl ?_
          have q21006 : -2147483648 ≤ wshl 1 (vi V x 133) ∧ wshl 1 (vi V x 133) ≤ 2147483647 := wshl_ir
          exact ih20987 i20310 (i20310 + 1) V ⟨by omega, by omega, by omega, by omega, rfl⟩ (by show (2147483647 - (i20310 + 1)).toNat < (2147483647 - i20310).toNat; omega)
        ·
          refine GO.iload dX12_best_85 rfl ?_
          refine GO.if_ne (tgt := 103) dX12_best_87 (by decide) r21003 (fun c21007 => ?_) (fun c21007 => ?_)
          ·
            refine GO.iinc (X := i20310) (n := 1) (Y := i20310 + 1) (ls1 := [some (.ref x), some (ti i1), some (ti i20309), some (ti (i20310 + 1)), some (ti z21002)]) dX12_best_103 rfl rfl rfl rfl ?_
            refine GO.goto (tgt := 44) dX12_best_106 (by decide) ?_
            refine GO.drop [true, true, true, true, false] rfl ?_
            have q21008 : -2147483648 ≤ wshl 1 (vi V x 133) ∧ wshl 1 (vi V x 133) ≤ 2147483647 := wshl_ir
            exact ih20987 i20309 (i20310 + 1) V ⟨by omega, by omega, by omega, by omega, rfl⟩ (by show (2147483647 - (i20310 + 1)).toNat < (2147483647 - i20310).toNat; omega)
          ·
            refine GO.iload_n dX12_best_90 rfl rfl ?_
            refine GO.callS (N := mX12_bits) dX12_best_91 gS_RX12_733 (t_X12_bits r_i20310) rfl [] rfl rfl (Nat.le_of_ble_eq_true rfl) rfl (k_ip fun X21009 r21010 h21011 => ?_)
            refine GO.iload_n dX12_best_94 rfl rfl ?_
            refine GO.callS (N := mX12_bits) dX12_best_95 gS_RX12_733 (t_X12_bits r_i20309) rfl [ti X21009] rfl rfl (Nat.le_of_ble_eq_true rfl) rfl (k_ip fun X21012 r21013 h21014 => ?_)
            refine GO.icmp_ge (tgt := 103) dX12_best_98 (by decide) r21010 r21013 (fun c21015 => ?_) (fun c21015 => ?_)
            ·
              refine GO.iinc (X := i20310) (n := 1) (Y := i20310 + 1) (ls1 := [some (.ref x), some (ti i1), some (ti i20309), some (ti (i20310 + 1)), some (ti z21002)]) dX12_best_103 rfl rfl rfl rfl ?_
              refine GO.goto (tgt := 44) dX12_best_106 (by decide) ?_
              refine GO.drop [true, true, true, true, false] rfl ?_
              have q21016 : -2147483648 ≤ wshl 1 (vi V x 133) ∧ wshl 1 (vi V x 133) ≤ 2147483647 := wshl_ir
              exact ih20987 i20309 (i20310 + 1) V ⟨by omega, by omega, by omega, by omega, rfl⟩ (by show (2147483647 - (i20310 + 1)).toNat < (2147483647 - i20310).toNat; omega)
            ·
              refine GO.iload_n dX12_best_101 rfl rfl ?_
              refine GO.istore_n (ls1 := [some (.ref x), some (ti i1), some (ti i20310), some (ti i20310), some (ti z21002)]) dX12_best_102 rfl rfl rfl ?_
              refine GO.iinc (X := i20310) (n := 1) (Y := i20310 + 1) (ls1 := [some (.ref x), some (ti i1), some (ti i20310), some (ti (i20310 + 1)), some (ti z21002)]) dX12_best_103 rfl rfl rfl rfl ?_
              refine GO.goto (tgt := 44) dX12_best_106 (by decide) ?_
              refine GO.drop [true, true, true, true, false] rfl ?_
              have q21017 : -2147483648 ≤ wshl 1 (vi V x 133) ∧ wshl 1 (vi V x 133) ≤ 2147483647 := wshl_ir
              exact ih20987 i20310 (i20310 + 1) V ⟨by omega, by omega, by omega, by omega, rfl⟩ (by show (2147483647 - (i20310 + 1)).toNat < (2147483647 - i20310).toNat; omega)
      ·
        refine GO.goto (tgt := 103) dX12_best_64 (by decide) ?_
        refine GO.iinc (X := i20310) (n := 1) (Y := i20310 + 1) (ls1 := [some (.ref x), some (ti i1), some (ti i20309), some (ti (i20310 + 1)), none]) dX12_best_103 rfl rfl rfl rfl ?_
        refine GO.goto (tgt := 44) dX12_best_106 (by decide) ?_
        have q21018 : -2147483648 ≤ wshl 1 (vi V x 133) ∧ wshl 1 (vi V x 133) ≤ 2147483647 := wshl_ir
        exact ih20987 i20309 (i20310 + 1) V ⟨by omega, by omega, by omega, by omega, rfl⟩ (by show (2147483647 - (i20310 + 1)).toNat < (2147483647 - i20310).toNat; omega)
  ·
    refine GO.iload_n dX12_best_12 rfl rfl ?_
    refine GO.aload_n dX12_best_13 rfl rfl ?_
    refine GO.iload_n dX12_best_14 rfl rfl ?_
    refine GO.aload_n dX12_best_15 rfl rfl ?_
    refine GO.getI h_x fl_RX12_396 rfl rfl dX12_best_16 (fun l21019 u21020 => ?_)
    refine GO.callV (ci := 11) (N := mX12_decidesOn) dX12_best_19 (RX12, TX12, 151) rfl gV_RX12_412 h_x (t_X12_decidesOn h_x r_i2 vi_ir (by omega) (by omega)) rfl [ti i1] rfl rfl (Nat.le_of_ble_eq_true rfl) rfl (k_ip fun X21021 r21022 h21023 => ?_)
    refine GO.if_eq (tgt := 31) dX12_best_22 (by decide) r21022 (fun c21024 => ?_) (fun c21024 => ?_)
    ·
      refine GO.iconst dX12_best_31 ?_
      refine GO.ior dX12_best_32 ?_
      refine GO.name (fun z21025 hz21026 => ?_)
      have r21027 : ir z21025 := hz21026 ▸ wor_ir
      refine GO.istore_n (ls1 := [some (.ref x), some (ti z21025), some (ti i2), none, none]) dX12_best_33 rfl rfl rfl ?_
      refine GO.iinc (X := i2) (n := 1) (Y := i2 + 1) (ls1 := [some (.ref x), some (ti z21025), some (ti (i2 + 1)), none, none]) dX12_best_34 rfl rfl rfl rfl ?_
      refine GO.goto (tgt := 4) dX12_best_37 (by decide) ?_
      have q21028 : -2147483648 ≤ z21025 ∧ z21025 ≤ 2147483647 := r21027
      have q21029 : -2147483648 ≤ wor i1 0 ∧ wor i1 0 ≤ 2147483647 := wor_ir
      exact ih20304 z21025 (i2 + 1) V ⟨by omega, by omega, by omega, by omega, rfl⟩ (by show (2147483647 - (i2 + 1)).toNat < (2147483647 - i2).toNat; omega)
    ·
      refine GO.iconst dX12_best_25 ?_
      refine GO.iload_n dX12_best_26 rfl rfl ?_
      refine GO.ishl dX12_best_27 ?_
      refine GO.goto (tgt := 32) dX12_best_28 (by decide) ?_
      refine GO.ior dX12_best_32 ?_
      refine GO.name (fun z21030 hz21031 => ?_)
      have r21032 : ir z21030 := hz21031 ▸ wor_ir
      refine GO.istore_n (ls1 := [some (.ref x), some (ti z21030), some (ti i2), none, none]) dX12_best_33 rfl rfl rfl ?_
      refine GO.iinc (X := i2) (n := 1) (Y := i2 + 1) (ls1 := [some (.ref x), some (ti z21030), some (ti (i2 + 1)), none, none]) dX12_best_34 rfl rfl rfl rfl ?_
      refine GO.goto (tgt := 4) dX12_best_37 (by decide) ?_
      have q21033 : -2147483648 ≤ z21030 ∧ z21030 ≤ 2147483647 := r21032
      have q21034 : -2147483648 ≤ wor i1 (wshl 1 i2) ∧ wor i1 (wshl 1 i2) ≤ 2147483647 := wor_ir
      exact ih20304 z21030 (i2 + 1) V ⟨by omega, by omega, by omega, by omega, rfl⟩ (by show (2147483647 - (i2 + 1)).toNat < (2147483647 - i2).toNat; omega)
