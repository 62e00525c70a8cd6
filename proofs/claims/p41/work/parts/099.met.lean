def mX6_goOn_0 : MRec := (RX6, cX6_goOn, 3, (none : Option Jvm.ClassFile.FieldType), yX6_goOn, 2, 44, 0, 0, 42307582002575910332922579714097346549017899709713998034217522897561970639123926132812109468141778230245846792973531786248192)
def mX4_put_t141 : MRec := (RX4, cX4_put, 3, (none : Option Jvm.ClassFile.FieldType), yX4_put, 0, 0, 0, 0, 10576895500643977583230644928524336637254474927428499508554380724390492659780981533203027367035444557561459392400373732868096)
def mX6_extend_1 : MRec := (RX6, cX6_extend, 4, (none : Option Jvm.ClassFile.FieldType), yX6_extend, 3, 66, 0, 0, 58172925253541876707768547106883851504899612100856747297049093984147709628795398432616650518694945066588035881574092385550336)
def mX6_goOn_1 : MRec := (RX6, cX6_goOn, 3, (none : Option Jvm.ClassFile.FieldType), yX6_goOn, 4, 89, 0, 0, 58172925253541876707768547106883851504899612100856747297049093984147709628795398432616650518694945066588035881574092385550336)
def mX6_extend_2 : MRec := (RX6, cX6_extend, 4, (none : Option Jvm.ClassFile.FieldType), yX6_extend, 5, 111, 0, 0, 58172925253541876707768547106883851504899612100856747297049093984147709628795398432616650518694945066588035881574092385550336)
def mX6_goOn_2 : MRec := (RX6, cX6_goOn, 3, (none : Option Jvm.ClassFile.FieldType), yX6_goOn, 6, 134, 0, 0, 58172925253541876707768547106883851504899612100856747297049093984147709628795398432616650518694945066588035881574092385550336)
def mX6_extend_3 : MRec := (RX6, cX6_extend, 4, (none : Option Jvm.ClassFile.FieldType), yX6_extend, 7, 156, 0, 0, 58172925253541876707768547106883851504899612100856747297049093984147709628795398432616650518694945066588035881574092385550336)
def mX6_goOn_3 : MRec := (RX6, cX6_goOn, 3, (none : Option Jvm.ClassFile.FieldType), yX6_goOn, 8, 179, 0, 0, 58172925253541876707768547106883851504899612100856747297049093984147709628795398432616650518694945066588035881574092385550336)
def mX6_extend_4 : MRec := (RX6, cX6_extend, 4, (none : Option Jvm.ClassFile.FieldType), yX6_extend, 9, 201, 0, 0, 58172925253541876707768547106883851504899612100856747297049093984147709628795398432616650518694945066588035881574092385550336)
def mX6_goOn_4 : MRec := (RX6, cX6_goOn, 3, (none : Option Jvm.ClassFile.FieldType), yX6_goOn, 10, 224, 0, 0, 58172925253541876707768547106883851504899612100856747297049093984147709628795398432616650518694945066588035881574092385550336)
def mX6_extend_5 : MRec := (RX6, cX6_extend, 4, (none : Option Jvm.ClassFile.FieldType), yX6_extend, 11, 246, 0, 0, 58172925253541876707768547106883851504899612100856747297049093984147709628795398432616650518694945066588035881574092385550336)
def mX6_goOn_5 : MRec := (RX6, cX6_goOn, 3, (none : Option Jvm.ClassFile.FieldType), yX6_goOn, 12, 269, 0, 0, 58172925253541876707768547106883851504899612100856747297049093984147709628795398432616650518694945066588035881574092385550336)
def mX6_extend_6 : MRec := (RX6, cX6_extend, 4, (none : Option Jvm.ClassFile.FieldType), yX6_extend, 13, 291, 0, 0, 58172925253541876707768547106883851504899612100856747297049093984147709628795398432616650518694945066588035881574092385550336)
def mX6_goOn_6 : MRec := (RX6, cX6_goOn, 3, (none : Option Jvm.ClassFile.FieldType), yX6_goOn, 14, 314, 0, 0, 58172925253541876707768547106883851504899612100856747297049093984147709628795398432616650518694945066588035881574092385550336)
def mX6_extend_7 : MRec := (RX6, cX6_extend, 4, (none : Option Jvm.ClassFile.FieldType), yX6_extend, 15, 336, 0, 0, 58172925253541876707768547106883851504899612100856747297049093984147709628795398432616650518694945066588035881574092385550336)
def mX6_goOn_7 : MRec := (RX6, cX6_goOn, 3, (none : Option Jvm.ClassFile.FieldType), yX6_goOn, 16, 359, 0, 0, 58172925253541876707768547106883851504899612100856747297049093984147709628795398432616650518694945066588035881574092385550336)
def mX6_extend_8 : MRec := (RX6, cX6_extend, 4, (none : Option Jvm.ClassFile.FieldType), yX6_extend, 17, 381, 0, 0, 58172925253541876707768547106883851504899612100856747297049093984147709628795398432616650518694945066588035881574092385550336)
set_option maxHeartbeats 1000000 in
theorem t_X6_goOn_0_G {K : Kmap} {V : Vmap} {x : Nat} {p0 : Int} {p1 : Int} (h_x : K x = some (0, 5)) (r_p0 : ir p0) (r_p1 : ir p1) (q_0 : p0 ≥ 8) (q_1 : p0 ≤ 8) : MC mX6_goOn_0 K V [.ref x, ti p0, ti p1] (VS K (fun V1 => (True))) := by
  refine MC.start 0 (by decide +kernel) rfl rfl rfl (ls0 := [some (.ref x), some (ti p0), some (ti p1)]) rfl ?_
  refine GO.iload_n dX6_goOn_0 rfl rfl ?_
  refine GO.aload_n dX6_goOn_1 rfl rfl ?_
  refine GO.getR h_x fl_RX6_14 rfl rfl dX6_goOn_2 (fun hv2 h1 => ?_)
  refine GO.getI h1 fl_RX6_55_k24 rfl rfl dX6_goOn_5 (fun l3 u4 => ?_)
  have q6 : -2147483648 ≤ p0 ∧ p0 ≤ 2147483647 := r_p0
  refine GO.icmp_ge (tgt := 20) dX6_goOn_8 (by decide) r_p0 vi_ir (fun c5 => ?_) (fun h => by exfalso; omega)
  refine GO.aload_n dX6_goOn_20 rfl rfl ?_
  refine GO.callV (ci := 5) (N := mX6_keep) dX6_goOn_21 (RX6, TX6, 10) rfl gV_RX6_93 h_x (t_X6_keep h_x) rfl [] rfl rfl (Nat.le_of_ble_eq_true rfl) rfl (k_vs fun V9 h8 hF7 => ?_)
  exact GO.retv rfl rfl dX6_goOn_24 ⟨rfl, rfl, trivial⟩

theorem t_X6_goOn_0 {K : Kmap} {V : Vmap} {x : Nat} {p0 : Int} {p1 : Int} (h_x : K x = some (0, 5)) (r_p0 : ir p0) (r_p1 : ir p1) (q_0 : ((p0 ≥ 8 ∧ p0 ≤ 8))) : MC mX6_goOn_0 K V [.ref x, ti p0, ti p1] (VS K (fun V1 => (True))) := by
  exact t_X6_goOn_0_G h_x r_p0 r_p1 (by omega) (by omega)

set_option maxHeartbeats 1000000 in
theorem t_X4_put_t141 {K : Kmap} {V : Vmap} {p0 n_p0 : Nat} {p1 : Int} {p2 : Int} (h_p0 : K p0 = some (142, n_p0)) (r_p1 : ir p1) (r_p2 : ir p2) : MC mX4_put_t141 K V [.ref p0, ti p1, ti p2] (VS K (fun V1 => (True) ∧ (V1 = rpv V p0 n_p0 p1 p2))) := by
  refine MC.start 0 (by decide +kernel) rfl rfl rfl (ls0 := [some (.ref p0), some (ti p1), some (ti p2)]) rfl ?_
  refine GO.aload_n dX4_put_0 rfl rfl ?_
  refine GO.ifnull dX4_put_1 ?_
  refine GO.iload_n dX4_put_4 rfl rfl ?_
  refine GO.if_lt (tgt := 18) dX4_put_5 (by decide) r_p1 (fun c1 => ?_) (fun c1 => ?_)
  ·
    exact GO.retv rfl rfl dX4_put_18 ⟨rfl, rfl, ⟨trivial, (by first | exact rpv_in (by assumption) (by omega) (by omega) | exact rpv_out (by omega))⟩⟩
  ·
    refine GO.iload_n dX4_put_8 rfl rfl ?_
    refine GO.aload_n dX4_put_9 rfl rfl ?_
    refine GO.alen h_p0 dX4_put_10 (fun h2 => ?_)
    refine GO.icmp_ge (tgt := 18) dX4_put_11 (by decide) r_p1 ⟨by omega, by omega⟩ (fun c3 => ?_) (fun c3 => ?_)
    ·
      exact GO.retv rfl rfl dX4_put_18 ⟨rfl, rfl, ⟨trivial, (by first | exact rpv_in (by assumption) (by omega) (by omega) | exact rpv_out (by omega))⟩⟩
    ·
      refine GO.aload_n dX4_put_14 rfl rfl ?_
      refine GO.iload_n dX4_put_15 rfl rfl ?_
      refine GO.iload_n dX4_put_16 rfl rfl ?_
      have q4 : -2147483648 ≤ p1 ∧ p1 ≤ 2147483647 := r_p1
      refine GO.iast (t := 141) rfl rfl (by decide +kernel) h_p0 r_p1 (by omega) (by omega) r_p2 (r_p2).1 (r_p2).2 dX4_put_17 (fun V6 e5 => ?_)
      exact GO.retv rfl rfl dX4_put_18 ⟨rfl, rfl, ⟨trivial, (by first | exact rpv_in (by assumption) (by omega) (by omega) | exact rpv_out (by omega))⟩⟩

set_option maxHeartbeats 1000000 in
theorem t_X6_extend_1_G {K : Kmap} {V : Vmap} {x : Nat} {p0 : Int} {p1 : Int} (h_x : K x = some (0, 5)) (r_p0 : ir p0) (r_p1 : ir p1) (q_0 : p0 ≥ 7) (q_1 : p0 ≤ 7) : MC mX6_extend_1 K V [.ref x, ti p0, ti p1] (VS K (fun V1 => (True))) := by
  refine MC.start 1 (by decide +kernel) rfl rfl rfl (ls0 := [some (.ref x), some (ti p0), some (ti p1), none]) rfl ?_
  refine GO.iconst dX6_extend_0 ?_
  refine GO.istore_n (ls1 := [some (.ref x), some (ti p0), some (ti p1), some (ti 0)]) dX6_extend_1 rfl rfl rfl ?_
  refine GO.loop1 (fun i1 W => 0 ≤ i1 ∧ i1 ≤ 8 ∧ True) (fun i1 => [some (.ref x), some (ti p0), some (ti p1), some (ti i1)]) (fun i1 W => (2147483647 - i1).toNat) 0 ⟨by omega, by omega, trivial⟩ rfl (fun i1 Wi1 hp108 ih107 => ?_)
  obtain ⟨l_i1, u_i1, -⟩ := hp108
  have r_i1 : ir i1 := ⟨by omega, by omega⟩
  show GO mX6_extend_1 K V (VS K (fun V1 => (True))) K Wi1 0 0 2 [some (.ref x), some (ti p0), some (ti p1), some (ti i1)] []
  refine GO.iload_n dX6_extend_2 rfl rfl ?_
  refine GO.aload_n dX6_extend_3 rfl rfl ?_
  refine GO.getR h_x fl_RX6_14 rfl rfl dX6_extend_4 (fun hv110 h109 => ?_)
  refine GO.getI h109 fl_RX6_55_k24 rfl rfl dX6_extend_7 (fun l111 u112 => ?_)
  refine GO.icmp_ge (tgt := 62) dX6_extend_10 (by decide) r_i1 vi_ir (fun c113 => ?_) (fun c113 => ?_)
  ·
    exact GO.retv rfl rfl dX6_extend_62 ⟨rfl, rfl, trivial⟩
  ·
    refine GO.iload_n dX6_extend_13 rfl rfl ?_
    refine GO.iload_n dX6_extend_14 rfl rfl ?_
    refine GO.ishr dX6_extend_15 ?_
    refine GO.iconst dX6_extend_16 ?_
    refine GO.iand dX6_extend_17 ?_
    refine GO.if_ne (tgt := 56) dX6_extend_18 (by decide) wand_ir (fun c114 => ?_) (fun c114 => ?_)
    ·
      refine GO.iinc (X := i1) (n := 1) (Y := i1 + 1) (ls1 := [some (.ref x), some (ti p0), some (ti p1), some (ti (i1 + 1))]) dX6_extend_56 rfl rfl rfl rfl ?_
      refine GO.goto (tgt := 2) dX6_extend_59 (by decide) ?_
      exact ih107 (i1 + 1) Wi1 ⟨by omega, by omega, trivial⟩ (by show (2147483647 - (i1 + 1)).toNat < (2147483647 - i1).toNat; omega)
    ·
      refine GO.aload_n dX6_extend_21 rfl rfl ?_
      refine GO.iload_n dX6_extend_22 rfl rfl ?_
      refine GO.iload_n dX6_extend_23 rfl rfl ?_
      refine GO.iload_n dX6_extend_24 rfl rfl ?_
      refine GO.iconst dX6_extend_25 ?_
      refine GO.iload_n dX6_extend_26 rfl rfl ?_
      refine GO.ishl dX6_extend_27 ?_
      refine GO.ior dX6_extend_28 ?_
      refine GO.callV (ci := 5) (N := mX6_comes) dX6_extend_29 (RX6, TX6, 10) rfl gV_RX6_86 h_x (t_X6_comes h_x r_p0 r_i1 wor_ir) rfl [] rfl rfl (Nat.le_of_ble_eq_true rfl) rfl (k_is fun X115 V119 r116 h117 hF118 => ?_)
      refine GO.if_eq (tgt := 56) dX6_extend_32 (by decide) r116 (fun c120 => ?_) (fun c120 => ?_)
      ·
        refine GO.iinc (X := i1) (n := 1) (Y := i1 + 1) (ls1 := [some (.ref x), some (ti p0), some (ti p1), some (ti (i1 + 1))]) dX6_extend_56 rfl rfl rfl rfl ?_
        refine GO.goto (tgt := 2) dX6_extend_59 (by decide) ?_
        exact ih107 (i1 + 1) V119 ⟨by omega, by omega, trivial⟩ (by show (2147483647 - (i1 + 1)).toNat < (2147483647 - i1).toNat; omega)
      ·
        refine GO.aload_n dX6_extend_35 rfl rfl ?_
        refine GO.getA (n := 8) h_x fl_RX6_33 rfl rfl rfl rfl dX6_extend_36 (fun hv122 h121 => ?_)
        refine GO.iload_n dX6_extend_39 rfl rfl ?_
        refine GO.iload_n dX6_extend_40 rfl rfl ?_
        refine GO.callS (N := mX4_put_t141) dX6_extend_41 gS_RX6_71 (t_X4_put_t141 h121 r_p0 r_i1) rfl [] rfl rfl (Nat.le_of_ble_eq_true rfl) rfl (k_vs fun V125 h124 hF123 => ?_)
        have raw_put := h124.2
        have rw41 := h124.2
        refine GO.aload_n dX6_extend_44 rfl rfl ?_
        refine GO.iload_n dX6_extend_45 rfl rfl ?_
        refine GO.iconst dX6_extend_46 ?_
        refine GO.iadd dX6_extend_47 ?_
        refine GO.iload_n dX6_extend_48 rfl rfl ?_
        refine GO.iconst dX6_extend_49 ?_
        refine GO.iload_n dX6_extend_50 rfl rfl ?_
        refine GO.ishl dX6_extend_51 ?_
        refine GO.ior dX6_extend_52 ?_
        have q126 : -2147483648 ≤ p0 ∧ p0 ≤ 2147483647 := r_p0
        refine GO.callV (ci := 5) (N := mX6_goOn_0) dX6_extend_53 (RX6, TX6, 10) rfl gV_RX6_90 h_x (t_X6_goOn_0 h_x ⟨by omega, by omega⟩ wor_ir (by omega)) rfl [] rfl rfl (Nat.le_of_ble_eq_true rfl) rfl (k_vs fun V129 h128 hF127 => ?_)
        refine GO.iinc (X := i1) (n := 1) (Y := i1 + 1) (ls1 := [some (.ref x), some (ti p0), some (ti p1), some (ti (i1 + 1))]) dX6_extend_56 rfl rfl rfl rfl ?_
        refine GO.goto (tgt := 2) dX6_extend_59 (by decide) ?_
        exact ih107 (i1 + 1) V129 ⟨by omega, by omega, trivial⟩ (by show (2147483647 - (i1 + 1)).toNat < (2147483647 - i1).toNat; omega)

theorem t_X6_extend_1 {K : Kmap} {V : Vmap} {x : Nat} {p0 : Int} {p1 : Int} (h_x : K x = some (0, 5)) (r_p0 : ir p0) (r_p1 : ir p1) (q_0 : ((p0 ≥ 7 ∧ p0 ≤ 7))) : MC mX6_extend_1 K V [.ref x, ti p0, ti p1] (VS K (fun V1 => (True))) := by
  exact t_X6_extend_1_G h_x r_p0 r_p1 (by omega) (by omega)

set_option maxHeartbeats 1000000 in
theorem t_X6_goOn_1_G {K : Kmap} {V : Vmap} {x : Nat} {p0 : Int} {p1 : Int} (h_x : K x = some (0, 5)) (r_p0 : ir p0) (r_p1 : ir p1) (q_0 : p0 ≥ 7) (q_1 : p0 ≤ 8) : MC mX6_goOn_1 K V [.ref x, ti p0, ti p1] (VS K (fun V1 => (True))) := by
  refine MC.start 0 (by decide +kernel) rfl rfl rfl (ls0 := [some (.ref x), some (ti p0), some (ti p1)]) rfl ?_
  refine GO.iload_n dX6_goOn_0 rfl rfl ?_
  refine GO.aload_n dX6_goOn_1 rfl rfl ?_
  refine GO.getR h_x fl_RX6_14 rfl rfl dX6_goOn_2 (fun hv2 h1 => ?_)
  refine GO.getI h1 fl_RX6_55_k24 rfl rfl dX6_goOn_5 (fun l3 u4 => ?_)
  refine GO.icmp_ge (tgt := 20) dX6_goOn_8 (by decide) r_p0 vi_ir (fun c5 => ?_) (fun c5 => ?_)
  ·
    refine GO.aload_n dX6_goOn_20 rfl rfl ?_
    refine GO.callV (ci := 5) (N := mX6_keep) dX6_goOn_21 (RX6, TX6, 10) rfl gV_RX6_93 h_x (t_X6_keep h_x) rfl [] rfl rfl (Nat.le_of_ble_eq_true rfl) rfl (k_vs fun V8 h7 hF6 => ?_)
    exact GO.retv rfl rfl dX6_goOn_24 ⟨rfl, rfl, trivial⟩
  ·
    refine GO.aload_n dX6_goOn_11 rfl rfl ?_
    refine GO.iload_n dX6_goOn_12 rfl rfl ?_
    refine GO.iload_n dX6_goOn_13 rfl rfl ?_
    have q9 : -2147483648 ≤ p0 ∧ p0 ≤ 2147483647 := r_p0
    refine GO.callV (ci := 5) (N := mX6_extend_1) dX6_goOn_14 (RX6, TX6, 10) rfl gV_RX6_65 h_x (t_X6_extend_1 h_x r_p0 r_p1 (by omega)) rfl [] rfl rfl (Nat.le_of_ble_eq_true rfl) rfl (k_vs fun V12 h11 hF10 => ?_)
    refine GO.goto (tgt := 24) dX6_goOn_17 (by decide) ?_
    exact GO.retv rfl rfl dX6_goOn_24 ⟨rfl, rfl, trivial⟩

theorem t_X6_goOn_1 {K : Kmap} {V : Vmap} {x : Nat} {p0 : Int} {p1 : Int} (h_x : K x = some (0, 5)) (r_p0 : ir p0) (r_p1 : ir p1) (q_0 : ((p0 ≥ 7 ∧ p0 ≤ 8))) : MC mX6_goOn_1 K V [.ref x, ti p0, ti p1] (VS K (fun V1 => (True))) := by
  exact t_X6_goOn_1_G h_x r_p0 r_p1 (by omega) (by omega)

set_option maxHeartbeats 1000000 in
theorem t_X6_extend_2_G {K : Kmap} {V : Vmap} {x : Nat} {p0 : Int} {p1 : Int} (h_x : K x = some (0, 5)) (r_p0 : ir p0) (r_p1 : ir p1) (q_0 : p0 ≥ 6) (q_1 : p0 ≤ 7) : MC mX6_extend_2 K V [.ref x, ti p0, ti p1] (VS K (fun V1 => (True))) := by
  refine MC.start 1 (by decide +kernel) rfl rfl rfl (ls0 := [some (.ref x), some (ti p0), some (ti p1), none]) rfl ?_
  refine GO.iconst dX6_extend_0 ?_
  refine GO.istore_n (ls1 := [some (.ref x), some (ti p0), some (ti p1), some (ti 0)]) dX6_extend_1 rfl rfl rfl ?_
  refine GO.loop1 (fun i1 W => 0 ≤ i1 ∧ i1 ≤ 8 ∧ True) (fun i1 => [some (.ref x), some (ti p0), some (ti p1), some (ti i1)]) (fun i1 W => (2147483647 - i1).toNat) 0 ⟨by omega, by omega, trivial⟩ rfl (fun i1 Wi1 hp108 ih107 => ?_)
  obtain ⟨l_i1, u_i1, -⟩ := hp108
  have r_i1 : ir i1 := ⟨by omega, by omega⟩
  show GO mX6_extend_2 K V (VS K (fun V1 => (True))) K Wi1 0 0 2 [some (.ref x), some (ti p0), some (ti p1), some (ti i1)] []
  refine GO.iload_n dX6_extend_2 rfl rfl ?_
  refine GO.aload_n dX6_extend_3 rfl rfl ?_
  refine GO.getR h_x fl_RX6_14 rfl rfl dX6_extend_4 (fun hv110 h109 => ?_)
  refine GO.getI h109 fl_RX6_55_k24 rfl rfl dX6_extend_7 (fun l111 u112 => ?_)
  refine GO.icmp_ge (tgt := 62) dX6_extend_10 (by decide) r_i1 vi_ir (fun c113 => ?_) (fun c113 => ?_)
  ·
    exact GO.retv rfl rfl dX6_extend_62 ⟨rfl, rfl, trivial⟩
  ·
    refine GO.iload_n dX6_extend_13 rfl rfl ?_
    refine GO.iload_n dX6_extend_14 rfl rfl ?_
    refine GO.ishr dX6_extend_15 ?_
    refine GO.iconst dX6_extend_16 ?_
    refine GO.iand dX6_extend_17 ?_
    refine GO.if_ne (tgt := 56) dX6_extend_18 (by decide) wand_ir (fun c114 => ?_) (fun c114 => ?_)
    ·
      refine GO.iinc (X := i1) (n := 1) (Y := i1 + 1) (ls1 := [some (.ref x), some (ti p0), some (ti p1), some (ti (i1 + 1))]) dX6_extend_56 rfl rfl rfl rfl ?_
      refine GO.goto (tgt := 2) dX6_extend_59 (by decide) ?_
      exact ih107 (i1 + 1) Wi1 ⟨by omega, by omega, trivial⟩ (by show (2147483647 - (i1 + 1)).toNat < (2147483647 - i1).toNat; omega)
    ·
      refine GO.aload_n dX6_extend_21 rfl rfl ?_
      refine GO.iload_n dX6_extend_22 rfl rfl ?_
      refine GO.iload_n dX6_extend_23 rfl rfl ?_
      refine GO.iload_n dX6_extend_24 rfl rfl ?_
      refine GO.iconst dX6_extend_25 ?_
      refine GO.iload_n dX6_extend_26 rfl rfl ?_
      refine GO.ishl dX6_extend_27 ?_
      refine GO.ior dX6_extend_28 ?_
      refine GO.callV (ci := 5) (N := mX6_comes) dX6_extend_29 (RX6, TX6, 10) rfl gV_RX6_86 h_x (t_X6_comes h_x r_p0 r_i1 wor_ir) rfl [] rfl rfl (Nat.le_of_ble_eq_true rfl) rfl (k_is fun X115 V119 r116 h117 hF118 => ?_)
      refine GO.if_eq (tgt := 56) dX6_extend_32 (by decide) r116 (fun c120 => ?_) (fun c120 => ?_)
      ·
        refine GO.iinc (X := i1) (n := 1) (Y := i1 + 1) (ls1 := [some (.ref x), some (ti p0), some (ti p1), some (ti (i1 + 1))]) dX6_extend_56 rfl rfl rfl rfl ?_
        refine GO.goto (tgt := 2) dX6_extend_59 (by decide) ?_
        exact ih107 (i1 + 1) V119 ⟨by omega, by omega, trivial⟩ (by show (2147483647 - (i1 + 1)).toNat < (2147483647 - i1).toNat; omega)
      ·
        refine GO.aload_n dX6_extend_35 rfl rfl ?_
        refine GO.getA (n := 8) h_x fl_RX6_33 rfl rfl rfl rfl dX6_extend_36 (fun hv122 h121 => ?_)
        refine GO.iload_n dX6_extend_39 rfl rfl ?_
        refine GO.iload_n dX6_extend_40 rfl rfl ?_
        refine GO.callS (N := mX4_put_t141) dX6_extend_41 gS_RX6_71 (t_X4_put_t141 h121 r_p0 r_i1) rfl [] rfl rfl (Nat.le_of_ble_eq_true rfl) rfl (k_vs fun V125 h124 hF123 => ?_)
        have raw_put := h124.2
        have rw41 := h124.2
        refine GO.aload_n dX6_extend_44 rfl rfl ?_
        refine GO.iload_n dX6_extend_45 rfl rfl ?_
        refine GO.iconst dX6_extend_46 ?_
        refine GO.iadd dX6_extend_47 ?_
        refine GO.iload_n dX6_extend_48 rfl rfl ?_
        refine GO.iconst dX6_extend_49 ?_
        refine GO.iload_n dX6_extend_50 rfl rfl ?_
        refine GO.ishl dX6_extend_51 ?_
        refine GO.ior dX6_extend_52 ?_
        have q126 : -2147483648 ≤ p0 ∧ p0 ≤ 2147483647 := r_p0
        refine GO.callV (ci := 5) (N := mX6_goOn_1) dX6_extend_53 (RX6, TX6, 10) rfl gV_RX6_90 h_x (t_X6_goOn_1 h_x ⟨by omega, by omega⟩ wor_ir (by omega)) rfl [] rfl rfl (Nat.le_of_ble_eq_true rfl) rfl (k_vs fun V129 h128 hF127 => ?_)
        refine GO.iinc (X := i1) (n := 1) (Y := i1 + 1) (ls1 := [some (.ref x), some (ti p0), some (ti p1), some (ti (i1 + 1))]) dX6_extend_56 rfl rfl rfl rfl ?_
        refine GO.goto (tgt := 2) dX6_extend_59 (by decide) ?_
        exact ih107 (i1 + 1) V129 ⟨by omega, by omega, trivial⟩ (by show (2147483647 - (i1 + 1)).toNat < (2147483647 - i1).toNat; omega)

theorem t_X6_extend_2 {K : Kmap} {V : Vmap} {x : Nat} {p0 : Int} {p1 : Int} (h_x : K x = some (0, 5)) (r_p0 : ir p0) (r_p1 : ir p1) (q_0 : ((p0 ≥ 6 ∧ p0 ≤ 7))) : MC mX6_extend_2 K V [.ref x, ti p0, ti p1] (VS K (fun V1 => (True))) := by
  exact t_X6_extend_2_G h_x r_p0 r_p1 (by omega) (by omega)

set_option maxHeartbeats 1000000 in
theorem t_X6_goOn_2_G {K : Kmap} {V : Vmap} {x : Nat} {p0 : Int} {p1 : Int} (h_x : K x = some (0, 5)) (r_p0 : ir p0) (r_p1 : ir p1) (q_0 : p0 ≥ 6) (q_1 : p0 ≤ 8) : MC mX6_goOn_2 K V [.ref x, ti p0, ti p1] (VS K (fun V1 => (True))) := by
  refine MC.start 0 (by decide +kernel) rfl rfl rfl (ls0 := [some (.ref x), some (ti p0), some (ti p1)]) rfl ?_
  refine GO.iload_n dX6_goOn_0 rfl rfl ?_
  refine GO.aload_n dX6_goOn_1 rfl rfl ?_
  refine GO.getR h_x fl_RX6_14 rfl rfl dX6_goOn_2 (fun hv2 h1 => ?_)
  refine GO.getI h1 fl_RX6_55_k24 rfl rfl dX6_goOn_5 (fun l3 u4 => ?_)
  refine GO.icmp_ge (tgt := 20) dX6_goOn_8 (by decide) r_p0 vi_ir (fun c5 => ?_) (fun c5 => ?_)
  ·
    refine GO.aload_n dX6_goOn_20 rfl rfl ?_
    refine GO.callV (ci := 5) (N := mX6_keep) dX6_goOn_21 (RX6, TX6, 10) rfl gV_RX6_93 h_x (t_X6_keep h_x) rfl [] rfl rfl (Nat.le_of_ble_eq_true rfl) rfl (k_vs fun V8 h7 hF6 => ?_)
    exact GO.retv rfl rfl dX6_goOn_24 ⟨rfl, rfl, trivial⟩
  ·
    refine GO.aload_n dX6_goOn_11 rfl rfl ?_
    refine GO.iload_n dX6_goOn_12 rfl rfl ?_
    refine GO.iload_n dX6_goOn_13 rfl rfl ?_
    have q9 : -2147483648 ≤ p0 ∧ p0 ≤ 2147483647 := r_p0
    refine GO.callV (ci := 5) (N := mX6_extend_2) dX6_goOn_14 (RX6, TX6, 10) rfl gV_RX6_65 h_x (t_X6_extend_2 h_x r_p0 r_p1 (by omega)) rfl [] rfl rfl (Nat.le_of_ble_eq_true rfl) rfl (k_vs fun V12 h11 hF10 => ?_)
    refine GO.goto (tgt := 24) dX6_goOn_17 (by decide) ?_
    exact GO.retv rfl rfl dX6_goOn_24 ⟨rfl, rfl, trivial⟩

theorem t_X6_goOn_2 {K : Kmap} {V : Vmap} {x : Nat} {p0 : Int} {p1 : Int} (h_x : K x = some (0, 5)) (r_p0 : ir p0) (r_p1 : ir p1) (q_0 : ((p0 ≥ 6 ∧ p0 ≤ 8))) : MC mX6_goOn_2 K V [.ref x, ti p0, ti p1] (VS K (fun V1 => (True))) := by
  exact t_X6_goOn_2_G h_x r_p0 r_p1 (by omega) (by omega)

set_option maxHeartbeats 1000000 in
theorem t_X6_extend_3_G {K : Kmap} {V : Vmap} {x : Nat} {p0 : Int} {p1 : Int} (h_x : K x = some (0, 5)) (r_p0 : ir p0) (r_p1 : ir p1) (q_0 : p0 ≥ 5) (q_1 : p0 ≤ 7) : MC mX6_extend_3 K V [.ref x, ti p0, ti p1] (VS K (fun V1 => (True))) := by
  refine MC.start 1 (by decide +kernel) rfl rfl rfl (ls0 := [some (.ref x), some (ti p0), some (ti p1), none]) rfl ?_
  refine GO.iconst dX6_extend_0 ?_
  refine GO.istore_n (ls1 := [some (.ref x), some (ti p0), some (ti p1), some (ti 0)]) dX6_extend_1 rfl rfl rfl ?_
  refine GO.loop1 (fun i1 W => 0 ≤ i1 ∧ i1 ≤ 8 ∧ True) (fun i1 => [some (.ref x), some (ti p0), some (ti p1), some (ti i1)]) (fun i1 W => (2147483647 - i1).toNat) 0 ⟨by omega, by omega, trivial⟩ rfl (fun i1 Wi1 hp108 ih107 => ?_)
  obtain ⟨l_i1, u_i1, -⟩ := hp108
  have r_i1 : ir i1 := ⟨by omega, by omega⟩
  show GO mX6_extend_3 K V (VS K (fun V1 => (True))) K Wi1 0 0 2 [some (.ref x), some (ti p0), some (ti p1), some (ti i1)] []
  refine GO.iload_n dX6_extend_2 rfl rfl ?_
  refine GO.aload_n dX6_extend_3 rfl rfl ?_
  refine GO.getR h_x fl_RX6_14 rfl rfl dX6_extend_4 (fun hv110 h109 => ?_)
  refine GO.getI h109 fl_RX6_55_k24 rfl rfl dX6_extend_7 (fun l111 u112 => ?_)
  refine GO.icmp_ge (tgt := 62) dX6_extend_10 (by decide) r_i1 vi_ir (fun c113 => ?_) (fun c113 => ?_)
  ·
    exact GO.retv rfl rfl dX6_extend_62 ⟨rfl, rfl, trivial⟩
  ·
    refine GO.iload_n dX6_extend_13 rfl rfl ?_
    refine GO.iload_n dX6_extend_14 rfl rfl ?_
    refine GO.ishr dX6_extend_15 ?_
    refine GO.iconst dX6_extend_16 ?_
    refine GO.iand dX6_extend_17 ?_
    refine GO.if_ne (tgt := 56) dX6_extend_18 (by decide) wand_ir (fun c114 => ?_) (fun c114 => ?_)
    ·
      refine GO.iinc (X := i1) (n := 1) (Y := i1 + 1) (ls1 := [some (.ref x), some (ti p0), some (ti p1), some (ti (i1 + 1))]) dX6_extend_56 rfl rfl rfl rfl ?_
      refine GO.goto (tgt := 2) dX6_extend_59 (by decide) ?_
      exact ih107 (i1 + 1) Wi1 ⟨by omega, by omega, trivial⟩ (by show (2147483647 - (i1 + 1)).toNat < (2147483647 - i1).toNat; omega)
    ·
      refine GO.aload_n dX6_extend_21 rfl rfl ?_
      refine GO.iload_n dX6_extend_22 rfl rfl ?_
      refine GO.iload_n dX6_extend_23 rfl rfl ?_
      refine GO.iload_n dX6_extend_24 rfl rfl ?_
      refine GO.iconst dX6_extend_25 ?_
      refine GO.iload_n dX6_extend_26 rfl rfl ?_
      refine GO.ishl dX6_extend_27 ?_
      refine GO.ior dX6_extend_28 ?_
      refine GO.callV (ci := 5) (N := mX6_comes) dX6_extend_29 (RX6, TX6, 10) rfl gV_RX6_86 h_x (t_X6_comes h_x r_p0 r_i1 wor_ir) rfl [] rfl rfl (Nat.le_of_ble_eq_true rfl) rfl (k_is fun X115 V119 r116 h117 hF118 => ?_)
      refine GO.if_eq (tgt := 56) dX6_extend_32 (by decide) r116 (fun c120 => ?_) (fun c120 => ?_)
      ·
        refine GO.iinc (X := i1) (n := 1) (Y := i1 + 1) (ls1 := [some (.ref x), some (ti p0), some (ti p1), some (ti (i1 + 1))]) dX6_extend_56 rfl rfl rfl rfl ?_
        refine GO.goto (tgt := 2) dX6_extend_59 (by decide) ?_
        exact ih107 (i1 + 1) V119 ⟨by omega, by omega, trivial⟩ (by show (2147483647 - (i1 + 1)).toNat < (2147483647 - i1).toNat; omega)
      ·
        refine GO.aload_n dX6_extend_35 rfl rfl ?_
        refine GO.getA (n := 8) h_x fl_RX6_33 rfl rfl rfl rfl dX6_extend_36 (fun hv122 h121 => ?_)
        refine GO.iload_n dX6_extend_39 rfl rfl ?_
        refine GO.iload_n dX6_extend_40 rfl rfl ?_
        refine GO.callS (N := mX4_put_t141) dX6_extend_41 gS_RX6_71 (t_X4_put_t141 h121 r_p0 r_i1) rfl [] rfl rfl (Nat.le_of_ble_eq_true rfl) rfl (k_vs fun V125 h124 hF123 => ?_)
        have raw_put := h124.2
        have rw41 := h124.2
        refine GO.aload_n dX6_extend_44 rfl rfl ?_
        refine GO.iload_n dX6_extend_45 rfl rfl ?_
        refine GO.iconst dX6_extend_46 ?_
        refine GO.iadd dX6_extend_47 ?_
        refine GO.iload_n dX6_extend_48 rfl rfl ?_
        refine GO.iconst dX6_extend_49 ?_
        refine GO.iload_n dX6_extend_50 rfl rfl ?_
        refine GO.ishl dX6_extend_51 ?_
        refine GO.ior dX6_extend_52 ?_
        have q126 : -2147483648 ≤ p0 ∧ p0 ≤ 2147483647 := r_p0
        refine GO.callV (ci := 5) (N := mX6_goOn_2) dX6_extend_53 (RX6, TX6, 10) rfl gV_RX6_90 h_x (t_X6_goOn_2 h_x ⟨by omega, by omega⟩ wor_ir (by omega)) rfl [] rfl rfl (Nat.le_of_ble_eq_true rfl) rfl (k_vs fun V129 h128 hF127 => ?_)
        refine GO.iinc (X := i1) (n := 1) (Y := i1 + 1) (ls1 := [some (.ref x), some (ti p0), some (ti p1), some (ti (i1 + 1))]) dX6_extend_56 rfl rfl rfl rfl ?_
        refine GO.goto (tgt := 2) dX6_extend_59 (by decide) ?_
        exact ih107 (i1 + 1) V129 ⟨by omega, by omega, trivial⟩ (by show (2147483647 - (i1 + 1)).toNat < (2147483647 - i1).toNat; omega)

theorem t_X6_extend_3 {K : Kmap} {V : Vmap} {x : Nat} {p0 : Int} {p1 : Int} (h_x : K x = some (0, 5)) (r_p0 : ir p0) (r_p1 : ir p1) (q_0 : ((p0 ≥ 5 ∧ p0 ≤ 7))) : MC mX6_extend_3 K V [.ref x, ti p0, ti p1] (VS K (fun V1 => (True))) := by
  exact t_X6_extend_3_G h_x r_p0 r_p1 (by omega) (by omega)

set_option maxHeartbeats 1000000 in
theorem t_X6_goOn_3_G {K : Kmap} {V : Vmap} {x : Nat} {p0 : Int} {p1 : Int} (h_x : K x = some (0, 5)) (r_p0 : ir p0) (r_p1 : ir p1) (q_0 : p0 ≥ 5) (q_1 : p0 ≤ 8) : MC mX6_goOn_3 K V [.ref x, ti p0, ti p1] (VS K (fun V1 => (True))) := by
  refine MC.start 0 (by decide +kernel) rfl rfl rfl (ls0 := [some (.ref x), some (ti p0), some (ti p1)]) rfl ?_
  refine GO.iload_n dX6_goOn_0 rfl rfl ?_
  refine GO.aload_n dX6_goOn_1 rfl rfl ?_
  refine GO.getR h_x fl_RX6_14 rfl rfl dX6_goOn_2 (fun hv2 h1 => ?_)
  refine GO.getI h1 fl_RX6_55_k24 rfl rfl dX6_goOn_5 (fun l3 u4 => ?_)
  refine GO.icmp_ge (tgt := 20) dX6_goOn_8 (by decide) r_p0 vi_ir (fun c5 => ?_) (fun c5 => ?_)
  ·
    refine GO.aload_n dX6_goOn_20 rfl rfl ?_
    refine GO.callV (ci := 5) (N := mX6_keep) dX6_goOn_21 (RX6, TX6, 10) rfl gV_RX6_93 h_x (t_X6_keep h_x) rfl [] rfl rfl (Nat.le_of_ble_eq_true rfl) rfl (k_vs fun V8 h7 hF6 => ?_)
    exact GO.retv rfl rfl dX6_goOn_24 ⟨rfl, rfl, trivial⟩
  ·
    refine GO.aload_n dX6_goOn_11 rfl rfl ?_
    refine GO.iload_n dX6_goOn_12 rfl rfl ?_
    refine GO.iload_n dX6_goOn_13 rfl rfl ?_
    have q9 : -2147483648 ≤ p0 ∧ p0 ≤ 2147483647 := r_p0
    refine GO.callV (ci := 5) (N := mX6_extend_3) dX6_goOn_14 (RX6, TX6, 10) rfl gV_RX6_65 h_x (t_X6_extend_3 h_x r_p0 r_p1 (by omega)) rfl [] rfl rfl (Nat.le_of_ble_eq_true rfl) rfl (k_vs fun V12 h11 hF10 => ?_)
    refine GO.goto (tgt := 24) dX6_goOn_17 (by decide) ?_
    exact GO.retv rfl rfl dX6_goOn_24 ⟨rfl, rfl, trivial⟩

theorem t_X6_goOn_3 {K : Kmap} {V : Vmap} {x : Nat} {p0 : Int} {p1 : Int} (h_x : K x = some (0, 5)) (r_p0 : ir p0) (r_p1 : ir p1) (q_0 : ((p0 ≥ 5 ∧ p0 ≤ 8))) : MC mX6_goOn_3 K V [.ref x, ti p0, ti p1] (VS K (fun V1 => (True))) := by
  exact t_X6_goOn_3_G h_x r_p0 r_p1 (by omega) (by omega)

set_option maxHeartbeats 1000000 in
theorem t_X6_extend_4_G {K : Kmap} {V : Vmap} {x : Nat} {p0 : Int} {p1 : Int} (h_x : K x = some (0, 5)) (r_p0 : ir p0) (r_p1 : ir p1) (q_0 : p0 ≥ 4) (q_1 : p0 ≤ 7) : MC mX6_extend_4 K V [.ref x, ti p0, ti p1] (VS K (fun V1 => (True))) := by
  refine MC.start 1 (by decide +kernel) rfl rfl rfl (ls0 := [some (.ref x), some (ti p0), some (ti p1), none]) rfl ?_
  refine GO.iconst dX6_extend_0 ?_
  refine GO.istore_n (ls1 := [some (.ref x), some (ti p0), some (ti p1), some (ti 0)]) dX6_extend_1 rfl rfl rfl ?_
  refine GO.loop1 (fun i1 W => 0 ≤ i1 ∧ i1 ≤ 8 ∧ True) (fun i1 => [some (.ref x), some (ti p0), some (ti p1), some (ti i1)]) (fun i1 W => (2147483647 - i1).toNat) 0 ⟨by omega, by omega, trivial⟩ rfl (fun i1 Wi1 hp108 ih107 => ?_)
  obtain ⟨l_i1, u_i1, -⟩ := hp108
  have r_i1 : ir i1 := ⟨by omega, by omega⟩
  show GO mX6_extend_4 K V (VS K (fun V1 => (True))) K Wi1 0 0 2 [some (.ref x), some (ti p0), some (ti p1), some (ti i1)] []
  refine GO.iload_n dX6_extend_2 rfl rfl ?_
  refine GO.aload_n dX6_extend_3 rfl rfl ?_
  refine GO.getR h_x fl_RX6_14 rfl rfl dX6_extend_4 (fun hv110 h109 => ?_)
  refine GO.getI h109 fl_RX6_55_k24 rfl rfl dX6_extend_7 (fun l111 u112 => ?_)
  refine GO.icmp_ge (tgt := 62) dX6_extend_10 (by decide) r_i1 vi_ir (fun c113 => ?_) (fun c113 => ?_)
  ·
    exact GO.retv rfl rfl dX6_extend_62 ⟨rfl, rfl, trivial⟩
  ·
    refine GO.iload_n dX6_extend_13 rfl rfl ?_
    refine GO.iload_n dX6_extend_14 rfl rfl ?_
    refine GO.ishr dX6_extend_15 ?_
    refine GO.iconst dX6_extend_16 ?_
    refine GO.iand dX6_extend_17 ?_
    refine GO.if_ne (tgt := 56) dX6_extend_18 (by decide) wand_ir (fun c114 => ?_) (fun c114 => ?_)
    ·
      refine GO.iinc (X := i1) (n := 1) (Y := i1 + 1) (ls1 := [some (.ref x), some (ti p0), some (ti p1), some (ti (i1 + 1))]) dX6_extend_56 rfl rfl rfl rfl ?_
      refine GO.goto (tgt := 2) dX6_extend_59 (by decide) ?_
      exact ih107 (i1 + 1) Wi1 ⟨by omega, by omega, trivial⟩ (by show (2147483647 - (i1 + 1)).toNat < (2147483647 - i1).toNat; omega)
    ·
      refine GO.aload_n dX6_extend_21 rfl rfl ?_
      refine GO.iload_n dX6_extend_22 rfl rfl ?_
      refine GO.iload_n dX6_extend_23 rfl rfl ?_
      refine GO.iload_n dX6_extend_24 rfl rfl ?_
      refine GO.iconst dX6_extend_25 ?_
      refine GO.iload_n dX6_extend_26 rfl rfl ?_
      refine GO.ishl dX6_extend_27 ?_
      refine GO.ior dX6_extend_28 ?_
      refine GO.callV (ci := 5) (N := mX6_comes) dX6_extend_29 (RX6, TX6, 10) rfl gV_RX6_86 h_x (t_X6_comes h_x r_p0 r_i1 wor_ir) rfl [] rfl rfl (Nat.le_of_ble_eq_true rfl) rfl (k_is fun X115 V119 r116 h117 hF118 => ?_)
      refine GO.if_eq (tgt := 56) dX6_extend_32 (by decide) r116 (fun c120 => ?_) (fun c120 => ?_)
      ·
        refine GO.iinc (X := i1) (n := 1) (Y := i1 + 1) (ls1 := [some (.ref x), some (ti p0), some (ti p1), some (ti (i1 + 1))]) dX6_extend_56 rfl rfl rfl rfl ?_
        refine GO.goto (tgt := 2) dX6_extend_59 (by decide) ?_
        exact ih107 (i1 + 1) V119 ⟨by omega, by omega, trivial⟩ (by show (2147483647 - (i1 + 1)).toNat < (2147483647 - i1).toNat; omega)
      ·
        refine GO.aload_n dX6_extend_35 rfl rfl ?_
        refine GO.getA (n := 8) h_x fl_RX6_33 rfl rfl rfl rfl dX6_extend_36 (fun hv122 h121 => ?_)
        refine GO.iload_n dX6_extend_39 rfl rfl ?_
        refine GO.iload_n dX6_extend_40 rfl rfl ?_
        refine GO.callS (N := mX4_put_t141) dX6_extend_41 gS_RX6_71 (t_X4_put_t141 h121 r_p0 r_i1) rfl [] rfl rfl (Nat.le_of_ble_eq_true rfl) rfl (k_vs fun V125 h124 hF123 => ?_)
        have raw_put := h124.2
        have rw41 := h124.2
        refine GO.aload_n dX6_extend_44 rfl rfl ?_
        refine GO.iload_n dX6_extend_45 rfl rfl ?_
        refine GO.iconst dX6_extend_46 ?_
        refine GO.iadd dX6_extend_47 ?_
        refine GO.iload_n dX6_extend_48 rfl rfl ?_
        refine GO.iconst dX6_extend_49 ?_
        refine GO.iload_n dX6_extend_50 rfl rfl ?_
        refine GO.ishl dX6_extend_51 ?_
        refine GO.ior dX6_extend_52 ?_
        have q126 : -2147483648 ≤ p0 ∧ p0 ≤ 2147483647 := r_p0
        refine GO.callV (ci := 5) (N := mX6_goOn_3) dX6_extend_53 (RX6, TX6, 10) rfl gV_RX6_90 h_x (t_X6_goOn_3 h_x ⟨by omega, by omega⟩ wor_ir (by omega)) rfl [] rfl rfl (Nat.le_of_ble_eq_true rfl) rfl (k_vs fun V129 h128 hF127 => ?_)
        refine GO.iinc (X := i1) (n := 1) (Y := i1 + 1) (ls1 := [some (.ref x), some (ti p0), some (ti p1), some (ti (i1 + 1))]) dX6_extend_56 rfl rfl rfl rfl ?_
        refine GO.goto (tgt := 2) dX6_extend_59 (by decide) ?_
        exact ih107 (i1 + 1) V129 ⟨by omega, by omega, trivial⟩ (by show (2147483647 - (i1 + 1)).toNat < (2147483647 - i1).toNat; omega)

theorem t_X6_extend_4 {K : Kmap} {V : Vmap} {x : Nat} {p0 : Int} {p1 : Int} (h_x : K x = some (0, 5)) (r_p0 : ir p0) (r_p1 : ir p1) (q_0 : ((p0 ≥ 4 ∧ p0 ≤ 7))) : MC mX6_extend_4 K V [.ref x, ti p0, ti p1] (VS K (fun V1 => (True))) := by
  exact t_X6_extend_4_G h_x r_p0 r_p1 (by omega) (by omega)

set_option maxHeartbeats 1000000 in
theorem t_X6_goOn_4_G {K : Kmap} {V : Vmap} {x : Nat} {p0 : Int} {p1 : Int} (h_x : K x = some (0, 5)) (r_p0 : ir p0) (r_p1 : ir p1) (q_0 : p0 ≥ 4) (q_1 : p0 ≤ 8) : MC mX6_goOn_4 K V [.ref x, ti p0, ti p1] (VS K (fun V1 => (True))) := by
  refine MC.start 0 (by decide +kernel) rfl rfl rfl (ls0 := [some (.ref x), some (ti p0), some (ti p1)]) rfl ?_
  refine GO.iload_n dX6_goOn_0 rfl rfl ?_
  refine GO.aload_n dX6_goOn_1 rfl rfl ?_
  refine GO.getR h_x fl_RX6_14 rfl rfl dX6_goOn_2 (fun hv2 h1 => ?_)
  refine GO.getI h1 fl_RX6_55_k24 rfl rfl dX6_goOn_5 (fun l3 u4 => ?_)
  refine GO.icmp_ge (tgt := 20) dX6_goOn_8 (by decide) r_p0 vi_ir (fun c5 => ?_) (fun c5 => ?_)
  ·
    refine GO.aload_n dX6_goOn_20 rfl rfl ?_
    refine GO.callV (ci := 5) (N := mX6_keep) dX6_goOn_21 (RX6, TX6, 10) rfl gV_RX6_93 h_x (t_X6_keep h_x) rfl [] rfl rfl (Nat.le_of_ble_eq_true rfl) rfl (k_vs fun V8 h7 hF6 => ?_)
    exact GO.retv rfl rfl dX6_goOn_24 ⟨rfl, rfl, trivial⟩
  ·
    refine GO.aload_n dX6_goOn_11 rfl rfl ?_
    refine GO.iload_n dX6_goOn_12 rfl rfl ?_
    refine GO.iload_n dX6_goOn_13 rfl rfl ?_
    have q9 : -2147483648 ≤ p0 ∧ p0 ≤ 2147483647 := r_p0
    refine GO.callV (ci := 5) (N := mX6_extend_4) dX6_goOn_14 (RX6, TX6, 10) rfl gV_RX6_65 h_x (t_X6_extend_4 h_x r_p0 r_p1 (by omega)) rfl [] rfl rfl (Nat.le_of_ble_eq_true rfl) rfl (k_vs fun V12 h11 hF10 => ?_)
    refine GO.goto (tgt := 24) dX6_goOn_17 (by decide) ?_
    exact GO.retv rfl rfl dX6_goOn_24 ⟨rfl, rfl, trivial⟩

theorem t_X6_goOn_4 {K : Kmap} {V : Vmap} {x : Nat} {p0 : Int} {p1 : Int} (h_x : K x = some (0, 5)) (r_p0 : ir p0) (r_p1 : ir p1) (q_0 : ((p0 ≥ 4 ∧ p0 ≤ 8))) : MC mX6_goOn_4 K V [.ref x, ti p0, ti p1] (VS K (fun V1 => (True))) := by
  exact t_X6_goOn_4_G h_x r_p0 r_p1 (by omega) (by omega)

set_option maxHeartbeats 1000000 in
theorem t_X6_extend_5_G {K : Kmap} {V : Vmap} {x : Nat} {p0 : Int} {p1 : Int} (h_x : K x = some (0, 5)) (r_p0 : ir p0) (r_p1 : ir p1) (q_0 : p0 ≥ 3) (q_1 : p0 ≤ 7) : MC mX6_extend_5 K V [.ref x, ti p0, ti p1] (VS K (fun V1 => (True))) := by
  refine MC.start 1 (by decide +kernel) rfl rfl rfl (ls0 := [some (.ref x), some (ti p0), some (ti p1), none]) rfl ?_
  refine GO.iconst dX6_extend_0 ?_
  refine GO.istore_n (ls1 := [some (.ref x), some (ti p0), some (ti p1), some (ti 0)]) dX6_extend_1 rfl rfl rfl ?_
  refine GO.loop1 (fun i1 W => 0 ≤ i1 ∧ i1 ≤ 8 ∧ True) (fun i1 => [some (.ref x), some (ti p0), some (ti p1), some (ti i1)]) (fun i1 W => (2147483647 - i1).toNat) 0 ⟨by omega, by omega, trivial⟩ rfl (fun i1 Wi1 hp108 ih107 => ?_)
  obtain ⟨l_i1, u_i1, -⟩ := hp108
  have r_i1 : ir i1 := ⟨by omega, by omega⟩
  show GO mX6_extend_5 K V (VS K (fun V1 => (True))) K Wi1 0 0 2 [some (.ref x), some (ti p0), some (ti p1), some (ti i1)] []
  refine GO.iload_n dX6_extend_2 rfl rfl ?_
  refine GO.aload_n dX6_extend_3 rfl rfl ?_
  refine GO.getR h_x fl_RX6_14 rfl rfl dX6_extend_4 (fun hv110 h109 => ?_)
  refine GO.getI h109 fl_RX6_55_k24 rfl rfl dX6_extend_7 (fun l111 u112 => ?_)
  refine GO.icmp_ge (tgt := 62) dX6_extend_10 (by decide) r_i1 vi_ir (fun c113 => ?_) (fun c113 => ?_)
  ·
    exact GO.retv rfl rfl dX6_extend_62 ⟨rfl, rfl, trivial⟩
  ·
    refine GO.iload_n dX6_extend_13 rfl rfl ?_
    refine GO.iload_n dX6_extend_14 rfl rfl ?_
    refine GO.ishr dX6_extend_15 ?_
    refine GO.iconst dX6_extend_16 ?_
    refine GO.iand dX6_extend_17 ?_
    refine GO.if_ne (tgt := 56) dX6_extend_18 (by decide) wand_ir (fun c114 => ?_) (fun c114 => ?_)
    ·
      refine GO.iinc (X := i1) (n := 1) (Y := i1 + 1) (ls1 := [some (.ref x), some (ti p0), some (ti p1), some (ti (i1 + 1))]) dX6_extend_56 rfl rfl rfl rfl ?_
      refine GO.goto (tgt := 2) dX6_extend_59 (by decide) ?_
      exact ih107 (i1 + 1) Wi1 ⟨by omega, by omega, trivial⟩ (by show (2147483647 - (i1 + 1)).toNat < (2147483647 - i1).toNat; omega)
    ·
      refine GO.aload_n dX6_extend_21 rfl rfl ?_
      refine GO.iload_n dX6_extend_22 rfl rfl ?_
      refine GO.iload_n dX6_extend_23 rfl rfl ?_
      refine GO.iload_n dX6_extend_24 rfl rfl ?_
      refine GO.iconst dX6_extend_25 ?_
      refine GO.iload_n dX6_extend_26 rfl rfl ?_
      refine GO.ishl dX6_extend_27 ?_
      refine GO.ior dX6_extend_28 ?_
      refine GO.callV (ci := 5) (N := mX6_comes) dX6_extend_29 (RX6, TX6, 10) rfl gV_RX6_86 h_x (t_X6_comes h_x r_p0 r_i1 wor_ir) rfl [] rfl rfl (Nat.le_of_ble_eq_true rfl) rfl (k_is fun X115 V119 r116 h117 hF118 => ?_)
      refine GO.if_eq (tgt := 56) dX6_extend_32 (by decide) r116 (fun c120 => ?_) (fun c120 => ?_)
      ·
        refine GO.iinc (X := i1) (n := 1) (Y := i1 + 1) (ls1 := [some (.ref x), some (ti p0), some (ti p1), some (ti (i1 + 1))]) dX6_extend_56 rfl rfl rfl rfl ?_
        refine GO.goto (tgt := 2) dX6_extend_59 (by decide) ?_
        exact ih107 (i1 + 1) V119 ⟨by omega, by omega, trivial⟩ (by show (2147483647 - (i1 + 1)).toNat < (2147483647 - i1).toNat; omega)
      ·
        refine GO.aload_n dX6_extend_35 rfl rfl ?_
        refine GO.getA (n := 8) h_x fl_RX6_33 rfl rfl rfl rfl dX6_extend_36 (fun hv122 h121 => ?_)
        refine GO.iload_n dX6_extend_39 rfl rfl ?_
        refine GO.iload_n dX6_extend_40 rfl rfl ?_
        refine GO.callS (N := mX4_put_t141) dX6_extend_41 gS_RX6_71 (t_X4_put_t141 h121 r_p0 r_i1) rfl [] rfl rfl (Nat.le_of_ble_eq_true rfl) rfl (k_vs fun V125 h124 hF123 => ?_)
        have raw_put := h124.2
        have rw41 := h124.2
        refine GO.aload_n dX6_extend_44 rfl rfl ?_
        refine GO.iload_n dX6_extend_45 rfl rfl ?_
        refine GO.iconst dX6_extend_46 ?_
        refine GO.iadd dX6_extend_47 ?_
        refine GO.iload_n dX6_extend_48 rfl rfl ?_
        refine GO.iconst dX6_extend_49 ?_
        refine GO.iload_n dX6_extend_50 rfl rfl ?_
        refine GO.ishl dX6_extend_51 ?_
        refine GO.ior dX6_extend_52 ?_
        have q126 : -2147483648 ≤ p0 ∧ p0 ≤ 2147483647 := r_p0
        refine GO.callV (ci := 5) (N := mX6_goOn_4) dX6_extend_53 (RX6, TX6, 10) rfl gV_RX6_90 h_x (t_X6_goOn_4 h_x ⟨by omega, by omega⟩ wor_ir (by omega)) rfl [] rfl rfl (Nat.le_of_ble_eq_true rfl) rfl (k_vs fun V129 h128 hF127 => ?_)
        refine GO.iinc (X := i1) (n := 1) (Y := i1 + 1) (ls1 := [some (.ref x), some (ti p0), some (ti p1), some (ti (i1 + 1))]) dX6_extend_56 rfl rfl rfl rfl ?_
        refine GO.goto (tgt := 2) dX6_extend_59 (by decide) ?_
        exact ih107 (i1 + 1) V129 ⟨by omega, by omega, trivial⟩ (by show (2147483647 - (i1 + 1)).toNat < (2147483647 - i1).toNat; omega)

theorem t_X6_extend_5 {K : Kmap} {V : Vmap} {x : Nat} {p0 : Int} {p1 : Int} (h_x : K x = some (0, 5)) (r_p0 : ir p0) (r_p1 : ir p1) (q_0 : ((p0 ≥ 3 ∧ p0 ≤ 7))) : MC mX6_extend_5 K V [.ref x, ti p0, ti p1] (VS K (fun V1 => (True))) := by
  exact t_X6_extend_5_G h_x r_p0 r_p1 (by omega) (by omega)

set_option maxHeartbeats 1000000 in
theorem t_X6_goOn_5_G {K : Kmap} {V : Vmap} {x : Nat} {p0 : Int} {p1 : Int} (h_x : K x = some (0, 5)) (r_p0 : ir p0) (r_p1 : ir p1) (q_0 : p0 ≥ 3) (q_1 : p0 ≤ 8) : MC mX6_goOn_5 K V [.ref x, ti p0, ti p1] (VS K (fun V1 => (True))) := by
  refine MC.start 0 (by decide +kernel) rfl rfl rfl (ls0 := [some (.ref x), some (ti p0), some (ti p1)]) rfl ?_
  refine GO.iload_n dX6_goOn_0 rfl rfl ?_
  refine GO.aload_n dX6_goOn_1 rfl rfl ?_
  refine GO.getR h_x fl_RX6_14 rfl rfl dX6_goOn_2 (fun hv2 h1 => ?_)
  refine GO.getI h1 fl_RX6_55_k24 rfl rfl dX6_goOn_5 (fun l3 u4 => ?_)
  refine GO.icmp_ge (tgt := 20) dX6_goOn_8 (by decide) r_p0 vi_ir (fun c5 => ?_) (fun c5 => ?_)
  ·
    refine GO.aload_n dX6_goOn_20 rfl rfl ?_
    refine GO.callV (ci := 5) (N := mX6_keep) dX6_goOn_21 (RX6, TX6, 10) rfl gV_RX6_93 h_x (t_X6_keep h_x) rfl [] rfl rfl (Nat.le_of_ble_eq_true rfl) rfl (k_vs fun V8 h7 hF6 => ?_)
    exact GO.retv rfl rfl dX6_goOn_24 ⟨rfl, rfl, trivial⟩
  ·
    refine GO.aload_n dX6_goOn_11 rfl rfl ?_
    refine GO.iload_n dX6_goOn_12 rfl rfl ?_
    refine GO.iload_n dX6_goOn_13 rfl rfl ?_
    have q9 : -2147483648 ≤ p0 ∧ p0 ≤ 2147483647 := r_p0
    refine GO.callV (ci := 5) (N := mX6_extend_5) dX6_goOn_14 (RX6, TX6, 10) rfl gV_RX6_65 h_x (t_X6_extend_5 h_x r_p0 r_p1 (by omega)) rfl [] rfl rfl (Nat.le_of_ble_eq_true rfl) rfl (k_vs fun V12 h11 hF10 => ?_)
    refine GO.goto (tgt := 24) dX6_goOn_17 (by decide) ?_
    exact GO.retv rfl rfl dX6_goOn_24 ⟨rfl, rfl, trivial⟩

theorem t_X6_goOn_5 {K : Kmap} {V : Vmap} {x : Nat} {p0 : Int} {p1 : Int} (h_x : K x = some (0, 5)) (r_p0 : ir p0) (r_p1 : ir p1) (q_0 : ((p0 ≥ 3 ∧ p0 ≤ 8))) : MC mX6_goOn_5 K V [.ref x, ti p0, ti p1] (VS K (fun V1 => (True))) := by
  exact t_X6_goOn_5_G h_x r_p0 r_p1 (by omega) (by omega)

set_option maxHeartbeats 1000000 in
theorem t_X6_extend_6_G {K : Kmap} {V : Vmap} {x : Nat} {p0 : Int} {p1 : Int} (h_x : K x = some (0, 5)) (r_p0 : ir p0) (r_p1 : ir p1) (q_0 : p0 ≥ 2) (q_1 : p0 ≤ 7) : MC mX6_extend_6 K V [.ref x, ti p0, ti p1] (VS K (fun V1 => (True))) := by
  refine MC.start 1 (by decide +kernel) rfl rfl rfl (ls0 := [some (.ref x), some (ti p0), some (ti p1), none]) rfl ?_
  refine GO.iconst dX6_extend_0 ?_
  refine GO.istore_n (ls1 := [some (.ref x), some (ti p0), some (ti p1), some (ti 0)]) dX6_extend_1 rfl rfl rfl ?_
  refine GO.loop1 (fun i1 W => 0 ≤ i1 ∧ i1 ≤ 8 ∧ True) (fun i1 => [some (.ref x), some (ti p0), some (ti p1), some (ti i1)]) (fun i1 W => (2147483647 - i1).toNat) 0 ⟨by omega, by omega, trivial⟩ rfl (fun i1 Wi1 hp108 ih107 => ?_)
  obtain ⟨l_i1, u_i1, -⟩ := hp108
  have r_i1 : ir i1 := ⟨by omega, by omega⟩
  show GO mX6_extend_6 K V (VS K (fun V1 => (True))) K Wi1 0 0 2 [some (.ref x), some (ti p0), some (ti p1), some (ti i1)] []
  refine GO.iload_n dX6_extend_2 rfl rfl ?_
  refine GO.aload_n dX6_extend_3 rfl rfl ?_
  refine GO.getR h_x fl_RX6_14 rfl rfl dX6_extend_4 (fun hv110 h109 => ?_)
  refine GO.getI h109 fl_RX6_55_k24 rfl rfl dX6_extend_7 (fun l111 u112 => ?_)
  refine GO.icmp_ge (tgt := 62) dX6_extend_10 (by decide) r_i1 vi_ir (fun c113 => ?_) (fun c113 => ?_)
  ·
    exact GO.retv rfl rfl dX6_extend_62 ⟨rfl, rfl, trivial⟩
  ·
    refine GO.iload_n dX6_extend_13 rfl rfl ?_
    refine GO.iload_n dX6_extend_14 rfl rfl ?_
    refine GO.ishr dX6_extend_15 ?_
    refine GO.iconst dX6_extend_16 ?_
    refine GO.iand dX6_extend_17 ?_
    refine GO.if_ne (tgt := 56) dX6_extend_18 (by decide) wand_ir (fun c114 => ?_) (fun c114 => ?_)
    ·
      refine GO.iinc (X := i1) (n := 1) (Y := i1 + 1) (ls1 := [some (.ref x), some (ti p0), some (ti p1), some (ti (i1 + 1))]) dX6_extend_56 rfl rfl rfl rfl ?_
      refine GO.goto (tgt := 2) dX6_extend_59 (by decide) ?_
      exact ih107 (i1 + 1) Wi1 ⟨by omega, by omega, trivial⟩ (by show (2147483647 - (i1 + 1)).toNat < (2147483647 - i1).toNat; omega)
    ·
      refine GO.aload_n dX6_extend_21 rfl rfl ?_
      refine GO.iload_n dX6_extend_22 rfl rfl ?_
      refine GO.iload_n dX6_extend_23 rfl rfl ?_
      refine GO.iload_n dX6_extend_24 rfl rfl ?_
      refine GO.iconst dX6_extend_25 ?_
      refine GO.iload_n dX6_extend_26 rfl rfl ?_
      refine GO.ishl dX6_extend_27 ?_
      refine GO.ior dX6_extend_28 ?_
      refine GO.callV (ci := 5) (N := mX6_comes) dX6_extend_29 (RX6, TX6, 10) rfl gV_RX6_86 h_x (t_X6_comes h_x r_p0 r_i1 wor_ir) rfl [] rfl rfl (Nat.le_of_ble_eq_true rfl) rfl (k_is fun X115 V119 r116 h117 hF118 => ?_)
      refine GO.if_eq (tgt := 56) dX6_extend_32 (by decide) r116 (fun c120 => ?_) (fun c120 => ?_)
      ·
        refine GO.iinc (X := i1) (n := 1) (Y := i1 + 1) (ls1 := [some (.ref x), some (ti p0), some (ti p1), some (ti (i1 + 1))]) dX6_extend_56 rfl rfl rfl rfl ?_
        refine GO.goto (tgt := 2) dX6_extend_59 (by decide) ?_
        exact ih107 (i1 + 1) V119 ⟨by omega, by omega, trivial⟩ (by show (2147483647 - (i1 + 1)).toNat < (2147483647 - i1).toNat; omega)
      ·
        refine GO.aload_n dX6_extend_35 rfl rfl ?_
        refine GO.getA (n := 8) h_x fl_RX6_33 rfl rfl rfl rfl dX6_extend_36 (fun hv122 h121 => ?_)
        refine GO.iload_n dX6_extend_39 rfl rfl ?_
        refine GO.iload_n dX6_extend_40 rfl rfl ?_
        refine GO.callS (N := mX4_put_t141) dX6_extend_41 gS_RX6_71 (t_X4_put_t141 h121 r_p0 r_i1) rfl [] rfl rfl (Nat.le_of_ble_eq_true rfl) rfl (k_vs fun V125 h124 hF123 => ?_)
        have raw_put := h124.2
        have rw41 := h124.2
        refine GO.aload_n dX6_extend_44 rfl rfl ?_
        refine GO.iload_n dX6_extend_45 rfl rfl ?_
        refine GO.iconst dX6_extend_46 ?_
        refine GO.iadd dX6_extend_47 ?_
        refine GO.iload_n dX6_extend_48 rfl rfl ?_
        refine GO.iconst dX6_extend_49 ?_
        refine GO.iload_n dX6_extend_50 rfl rfl ?_
        refine GO.ishl dX6_extend_51 ?_
        refine GO.ior dX6_extend_52 ?_
        have q126 : -2147483648 ≤ p0 ∧ p0 ≤ 2147483647 := r_p0
        refine GO.callV (ci := 5) (N := mX6_goOn_5) dX6_extend_53 (RX6, TX6, 10) rfl gV_RX6_90 h_x (t_X6_goOn_5 h_x ⟨by omega, by omega⟩ wor_ir (by omega)) rfl [] rfl rfl (Nat.le_of_ble_eq_true rfl) rfl (k_vs fun V129 h128 hF127 => ?_)
        refine GO.iinc (X := i1) (n := 1) (Y := i1 + 1) (ls1 := [some (.ref x), some (ti p0), some (ti p1), some (ti (i1 + 1))]) dX6_extend_56 rfl rfl rfl rfl ?_
        refine GO.goto (tgt := 2) dX6_extend_59 (by decide) ?_
        exact ih107 (i1 + 1) V129 ⟨by omega, by omega, trivial⟩ (by show (2147483647 - (i1 + 1)).toNat < (2147483647 - i1).toNat; omega)

theorem t_X6_extend_6 {K : Kmap} {V : Vmap} {x : Nat} {p0 : Int} {p1 : Int} (h_x : K x = some (0, 5)) (r_p0 : ir p0) (r_p1 : ir p1) (q_0 : ((p0 ≥ 2 ∧ p0 ≤ 7))) : MC mX6_extend_6 K V [.ref x, ti p0, ti p1] (VS K (fun V1 => (True))) := by
  exact t_X6_extend_6_G h_x r_p0 r_p1 (by omega) (by omega)

set_option maxHeartbeats 1000000 in
theorem t_X6_goOn_6_G {K : Kmap} {V : Vmap} {x : Nat} {p0 : Int} {p1 : Int} (h_x : K x = some (0, 5)) (r_p0 : ir p0) (r_p1 : ir p1) (q_0 : p0 ≥ 2) (q_1 : p0 ≤ 8) : MC mX6_goOn_6 K V [.ref x, ti p0, ti p1] (VS K (fun V1 => (True))) := by
  refine MC.start 0 (by decide +kernel) rfl rfl rfl (ls0 := [some (.ref x), some (ti p0), some (ti p1)]) rfl ?_
  refine GO.iload_n dX6_goOn_0 rfl rfl ?_
  refine GO.aload_n dX6_goOn_1 rfl rfl ?_
  refine GO.getR h_x fl_RX6_14 rfl rfl dX6_goOn_2 (fun hv2 h1 => ?_)
  refine GO.getI h1 fl_RX6_55_k24 rfl rfl dX6_goOn_5 (fun l3 u4 => ?_)
  refine GO.icmp_ge (tgt := 20) dX6_goOn_8 (by decide) r_p0 vi_ir (fun c5 => ?_) (fun c5 => ?_)
  ·
    refine GO.aload_n dX6_goOn_20 rfl rfl ?_
    refine GO.callV (ci := 5) (N := mX6_keep) dX6_goOn_21 (RX6, TX6, 10) rfl gV_RX6_93 h_x (t_X6_keep h_x) rfl [] rfl rfl (Nat.le_of_ble_eq_true rfl) rfl (k_vs fun V8 h7 hF6 => ?_)
    exact GO.retv rfl rfl dX6_goOn_24 ⟨rfl, rfl, trivial⟩
  ·
    refine GO.aload_n dX6_goOn_11 rfl rfl ?_
    refine GO.iload_n dX6_goOn_12 rfl rfl ?_
    refine GO.iload_n dX6_goOn_13 rfl rfl ?_
    have q9 : -2147483648 ≤ p0 ∧ p0 ≤ 2147483647 := r_p0
    refine GO.callV (ci := 5) (N := mX6_extend_6) dX6_goOn_14 (RX6, TX6, 10) rfl gV_RX6_65 h_x (t_X6_extend_6 h_x r_p0 r_p1 (by omega)) rfl [] rfl rfl (Nat.le_of_ble_eq_true rfl) rfl (k_vs fun V12 h11 hF10 => ?_)
    refine GO.goto (tgt := 24) dX6_goOn_17 (by decide) ?_
    exact GO.retv rfl rfl dX6_goOn_24 ⟨rfl, rfl, trivial⟩

theorem t_X6_goOn_6 {K : Kmap} {V : Vmap} {x : Nat} {p0 : Int} {p1 : Int} (h_x : K x = some (0, 5)) (r_p0 : ir p0) (r_p1 : ir p1) (q_0 : ((p0 ≥ 2 ∧ p0 ≤ 8))) : MC mX6_goOn_6 K V [.ref x, ti p0, ti p1] (VS K (fun V1 => (True))) := by
  exact t_X6_goOn_6_G h_x r_p0 r_p1 (by omega) (by omega)

set_option maxHeartbeats 1000000 in
theorem t_X6_extend_7_G {K : Kmap} {V : Vmap} {x : Nat} {p0 : Int} {p1 : Int} (h_x : K x = some (0, 5)) (r_p0 : ir p0) (r_p1 : ir p1) (q_0 : p0 ≥ 1) (q_1 : p0 ≤ 7) : MC mX6_extend_7 K V [.ref x, ti p0, ti p1] (VS K (fun V1 => (True))) := by
  refine MC.start 1 (by decide +kernel) rfl rfl rfl (ls0 := [some (.ref x), some (ti p0), some (ti p1), none]) rfl ?_
  refine GO.iconst dX6_extend_0 ?_
  refine GO.istore_n (ls1 := [some (.ref x), some (ti p0), some (ti p1), some (ti 0)]) dX6_extend_1 rfl rfl rfl ?_
  refine GO.loop1 (fun i1 W => 0 ≤ i1 ∧ i1 ≤ 8 ∧ True) (fun i1 => [some (.ref x), some (ti p0), some (ti p1), some (ti i1)]) (fun i1 W => (2147483647 - i1).toNat) 0 ⟨by omega, by omega, trivial⟩ rfl (fun i1 Wi1 hp108 ih107 => ?_)
  obtain ⟨l_i1, u_i1, -⟩ := hp108
  have r_i1 : ir i1 := ⟨by omega, by omega⟩
  show GO mX6_extend_7 K V (VS K (fun V1 => (True))) K Wi1 0 0 2 [some (.ref x), some (ti p0), some (ti p1), some (ti i1)] []
  refine GO.iload_n dX6_extend_2 rfl rfl ?_
  refine GO.aload_n dX6_extend_3 rfl rfl ?_
  refine GO.getR h_x fl_RX6_14 rfl rfl dX6_extend_4 (fun hv110 h109 => ?_)
  refine GO.getI h109 fl_RX6_55_k24 rfl rfl dX6_extend_7 (fun l111 u112 => ?_)
  refine GO.icmp_ge (tgt := 62) dX6_extend_10 (by decide) r_i1 vi_ir (fun c113 => ?_) (fun c113 => ?_)
  ·
    exact GO.retv rfl rfl dX6_extend_62 ⟨rfl, rfl, trivial⟩
  ·
    refine GO.iload_n dX6_extend_13 rfl rfl ?_
    refine GO.iload_n dX6_extend_14 rfl rfl ?_
    refine GO.ishr dX6_extend_15 ?_
    refine GO.iconst dX6_extend_16 ?_
    refine GO.iand dX6_extend_17 ?_
    refine GO.if_ne (tgt := 56) dX6_extend_18 (by decide) wand_ir (fun c114 => ?_) (fun c114 => ?_)
    ·
      refine GO.iinc (X := i1) (n := 1) (Y := i1 + 1) (ls1 := [some (.ref x), some (ti p0), some (ti p1), some (ti (i1 + 1))]) dX6_extend_56 rfl rfl rfl rfl ?_
      refine GO.goto (tgt := 2) dX6_extend_59 (by decide) ?_
      exact ih107 (i1 + 1) Wi1 ⟨by omega, by omega, trivial⟩ (by show (2147483647 - (i1 + 1)).toNat < (2147483647 - i1).toNat; omega)
    ·
      refine GO.aload_n dX6_extend_21 rfl rfl ?_
      refine GO.iload_n dX6_extend_22 rfl rfl ?_
      refine GO.iload_n dX6_extend_23 rfl rfl ?_
      refine GO.iload_n dX6_extend_24 rfl rfl ?_
      refine GO.iconst dX6_extend_25 ?_
      refine GO.iload_n dX6_extend_26 rfl rfl ?_
      refine GO.ishl dX6_extend_27 ?_
      refine GO.ior dX6_extend_28 ?_
      refine GO.callV (ci := 5) (N := mX6_comes) dX6_extend_29 (RX6, TX6, 10) rfl gV_RX6_86 h_x (t_X6_comes h_x r_p0 r_i1 wor_ir) rfl [] rfl rfl (Nat.le_of_ble_eq_true rfl) rfl (k_is fun X115 V119 r116 h117 hF118 => ?_)
      refine GO.if_eq (tgt := 56) dX6_extend_32 (by decide) r116 (fun c120 => ?_) (fun c120 => ?_)
      ·
        refine GO.iinc (X := i1) (n := 1) (Y := i1 + 1) (ls1 := [some (.ref x), some (ti p0), some (ti p1), some (ti (i1 + 1))]) dX6_extend_56 rfl rfl rfl rfl ?_
        refine GO.goto (tgt := 2) dX6_extend_59 (by decide) ?_
        exact ih107 (i1 + 1) V119 ⟨by omega, by omega, trivial⟩ (by show (2147483647 - (i1 + 1)).toNat < (2147483647 - i1).toNat; omega)
      ·
        refine GO.aload_n dX6_extend_35 rfl rfl ?_
        refine GO.getA (n := 8) h_x fl_RX6_33 rfl rfl rfl rfl dX6_extend_36 (fun hv122 h121 => ?_)
        refine GO.iload_n dX6_extend_39 rfl rfl ?_
        refine GO.iload_n dX6_extend_40 rfl rfl ?_
        refine GO.callS (N := mX4_put_t141) dX6_extend_41 gS_RX6_71 (t_X4_put_t141 h121 r_p0 r_i1) rfl [] rfl rfl (Nat.le_of_ble_eq_true rfl) rfl (k_vs fun V125 h124 hF123 => ?_)
        have raw_put := h124.2
        have rw41 := h124.2
        refine GO.aload_n dX6_extend_44 rfl rfl ?_
        refine GO.iload_n dX6_extend_45 rfl rfl ?_
        refine GO.iconst dX6_extend_46 ?_
        refine GO.iadd dX6_extend_47 ?_
        refine GO.iload_n dX6_extend_48 rfl rfl ?_
        refine GO.iconst dX6_extend_49 ?_
        refine GO.iload_n dX6_extend_50 rfl rfl ?_
        refine GO.ishl dX6_extend_51 ?_
        refine GO.ior dX6_extend_52 ?_
        have q126 : -2147483648 ≤ p0 ∧ p0 ≤ 2147483647 := r_p0
        refine GO.callV (ci := 5) (N := mX6_goOn_6) dX6_extend_53 (RX6, TX6, 10) rfl gV_RX6_90 h_x (t_X6_goOn_6 h_x ⟨by omega, by omega⟩ wor_ir (by omega)) rfl [] rfl rfl (Nat.le_of_ble_eq_true rfl) rfl (k_vs fun V129 h128 hF127 => ?_)
        refine GO.iinc (X := i1) (n := 1) (Y := i1 + 1) (ls1 := [some (.ref x), some (ti p0), some (ti p1), some (ti (i1 + 1))]) dX6_extend_56 rfl rfl rfl rfl ?_
        refine GO.goto (tgt := 2) dX6_extend_59 (by decide) ?_
        exact ih107 (i1 + 1) V129 ⟨by omega, by omega, trivial⟩ (by show (2147483647 - (i1 + 1)).toNat < (2147483647 - i1).toNat; omega)

theorem t_X6_extend_7 {K : Kmap} {V : Vmap} {x : Nat} {p0 : Int} {p1 : Int} (h_x : K x = some (0, 5)) (r_p0 : ir p0) (r_p1 : ir p1) (q_0 : ((p0 ≥ 1 ∧ p0 ≤ 7))) : MC mX6_extend_7 K V [.ref x, ti p0, ti p1] (VS K (fun V1 => (True))) := by
  exact t_X6_extend_7_G h_x r_p0 r_p1 (by omega) (by omega)

set_option maxHeartbeats 1000000 in
theorem t_X6_goOn_7_G {K : Kmap} {V : Vmap} {x : Nat} {p0 : Int} {p1 : Int} (h_x : K x = some (0, 5)) (r_p0 : ir p0) (r_p1 : ir p1) (q_0 : p0 ≥ 1) (q_1 : p0 ≤ 8) : MC mX6_goOn_7 K V [.ref x, ti p0, ti p1] (VS K (fun V1 => (True))) := by
  refine MC.start 0 (by decide +kernel) rfl rfl rfl (ls0 := [some (.ref x), some (ti p0), some (ti p1)]) rfl ?_
  refine GO.iload_n dX6_goOn_0 rfl rfl ?_
  refine GO.aload_n dX6_goOn_1 rfl rfl ?_
  refine GO.getR h_x fl_RX6_14 rfl rfl dX6_goOn_2 (fun hv2 h1 => ?_)
  refine GO.getI h1 fl_RX6_55_k24 rfl rfl dX6_goOn_5 (fun l3 u4 => ?_)
  refine GO.icmp_ge (tgt := 20) dX6_goOn_8 (by decide) r_p0 vi_ir (fun c5 => ?_) (fun c5 => ?_)
  ·
    refine GO.aload_n dX6_goOn_20 rfl rfl ?_
    refine GO.callV (ci := 5) (N := mX6_keep) dX6_goOn_21 (RX6, TX6, 10) rfl gV_RX6_93 h_x (t_X6_keep h_x) rfl [] rfl rfl (Nat.le_of_ble_eq_true rfl) rfl (k_vs fun V8 h7 hF6 => ?_)
    exact GO.retv rfl rfl dX6_goOn_24 ⟨rfl, rfl, trivial⟩
  ·
    refine GO.aload_n dX6_goOn_11 rfl rfl ?_
    refine GO.iload_n dX6_goOn_12 rfl rfl ?_
    refine GO.iload_n dX6_goOn_13 rfl rfl ?_
    have q9 : -2147483648 ≤ p0 ∧ p0 ≤ 2147483647 := r_p0
    refine GO.callV (ci := 5) (N := mX6_extend_7) dX6_goOn_14 (RX6, TX6, 10) rfl gV_RX6_65 h_x (t_X6_extend_7 h_x r_p0 r_p1 (by omega)) rfl [] rfl rfl (Nat.le_of_ble_eq_true rfl) rfl (k_vs fun V12 h11 hF10 => ?_)
    refine GO.goto (tgt := 24) dX6_goOn_17 (by decide) ?_
    exact GO.retv rfl rfl dX6_goOn_24 ⟨rfl, rfl, trivial⟩

theorem t_X6_goOn_7 {K : Kmap} {V : Vmap} {x : Nat} {p0 : Int} {p1 : Int} (h_x : K x = some (0, 5)) (r_p0 : ir p0) (r_p1 : ir p1) (q_0 : ((p0 ≥ 1 ∧ p0 ≤ 8))) : MC mX6_goOn_7 K V [.ref x, ti p0, ti p1] (VS K (fun V1 => (True))) := by
  exact t_X6_goOn_7_G h_x r_p0 r_p1 (by omega) (by omega)

set_option maxHeartbeats 1000000 in
theorem t_X6_extend_8_G {K : Kmap} {V : Vmap} {x : Nat} {p0 : Int} {p1 : Int} (h_x : K x = some (0, 5)) (r_p0 : ir p0) (r_p1 : ir p1) (q_0 : p0 ≥ 0) (q_1 : p0 ≤ 7) : MC mX6_extend_8 K V [.ref x, ti p0, ti p1] (VS K (fun V1 => (True))) := by
  refine MC.start 1 (by decide +kernel) rfl rfl rfl (ls0 := [some (.ref x), some (ti p0), some (ti p1), none]) rfl ?_
  refine GO.iconst dX6_extend_0 ?_
  refine GO.istore_n (ls1 := [some (.ref x), some (ti p0), some (ti p1), some (ti 0)]) dX6_extend_1 rfl rfl rfl ?_
  refine GO.loop1 (fun i1 W => 0 ≤ i1 ∧ i1 ≤ 8 ∧ True) (fun i1 => [some (.ref x), some (ti p0), some (ti p1), some (ti i1)]) (fun i1 W => (2147483647 - i1).toNat) 0 ⟨by omega, by omega, trivial⟩ rfl (fun i1 Wi1 hp108 ih107 => ?_)
  obtain ⟨l_i1, u_i1, -⟩ := hp108
  have r_i1 : ir i1 := ⟨by omega, by omega⟩
  show GO mX6_extend_8 K V (VS K (fun V1 => (True))) K Wi1 0 0 2 [some (.ref x), some (ti p0), some (ti p1), some (ti i1)] []
  refine GO.iload_n dX6_extend_2 rfl rfl ?_
  refine GO.aload_n dX6_extend_3 rfl rfl ?_
  refine GO.getR h_x fl_RX6_14 rfl rfl dX6_extend_4 (fun hv110 h109 => ?_)
  refine GO.getI h109 fl_RX6_55_k24 rfl rfl dX6_extend_7 (fun l111 u112 => ?_)
  refine GO.icmp_ge (tgt := 62) dX6_extend_10 (by decide) r_i1 vi_ir (fun c113 => ?_) (fun c113 => ?_)
  ·
    exact GO.retv rfl rfl dX6_extend_62 ⟨rfl, rfl, trivial⟩
  ·
    refine GO.iload_n dX6_extend_13 rfl rfl ?_
    refine GO.iload_n dX6_extend_14 rfl rfl ?_
    refine GO.ishr dX6_extend_15 ?_
    refine GO.iconst dX6_extend_16 ?_
    refine GO.iand dX6_extend_17 ?_
    refine GO.if_ne (tgt := 56) dX6_extend_18 (by decide) wand_ir (fun c114 => ?_) (fun c114 => ?_)
    ·
      refine GO.iinc (X := i1) (n := 1) (Y := i1 + 1) (ls1 := [some (.ref x), some (ti p0), some (ti p1), some (ti (i1 + 1))]) dX6_extend_56 rfl rfl rfl rfl ?_
      refine GO.goto (tgt := 2) dX6_extend_59 (by decide) ?_
      exact ih107 (i1 + 1) Wi1 ⟨by omega, by omega, trivial⟩ (by show (2147483647 - (i1 + 1)).toNat < (2147483647 - i1).toNat; omega)
    ·
      refine GO.aload_n dX6_extend_21 rfl rfl ?_
      refine GO.iload_n dX6_extend_22 rfl rfl ?_
      refine GO.iload_n dX6_extend_23 rfl rfl ?_
      refine GO.iload_n dX6_extend_24 rfl rfl ?_
      refine GO.iconst dX6_extend_25 ?_
      refine GO.iload_n dX6_extend_26 rfl rfl ?_
      refine GO.ishl dX6_extend_27 ?_
      refine GO.ior dX6_extend_28 ?_
      refine GO.callV (ci := 5) (N := mX6_comes) dX6_extend_29 (RX6, TX6, 10) rfl gV_RX6_86 h_x (t_X6_comes h_x r_p0 r_i1 wor_ir) rfl [] rfl rfl (Nat.le_of_ble_eq_true rfl) rfl (k_is fun X115 V119 r116 h117 hF118 => ?_)
      refine GO.if_eq (tgt := 56) dX6_extend_32 (by decide) r116 (fun c120 => ?_) (fun c120 => ?_)
      ·
        refine GO.iinc (X := i1) (n := 1) (Y := i1 + 1) (ls1 := [some (.ref x), some (ti p0), some (ti p1), some (ti (i1 + 1))]) dX6_extend_56 rfl rfl rfl rfl ?_
        refine GO.goto (tgt := 2) dX6_extend_59 (by decide) ?_
        exact ih107 (i1 + 1) V119 ⟨by omega, by omega, trivial⟩ (by show (2147483647 - (i1 + 1)).toNat < (2147483647 - i1).toNat; omega)
      ·
        refine GO.aload_n dX6_extend_35 rfl rfl ?_
        refine GO.getA (n := 8) h_x fl_RX6_33 rfl rfl rfl rfl dX6_extend_36 (fun hv122 h121 => ?_)
        refine GO.iload_n dX6_extend_39 rfl rfl ?_
        refine GO.iload_n dX6_extend_40 rfl rfl ?_
        refine GO.callS (N := mX4_put_t141) dX6_extend_41 gS_RX6_71 (t_X4_put_t141 h121 r_p0 r_i1) rfl [] rfl rfl (Nat.le_of_ble_eq_true rfl) rfl (k_vs fun V125 h124 hF123 => ?_)
        have raw_put := h124.2
        have rw41 := h124.2
        refine GO.aload_n dX6_extend_44 rfl rfl ?_
        refine GO.iload_n dX6_extend_45 rfl rfl ?_
        refine GO.iconst dX6_extend_46 ?_
        refine GO.iadd dX6_extend_47 ?_
        refine GO.iload_n dX6_extend_48 rfl rfl ?_
        refine GO.iconst dX6_extend_49 ?_
        refine GO.iload_n dX6_extend_50 rfl rfl ?_
        refine GO.ishl dX6_extend_51 ?_
        refine GO.ior dX6_extend_52 ?_
        have q126 : -2147483648 ≤ p0 ∧ p0 ≤ 2147483647 := r_p0
        refine GO.callV (ci := 5) (N := mX6_goOn_7) dX6_extend_53 (RX6, TX6, 10) rfl gV_RX6_90 h_x (t_X6_goOn_7 h_x ⟨by omega, by omega⟩ wor_ir (by omega)) rfl [] rfl rfl (Nat.le_of_ble_eq_true rfl) rfl (k_vs fun V129 h128 hF127 => ?_)
        refine GO.iinc (X := i1) (n := 1) (Y := i1 + 1) (ls1 := [some (.ref x), some (ti p0), some (ti p1), some (ti (i1 + 1))]) dX6_extend_56 rfl rfl rfl rfl ?_
        refine GO.goto (tgt := 2) dX6_extend_59 (by decide) ?_
        exact ih107 (i1 + 1) V129 ⟨by omega, by omega, trivial⟩ (by show (2147483647 - (i1 + 1)).toNat < (2147483647 - i1).toNat; omega)

theorem t_X6_extend_8 {K : Kmap} {V : Vmap} {x : Nat} {p0 : Int} {p1 : Int} (h_x : K x = some (0, 5)) (r_p0 : ir p0) (r_p1 : ir p1) (q_0 : ((p0 ≥ 0 ∧ p0 ≤ 7))) : MC mX6_extend_8 K V [.ref x, ti p0, ti p1] (VS K (fun V1 => (True))) := by
  exact t_X6_extend_8_G h_x r_p0 r_p1 (by omega) (by omega)
