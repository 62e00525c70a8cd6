def mX4_put_t143 : MRec := (RX4, cX4_put, 3, (none : Option Jvm.ClassFile.FieldType), yX4_put, 0, 0, 0, 0, 42307582002575910332922579714097346549017899709713998034217522897561970639123926132812109468141778230245837569601494931472384)
def mX6_keep : MRec := (RX6, cX6_keep, 3, (none : Option Jvm.ClassFile.FieldType), yX6_keep, 1, 22, 0, 0, 42307582002575910332922579714097346549017899709713998034217522897561970639123926132812109468141778230245846792973531786248192)
def mX6_goOn_0 : MRec := (RX6, cX6_goOn, 3, (none : Option Jvm.ClassFile.FieldType), yX6_goOn, 2, 44, 0, 0, 42307582002575910332922579714097346549017899709713998034217522897561970639123926132812109468141778230245846792973531786248192)
def mX4_put_t141 : MRec := (RX4, cX4_put, 3, (none : Option Jvm.ClassFile.FieldType), yX4_put, 0, 0, 0, 0, 10576895500643977583230644928524336637254474927428499508554380724390492659780981533203027367035444557561459392400373732868096)
def mX6_extend_1 : MRec := (RX6, cX6_extend, 4, (none : Option Jvm.ClassFile.FieldType), yX6_extend, 3, 66, 0, 0, 58172925253541876707768547106883851504899612100856747297049093984147709628795398432616650518694945066588035881574092385550336)
def mX6_goOn_1 : MRec := (RX6, cX6_goOn, 3, (none : Option Jvm.ClassFile.FieldType), yX6_goOn, 4, 89, 0, 0, 58172925253541876707768547106883851504899612100856747297049093984147709628795398432616650518694945066588035881574092385550336)
def mX6_extend_2 : MRec := (RX6, cX6_extend, 4, (none : Option Jvm.ClassFile.FieldType), yX6_extend, 5, 111, 0, 0, 58172925253541876707768547106883851504899612100856747297049093984147709628795398432616650518694945066588035881574092385550336)
def mX6_goOn_2 : MRec := (RX6, cX6_goOn, 3, (none : Option Jvm.ClassFile.FieldType), yX6_goOn, 6, 134, 0, 0, 58172925253541876707768547106883851504899612100856747297049093984147709628795398432616650518694945066588035881574092385550336)
def mX6_extend_3 : MRec := (RX6, cX6_extend, 4, (none : Option Jvm.ClassFile.FieldType), yX6_extend, 7, 156, 0, 0, 58172925253541876707768547106883851504899612100856747297049093984147709628795398432616650518694945066588035881574092385550336)
def mX6_goOn_3 : MRec := (RX6, cX6_goOn, 3, (none : Option Jvm.ClassFile.FieldType), yX6_goOn, 8, 179, 0, 0, 58172925253541876707768547106883851504899612100856747297049093984147709628795398432616650518694945066588035881574092385550336)
def mX6_extend_4 : MRec := (RX6, cX6_extend, 4, (none : Option Jvm.ClassFile.FieldType), yX6_extend, 9, 201, 0, 0, 58172925253541876707768547106883851504899612100856747297049093984147709628795398432616650518694945066588035881574092385550336)
def mX6_goOn_4 : MRec := (RX6, cX6_goOn, 3, (none : Option Jvm.ClassFile.FieldType), yX6_goOn, 10, 224, 0, 0, 58172925253541876707768547106883851504899612100856747297049093984147709628795398432616650518694945066588035881574092385550336)
def mX6_extend_5 : MRec := (RX6, cX6_extend, 4, (none : Option Jvm.ClassFile.FieldType), yX6_extend, 11, 246, 0, 0, 58172925253541876707768547106883851504899612100856747297049093984147709628795398432616650518694945066588035881574092385550336)
def mX6_goOn_5 : MRec := (RX6, cX6_goOn, 3, (none : Option Jvm.ClassFile.FieldType), yX6_goOn, 12, 269, 0, 0, 58172925253541876707768547106883851504899612100856747297049093984147709628795398432616650518694945066588035881574092385550336)
def mX6_extend_6 : MRec := (RX6, cX6_extend, 4, (none : Option Jvm.ClassFile.FieldType), yX6_extend, 13, 291, 0, 0, 58172925253541876707768547106883851504899612100856747297049093984147709628795398432616650518694945066588035881574092385550336)
set_option maxHeartbeats 1000000 in
theorem t_X4_put_t143 {K : Kmap} {V : Vmap} {p0 n_p0 : Nat} {p1 : Int} {p2 : Int} (h_p0 : K p0 = some (144, n_p0)) (r_p1 : ir p1) (r_p2 : ir p2) : MC mX4_put_t143 K V [.ref p0, ti p1, ti p2] (VS K (fun V1 => (True) ∧ (V1 = rpv V p0 n_p0 p1 p2))) := by
  refine MC.start 0 (by decide +kernel) rfl rfl rfl (ls0 := [some (.ref p0), some (ti p1), some (ti p2)]) rfl ?_
  refine GO.aload_n dX4_put_0 rfl rfl ?_
  refine GO.ifnull dX4_put_1 ?_
  refine GO.iload_n dX4_put_4 rfl rfl ?_
  refine GO.if_lt (tgt := 18) dX4_put_5 (by decide) r_p1 (fun c1 => ?_) (fun c1 => ?_)
  ·
    exact GO.retv rfl rfl dX4_put_18 ⟨rfl, rfl, ⟨trivial, (by first | exact rpv_in (by assumption) (by omega) (by omega) | exact rpv_out (by omega))⟩⟩
  ·
    refine GO.iload_n dX4_put_8 rfl rfl ?_
    refine GO.aload_n dX4_put_9 rfl rfl ?_
    refine GO.alen h_p0 dX4_put_10 (fun h2 => ?_)
    refine GO.icmp_ge (tgt := 18) dX4_put_11 (by decide) r_p1 ⟨by omega, by omega⟩ (fun c3 => ?_) (fun c3 => ?_)
    ·
      exact GO.retv rfl rfl dX4_put_18 ⟨rfl, rfl, ⟨trivial, (by first | exact rpv_in (by assumption) (by omega) (by omega) | exact rpv_out (by omega))⟩⟩
    ·
      refine GO.aload_n dX4_put_14 rfl rfl ?_
      refine GO.iload_n dX4_put_15 rfl rfl ?_
      refine GO.iload_n dX4_put_16 rfl rfl ?_
      have q4 : -2147483648 ≤ p1 ∧ p1 ≤ 2147483647 := r_p1
      refine GO.iast (t := 143) rfl rfl (by decide +kernel) h_p0 r_p1 (by omega) (by omega) r_p2 (r_p2).1 (r_p2).2 dX4_put_17 (fun V6 e5 => ?_)
      exact GO.retv rfl rfl dX4_put_18 ⟨rfl, rfl, ⟨trivial, (by first | exact rpv_in (by assumption) (by omega) (by omega) | exact rpv_out (by omega))⟩⟩

set_option maxHeartbeats 1000000 in
theorem t_X6_keep {K : Kmap} {V : Vmap} {x : Nat} (h_x : K x = some (0, 5)) : MC mX6_keep K V [.ref x] (VS K (fun V1 => (True) ∧ (KEP V V1 x))) := by
  refine MC.start 2 (by decide +kernel) rfl rfl rfl (ls0 := [some (.ref x), none, none]) rfl ?_
  refine GO.useWT (fun hW_0 => ?_)
  refine GO.aload_n dX6_keep_0 rfl rfl ?_
  refine GO.getR h_x fl_RX6_14 rfl rfl dX6_keep_1 (fun hv2 h1 => ?_)
  refine GO.getI h1 fl_RX6_55_k24 rfl rfl dX6_keep_4 (fun l3 u4 => ?_)
  refine GO.iconst dX6_keep_7 ?_
  refine GO.isub dX6_keep_8 ?_
  refine GO.name (fun z5 hz6 => ?_)
  refine GO.istore_n (ls1 := [some (.ref x), some (ti z5), none]) dX6_keep_9 rfl rfl rfl ?_
  refine GO.aload_n dX6_keep_10 rfl rfl ?_
  refine GO.iconst dX6_keep_11 ?_
  refine GO.putI h_x fp_RX6_46 rfl (by decide +kernel) (ir_c rfl) (by decide) (by decide) dX6_keep_12 (fun V8 e7 => ?_)
  refine GO.iconst dX6_keep_15 ?_
  refine GO.istore_n (ls1 := [some (.ref x), some (ti z5), some (ti 0)]) dX6_keep_16 rfl rfl rfl ?_
  refine GO.loop1 (fun i9 W => 0 ≤ i9 ∧ i9 ≤ 3 ∧ (i9 ≥ 0) ∧ (KE1 V W x i9) ∧ True) (fun i9 => [some (.ref x), some (ti z5), some (ti i9)]) (fun i9 W => (2147483647 - i9).toNat) 0 ⟨by omega, by omega, by omega, (by first | exact KE1.beg (upd2_int e7 (ir_c rfl)) | exact KE1.step hk1 hW_0 h_x hda (by omega) rw36 (by first | assumption | exact fun _ => rfl) (by first | assumption | exact fun _ => rfl) (by assumption) (by omega) (upd2_int (by assumption) (by assumption)) (by omega)), trivial⟩ rfl (fun i9 Wi9 hp143 ih142 => ?_)
  obtain ⟨l_i9, u_i9, n_i9, hk1, -⟩ := hp143
  have r_i9 : ir i9 := ⟨by omega, by omega⟩
  show GO mX6_keep K V (VS K (fun V1 => (True) ∧ (KEP V V1 x))) K Wi9 0 0 17 [some (.ref x), some (ti z5), some (ti i9)] []
  refine GO.useFR (fun hFs => ?_)
  have hda : dav Wi9 x = dav V x := dav_fr hFs hW_0 h_x (by decide +kernel) (by decide +kernel)
  refine GO.iload_n dX6_keep_17 rfl rfl ?_
  refine GO.iconst dX6_keep_18 ?_
  refine GO.icmp_ge (tgt := 51) dX6_keep_19 (by decide) r_i9 (ir_c rfl) (fun c144 => ?_) (fun c144 => ?_)
  ·
    refine GO.iconst dX6_keep_51 ?_
    refine GO.istore_n (ls1 := [some (.ref x), some (ti z5), some (ti 0)]) dX6_keep_52 rfl rfl rfl ?_
    refine GO.loop1 (fun i145 W => 0 ≤ i145 ∧ i145 ≤ 8 ∧ (i145 ≥ 0) ∧ (KE2 V W x i145) ∧ True) (fun i145 => [some (.ref x), some (ti z5), some (ti i145)]) (fun i145 W => (2147483647 - i145).toNat) 0 ⟨by omega, by omega, by omega, (by first | exact KE2.beg hk1 (by omega) | exact KE2.step hk2 hW_0 hWk h_x hor (by omega) rw74 (by assumption) rw77 (by omega)), trivial⟩ rfl (fun i145 Wi145 hp222 ih221 => ?_)
    obtain ⟨l_i145, u_i145, n_i145, hk2, -⟩ := hp222
    have r_i145 : ir i145 := ⟨by omega, by omega⟩
    show GO mX6_keep K V (VS K (fun V1 => (True) ∧ (KEP V V1 x))) K Wi145 0 0 53 [some (.ref x), some (ti z5), some (ti i145)] []
    refine GO.useFR (fun hFs => ?_)
    have hor : orv Wi145 x = orv V x := orv_fr hFs hW_0 h_x (by decide +kernel) (by decide +kernel)
    have hsz : vi Wi145 (vq Wi145 x 0) 3 = vi V (vq V x 0) 3 := psz_fr hFs hW_0 h_x (by decide +kernel)
    refine GO.useWT (fun hWk => ?_)
    refine GO.iload_n dX6_keep_53 rfl rfl ?_
    refine GO.aload_n dX6_keep_54 rfl rfl ?_
    refine GO.getR h_x fl_RX6_14 rfl rfl dX6_keep_55 (fun hv224 h223 => ?_)
    refine GO.getI h223 fl_RX6_55_k24 rfl rfl dX6_keep_58 (fun l225 u226 => ?_)
    refine GO.icmp_ge (tgt := 86) dX6_keep_61 (by decide) r_i145 vi_ir (fun c227 => ?_) (fun c227 => ?_)
    ·
      exact GO.retv rfl rfl dX6_keep_86 ⟨rfl, rfl, ⟨trivial, KEP.mk hk2 (by omega)⟩⟩
    ·
      refine GO.aload_n dX6_keep_64 rfl rfl ?_
      refine GO.getA (n := 8) h_x fl_RX6_39 rfl rfl rfl rfl dX6_keep_65 (fun hv229 h228 => ?_)
      refine GO.iload_n dX6_keep_68 rfl rfl ?_
      refine GO.aload_n dX6_keep_69 rfl rfl ?_
      refine GO.getA (n := 8) h_x fl_RX6_33 rfl rfl rfl rfl dX6_keep_70 (fun hv231 h230 => ?_)
      refine GO.iload_n dX6_keep_73 rfl rfl ?_
      refine GO.callS (N := mX4_get) dX6_keep_74 gS_RX6_75 (t_X4_get rfl h230 r_i145) rfl [ti i145, .ref (vq Wi145 x 7)] rfl rfl (Nat.le_of_ble_eq_true rfl) rfl (k_ip fun X232 r233 h234 => ?_)
      have raw_get := h234.2
      have rw74 := h234.2
      refine GO.callS (N := mX4_put_t143) dX6_keep_77 gS_RX6_71 (t_X4_put_t143 h228 r_i145 r233) rfl [] rfl rfl (Nat.le_of_ble_eq_true rfl) rfl (k_vs fun V237 h236 hF235 => ?_)
      have raw_put := h236.2
      have rw77 := h236.2
      refine GO.iinc (X := i145) (n := 1) (Y := i145 + 1) (ls1 := [some (.ref x), some (ti z5), some (ti (i145 + 1))]) dX6_keep_80 rfl rfl rfl rfl ?_
      refine GO.goto (tgt := 53) dX6_keep_83 (by decide) ?_
      exact ih221 (i145 + 1) V237 ⟨by omega, by omega, by omega, (by first | exact KE2.beg hk1 (by omega) | exact KE2.step hk2 hW_0 hWk h_x hor (by omega) rw74 (by assumption) rw77 (by omega)), trivial⟩ (by show (2147483647 - (i145 + 1)).toNat < (2147483647 - i145).toNat; omega)
  ·
    refine GO.aload_n dX6_keep_22 rfl rfl ?_
    refine GO.aload_n dX6_keep_23 rfl rfl ?_
    refine GO.getI h_x fl_RX6_46 rfl rfl dX6_keep_24 (fun _ _ => ?_)
    refine GO.aload_n dX6_keep_27 rfl rfl ?_
    refine GO.getA (n := 24) h_x fl_RX6_30 rfl rfl rfl rfl dX6_keep_28 (fun hv239 h238 => ?_)
    refine GO.iload_n dX6_keep_31 rfl rfl ?_
    refine GO.iconst dX6_keep_32 ?_
    refine GO.imul dX6_keep_33 ?_
    refine GO.iload_n dX6_keep_34 rfl rfl ?_
    refine GO.iadd dX6_keep_35 ?_
    refine GO.callS (N := mX4_get) dX6_keep_36 gS_RX6_75 (t_X4_get rfl h238 ⟨by omega, by omega⟩) rfl [ti (vi Wi9 x 9), .ref x] rfl rfl (Nat.le_of_ble_eq_true rfl) rfl (k_ip fun X240 r241 h242 => ?_)
    have raw_get := h242.2
    have rw36 := h242.2
    refine GO.callS (N := mJ9_max_7cf53) dX6_keep_39 gS_RX6_83 (t_J9_max_7cf53 vi_ir r241) rfl [.ref x] rfl rfl (Nat.le_of_ble_eq_true rfl) rfl (k_ip fun X243 r244 h245 => ?_)
    have q246 : -2147483648 ≤ X243 ∧ X243 ≤ 2147483647 := r244
    have q247 : -2147483648 ≤ vi Wi9 x 9 ∧ vi Wi9 x 9 ≤ 2147483647 := vi_ir
    refine GO.putI h_x fp_RX6_46 rfl (by decide +kernel) r244 (r244).1 (r244).2 dX6_keep_42 (fun V249 e248 => ?_)
    refine GO.iinc (X := i9) (n := 1) (Y := i9 + 1) (ls1 := [some (.ref x), some (ti z5), some (ti (i9 + 1))]) dX6_keep_45 rfl rfl rfl rfl ?_
    refine GO.goto (tgt := 17) dX6_keep_48 (by decide) ?_
    exact ih142 (i9 + 1) V249 ⟨by omega, by omega, by omega, (by first | exact KE1.beg (upd2_int e7 (ir_c rfl)) | exact KE1.step hk1 hW_0 h_x hda (by omega) rw36 (by first | assumption | exact fun _ => rfl) (by first | assumption | exact fun _ => rfl) (by assumption) (by omega) (upd2_int e248 (by assumption)) (by omega)), trivial⟩ (by show (2147483647 - (i9 + 1)).toNat < (2147483647 - i9).toNat; omega)

set_option maxHeartbeats 1000000 in
theorem t_X6_goOn_0_G {K : Kmap} {V : Vmap} {x : Nat} {p0 : Int} {p1 : Int} (h_x : K x = some (0, 5)) (r_p0 : ir p0) (r_p1 : ir p1) (q_0 : p0 ≥ 8) (q_1 : p0 ≤ 8) : MC mX6_goOn_0 K V [.ref x, ti p0, ti p1] (VS K (fun V1 => (True) ∧ (GOP V V1 x p0 p1))) := by
  refine MC.start 0 (by decide +kernel) rfl rfl rfl (ls0 := [some (.ref x), some (ti p0), some (ti p1)]) rfl ?_
  refine GO.useWT (fun hW_0 => ?_)
  refine GO.iload_n dX6_goOn_0 rfl rfl ?_
  refine GO.aload_n dX6_goOn_1 rfl rfl ?_
  refine GO.getR h_x fl_RX6_14 rfl rfl dX6_goOn_2 (fun hv2 h1 => ?_)
  refine GO.getI h1 fl_RX6_55_k24 rfl rfl dX6_goOn_5 (fun l3 u4 => ?_)
  have q6 : -2147483648 ≤ p0 ∧ p0 ≤ 2147483647 := r_p0
  refine GO.icmp_ge (tgt := 20) dX6_goOn_8 (by decide) r_p0 vi_ir (fun c5 => ?_) (fun h => by exfalso; omega)
  refine GO.aload_n dX6_goOn_20 rfl rfl ?_
  refine GO.callV (ci := 5) (N := mX6_keep) dX6_goOn_21 (RX6, TX6, 10) rfl gV_RX6_93 h_x (t_X6_keep h_x) rfl [] rfl rfl (Nat.le_of_ble_eq_true rfl) rfl (k_vs fun V9 h8 hF7 => ?_)
  have raw_keep := h8.2
  have rw21 := h8.2
  exact GO.retv rfl rfl dX6_goOn_24 ⟨rfl, rfl, ⟨trivial, (by first | exact GOP.ext rw14 hW_0 h_x (by omega) | exact GOP.keep rw21 hW_0 h_x (orv_fr hF7 hW_0 h_x (by decide +kernel) (by decide +kernel)) (dav_fr hF7 hW_0 h_x (by decide +kernel) (by decide +kernel)) (by omega))⟩⟩

theorem t_X6_goOn_0 {K : Kmap} {V : Vmap} {x : Nat} {p0 : Int} {p1 : Int} (h_x : K x = some (0, 5)) (r_p0 : ir p0) (r_p1 : ir p1) (q_0 : ((p0 ≥ 8 ∧ p0 ≤ 8))) : MC mX6_goOn_0 K V [.ref x, ti p0, ti p1] (VS K (fun V1 => (True) ∧ (GOP V V1 x p0 p1))) := by
  exact t_X6_goOn_0_G h_x r_p0 r_p1 (by omega) (by omega)

set_option maxHeartbeats 1000000 in
theorem t_X4_put_t141 {K : Kmap} {V : Vmap} {p0 n_p0 : Nat} {p1 : Int} {p2 : Int} (h_p0 : K p0 = some (142, n_p0)) (r_p1 : ir p1) (r_p2 : ir p2) : MC mX4_put_t141 K V [.ref p0, ti p1, ti p2] (VS K (fun V1 => (True) ∧ (V1 = rpv V p0 n_p0 p1 p2))) := by
  refine MC.start 0 (by decide +kernel) rfl rfl rfl (ls0 := [some (.ref p0), some (ti p1), some (ti p2)]) rfl ?_
  refine GO.aload_n dX4_put_0 rfl rfl ?_
  refine GO.ifnull dX4_put_1 ?_
  refine GO.iload_n dX4_put_4 rfl rfl ?_
  refine GO.if_lt (tgt := 18) dX4_put_5 (by decide) r_p1 (fun c1 => ?_) (fun c1 => ?_)
  ·
    exact GO.retv rfl rfl dX4_put_18 ⟨rfl, rfl, ⟨trivial, (by first | exact rpv_in (by assumption) (by omega) (by omega) | exact rpv_out (by omega))⟩⟩
  ·
    refine GO.iload_n dX4_put_8 rfl rfl ?_
    refine GO.aload_n dX4_put_9 rfl rfl ?_
    refine GO.alen h_p0 dX4_put_10 (fun h2 => ?_)
    refine GO.icmp_ge (tgt := 18) dX4_put_11 (by decide) r_p1 ⟨by omega, by omega⟩ (fun c3 => ?_) (fun c3 => ?_)
    ·
      exact GO.retv rfl rfl dX4_put_18 ⟨rfl, rfl, ⟨trivial, (by first | exact rpv_in (by assumption) (by omega) (by omega) | exact rpv_out (by omega))⟩⟩
    ·
      refine GO.aload_n dX4_put_14 rfl rfl ?_
      refine GO.iload_n dX4_put_15 rfl rfl ?_
      refine GO.iload_n dX4_put_16 rfl rfl ?_
      have q4 : -2147483648 ≤ p1 ∧ p1 ≤ 2147483647 := r_p1
      refine GO.iast (t := 141) rfl rfl (by decide +kernel) h_p0 r_p1 (by omega) (by omega) r_p2 (r_p2).1 (r_p2).2 dX4_put_17 (fun V6 e5 => ?_)
      exact GO.retv rfl rfl dX4_put_18 ⟨rfl, rfl, ⟨trivial, (by first | exact rpv_in (by assumption) (by omega) (by omega) | exact rpv_out (by omega))⟩⟩

set_option maxHeartbeats 1000000 in
theorem t_X6_extend_1_G {K : Kmap} {V : Vmap} {x : Nat} {p0 : Int} {p1 : Int} (h_x : K x = some (0, 5)) (r_p0 : ir p0) (r_p1 : ir p1) (q_0 : p0 ≥ 7) (q_1 : p0 ≤ 7) : MC mX6_extend_1 K V [.ref x, ti p0, ti p1] (VS K (fun V1 => (True) ∧ (XTP V V1 x p0 p1))) := by
  refine MC.start 1 (by decide +kernel) rfl rfl rfl (ls0 := [some (.ref x), some (ti p0), some (ti p1), none]) rfl ?_
  refine GO.useWT (fun hW_0 => ?_)
  refine GO.iconst dX6_extend_0 ?_
  refine GO.istore_n (ls1 := [some (.ref x), some (ti p0), some (ti p1), some (ti 0)]) dX6_extend_1 rfl rfl rfl ?_
  refine GO.loop1 (fun i1 W => 0 ≤ i1 ∧ i1 ≤ 8 ∧ (i1 ≥ 0) ∧ (XTI V W x p0 p1 i1) ∧ True) (fun i1 => [some (.ref x), some (ti p0), some (ti p1), some (ti i1)]) (fun i1 W => (2147483647 - i1).toNat) 0 ⟨by omega, by omega, by omega, (by first | exact XTI.beg | exact XTI.skip hxt hW_0 h_x (by assumption) (by omega) (by omega) | exact XTI.no hxt hW_0 h_x hpe hah (vi_fr (by assumption) h_x h_x (by decide +kernel)) (bev_fr (by assumption) hWx h_x (by decide +kernel) (by decide +kernel)) (orv_fr (by assumption) hWx h_x (by decide +kernel) (by decide +kernel)) (by omega) rw29 (by omega) rfl (by assumption) (by omega) | exact XTI.go hxt hW_0 hWy h_x hpe hah hpe2 hah2 (vi_fr (by assumption) h_x h_x (by decide +kernel)) (bev_fr (by assumption) hWx h_x (by decide +kernel) (by decide +kernel)) (orv_fr (by assumption) hWx h_x (by decide +kernel) (by decide +kernel)) (by omega) rw29 (by omega) rfl (by assumption) (by assumption) rw41 rw53 rfl rfl (by omega)), trivial⟩ rfl (fun i1 Wi1 hp108 ih107 => ?_)
  obtain ⟨l_i1, u_i1, n_i1, hxt, -⟩ := hp108
  have r_i1 : ir i1 := ⟨by omega, by omega⟩
  show GO mX6_extend_1 K V (VS K (fun V1 => (True) ∧ (XTP V V1 x p0 p1))) K Wi1 0 0 2 [some (.ref x), some (ti p0), some (ti p1), some (ti i1)] []
  refine GO.useFR (fun hFs => ?_)
  have hpe : PEC Wi1 x = PEC V x := PEC.fr hFs hW_0 h_x (vi_fr hFs h_x h_x (by decide +kernel)) (by decide +kernel)
  have hsz : vi Wi1 (vq Wi1 x 0) 3 = vi V (vq V x 0) 3 := psz_fr hFs hW_0 h_x (by decide +kernel)
  have hah : ahv Wi1 x = ahv V x := ahv_fr hFs hW_0 h_x (by decide +kernel) (by decide +kernel)
  refine GO.useWT (fun hWx => ?_)
  refine GO.iload_n dX6_extend_2 rfl rfl ?_
  refine GO.aload_n dX6_extend_3 rfl rfl ?_
  refine GO.getR h_x fl_RX6_14 rfl rfl dX6_extend_4 (fun hv110 h109 => ?_)
  refine GO.getI h109 fl_RX6_55_k24 rfl rfl dX6_extend_7 (fun l111 u112 => ?_)
  refine GO.icmp_ge (tgt := 62) dX6_extend_10 (by decide) r_i1 vi_ir (fun c113 => ?_) (fun c113 => ?_)
  ·
    exact GO.retv rfl rfl dX6_extend_62 ⟨rfl, rfl, ⟨trivial, XTP.mk hxt hW_0 h_x (by omega)⟩⟩
  ·
    refine GO.iload_n dX6_extend_13 rfl rfl ?_
    refine GO.iload_n dX6_extend_14 rfl rfl ?_
    refine GO.ishr dX6_extend_15 ?_
    refine GO.iconst dX6_extend_16 ?_
    refine GO.iand dX6_extend_17 ?_
    refine GO.if_ne (tgt := 56) dX6_extend_18 (by decide) wand_ir (fun c114 => ?_) (fun c114 => ?_)
    ·
      refine GO.iinc (X := i1) (n := 1) (Y := i1 + 1) (ls1 := [some (.ref x), some (ti p0), some (ti p1), some (ti (i1 + 1))]) dX6_extend_56 rfl rfl rfl rfl ?_
      refine GO.goto (tgt := 2) dX6_extend_59 (by decide) ?_
      exact ih107 (i1 + 1) Wi1 ⟨by omega, by omega, by omega, (by first | exact XTI.beg | exact XTI.skip hxt hW_0 h_x (by assumption) (by omega) (by omega) | exact XTI.no hxt hW_0 h_x hpe hah (vi_fr (by assumption) h_x h_x (by decide +kernel)) (bev_fr (by assumption) hWx h_x (by decide +kernel) (by decide +kernel)) (orv_fr (by assumption) hWx h_x (by decide +kernel) (by decide +kernel)) (by omega) rw29 (by omega) rfl (by assumption) (by omega) | exact XTI.go hxt hW_0 hWy h_x hpe hah hpe2 hah2 (vi_fr (by assumption) h_x h_x (by decide +kernel)) (bev_fr (by assumption) hWx h_x (by decide +kernel) (by decide +kernel)) (orv_fr (by assumption) hWx h_x (by decide +kernel) (by decide +kernel)) (by omega) rw29 (by omega) rfl (by assumption) (by assumption) rw41 rw53 rfl rfl (by omega)), trivial⟩ (by show (2147483647 - (i1 + 1)).toNat < (2147483647 - i1).toNat; omega)
    ·
      refine GO.aload_n dX6_extend_21 rfl rfl ?_
      refine GO.iload_n dX6_extend_22 rfl rfl ?_
      refine GO.iload_n dX6_extend_23 rfl rfl ?_
      refine GO.iload_n dX6_extend_24 rfl rfl ?_
      refine GO.iconst dX6_extend_25 ?_
      refine GO.iload_n dX6_extend_26 rfl rfl ?_
      refine GO.ishl dX6_extend_27 ?_
      refine GO.ior dX6_extend_28 ?_
      refine GO.callV (ci := 5) (N := mX6_comes) dX6_extend_29 (RX6, TX6, 10) rfl gV_RX6_86 h_x (t_X6_comes h_x r_p0 r_i1 wor_ir) rfl [] rfl rfl (Nat.le_of_ble_eq_true rfl) rfl (k_is fun X115 V119 r116 h117 hF118 => ?_)
      have raw_comes := h117.2.2.2
      have rw29 := h117.2.2.2
      refine GO.if_eq (tgt := 56) dX6_extend_32 (by decide) r116 (fun c120 => ?_) (fun c120 => ?_)
      ·
        refine GO.iinc (X := i1) (n := 1) (Y := i1 + 1) (ls1 := [some (.ref x), some (ti p0), some (ti p1), some (ti (i1 + 1))]) dX6_extend_56 rfl rfl rfl rfl ?_
        refine GO.goto (tgt := 2) dX6_extend_59 (by decide) ?_
        exact ih107 (i1 + 1) V119 ⟨by omega, by omega, by omega, (by first | exact XTI.beg | exact XTI.skip hxt hW_0 h_x (by assumption) (by omega) (by omega) | exact XTI.no hxt hW_0 h_x hpe hah (vi_fr hF118 h_x h_x (by decide +kernel)) (bev_fr hF118 hWx h_x (by decide +kernel) (by decide +kernel)) (orv_fr hF118 hWx h_x (by decide +kernel) (by decide +kernel)) (by omega) rw29 (by omega) rfl (by assumption) (by omega) | exact XTI.go hxt hW_0 hWy h_x hpe hah hpe2 hah2 (vi_fr hF118 h_x h_x (by decide +kernel)) (bev_fr hF118 hWx h_x (by decide +kernel) (by decide +kernel)) (orv_fr hF118 hWx h_x (by decide +kernel) (by decide +kernel)) (by omega) rw29 (by omega) rfl (by assumption) (by assumption) rw41 rw53 rfl rfl (by omega)), trivial⟩ (by show (2147483647 - (i1 + 1)).toNat < (2147483647 - i1).toNat; omega)
      ·
        refine GO.useWT (fun hWy => ?_)
        refine GO.aload_n dX6_extend_35 rfl rfl ?_
        refine GO.getA (n := 8) h_x fl_RX6_33 rfl rfl rfl rfl dX6_extend_36 (fun hv122 h121 => ?_)
        refine GO.iload_n dX6_extend_39 rfl rfl ?_
        refine GO.iload_n dX6_extend_40 rfl rfl ?_
        refine GO.callS (N := mX4_put_t141) dX6_extend_41 gS_RX6_71 (t_X4_put_t141 h121 r_p0 r_i1) rfl [] rfl rfl (Nat.le_of_ble_eq_true rfl) rfl (k_vs fun V125 h124 hF123 => ?_)
        have raw_put := h124.2
        have rw41 := h124.2
        refine GO.useFR (fun hFs => ?_)
        have hpe2 : PEC V125 x = PEC V x := PEC.fr hFs hW_0 h_x (vi_fr hFs h_x h_x (by decide +kernel)) (by decide +kernel)
        have hsz2 : vi V125 (vq V125 x 0) 3 = vi V (vq V x 0) 3 := psz_fr hFs hW_0 h_x (by decide +kernel)
        have hah2 : ahv V125 x = ahv V x := ahv_fr hFs hW_0 h_x (by decide +kernel) (by decide +kernel)
        refine GO.aload_n dX6_extend_44 rfl rfl ?_
        refine GO.iload_n dX6_extend_45 rfl rfl ?_
        refine GO.iconst dX6_extend_46 ?_
        refine GO.iadd dX6_extend_47 ?_
        refine GO.iload_n dX6_extend_48 rfl rfl ?_
        refine GO.iconst dX6_extend_49 ?_
        refine GO.iload_n dX6_extend_50 rfl rfl ?_
        refine GO.ishl dX6_extend_51 ?_
        refine GO.ior dX6_extend_52 ?_
        have q126 : -2147483648 ≤ p0 ∧ p0 ≤ 2147483647 := r_p0
        refine GO.callV (ci := 5) (N := mX6_goOn_0) dX6_extend_53 (RX6, TX6, 10) rfl gV_RX6_90 h_x (t_X6_goOn_0 h_x ⟨by omega, by omega⟩ wor_ir (by omega)) rfl [] rfl rfl (Nat.le_of_ble_eq_true rfl) rfl (k_vs fun V129 h128 hF127 => ?_)
        have raw_goOn := h128.2
        have rw53 := h128.2
        refine GO.iinc (X := i1) (n := 1) (Y := i1 + 1) (ls1 := [some (.ref x), some (ti p0), some (ti p1), some (ti (i1 + 1))]) dX6_extend_56 rfl rfl rfl rfl ?_
        refine GO.goto (tgt := 2) dX6_extend_59 (by decide) ?_
        exact ih107 (i1 + 1) V129 ⟨by omega, by omega, by omega, (by first | exact XTI.beg | exact XTI.skip hxt hW_0 h_x (by assumption) (by omega) (by omega) | exact XTI.no hxt hW_0 h_x hpe hah (vi_fr hF118 h_x h_x (by decide +kernel)) (bev_fr hF118 hWx h_x (by decide +kernel) (by decide +kernel)) (orv_fr hF118 hWx h_x (by decide +kernel) (by decide +kernel)) (by omega) rw29 (by omega) rfl (by assumption) (by omega) | exact XTI.go hxt hW_0 hWy h_x hpe hah hpe2 hah2 (vi_fr hF118 h_x h_x (by decide +kernel)) (bev_fr hF118 hWx h_x (by decide +kernel) (by decide +kernel)) (orv_fr hF118 hWx h_x (by decide +kernel) (by decide +kernel)) (by omega) rw29 (by omega) rfl (by assumption) (by assumption) rw41 rw53 rfl rfl (by omega)), trivial⟩ (by show (2147483647 - (i1 + 1)).toNat < (2147483647 - i1).toNat; omega)

theorem t_X6_extend_1 {K : Kmap} {V : Vmap} {x : Nat} {p0 : Int} {p1 : Int} (h_x : K x = some (0, 5)) (r_p0 : ir p0) (r_p1 : ir p1) (q_0 : ((p0 ≥ 7 ∧ p0 ≤ 7))) : MC mX6_extend_1 K V [.ref x, ti p0, ti p1] (VS K (fun V1 => (True) ∧ (XTP V V1 x p0 p1))) := by
  exact t_X6_extend_1_G h_x r_p0 r_p1 (by omega) (by omega)

set_option maxHeartbeats 1000000 in
theorem t_X6_goOn_1_G {K : Kmap} {V : Vmap} {x : Nat} {p0 : Int} {p1 : Int} (h_x : K x = some (0, 5)) (r_p0 : ir p0) (r_p1 : ir p1) (q_0 : p0 ≥ 7) (q_1 : p0 ≤ 8) : MC mX6_goOn_1 K V [.ref x, ti p0, ti p1] (VS K (fun V1 => (True) ∧ (GOP V V1 x p0 p1))) := by
  refine MC.start 0 (by decide +kernel) rfl rfl rfl (ls0 := [some (.ref x), some (ti p0), some (ti p1)]) rfl ?_
  refine GO.useWT (fun hW_0 => ?_)
  refine GO.iload_n dX6_goOn_0 rfl rfl ?_
  refine GO.aload_n dX6_goOn_1 rfl rfl ?_
  refine GO.getR h_x fl_RX6_14 rfl rfl dX6_goOn_2 (fun hv2 h1 => ?_)
  refine GO.getI h1 fl_RX6_55_k24 rfl rfl dX6_goOn_5 (fun l3 u4 => ?_)
  refine GO.icmp_ge (tgt := 20) dX6_goOn_8 (by decide) r_p0 vi_ir (fun c5 => ?_) (fun c5 => ?_)
  ·
    refine GO.aload_n dX6_goOn_20 rfl rfl ?_
    refine GO.callV (ci := 5) (N := mX6_keep) dX6_goOn_21 (RX6, TX6, 10) rfl gV_RX6_93 h_x (t_X6_keep h_x) rfl [] rfl rfl (Nat.le_of_ble_eq_true rfl) rfl (k_vs fun V8 h7 hF6 => ?_)
    have raw_keep := h7.2
    have rw21 := h7.2
    exact GO.retv rfl rfl dX6_goOn_24 ⟨rfl, rfl, ⟨trivial, (by first | exact GOP.ext rw14 hW_0 h_x (by omega) | exact GOP.keep rw21 hW_0 h_x (orv_fr hF6 hW_0 h_x (by decide +kernel) (by decide +kernel)) (dav_fr hF6 hW_0 h_x (by decide +kernel) (by decide +kernel)) (by omega))⟩⟩
  ·
    refine GO.aload_n dX6_goOn_11 rfl rfl ?_
    refine GO.iload_n dX6_goOn_12 rfl rfl ?_
    refine GO.iload_n dX6_goOn_13 rfl rfl ?_
    have q9 : -2147483648 ≤ p0 ∧ p0 ≤ 2147483647 := r_p0
    refine GO.callV (ci := 5) (N := mX6_extend_1) dX6_goOn_14 (RX6, TX6, 10) rfl gV_RX6_65 h_x (t_X6_extend_1 h_x r_p0 r_p1 (by omega)) rfl [] rfl rfl (Nat.le_of_ble_eq_true rfl) rfl (k_vs fun V12 h11 hF10 => ?_)
    have raw_extend := h11.2
    have rw14 := h11.2
    refine GO.goto (tgt := 24) dX6_goOn_17 (by decide) ?_
    exact GO.retv rfl rfl dX6_goOn_24 ⟨rfl, rfl, ⟨trivial, (by first | exact GOP.ext rw14 hW_0 h_x (by omega) | exact GOP.keep rw21 hW_0 h_x (orv_fr (by assumption) hW_0 h_x (by decide +kernel) (by decide +kernel)) (dav_fr (by assumption) hW_0 h_x (by decide +kernel) (by decide +kernel)) (by omega))⟩⟩

theorem t_X6_goOn_1 {K : Kmap} {V : Vmap} {x : Nat} {p0 : Int} {p1 : Int} (h_x : K x = some (0, 5)) (r_p0 : ir p0) (r_p1 : ir p1) (q_0 : ((p0 ≥ 7 ∧ p0 ≤ 8))) : MC mX6_goOn_1 K V [.ref x, ti p0, ti p1] (VS K (fun V1 => (True) ∧ (GOP V V1 x p0 p1))) := by
  exact t_X6_goOn_1_G h_x r_p0 r_p1 (by omega) (by omega)

set_option maxHeartbeats 1000000 in
theorem t_X6_extend_2_G {K : Kmap} {V : Vmap} {x : Nat} {p0 : Int} {p1 : Int} (h_x : K x = some (0, 5)) (r_p0 : ir p0) (r_p1 : ir p1) (q_0 : p0 ≥ 6) (q_1 : p0 ≤ 7) : MC mX6_extend_2 K V [.ref x, ti p0, ti p1] (VS K (fun V1 => (True) ∧ (XTP V V1 x p0 p1))) := by
  refine MC.start 1 (by decide +kernel) rfl rfl rfl (ls0 := [some (.ref x), some (ti p0), some (ti p1), none]) rfl ?_
  refine GO.useWT (fun hW_0 => ?_)
  refine GO.iconst dX6_extend_0 ?_
  refine GO.istore_n (ls1 := [some (.ref x), some (ti p0), some (ti p1), some (ti 0)]) dX6_extend_1 rfl rfl rfl ?_
  refine GO.loop1 (fun i1 W => 0 ≤ i1 ∧ i1 ≤ 8 ∧ (i1 ≥ 0) ∧ (XTI V W x p0 p1 i1) ∧ True) (fun i1 => [some (.ref x), some (ti p0), some (ti p1), some (ti i1)]) (fun i1 W => (2147483647 - i1).toNat) 0 ⟨by omega, by omega, by omega, (by first | exact XTI.beg | exact XTI.skip hxt hW_0 h_x (by assumption) (by omega) (by omega) | exact XTI.no hxt hW_0 h_x hpe hah (vi_fr (by assumption) h_x h_x (by decide +kernel)) (bev_fr (by assumption) hWx h_x (by decide +kernel) (by decide +kernel)) (orv_fr (by assumption) hWx h_x (by decide +kernel) (by decide +kernel)) (by omega) rw29 (by omega) rfl (by assumption) (by omega) | exact XTI.go hxt hW_0 hWy h_x hpe hah hpe2 hah2 (vi_fr (by assumption) h_x h_x (by decide +kernel)) (bev_fr (by assumption) hWx h_x (by decide +kernel) (by decide +kernel)) (orv_fr (by assumption) hWx h_x (by decide +kernel) (by decide +kernel)) (by omega) rw29 (by omega) rfl (by assumption) (by assumption) rw41 rw53 rfl rfl (by omega)), trivial⟩ rfl (fun i1 Wi1 hp108 ih107 => ?_)
  obtain ⟨l_i1, u_i1, n_i1, hxt, -⟩ := hp108
  have r_i1 : ir i1 := ⟨by omega, by omega⟩
  show GO mX6_extend_2 K V (VS K (fun V1 => (True) ∧ (XTP V V1 x p0 p1))) K Wi1 0 0 2 [some (.ref x), some (ti p0), some (ti p1), some (ti i1)] []
  refine GO.useFR (fun hFs => ?_)
  have hpe : PEC Wi1 x = PEC V x := PEC.fr hFs hW_0 h_x (vi_fr hFs h_x h_x (by decide +kernel)) (by decide +kernel)
  have hsz : vi Wi1 (vq Wi1 x 0) 3 = vi V (vq V x 0) 3 := psz_fr hFs hW_0 h_x (by decide +kernel)
  have hah : ahv Wi1 x = ahv V x := ahv_fr hFs hW_0 h_x (by decide +kernel) (by decide +kernel)
  refine GO.useWT (fun hWx => ?_)
  refine GO.iload_n dX6_extend_2 rfl rfl ?_
  refine GO.aload_n dX6_extend_3 rfl rfl ?_
  refine GO.getR h_x fl_RX6_14 rfl rfl dX6_extend_4 (fun hv110 h109 => ?_)
  refine GO.getI h109 fl_RX6_55_k24 rfl rfl dX6_extend_7 (fun l111 u112 => ?_)
  refine GO.icmp_ge (tgt := 62) dX6_extend_10 (by decide) r_i1 vi_ir (fun c113 => ?_) (fun c113 => ?_)
  ·
    exact GO.retv rfl rfl dX6_extend_62 ⟨rfl, rfl, ⟨trivial, XTP.mk hxt hW_0 h_x (by omega)⟩⟩
  ·
    refine GO.iload_n dX6_extend_13 rfl rfl ?_
    refine GO.iload_n dX6_extend_14 rfl rfl ?_
    refine GO.ishr dX6_extend_15 ?_
    refine GO.iconst dX6_extend_16 ?_
    refine GO.iand dX6_extend_17 ?_
    refine GO.if_ne (tgt := 56) dX6_extend_18 (by decide) wand_ir (fun c114 => ?_) (fun c114 => ?_)
    ·
      refine GO.iinc (X := i1) (n := 1) (Y := i1 + 1) (ls1 := [some (.ref x), some (ti p0), some (ti p1), some (ti (i1 + 1))]) dX6_extend_56 rfl rfl rfl rfl ?_
      refine GO.goto (tgt := 2) dX6_extend_59 (by decide) ?_
      exact ih107 (i1 + 1) Wi1 ⟨by omega, by omega, by omega, (by first | exact XTI.beg | exact XTI.skip hxt hW_0 h_x (by assumption) (by omega) (by omega) | exact XTI.no hxt hW_0 h_x hpe hah (vi_fr (by assumption) h_x h_x (by decide +kernel)) (bev_fr (by assumption) hWx h_x (by decide +kernel) (by decide +kernel)) (orv_fr (by assumption) hWx h_x (by decide +kernel) (by decide +kernel)) (by omega) rw29 (by omega) rfl (by assumption) (by omega) | exact XTI.go hxt hW_0 hWy h_x hpe hah hpe2 hah2 (vi_fr (by assumption) h_x h_x (by decide +kernel)) (bev_fr (by assumption) hWx h_x (by decide +kernel) (by decide +kernel)) (orv_fr (by assumption) hWx h_x (by decide +kernel) (by decide +kernel)) (by omega) rw29 (by omega) rfl (by assumption) (by assumption) rw41 rw53 rfl rfl (by omega)), trivial⟩ (by show (2147483647 - (i1 + 1)).toNat < (2147483647 - i1).toNat; omega)
    ·
      refine GO.aload_n dX6_extend_21 rfl rfl ?_
      refine GO.iload_n dX6_extend_22 rfl rfl ?_
      refine GO.iload_n dX6_extend_23 rfl rfl ?_
      refine GO.iload_n dX6_extend_24 rfl rfl ?_
      refine GO.iconst dX6_extend_25 ?_
      refine GO.iload_n dX6_extend_26 rfl rfl ?_
      refine GO.ishl dX6_extend_27 ?_
      refine GO.ior dX6_extend_28 ?_
      refine GO.callV (ci := 5) (N := mX6_comes) dX6_extend_29 (RX6, TX6, 10) rfl gV_RX6_86 h_x (t_X6_comes h_x r_p0 r_i1 wor_ir) rfl [] rfl rfl (Nat.le_of_ble_eq_true rfl) rfl (k_is fun X115 V119 r116 h117 hF118 => ?_)
      have raw_comes := h117.2.2.2
      have rw29 := h117.2.2.2
      refine GO.if_eq (tgt := 56) dX6_extend_32 (by decide) r116 (fun c120 => ?_) (fun c120 => ?_)
      ·
        refine GO.iinc (X := i1) (n := 1) (Y := i1 + 1) (ls1 := [some (.ref x), some (ti p0), some (ti p1), some (ti (i1 + 1))]) dX6_extend_56 rfl rfl rfl rfl ?_
        refine GO.goto (tgt := 2) dX6_extend_59 (by decide) ?_
        exact ih107 (i1 + 1) V119 ⟨by omega, by omega, by omega, (by first | exact XTI.beg | exact XTI.skip hxt hW_0 h_x (by assumption) (by omega) (by omega) | exact XTI.no hxt hW_0 h_x hpe hah (vi_fr hF118 h_x h_x (by decide +kernel)) (bev_fr hF118 hWx h_x (by decide +kernel) (by decide +kernel)) (orv_fr hF118 hWx h_x (by decide +kernel) (by decide +kernel)) (by omega) rw29 (by omega) rfl (by assumption) (by omega) | exact XTI.go hxt hW_0 hWy h_x hpe hah hpe2 hah2 (vi_fr hF118 h_x h_x (by decide +kernel)) (bev_fr hF118 hWx h_x (by decide +kernel) (by decide +kernel)) (orv_fr hF118 hWx h_x (by decide +kernel) (by decide +kernel)) (by omega) rw29 (by omega) rfl (by assumption) (by assumption) rw41 rw53 rfl rfl (by omega)), trivial⟩ (by show (2147483647 - (i1 + 1)).toNat < (2147483647 - i1).toNat; omega)
      ·
        refine GO.useWT (fun hWy => ?_)
        refine GO.aload_n dX6_extend_35 rfl rfl ?_
        refine GO.getA (n := 8) h_x fl_RX6_33 rfl rfl rfl rfl dX6_extend_36 (fun hv122 h121 => ?_)
        refine GO.iload_n dX6_extend_39 rfl rfl ?_
        refine GO.iload_n dX6_extend_40 rfl rfl ?_
        refine GO.callS (N := mX4_put_t141) dX6_extend_41 gS_RX6_71 (t_X4_put_t141 h121 r_p0 r_i1) rfl [] rfl rfl (Nat.le_of_ble_eq_true rfl) rfl (k_vs fun V125 h124 hF123 => ?_)
        have raw_put := h124.2
        have rw41 := h124.2
        refine GO.useFR (fun hFs => ?_)
        have hpe2 : PEC V125 x = PEC V x := PEC.fr hFs hW_0 h_x (vi_fr hFs h_x h_x (by decide +kernel)) (by decide +kernel)
        have hsz2 : vi V125 (vq V125 x 0) 3 = vi V (vq V x 0) 3 := psz_fr hFs hW_0 h_x (by decide +kernel)
        have hah2 : ahv V125 x = ahv V x := ahv_fr hFs hW_0 h_x (by decide +kernel) (by decide +kernel)
        refine GO.aload_n dX6_extend_44 rfl rfl ?_
        refine GO.iload_n dX6_extend_45 rfl rfl ?_
        refine GO.iconst dX6_extend_46 ?_
        refine GO.iadd dX6_extend_47 ?_
        refine GO.iload_n dX6_extend_48 rfl rfl ?_
        refine GO.iconst dX6_extend_49 ?_
        refine GO.iload_n dX6_extend_50 rfl rfl ?_
        refine GO.ishl dX6_extend_51 ?_
        refine GO.ior dX6_extend_52 ?_
        have q126 : -2147483648 ≤ p0 ∧ p0 ≤ 2147483647 := r_p0
        refine GO.callV (ci := 5) (N := mX6_goOn_1) dX6_extend_53 (RX6, TX6, 10) rfl gV_RX6_90 h_x (t_X6_goOn_1 h_x ⟨by omega, by omega⟩ wor_ir (by omega)) rfl [] rfl rfl (Nat.le_of_ble_eq_true rfl) rfl (k_vs fun V129 h128 hF127 => ?_)
        have raw_goOn := h128.2
        have rw53 := h128.2
        refine GO.iinc (X := i1) (n := 1) (Y := i1 + 1) (ls1 := [some (.ref x), some (ti p0), some (ti p1), some (ti (i1 + 1))]) dX6_extend_56 rfl rfl rfl rfl ?_
        refine GO.goto (tgt := 2) dX6_extend_59 (by decide) ?_
        exact ih107 (i1 + 1) V129 ⟨by omega, by omega, by omega, (by first | exact XTI.beg | exact XTI.skip hxt hW_0 h_x (by assumption) (by omega) (by omega) | exact XTI.no hxt hW_0 h_x hpe hah (vi_fr hF118 h_x h_x (by decide +kernel)) (bev_fr hF118 hWx h_x (by decide +kernel) (by decide +kernel)) (orv_fr hF118 hWx h_x (by decide +kernel) (by decide +kernel)) (by omega) rw29 (by omega) rfl (by assumption) (by omega) | exact XTI.go hxt hW_0 hWy h_x hpe hah hpe2 hah2 (vi_fr hF118 h_x h_x (by decide +kernel)) (bev_fr hF118 hWx h_x (by decide +kernel) (by decide +kernel)) (orv_fr hF118 hWx h_x (by decide +kernel) (by decide +kernel)) (by omega) rw29 (by omega) rfl (by assumption) (by assumption) rw41 rw53 rfl rfl (by omega)), trivial⟩ (by show (2147483647 - (i1 + 1)).toNat < (2147483647 - i1).toNat; omega)

theorem t_X6_extend_2 {K : Kmap} {V : Vmap} {x : Nat} {p0 : Int} {p1 : Int} (h_x : K x = some (0, 5)) (r_p0 : ir p0) (r_p1 : ir p1) (q_0 : ((p0 ≥ 6 ∧ p0 ≤ 7))) : MC mX6_extend_2 K V [.ref x, ti p0, ti p1] (VS K (fun V1 => (True) ∧ (XTP V V1 x p0 p1))) := by
  exact t_X6_extend_2_G h_x r_p0 r_p1 (by omega) (by omega)

set_option maxHeartbeats 1000000 in
theorem t_X6_goOn_2_G {K : Kmap} {V : Vmap} {x : Nat} {p0 : Int} {p1 : Int} (h_x : K x = some (0, 5)) (r_p0 : ir p0) (r_p1 : ir p1) (q_0 : p0 ≥ 6) (q_1 : p0 ≤ 8) : MC mX6_goOn_2 K V [.ref x, ti p0, ti p1] (VS K (fun V1 => (True) ∧ (GOP V V1 x p0 p1))) := by
  refine MC.start 0 (by decide +kernel) rfl rfl rfl (ls0 := [some (.ref x), some (ti p0), some (ti p1)]) rfl ?_
  refine GO.useWT (fun hW_0 => ?_)
  refine GO.iload_n dX6_goOn_0 rfl rfl ?_
  refine GO.aload_n dX6_goOn_1 rfl rfl ?_
  refine GO.getR h_x fl_RX6_14 rfl rfl dX6_goOn_2 (fun hv2 h1 => ?_)
  refine GO.getI h1 fl_RX6_55_k24 rfl rfl dX6_goOn_5 (fun l3 u4 => ?_)
  refine GO.icmp_ge (tgt := 20) dX6_goOn_8 (by decide) r_p0 vi_ir (fun c5 => ?_) (fun c5 => ?_)
  ·
    refine GO.aload_n dX6_goOn_20 rfl rfl ?_
    refine GO.callV (ci := 5) (N := mX6_keep) dX6_goOn_21 (RX6, TX6, 10) rfl gV_RX6_93 h_x (t_X6_keep h_x) rfl [] rfl rfl (Nat.le_of_ble_eq_true rfl) rfl (k_vs fun V8 h7 hF6 => ?_)
    have raw_keep := h7.2
    have rw21 := h7.2
    exact GO.retv rfl rfl dX6_goOn_24 ⟨rfl, rfl, ⟨trivial, (by first | exact GOP.ext rw14 hW_0 h_x (by omega) | exact GOP.keep rw21 hW_0 h_x (orv_fr hF6 hW_0 h_x (by decide +kernel) (by decide +kernel)) (dav_fr hF6 hW_0 h_x (by decide +kernel) (by decide +kernel)) (by omega))⟩⟩
  ·
    refine GO.aload_n dX6_goOn_11 rfl rfl ?_
    refine GO.iload_n dX6_goOn_12 rfl rfl ?_
    refine GO.iload_n dX6_goOn_13 rfl rfl ?_
    have q9 : -2147483648 ≤ p0 ∧ p0 ≤ 2147483647 := r_p0
    refine GO.callV (ci := 5) (N := mX6_extend_2) dX6_goOn_14 (RX6, TX6, 10) rfl gV_RX6_65 h_x (t_X6_extend_2 h_x r_p0 r_p1 (by omega)) rfl [] rfl rfl (Nat.le_of_ble_eq_true rfl) rfl (k_vs fun V12 h11 hF10 => ?_)
    have raw_extend := h11.2
    have rw14 := h11.2
    refine GO.goto (tgt := 24) dX6_goOn_17 (by decide) ?_
    exact GO.retv rfl rfl dX6_goOn_24 ⟨rfl, rfl, ⟨trivial, (by first | exact GOP.ext rw14 hW_0 h_x (by omega) | exact GOP.keep rw21 hW_0 h_x (orv_fr (by assumption) hW_0 h_x (by decide +kernel) (by decide +kernel)) (dav_fr (by assumption) hW_0 h_x (by decide +kernel) (by decide +kernel)) (by omega))⟩⟩

theorem t_X6_goOn_2 {K : Kmap} {V : Vmap} {x : Nat} {p0 : Int} {p1 : Int} (h_x : K x = some (0, 5)) (r_p0 : ir p0) (r_p1 : ir p1) (q_0 : ((p0 ≥ 6 ∧ p0 ≤ 8))) : MC mX6_goOn_2 K V [.ref x, ti p0, ti p1] (VS K (fun V1 => (True) ∧ (GOP V V1 x p0 p1))) := by
  exact t_X6_goOn_2_G h_x r_p0 r_p1 (by omega) (by omega)

set_option maxHeartbeats 1000000 in
theorem t_X6_extend_3_G {K : Kmap} {V : Vmap} {x : Nat} {p0 : Int} {p1 : Int} (h_x : K x = some (0, 5)) (r_p0 : ir p0) (r_p1 : ir p1) (q_0 : p0 ≥ 5) (q_1 : p0 ≤ 7) : MC mX6_extend_3 K V [.ref x, ti p0, ti p1] (VS K (fun V1 => (True) ∧ (XTP V V1 x p0 p1))) := by
  refine MC.start 1 (by decide +kernel) rfl rfl rfl (ls0 := [some (.ref x), some (ti p0), some (ti p1), none]) rfl ?_
  refine GO.useWT (fun hW_0 => ?_)
  refine GO.iconst dX6_extend_0 ?_
  refine GO.istore_n (ls1 := [some (.ref x), some (ti p0), some (ti p1), some (ti 0)]) dX6_extend_1 rfl rfl rfl ?_
  refine GO.loop1 (fun i1 W => 0 ≤ i1 ∧ i1 ≤ 8 ∧ (i1 ≥ 0) ∧ (XTI V W x p0 p1 i1) ∧ True) (fun i1 => [some (.ref x), some (ti p0), some (ti p1), some (ti i1)]) (fun i1 W => (2147483647 - i1).toNat) 0 ⟨by omega, by omega, by omega, (by first | exact XTI.beg | exact XTI.skip hxt hW_0 h_x (by assumption) (by omega) (by omega) | exact XTI.no hxt hW_0 h_x hpe hah (vi_fr (by assumption) h_x h_x (by decide +kernel)) (bev_fr (by assumption) hWx h_x (by decide +kernel) (by decide +kernel)) (orv_fr (by assumption) hWx h_x (by decide +kernel) (by decide +kernel)) (by omega) rw29 (by omega) rfl (by assumption) (by omega) | exact XTI.go hxt hW_0 hWy h_x hpe hah hpe2 hah2 (vi_fr (by assumption) h_x h_x (by decide +kernel)) (bev_fr (by assumption) hWx h_x (by decide +kernel) (by decide +kernel)) (orv_fr (by assumption) hWx h_x (by decide +kernel) (by decide +kernel)) (by omega) rw29 (by omega) rfl (by assumption) (by assumption) rw41 rw53 rfl rfl (by omega)), trivial⟩ rfl (fun i1 Wi1 hp108 ih107 => ?_)
  obtain ⟨l_i1, u_i1, n_i1, hxt, -⟩ := hp108
  have r_i1 : ir i1 := ⟨by omega, by omega⟩
  show GO mX6_extend_3 K V (VS K (fun V1 => (True) ∧ (XTP V V1 x p0 p1))) K Wi1 0 0 2 [some (.ref x), some (ti p0), some (ti p1), some (ti i1)] []
  refine GO.useFR (fun hFs => ?_)
  have hpe : PEC Wi1 x = PEC V x := PEC.fr hFs hW_0 h_x (vi_fr hFs h_x h_x (by decide +kernel)) (by decide +kernel)
  have hsz : vi Wi1 (vq Wi1 x 0) 3 = vi V (vq V x 0) 3 := psz_fr hFs hW_0 h_x (by decide +kernel)
  have hah : ahv Wi1 x = ahv V x := ahv_fr hFs hW_0 h_x (by decide +kernel) (by decide +kernel)
  refine GO.useWT (fun hWx => ?_)
  refine GO.iload_n dX6_extend_2 rfl rfl ?_
  refine GO.aload_n dX6_extend_3 rfl rfl ?_
  refine GO.getR h_x fl_RX6_14 rfl rfl dX6_extend_4 (fun hv110 h109 => ?_)
  refine GO.getI h109 fl_RX6_55_k24 rfl rfl dX6_extend_7 (fun l111 u112 => ?_)
  refine GO.icmp_ge (tgt := 62) dX6_extend_10 (by decide) r_i1 vi_ir (fun c113 => ?_) (fun c113 => ?_)
  ·
    exact GO.retv rfl rfl dX6_extend_62 ⟨rfl, rfl, ⟨trivial, XTP.mk hxt hW_0 h_x (by omega)⟩⟩
  ·
    refine GO.iload_n dX6_extend_13 rfl rfl ?_
    refine GO.iload_n dX6_extend_14 rfl rfl ?_
    refine GO.ishr dX6_extend_15 ?_
    refine GO.iconst dX6_extend_16 ?_
    refine GO.iand dX6_extend_17 ?_
    refine GO.if_ne (tgt := 56) dX6_extend_18 (by decide) wand_ir (fun c114 => ?_) (fun c114 => ?_)
    ·
      refine GO.iinc (X := i1) (n := 1) (Y := i1 + 1) (ls1 := [some (.ref x), some (ti p0), some (ti p1), some (ti (i1 + 1))]) dX6_extend_56 rfl rfl rfl rfl ?_
      refine GO.goto (tgt := 2) dX6_extend_59 (by decide) ?_
      exact ih107 (i1 + 1) Wi1 ⟨by omega, by omega, by omega, (by first | exact XTI.beg | exact XTI.skip hxt hW_0 h_x (by assumption) (by omega) (by omega) | exact XTI.no hxt hW_0 h_x hpe hah (vi_fr (by assumption) h_x h_x (by decide +kernel)) (bev_fr (by assumption) hWx h_x (by decide +kernel) (by decide +kernel)) (orv_fr (by assumption) hWx h_x (by decide +kernel) (by decide +kernel)) (by omega) rw29 (by omega) rfl (by assumption) (by omega) | exact XTI.go hxt hW_0 hWy h_x hpe hah hpe2 hah2 (vi_fr (by assumption) h_x h_x (by decide +kernel)) (bev_fr (by assumption) hWx h_x (by decide +kernel) (by decide +kernel)) (orv_fr (by assumption) hWx h_x (by decide +kernel) (by decide +kernel)) (by omega) rw29 (by omega) rfl (by assumption) (by assumption) rw41 rw53 rfl rfl (by omega)), trivial⟩ (by show (2147483647 - (i1 + 1)).toNat < (2147483647 - i1).toNat; omega)
    ·
      refine GO.aload_n dX6_extend_21 rfl rfl ?_
      refine GO.iload_n dX6_extend_22 rfl rfl ?_
      refine GO.iload_n dX6_extend_23 rfl rfl ?_
      refine GO.iload_n dX6_extend_24 rfl rfl ?_
      refine GO.iconst dX6_extend_25 ?_
      refine GO.iload_n dX6_extend_26 rfl rfl ?_
      refine GO.ishl dX6_extend_27 ?_
      refine GO.ior dX6_extend_28 ?_
      refine GO.callV (ci := 5) (N := mX6_comes) dX6_extend_29 (RX6, TX6, 10) rfl gV_RX6_86 h_x (t_X6_comes h_x r_p0 r_i1 wor_ir) rfl [] rfl rfl (Nat.le_of_ble_eq_true rfl) rfl (k_is fun X115 V119 r116 h117 hF118 => ?_)
      have raw_comes := h117.2.2.2
      have rw29 := h117.2.2.2
      refine GO.if_eq (tgt := 56) dX6_extend_32 (by decide) r116 (fun c120 => ?_) (fun c120 => ?_)
      ·
        refine GO.iinc (X := i1) (n := 1) (Y := i1 + 1) (ls1 := [some (.ref x), some (ti p0), some (ti p1), some (ti (i1 + 1))]) dX6_extend_56 rfl rfl rfl rfl ?_
        refine GO.goto (tgt := 2) dX6_extend_59 (by decide) ?_
        exact ih107 (i1 + 1) V119 ⟨by omega, by omega, by omega, (by first | exact XTI.beg | exact XTI.skip hxt hW_0 h_x (by assumption) (by omega) (by omega) | exact XTI.no hxt hW_0 h_x hpe hah (vi_fr hF118 h_x h_x (by decide +kernel)) (bev_fr hF118 hWx h_x (by decide +kernel) (by decide +kernel)) (orv_fr hF118 hWx h_x (by decide +kernel) (by decide +kernel)) (by omega) rw29 (by omega) rfl (by assumption) (by omega) | exact XTI.go hxt hW_0 hWy h_x hpe hah hpe2 hah2 (vi_fr hF118 h_x h_x (by decide +kernel)) (bev_fr hF118 hWx h_x (by decide +kernel) (by decide +kernel)) (orv_fr hF118 hWx h_x (by decide +kernel) (by decide +kernel)) (by omega) rw29 (by omega) rfl (by assumption) (by assumption) rw41 rw53 rfl rfl (by omega)), trivial⟩ (by show (2147483647 - (i1 + 1)).toNat < (2147483647 - i1).toNat; omega)
      ·
        refine GO.useWT (fun hWy => ?_)
        refine GO.aload_n dX6_extend_35 rfl rfl ?_
        refine GO.getA (n := 8) h_x fl_RX6_33 rfl rfl rfl rfl dX6_extend_36 (fun hv122 h121 => ?_)
        refine GO.iload_n dX6_extend_39 rfl rfl ?_
        refine GO.iload_n dX6_extend_40 rfl rfl ?_
        refine GO.callS (N := mX4_put_t141) dX6_extend_41 gS_RX6_71 (t_X4_put_t141 h121 r_p0 r_i1) rfl [] rfl rfl (Nat.le_of_ble_eq_true rfl) rfl (k_vs fun V125 h124 hF123 => ?_)
        have raw_put := h124.2
        have rw41 := h124.2
        refine GO.useFR (fun hFs => ?_)
        have hpe2 : PEC V125 x = PEC V x := PEC.fr hFs hW_0 h_x (vi_fr hFs h_x h_x (by decide +kernel)) (by decide +kernel)
        have hsz2 : vi V125 (vq V125 x 0) 3 = vi V (vq V x 0) 3 := psz_fr hFs hW_0 h_x (by decide +kernel)
        have hah2 : ahv V125 x = ahv V x := ahv_fr hFs hW_0 h_x (by decide +kernel) (by decide +kernel)
        refine GO.aload_n dX6_extend_44 rfl rfl ?_
        refine GO.iload_n dX6_extend_45 rfl rfl ?_
        refine GO.iconst dX6_extend_46 ?_
        refine GO.iadd dX6_extend_47 ?_
        refine GO.iload_n dX6_extend_48 rfl rfl ?_
        refine GO.iconst dX6_extend_49 ?_
        refine GO.iload_n dX6_extend_50 rfl rfl ?_
        refine GO.ishl dX6_extend_51 ?_
        refine GO.ior dX6_extend_52 ?_
        have q126 : -2147483648 ≤ p0 ∧ p0 ≤ 2147483647 := r_p0
        refine GO.callV (ci := 5) (N := mX6_goOn_2) dX6_extend_53 (RX6, TX6, 10) rfl gV_RX6_90 h_x (t_X6_goOn_2 h_x ⟨by omega, by omega⟩ wor_ir (by omega)) rfl [] rfl rfl (Nat.le_of_ble_eq_true rfl) rfl (k_vs fun V129 h128 hF127 => ?_)
        have raw_goOn := h128.2
        have rw53 := h128.2
        refine GO.iinc (X := i1) (n := 1) (Y := i1 + 1) (ls1 := [some (.ref x), some (ti p0), some (ti p1), some (ti (i1 + 1))]) dX6_extend_56 rfl rfl rfl rfl ?_
        refine GO.goto (tgt := 2) dX6_extend_59 (by decide) ?_
        exact ih107 (i1 + 1) V129 ⟨by omega, by omega, by omega, (by first | exact XTI.beg | exact XTI.skip hxt hW_0 h_x (by assumption) (by omega) (by omega) | exact XTI.no hxt hW_0 h_x hpe hah (vi_fr hF118 h_x h_x (by decide +kernel)) (bev_fr hF118 hWx h_x (by decide +kernel) (by decide +kernel)) (orv_fr hF118 hWx h_x (by decide +kernel) (by decide +kernel)) (by omega) rw29 (by omega) rfl (by assumption) (by omega) | exact XTI.go hxt hW_0 hWy h_x hpe hah hpe2 hah2 (vi_fr hF118 h_x h_x (by decide +kernel)) (bev_fr hF118 hWx h_x (by decide +kernel) (by decide +kernel)) (orv_fr hF118 hWx h_x (by decide +kernel) (by decide +kernel)) (by omega) rw29 (by omega) rfl (by assumption) (by assumption) rw41 rw53 rfl rfl (by omega)), trivial⟩ (by show (2147483647 - (i1 + 1)).toNat < (2147483647 - i1).toNat; omega)

theorem t_X6_extend_3 {K : Kmap} {V : Vmap} {x : Nat} {p0 : Int} {p1 : Int} (h_x : K x = some (0, 5)) (r_p0 : ir p0) (r_p1 : ir p1) (q_0 : ((p0 ≥ 5 ∧ p0 ≤ 7))) : MC mX6_extend_3 K V [.ref x, ti p0, ti p1] (VS K (fun V1 => (True) ∧ (XTP V V1 x p0 p1))) := by
  exact t_X6_extend_3_G h_x r_p0 r_p1 (by omega) (by omega)

set_option maxHeartbeats 1000000 in
theorem t_X6_goOn_3_G {K : Kmap} {V : Vmap} {x : Nat} {p0 : Int} {p1 : Int} (h_x : K x = some (0, 5)) (r_p0 : ir p0) (r_p1 : ir p1) (q_0 : p0 ≥ 5) (q_1 : p0 ≤ 8) : MC mX6_goOn_3 K V [.ref x, ti p0, ti p1] (VS K (fun V1 => (True) ∧ (GOP V V1 x p0 p1))) := by
  refine MC.start 0 (by decide +kernel) rfl rfl rfl (ls0 := [some (.ref x), some (ti p0), some (ti p1)]) rfl ?_
  refine GO.useWT (fun hW_0 => ?_)
  refine GO.iload_n dX6_goOn_0 rfl rfl ?_
  refine GO.aload_n dX6_goOn_1 rfl rfl ?_
  refine GO.getR h_x fl_RX6_14 rfl rfl dX6_goOn_2 (fun hv2 h1 => ?_)
  refine GO.getI h1 fl_RX6_55_k24 rfl rfl dX6_goOn_5 (fun l3 u4 => ?_)
  refine GO.icmp_ge (tgt := 20) dX6_goOn_8 (by decide) r_p0 vi_ir (fun c5 => ?_) (fun c5 => ?_)
  ·
    refine GO.aload_n dX6_goOn_20 rfl rfl ?_
    refine GO.callV (ci := 5) (N := mX6_keep) dX6_goOn_21 (RX6, TX6, 10) rfl gV_RX6_93 h_x (t_X6_keep h_x) rfl [] rfl rfl (Nat.le_of_ble_eq_true rfl) rfl (k_vs fun V8 h7 hF6 => ?_)
    have raw_keep := h7.2
    have rw21 := h7.2
    exact GO.retv rfl rfl dX6_goOn_24 ⟨rfl, rfl, ⟨trivial, (by first | exact GOP.ext rw14 hW_0 h_x (by omega) | exact GOP.keep rw21 hW_0 h_x (orv_fr hF6 hW_0 h_x (by decide +kernel) (by decide +kernel)) (dav_fr hF6 hW_0 h_x (by decide +kernel) (by decide +kernel)) (by omega))⟩⟩
  ·
    refine GO.aload_n dX6_goOn_11 rfl rfl ?_
    refine GO.iload_n dX6_goOn_12 rfl rfl ?_
    refine GO.iload_n dX6_goOn_13 rfl rfl ?_
    have q9 : -2147483648 ≤ p0 ∧ p0 ≤ 2147483647 := r_p0
    refine GO.callV (ci := 5) (N := mX6_extend_3) dX6_goOn_14 (RX6, TX6, 10) rfl gV_RX6_65 h_x (t_X6_extend_3 h_x r_p0 r_p1 (by omega)) rfl [] rfl rfl (Nat.le_of_ble_eq_true rfl) rfl (k_vs fun V12 h11 hF10 => ?_)
    have raw_extend := h11.2
    have rw14 := h11.2
    refine GO.goto (tgt := 24) dX6_goOn_17 (by decide) ?_
    exact GO.retv rfl rfl dX6_goOn_24 ⟨rfl, rfl, ⟨trivial, (by first | exact GOP.ext rw14 hW_0 h_x (by omega) | exact GOP.keep rw21 hW_0 h_x (orv_fr (by assumption) hW_0 h_x (by decide +kernel) (by decide +kernel)) (dav_fr (by assumption) hW_0 h_x (by decide +kernel) (by decide +kernel)) (by omega))⟩⟩

theorem t_X6_goOn_3 {K : Kmap} {V : Vmap} {x : Nat} {p0 : Int} {p1 : Int} (h_x : K x = some (0, 5)) (r_p0 : ir p0) (r_p1 : ir p1) (q_0 : ((p0 ≥ 5 ∧ p0 ≤ 8))) : MC mX6_goOn_3 K V [.ref x, ti p0, ti p1] (VS K (fun V1 => (True) ∧ (GOP V V1 x p0 p1))) := by
  exact t_X6_goOn_3_G h_x r_p0 r_p1 (by omega) (by omega)

set_option maxHeartbeats 1000000 in
theorem t_X6_extend_4_G {K : Kmap} {V : Vmap} {x : Nat} {p0 : Int} {p1 : Int} (h_x : K x = some (0, 5)) (r_p0 : ir p0) (r_p1 : ir p1) (q_0 : p0 ≥ 4) (q_1 : p0 ≤ 7) : MC mX6_extend_4 K V [.ref x, ti p0, ti p1] (VS K (fun V1 => (True) ∧ (XTP V V1 x p0 p1))) := by
  refine MC.start 1 (by decide +kernel) rfl rfl rfl (ls0 := [some (.ref x), some (ti p0), some (ti p1), none]) rfl ?_
  refine GO.useWT (fun hW_0 => ?_)
  refine GO.iconst dX6_extend_0 ?_
  refine GO.istore_n (ls1 := [some (.ref x), some (ti p0), some (ti p1), some (ti 0)]) dX6_extend_1 rfl rfl rfl ?_
  refine GO.loop1 (fun i1 W => 0 ≤ i1 ∧ i1 ≤ 8 ∧ (i1 ≥ 0) ∧ (XTI V W x p0 p1 i1) ∧ True) (fun i1 => [some (.ref x), some (ti p0), some (ti p1), some (ti i1)]) (fun i1 W => (2147483647 - i1).toNat) 0 ⟨by omega, by omega, by omega, (by first | exact XTI.beg | exact XTI.skip hxt hW_0 h_x (by assumption) (by omega) (by omega) | exact XTI.no hxt hW_0 h_x hpe hah (vi_fr (by assumption) h_x h_x (by decide +kernel)) (bev_fr (by assumption) hWx h_x (by decide +kernel) (by decide +kernel)) (orv_fr (by assumption) hWx h_x (by decide +kernel) (by decide +kernel)) (by omega) rw29 (by omega) rfl (by assumption) (by omega) | exact XTI.go hxt hW_0 hWy h_x hpe hah hpe2 hah2 (vi_fr (by assumption) h_x h_x (by decide +kernel)) (bev_fr (by assumption) hWx h_x (by decide +kernel) (by decide +kernel)) (orv_fr (by assumption) hWx h_x (by decide +kernel) (by decide +kernel)) (by omega) rw29 (by omega) rfl (by assumption) (by assumption) rw41 rw53 rfl rfl (by omega)), trivial⟩ rfl (fun i1 Wi1 hp108 ih107 => ?_)
  obtain ⟨l_i1, u_i1, n_i1, hxt, -⟩ := hp108
  have r_i1 : ir i1 := ⟨by omega, by omega⟩
  show GO mX6_extend_4 K V (VS K (fun V1 => (True) ∧ (XTP V V1 x p0 p1))) K Wi1 0 0 2 [some (.ref x), some (ti p0), some (ti p1), some (ti i1)] []
  refine GO.useFR (fun hFs => ?_)
  have hpe : PEC Wi1 x = PEC V x := PEC.fr hFs hW_0 h_x (vi_fr hFs h_x h_x (by decide +kernel)) (by decide +kernel)
  have hsz : vi Wi1 (vq Wi1 x 0) 3 = vi V (vq V x 0) 3 := psz_fr hFs hW_0 h_x (by decide +kernel)
  have hah : ahv Wi1 x = ahv V x := ahv_fr hFs hW_0 h_x (by decide +kernel) (by decide +kernel)
  refine GO.useWT (fun hWx => ?_)
  refine GO.iload_n dX6_extend_2 rfl rfl ?_
  refine GO.aload_n dX6_extend_3 rfl rfl ?_
  refine GO.getR h_x fl_RX6_14 rfl rfl dX6_extend_4 (fun hv110 h109 => ?_)
  refine GO.getI h109 fl_RX6_55_k24 rfl rfl dX6_extend_7 (fun l111 u112 => ?_)
  refine GO.icmp_ge (tgt := 62) dX6_extend_10 (by decide) r_i1 vi_ir (fun c113 => ?_) (fun c113 => ?_)
  ·
    exact GO.retv rfl rfl dX6_extend_62 ⟨rfl, rfl, ⟨trivial, XTP.mk hxt hW_0 h_x (by omega)⟩⟩
  ·
    refine GO.iload_n dX6_extend_13 rfl rfl ?_
    refine GO.iload_n dX6_extend_14 rfl rfl ?_
    refine GO.ishr dX6_extend_15 ?_
    refine GO.iconst dX6_extend_16 ?_
    refine GO.iand dX6_extend_17 ?_
    refine GO.if_ne (tgt := 56) dX6_extend_18 (by decide) wand_ir (fun c114 => ?_) (fun c114 => ?_)
    ·
      refine GO.iinc (X := i1) (n := 1) (Y := i1 + 1) (ls1 := [some (.ref x), some (ti p0), some (ti p1), some (ti (i1 + 1))]) dX6_extend_56 rfl rfl rfl rfl ?_
      refine GO.goto (tgt := 2) dX6_extend_59 (by decide) ?_
      exact ih107 (i1 + 1) Wi1 ⟨by omega, by omega, by omega, (by first | exact XTI.beg | exact XTI.skip hxt hW_0 h_x (by assumption) (by omega) (by omega) | exact XTI.no hxt hW_0 h_x hpe hah (vi_fr (by assumption) h_x h_x (by decide +kernel)) (bev_fr (by assumption) hWx h_x (by decide +kernel) (by decide +kernel)) (orv_fr (by assumption) hWx h_x (by decide +kernel) (by decide +kernel)) (by omega) rw29 (by omega) rfl (by assumption) (by omega) | exact XTI.go hxt hW_0 hWy h_x hpe hah hpe2 hah2 (vi_fr (by assumption) h_x h_x (by decide +kernel)) (bev_fr (by assumption) hWx h_x (by decide +kernel) (by decide +kernel)) (orv_fr (by assumption) hWx h_x (by decide +kernel) (by decide +kernel)) (by omega) rw29 (by omega) rfl (by assumption) (by assumption) rw41 rw53 rfl rfl (by omega)), trivial⟩ (by show (2147483647 - (i1 + 1)).toNat < (2147483647 - i1).toNat; omega)
    ·
      refine GO.aload_n dX6_extend_21 rfl rfl ?_
      refine GO.iload_n dX6_extend_22 rfl rfl ?_
      refine GO.iload_n dX6_extend_23 rfl rfl ?_
      refine GO.iload_n dX6_extend_24 rfl rfl ?_
      refine GO.iconst dX6_extend_25 ?_
      refine GO.iload_n dX6_extend_26 rfl rfl ?_
      refine GO.ishl dX6_extend_27 ?_
      refine GO.ior dX6_extend_28 ?_
      refine GO.callV (ci := 5) (N := mX6_comes) dX6_extend_29 (RX6, TX6, 10) rfl gV_RX6_86 h_x (t_X6_comes h_x r_p0 r_i1 wor_ir) rfl [] rfl rfl (Nat.le_of_ble_eq_true rfl) rfl (k_is fun X115 V119 r116 h117 hF118 => ?_)
      have raw_comes := h117.2.2.2
      have rw29 := h117.2.2.2
      refine GO.if_eq (tgt := 56) dX6_extend_32 (by decide) r116 (fun c120 => ?_) (fun c120 => ?_)
      ·
        refine GO.iinc (X := i1) (n := 1) (Y := i1 + 1) (ls1 := [some (.ref x), some (ti p0), some (ti p1), some (ti (i1 + 1))]) dX6_extend_56 rfl rfl rfl rfl ?_
        refine GO.goto (tgt := 2) dX6_extend_59 (by decide) ?_
        exact ih107 (i1 + 1) V119 ⟨by omega, by omega, by omega, (by first | exact XTI.beg | exact XTI.skip hxt hW_0 h_x (by assumption) (by omega) (by omega) | exact XTI.no hxt hW_0 h_x hpe hah (vi_fr hF118 h_x h_x (by decide +kernel)) (bev_fr hF118 hWx h_x (by decide +kernel) (by decide +kernel)) (orv_fr hF118 hWx h_x (by decide +kernel) (by decide +kernel)) (by omega) rw29 (by omega) rfl (by assumption) (by omega) | exact XTI.go hxt hW_0 hWy h_x hpe hah hpe2 hah2 (vi_fr hF118 h_x h_x (by decide +kernel)) (bev_fr hF118 hWx h_x (by decide +kernel) (by decide +kernel)) (orv_fr hF118 hWx h_x (by decide +kernel) (by decide +kernel)) (by omega) rw29 (by omega) rfl (by assumption) (by assumption) rw41 rw53 rfl rfl (by omega)), trivial⟩ (by show (2147483647 - (i1 + 1)).toNat < (2147483647 - i1).toNat; omega)
      ·
        refine GO.useWT (fun hWy => ?_)
        refine GO.aload_n dX6_extend_35 rfl rfl ?_
        refine GO.getA (n := 8) h_x fl_RX6_33 rfl rfl rfl rfl dX6_extend_36 (fun hv122 h121 => ?_)
        refine GO.iload_n dX6_extend_39 rfl rfl ?_
        refine GO.iload_n dX6_extend_40 rfl rfl ?_
        refine GO.callS (N := mX4_put_t141) dX6_extend_41 gS_RX6_71 (t_X4_put_t141 h121 r_p0 r_i1) rfl [] rfl rfl (Nat.le_of_ble_eq_true rfl) rfl (k_vs fun V125 h124 hF123 => ?_)
        have raw_put := h124.2
        have rw41 := h124.2
        refine GO.useFR (fun hFs => ?_)
        have hpe2 : PEC V125 x = PEC V x := PEC.fr hFs hW_0 h_x (vi_fr hFs h_x h_x (by decide +kernel)) (by decide +kernel)
        have hsz2 : vi V125 (vq V125 x 0) 3 = vi V (vq V x 0) 3 := psz_fr hFs hW_0 h_x (by decide +kernel)
        have hah2 : ahv V125 x = ahv V x := ahv_fr hFs hW_0 h_x (by decide +kernel) (by decide +kernel)
        refine GO.aload_n dX6_extend_44 rfl rfl ?_
        refine GO.iload_n dX6_extend_45 rfl rfl ?_
        refine GO.iconst dX6_extend_46 ?_
        refine GO.iadd dX6_extend_47 ?_
        refine GO.iload_n dX6_extend_48 rfl rfl ?_
        refine GO.iconst dX6_extend_49 ?_
        refine GO.iload_n dX6_extend_50 rfl rfl ?_
        refine GO.ishl dX6_extend_51 ?_
        refine GO.ior dX6_extend_52 ?_
        have q126 : -2147483648 ≤ p0 ∧ p0 ≤ 2147483647 := r_p0
        refine GO.callV (ci := 5) (N := mX6_goOn_3) dX6_extend_53 (RX6, TX6, 10) rfl gV_RX6_90 h_x (t_X6_goOn_3 h_x ⟨by omega, by omega⟩ wor_ir (by omega)) rfl [] rfl rfl (Nat.le_of_ble_eq_true rfl) rfl (k_vs fun V129 h128 hF127 => ?_)
        have raw_goOn := h128.2
        have rw53 := h128.2
        refine GO.iinc (X := i1) (n := 1) (Y := i1 + 1) (ls1 := [some (.ref x), some (ti p0), some (ti p1), some (ti (i1 + 1))]) dX6_extend_56 rfl rfl rfl rfl ?_
        refine GO.goto (tgt := 2) dX6_extend_59 (by decide) ?_
        exact ih107 (i1 + 1) V129 ⟨by omega, by omega, by omega, (by first | exact XTI.beg | exact XTI.skip hxt hW_0 h_x (by assumption) (by omega) (by omega) | exact XTI.no hxt hW_0 h_x hpe hah (vi_fr hF118 h_x h_x (by decide +kernel)) (bev_fr hF118 hWx h_x (by decide +kernel) (by decide +kernel)) (orv_fr hF118 hWx h_x (by decide +kernel) (by decide +kernel)) (by omega) rw29 (by omega) rfl (by assumption) (by omega) | exact XTI.go hxt hW_0 hWy h_x hpe hah hpe2 hah2 (vi_fr hF118 h_x h_x (by decide +kernel)) (bev_fr hF118 hWx h_x (by decide +kernel) (by decide +kernel)) (orv_fr hF118 hWx h_x (by decide +kernel) (by decide +kernel)) (by omega) rw29 (by omega) rfl (by assumption) (by assumption) rw41 rw53 rfl rfl (by omega)), trivial⟩ (by show (2147483647 - (i1 + 1)).toNat < (2147483647 - i1).toNat; omega)

theorem t_X6_extend_4 {K : Kmap} {V : Vmap} {x : Nat} {p0 : Int} {p1 : Int} (h_x : K x = some (0, 5)) (r_p0 : ir p0) (r_p1 : ir p1) (q_0 : ((p0 ≥ 4 ∧ p0 ≤ 7))) : MC mX6_extend_4 K V [.ref x, ti p0, ti p1] (VS K (fun V1 => (True) ∧ (XTP V V1 x p0 p1))) := by
  exact t_X6_extend_4_G h_x r_p0 r_p1 (by omega) (by omega)

set_option maxHeartbeats 1000000 in
theorem t_X6_goOn_4_G {K : Kmap} {V : Vmap} {x : Nat} {p0 : Int} {p1 : Int} (h_x : K x = some (0, 5)) (r_p0 : ir p0) (r_p1 : ir p1) (q_0 : p0 ≥ 4) (q_1 : p0 ≤ 8) : MC mX6_goOn_4 K V [.ref x, ti p0, ti p1] (VS K (fun V1 => (True) ∧ (GOP V V1 x p0 p1))) := by
  refine MC.start 0 (by decide +kernel) rfl rfl rfl (ls0 := [some (.ref x), some (ti p0), some (ti p1)]) rfl ?_
  refine GO.useWT (fun hW_0 => ?_)
  refine GO.iload_n dX6_goOn_0 rfl rfl ?_
  refine GO.aload_n dX6_goOn_1 rfl rfl ?_
  refine GO.getR h_x fl_RX6_14 rfl rfl dX6_goOn_2 (fun hv2 h1 => ?_)
  refine GO.getI h1 fl_RX6_55_k24 rfl rfl dX6_goOn_5 (fun l3 u4 => ?_)
  refine GO.icmp_ge (tgt := 20) dX6_goOn_8 (by decide) r_p0 vi_ir (fun c5 => ?_) (fun c5 => ?_)
  ·
    refine GO.aload_n dX6_goOn_20 rfl rfl ?_
    refine GO.callV (ci := 5) (N := mX6_keep) dX6_goOn_21 (RX6, TX6, 10) rfl gV_RX6_93 h_x (t_X6_keep h_x) rfl [] rfl rfl (Nat.le_of_ble_eq_true rfl) rfl (k_vs fun V8 h7 hF6 => ?_)
    have raw_keep := h7.2
    have rw21 := h7.2
    exact GO.retv rfl rfl dX6_goOn_24 ⟨rfl, rfl, ⟨trivial, (by first | exact GOP.ext rw14 hW_0 h_x (by omega) | exact GOP.keep rw21 hW_0 h_x (orv_fr hF6 hW_0 h_x (by decide +kernel) (by decide +kernel)) (dav_fr hF6 hW_0 h_x (by decide +kernel) (by decide +kernel)) (by omega))⟩⟩
  ·
    refine GO.aload_n dX6_goOn_11 rfl rfl ?_
    refine GO.iload_n dX6_goOn_12 rfl rfl ?_
    refine GO.iload_n dX6_goOn_13 rfl rfl ?_
    have q9 : -2147483648 ≤ p0 ∧ p0 ≤ 2147483647 := r_p0
    refine GO.callV (ci := 5) (N := mX6_extend_4) dX6_goOn_14 (RX6, TX6, 10) rfl gV_RX6_65 h_x (t_X6_extend_4 h_x r_p0 r_p1 (by omega)) rfl [] rfl rfl (Nat.le_of_ble_eq_true rfl) rfl (k_vs fun V12 h11 hF10 => ?_)
    have raw_extend := h11.2
    have rw14 := h11.2
    refine GO.goto (tgt := 24) dX6_goOn_17 (by decide) ?_
    exact GO.retv rfl rfl dX6_goOn_24 ⟨rfl, rfl, ⟨trivial, (by first | exact GOP.ext rw14 hW_0 h_x (by omega) | exact GOP.keep rw21 hW_0 h_x (orv_fr (by assumption) hW_0 h_x (by decide +kernel) (by decide +kernel)) (dav_fr (by assumption) hW_0 h_x (by decide +kernel) (by decide +kernel)) (by omega))⟩⟩

theorem t_X6_goOn_4 {K : Kmap} {V : Vmap} {x : Nat} {p0 : Int} {p1 : Int} (h_x : K x = some (0, 5)) (r_p0 : ir p0) (r_p1 : ir p1) (q_0 : ((p0 ≥ 4 ∧ p0 ≤ 8))) : MC mX6_goOn_4 K V [.ref x, ti p0, ti p1] (VS K (fun V1 => (True) ∧ (GOP V V1 x p0 p1))) := by
  exact t_X6_goOn_4_G h_x r_p0 r_p1 (by omega) (by omega)

set_option maxHeartbeats 1000000 in
theorem t_X6_extend_5_G {K : Kmap} {V : Vmap} {x : Nat} {p0 : Int} {p1 : Int} (h_x : K x = some (0, 5)) (r_p0 : ir p0) (r_p1 : ir p1) (q_0 : p0 ≥ 3) (q_1 : p0 ≤ 7) : MC mX6_extend_5 K V [.ref x, ti p0, ti p1] (VS K (fun V1 => (True) ∧ (XTP V V1 x p0 p1))) := by
  refine MC.start 1 (by decide +kernel) rfl rfl rfl (ls0 := [some (.ref x), some (ti p0), some (ti p1), none]) rfl ?_
  refine GO.useWT (fun hW_0 => ?_)
  refine GO.iconst dX6_extend_0 ?_
  refine GO.istore_n (ls1 := [some (.ref x), some (ti p0), some (ti p1), some (ti 0)]) dX6_extend_1 rfl rfl rfl ?_
  refine GO.loop1 (fun i1 W => 0 ≤ i1 ∧ i1 ≤ 8 ∧ (i1 ≥ 0) ∧ (XTI V W x p0 p1 i1) ∧ True) (fun i1 => [some (.ref x), some (ti p0), some (ti p1), some (ti i1)]) (fun i1 W => (2147483647 - i1).toNat) 0 ⟨by omega, by omega, by omega, (by first | exact XTI.beg | exact XTI.skip hxt hW_0 h_x (by assumption) (by omega) (by omega) | exact XTI.no hxt hW_0 h_x hpe hah (vi_fr (by assumption) h_x h_x (by decide +kernel)) (bev_fr (by assumption) hWx h_x (by decide +kernel) (by decide +kernel)) (orv_fr (by assumption) hWx h_x (by decide +kernel) (by decide +kernel)) (by omega) rw29 (by omega) rfl (by assumption) (by omega) | exact XTI.go hxt hW_0 hWy h_x hpe hah hpe2 hah2 (vi_fr (by assumption) h_x h_x (by decide +kernel)) (bev_fr (by assumption) hWx h_x (by decide +kernel) (by decide +kernel)) (orv_fr (by assumption) hWx h_x (by decide +kernel) (by decide +kernel)) (by omega) rw29 (by omega) rfl (by assumption) (by assumption) rw41 rw53 rfl rfl (by omega)), trivial⟩ rfl (fun i1 Wi1 hp108 ih107 => ?_)
  obtain ⟨l_i1, u_i1, n_i1, hxt, -⟩ := hp108
  have r_i1 : ir i1 := ⟨by omega, by omega⟩
  show GO mX6_extend_5 K V (VS K (fun V1 => (True) ∧ (XTP V V1 x p0 p1))) K Wi1 0 0 2 [some (.ref x), some (ti p0), some (ti p1), some (ti i1)] []
  refine GO.useFR (fun hFs => ?_)
  have hpe : PEC Wi1 x = PEC V x := PEC.fr hFs hW_0 h_x (vi_fr hFs h_x h_x (by decide +kernel)) (by decide +kernel)
  have hsz : vi Wi1 (vq Wi1 x 0) 3 = vi V (vq V x 0) 3 := psz_fr hFs hW_0 h_x (by decide +kernel)
  have hah : ahv Wi1 x = ahv V x := ahv_fr hFs hW_0 h_x (by decide +kernel) (by decide +kernel)
  refine GO.useWT (fun hWx => ?_)
  refine GO.iload_n dX6_extend_2 rfl rfl ?_
  refine GO.aload_n dX6_extend_3 rfl rfl ?_
  refine GO.getR h_x fl_RX6_14 rfl rfl dX6_extend_4 (fun hv110 h109 => ?_)
  refine GO.getI h109 fl_RX6_55_k24 rfl rfl dX6_extend_7 (fun l111 u112 => ?_)
  refine GO.icmp_ge (tgt := 62) dX6_extend_10 (by decide) r_i1 vi_ir (fun c113 => ?_) (fun c113 => ?_)
  ·
    exact GO.retv rfl rfl dX6_extend_62 ⟨rfl, rfl, ⟨trivial, XTP.mk hxt hW_0 h_x (by omega)⟩⟩
  ·
    refine GO.iload_n dX6_extend_13 rfl rfl ?_
    refine GO.iload_n dX6_extend_14 rfl rfl ?_
    refine GO.ishr dX6_extend_15 ?_
    refine GO.iconst dX6_extend_16 ?_
    refine GO.iand dX6_extend_17 ?_
    refine GO.if_ne (tgt := 56) dX6_extend_18 (by decide) wand_ir (fun c114 => ?_) (fun c114 => ?_)
    ·
      refine GO.iinc (X := i1) (n := 1) (Y := i1 + 1) (ls1 := [some (.ref x), some (ti p0), some (ti p1), some (ti (i1 + 1))]) dX6_extend_56 rfl rfl rfl rfl ?_
      refine GO.goto (tgt := 2) dX6_extend_59 (by decide) ?_
      exact ih107 (i1 + 1) Wi1 ⟨by omega, by omega, by omega, (by first | exact XTI.beg | exact XTI.skip hxt hW_0 h_x (by assumption) (by omega) (by omega) | exact XTI.no hxt hW_0 h_x hpe hah (vi_fr (by assumption) h_x h_x (by decide +kernel)) (bev_fr (by assumption) hWx h_x (by decide +kernel) (by decide +kernel)) (orv_fr (by assumption) hWx h_x (by decide +kernel) (by decide +kernel)) (by omega) rw29 (by omega) rfl (by assumption) (by omega) | exact XTI.go hxt hW_0 hWy h_x hpe hah hpe2 hah2 (vi_fr (by assumption) h_x h_x (by decide +kernel)) (bev_fr (by assumption) hWx h_x (by decide +kernel) (by decide +kernel)) (orv_fr (by assumption) hWx h_x (by decide +kernel) (by decide +kernel)) (by omega) rw29 (by omega) rfl (by assumption) (by assumption) rw41 rw53 rfl rfl (by omega)), trivial⟩ (by show (2147483647 - (i1 + 1)).toNat < (2147483647 - i1).toNat; omega)
    ·
      refine GO.aload_n dX6_extend_21 rfl rfl ?_
      refine GO.iload_n dX6_extend_22 rfl rfl ?_
      refine GO.iload_n dX6_extend_23 rfl rfl ?_
      refine GO.iload_n dX6_extend_24 rfl rfl ?_
      refine GO.iconst dX6_extend_25 ?_
      refine GO.iload_n dX6_extend_26 rfl rfl ?_
      refine GO.ishl dX6_extend_27 ?_
      refine GO.ior dX6_extend_28 ?_
      refine GO.callV (ci := 5) (N := mX6_comes) dX6_extend_29 (RX6, TX6, 10) rfl gV_RX6_86 h_x (t_X6_comes h_x r_p0 r_i1 wor_ir) rfl [] rfl rfl (Nat.le_of_ble_eq_true rfl) rfl (k_is fun X115 V119 r116 h117 hF118 => ?_)
      have raw_comes := h117.2.2.2
      have rw29 := h117.2.2.2
      refine GO.if_eq (tgt := 56) dX6_extend_32 (by decide) r116 (fun c120 => ?_) (fun c120 => ?_)
      ·
        refine GO.iinc (X := i1) (n := 1) (Y := i1 + 1) (ls1 := [some (.ref x), some (ti p0), some (ti p1), some (ti (i1 + 1))]) dX6_extend_56 rfl rfl rfl rfl ?_
        refine GO.goto (tgt := 2) dX6_extend_59 (by decide) ?_
        exact ih107 (i1 + 1) V119 ⟨by omega, by omega, by omega, (by first | exact XTI.beg | exact XTI.skip hxt hW_0 h_x (by assumption) (by omega) (by omega) | exact XTI.no hxt hW_0 h_x hpe hah (vi_fr hF118 h_x h_x (by decide +kernel)) (bev_fr hF118 hWx h_x (by decide +kernel) (by decide +kernel)) (orv_fr hF118 hWx h_x (by decide +kernel) (by decide +kernel)) (by omega) rw29 (by omega) rfl (by assumption) (by omega) | exact XTI.go hxt hW_0 hWy h_x hpe hah hpe2 hah2 (vi_fr hF118 h_x h_x (by decide +kernel)) (bev_fr hF118 hWx h_x (by decide +kernel) (by decide +kernel)) (orv_fr hF118 hWx h_x (by decide +kernel) (by decide +kernel)) (by omega) rw29 (by omega) rfl (by assumption) (by assumption) rw41 rw53 rfl rfl (by omega)), trivial⟩ (by show (2147483647 - (i1 + 1)).toNat < (2147483647 - i1).toNat; omega)
      ·
        refine GO.useWT (fun hWy => ?_)
        refine GO.aload_n dX6_extend_35 rfl rfl ?_
        refine GO.getA (n := 8) h_x fl_RX6_33 rfl rfl rfl rfl dX6_extend_36 (fun hv122 h121 => ?_)
        refine GO.iload_n dX6_extend_39 rfl rfl ?_
        refine GO.iload_n dX6_extend_40 rfl rfl ?_
        refine GO.callS (N := mX4_put_t141) dX6_extend_41 gS_RX6_71 (t_X4_put_t141 h121 r_p0 r_i1) rfl [] rfl rfl (Nat.le_of_ble_eq_true rfl) rfl (k_vs fun V125 h124 hF123 => ?_)
        have raw_put := h124.2
        have rw41 := h124.2
        refine GO.useFR (fun hFs => ?_)
        have hpe2 : PEC V125 x = PEC V x := PEC.fr hFs hW_0 h_x (vi_fr hFs h_x h_x (by decide +kernel)) (by decide +kernel)
        have hsz2 : vi V125 (vq V125 x 0) 3 = vi V (vq V x 0) 3 := psz_fr hFs hW_0 h_x (by decide +kernel)
        have hah2 : ahv V125 x = ahv V x := ahv_fr hFs hW_0 h_x (by decide +kernel) (by decide +kernel)
        refine GO.aload_n dX6_extend_44 rfl rfl ?_
        refine GO.iload_n dX6_extend_45 rfl rfl ?_
        refine GO.iconst dX6_extend_46 ?_
        refine GO.iadd dX6_extend_47 ?_
        refine GO.iload_n dX6_extend_48 rfl rfl ?_
        refine GO.iconst dX6_extend_49 ?_
        refine GO.iload_n dX6_extend_50 rfl rfl ?_
        refine GO.ishl dX6_extend_51 ?_
        refine GO.ior dX6_extend_52 ?_
        have q126 : -2147483648 ≤ p0 ∧ p0 ≤ 2147483647 := r_p0
        refine GO.callV (ci := 5) (N := mX6_goOn_4) dX6_extend_53 (RX6, TX6, 10) rfl gV_RX6_90 h_x (t_X6_goOn_4 h_x ⟨by omega, by omega⟩ wor_ir (by omega)) rfl [] rfl rfl (Nat.le_of_ble_eq_true rfl) rfl (k_vs fun V129 h128 hF127 => ?_)
        have raw_goOn := h128.2
        have rw53 := h128.2
        refine GO.iinc (X := i1) (n := 1) (Y := i1 + 1) (ls1 := [some (.ref x), some (ti p0), some (ti p1), some (ti (i1 + 1))]) dX6_extend_56 rfl rfl rfl rfl ?_
        refine GO.goto (tgt := 2) dX6_extend_59 (by decide) ?_
        exact ih107 (i1 + 1) V129 ⟨by omega, by omega, by omega, (by first | exact XTI.beg | exact XTI.skip hxt hW_0 h_x (by assumption) (by omega) (by omega) | exact XTI.no hxt hW_0 h_x hpe hah (vi_fr hF118 h_x h_x (by decide +kernel)) (bev_fr hF118 hWx h_x (by decide +kernel) (by decide +kernel)) (orv_fr hF118 hWx h_x (by decide +kernel) (by decide +kernel)) (by omega) rw29 (by omega) rfl (by assumption) (by omega) | exact XTI.go hxt hW_0 hWy h_x hpe hah hpe2 hah2 (vi_fr hF118 h_x h_x (by decide +kernel)) (bev_fr hF118 hWx h_x (by decide +kernel) (by decide +kernel)) (orv_fr hF118 hWx h_x (by decide +kernel) (by decide +kernel)) (by omega) rw29 (by omega) rfl (by assumption) (by assumption) rw41 rw53 rfl rfl (by omega)), trivial⟩ (by show (2147483647 - (i1 + 1)).toNat < (2147483647 - i1).toNat; omega)

theorem t_X6_extend_5 {K : Kmap} {V : Vmap} {x : Nat} {p0 : Int} {p1 : Int} (h_x : K x = some (0, 5)) (r_p0 : ir p0) (r_p1 : ir p1) (q_0 : ((p0 ≥ 3 ∧ p0 ≤ 7))) : MC mX6_extend_5 K V [.ref x, ti p0, ti p1] (VS K (fun V1 => (True) ∧ (XTP V V1 x p0 p1))) := by
  exact t_X6_extend_5_G h_x r_p0 r_p1 (by omega) (by omega)

set_option maxHeartbeats 1000000 in
theorem t_X6_goOn_5_G {K : Kmap} {V : Vmap} {x : Nat} {p0 : Int} {p1 : Int} (h_x : K x = some (0, 5)) (r_p0 : ir p0) (r_p1 : ir p1) (q_0 : p0 ≥ 3) (q_1 : p0 ≤ 8) : MC mX6_goOn_5 K V [.ref x, ti p0, ti p1] (VS K (fun V1 => (True) ∧ (GOP V V1 x p0 p1))) := by
  refine MC.start 0 (by decide +kernel) rfl rfl rfl (ls0 := [some (.ref x), some (ti p0), some (ti p1)]) rfl ?_
  refine GO.useWT (fun hW_0 => ?_)
  refine GO.iload_n dX6_goOn_0 rfl rfl ?_
  refine GO.aload_n dX6_goOn_1 rfl rfl ?_
  refine GO.getR h_x fl_RX6_14 rfl rfl dX6_goOn_2 (fun hv2 h1 => ?_)
  refine GO.getI h1 fl_RX6_55_k24 rfl rfl dX6_goOn_5 (fun l3 u4 => ?_)
  refine GO.icmp_ge (tgt := 20) dX6_goOn_8 (by decide) r_p0 vi_ir (fun c5 => ?_) (fun c5 => ?_)
  ·
    refine GO.aload_n dX6_goOn_20 rfl rfl ?_
    refine GO.callV (ci := 5) (N := mX6_keep) dX6_goOn_21 (RX6, TX6, 10) rfl gV_RX6_93 h_x (t_X6_keep h_x) rfl [] rfl rfl (Nat.le_of_ble_eq_true rfl) rfl (k_vs fun V8 h7 hF6 => ?_)
    have raw_keep := h7.2
    have rw21 := h7.2
    exact GO.retv rfl rfl dX6_goOn_24 ⟨rfl, rfl, ⟨trivial, (by first | exact GOP.ext rw14 hW_0 h_x (by omega) | exact GOP.keep rw21 hW_0 h_x (orv_fr hF6 hW_0 h_x (by decide +kernel) (by decide +kernel)) (dav_fr hF6 hW_0 h_x (by decide +kernel) (by decide +kernel)) (by omega))⟩⟩
  ·
    refine GO.aload_n dX6_goOn_11 rfl rfl ?_
    refine GO.iload_n dX6_goOn_12 rfl rfl ?_
    refine GO.iload_n dX6_goOn_13 rfl rfl ?_
    have q9 : -2147483648 ≤ p0 ∧ p0 ≤ 2147483647 := r_p0
    refine GO.callV (ci := 5) (N := mX6_extend_5) dX6_goOn_14 (RX6, TX6, 10) rfl gV_RX6_65 h_x (t_X6_extend_5 h_x r_p0 r_p1 (by omega)) rfl [] rfl rfl (Nat.le_of_ble_eq_true rfl) rfl (k_vs fun V12 h11 hF10 => ?_)
    have raw_extend := h11.2
    have rw14 := h11.2
    refine GO.goto (tgt := 24) dX6_goOn_17 (by decide) ?_
    exact GO.retv rfl rfl dX6_goOn_24 ⟨rfl, rfl, ⟨trivial, (by first | exact GOP.ext rw14 hW_0 h_x (by omega) | exact GOP.keep rw21 hW_0 h_x (orv_fr (by assumption) hW_0 h_x (by decide +kernel) (by decide +kernel)) (dav_fr (by assumption) hW_0 h_x (by decide +kernel) (by decide +kernel)) (by omega))⟩⟩

theorem t_X6_goOn_5 {K : Kmap} {V : Vmap} {x : Nat} {p0 : Int} {p1 : Int} (h_x : K x = some (0, 5)) (r_p0 : ir p0) (r_p1 : ir p1) (q_0 : ((p0 ≥ 3 ∧ p0 ≤ 8))) : MC mX6_goOn_5 K V [.ref x, ti p0, ti p1] (VS K (fun V1 => (True) ∧ (GOP V V1 x p0 p1))) := by
  exact t_X6_goOn_5_G h_x r_p0 r_p1 (by omega) (by omega)

set_option maxHeartbeats 1000000 in
theorem t_X6_extend_6_G {K : Kmap} {V : Vmap} {x : Nat} {p0 : Int} {p1 : Int} (h_x : K x = some (0, 5)) (r_p0 : ir p0) (r_p1 : ir p1) (q_0 : p0 ≥ 2) (q_1 : p0 ≤ 7) : MC mX6_extend_6 K V [.ref x, ti p0, ti p1] (VS K (fun V1 => (True) ∧ (XTP V V1 x p0 p1))) := by
  refine MC.start 1 (by decide +kernel) rfl rfl rfl (ls0 := [some (.ref x), some (ti p0), some (ti p1), none]) rfl ?_
  refine GO.useWT (fun hW_0 => ?_)
  refine GO.iconst dX6_extend_0 ?_
  refine GO.istore_n (ls1 := [some (.ref x), some (ti p0), some (ti p1), some (ti 0)]) dX6_extend_1 rfl rfl rfl ?_
  refine GO.loop1 (fun i1 W => 0 ≤ i1 ∧ i1 ≤ 8 ∧ (i1 ≥ 0) ∧ (XTI V W x p0 p1 i1) ∧ True) (fun i1 => [some (.ref x), some (ti p0), some (ti p1), some (ti i1)]) (fun i1 W => (2147483647 - i1).toNat) 0 ⟨by omega, by omega, by omega, (by first | exact XTI.beg | exact XTI.skip hxt hW_0 h_x (by assumption) (by omega) (by omega) | exact XTI.no hxt hW_0 h_x hpe hah (vi_fr (by assumption) h_x h_x (by decide +kernel)) (bev_fr (by assumption) hWx h_x (by decide +kernel) (by decide +kernel)) (orv_fr (by assumption) hWx h_x (by decide +kernel) (by decide +kernel)) (by omega) rw29 (by omega) rfl (by assumption) (by omega) | exact XTI.go hxt hW_0 hWy h_x hpe hah hpe2 hah2 (vi_fr (by assumption) h_x h_x (by decide +kernel)) (bev_fr (by assumption) hWx h_x (by decide +kernel) (by decide +kernel)) (orv_fr (by assumption) hWx h_x (by decide +kernel) (by decide +kernel)) (by omega) rw29 (by omega) rfl (by assumption) (by assumption) rw41 rw53 rfl rfl (by omega)), trivial⟩ rfl (fun i1 Wi1 hp108 ih107 => ?_)
  obtain ⟨l_i1, u_i1, n_i1, hxt, -⟩ := hp108
  have r_i1 : ir i1 := ⟨by omega, by omega⟩
  show GO mX6_extend_6 K V (VS K (fun V1 => (True) ∧ (XTP V V1 x p0 p1))) K Wi1 0 0 2 [some (.ref x), some (ti p0), some (ti p1), some (ti i1)] []
  refine GO.useFR (fun hFs => ?_)
  have hpe : PEC Wi1 x = PEC V x := PEC.fr hFs hW_0 h_x (vi_fr hFs h_x h_x (by decide +kernel)) (by decide +kernel)
  have hsz : vi Wi1 (vq Wi1 x 0) 3 = vi V (vq V x 0) 3 := psz_fr hFs hW_0 h_x (by decide +kernel)
  have hah : ahv Wi1 x = ahv V x := ahv_fr hFs hW_0 h_x (by decide +kernel) (by decide +kernel)
  refine GO.useWT (fun hWx => ?_)
  refine GO.iload_n dX6_extend_2 rfl rfl ?_
  refine GO.aload_n dX6_extend_3 rfl rfl ?_
  refine GO.getR h_x fl_RX6_14 rfl rfl dX6_extend_4 (fun hv110 h109 => ?_)
  refine GO.getI h109 fl_RX6_55_k24 rfl rfl dX6_extend_7 (fun l111 u112 => ?_)
  refine GO.icmp_ge (tgt := 62) dX6_extend_10 (by decide) r_i1 vi_ir (fun c113 => ?_) (fun c113 => ?_)
  ·
    exact GO.retv rfl rfl dX6_extend_62 ⟨rfl, rfl, ⟨trivial, XTP.mk hxt hW_0 h_x (by omega)⟩⟩
  ·
    refine GO.iload_n dX6_extend_13 rfl rfl ?_
    refine GO.iload_n dX6_extend_14 rfl rfl ?_
    refine GO.ishr dX6_extend_15 ?_
    refine GO.iconst dX6_extend_16 ?_
    refine GO.iand dX6_extend_17 ?_
    refine GO.if_ne (tgt := 56) dX6_extend_18 (by decide) wand_ir (fun c114 => ?_) (fun c114 => ?_)
    ·
      refine GO.iinc (X := i1) (n := 1) (Y := i1 + 1) (ls1 := [some (.ref x), some (ti p0), some (ti p1), some (ti (i1 + 1))]) dX6_extend_56 rfl rfl rfl rfl ?_
      refine GO.goto (tgt := 2) dX6_extend_59 (by decide) ?_
      exact ih107 (i1 + 1) Wi1 ⟨by omega, by omega, by omega, (by first | exact XTI.beg | exact XTI.skip hxt hW_0 h_x (by assumption) (by omega) (by omega) | exact XTI.no hxt hW_0 h_x hpe hah (vi_fr (by assumption) h_x h_x (by decide +kernel)) (bev_fr (by assumption) hWx h_x (by decide +kernel) (by decide +kernel)) (orv_fr (by assumption) hWx h_x (by decide +kernel) (by decide +kernel)) (by omega) rw29 (by omega) rfl (by assumption) (by omega) | exact XTI.go hxt hW_0 hWy h_x hpe hah hpe2 hah2 (vi_fr (by assumption) h_x h_x (by decide +kernel)) (bev_fr (by assumption) hWx h_x (by decide +kernel) (by decide +kernel)) (orv_fr (by assumption) hWx h_x (by decide +kernel) (by decide +kernel)) (by omega) rw29 (by omega) rfl (by assumption) (by assumption) rw41 rw53 rfl rfl (by omega)), trivial⟩ (by show (2147483647 - (i1 + 1)).toNat < (2147483647 - i1).toNat; omega)
    ·
      refine GO.aload_n dX6_extend_21 rfl rfl ?_
      refine GO.iload_n dX6_extend_22 rfl rfl ?_
      refine GO.iload_n dX6_extend_23 rfl rfl ?_
      refine GO.iload_n dX6_extend_24 rfl rfl ?_
      refine GO.iconst dX6_extend_25 ?_
      refine GO.iload_n dX6_extend_26 rfl rfl ?_
      refine GO.ishl dX6_extend_27 ?_
      refine GO.ior dX6_extend_28 ?_
      refine GO.callV (ci := 5) (N := mX6_comes) dX6_extend_29 (RX6, TX6, 10) rfl gV_RX6_86 h_x (t_X6_comes h_x r_p0 r_i1 wor_ir) rfl [] rfl rfl (Nat.le_of_ble_eq_true rfl) rfl (k_is fun X115 V119 r116 h117 hF118 => ?_)
      have raw_comes := h117.2.2.2
      have rw29 := h117.2.2.2
      refine GO.if_eq (tgt := 56) dX6_extend_32 (by decide) r116 (fun c120 => ?_) (fun c120 => ?_)
      ·
        refine GO.iinc (X := i1) (n := 1) (Y := i1 + 1) (ls1 := [some (.ref x), some (ti p0), some (ti p1), some (ti (i1 + 1))]) dX6_extend_56 rfl rfl rfl rfl ?_
        refine GO.goto (tgt := 2) dX6_extend_59 (by decide) ?_
        exact ih107 (i1 + 1) V119 ⟨by omega, by omega, by omega, (by first | exact XTI.beg | exact XTI.skip hxt hW_0 h_x (by assumption) (by omega) (by omega) | exact XTI.no hxt hW_0 h_x hpe hah (vi_fr hF118 h_x h_x (by decide +kernel)) (bev_fr hF118 hWx h_x (by decide +kernel) (by decide +kernel)) (orv_fr hF118 hWx h_x (by decide +kernel) (by decide +kernel)) (by omega) rw29 (by omega) rfl (by assumption) (by omega) | exact XTI.go hxt hW_0 hWy h_x hpe hah hpe2 hah2 (vi_fr hF118 h_x h_x (by decide +kernel)) (bev_fr hF118 hWx h_x (by decide +kernel) (by decide +kernel)) (orv_fr hF118 hWx h_x (by decide +kernel) (by decide +kernel)) (by omega) rw29 (by omega) rfl (by assumption) (by assumption) rw41 rw53 rfl rfl (by omega)), trivial⟩ (by show (2147483647 - (i1 + 1)).toNat < (2147483647 - i1).toNat; omega)
      ·
        refine GO.useWT (fun hWy => ?_)
        refine GO.aload_n dX6_extend_35 rfl rfl ?_
        refine GO.getA (n := 8) h_x fl_RX6_33 rfl rfl rfl rfl dX6_extend_36 (fun hv122 h121 => ?_)
        refine GO.iload_n dX6_extend_39 rfl rfl ?_
        refine GO.iload_n dX6_extend_40 rfl rfl ?_
        refine GO.callS (N := mX4_put_t141) dX6_extend_41 gS_RX6_71 (t_X4_put_t141 h121 r_p0 r_i1) rfl [] rfl rfl (Nat.le_of_ble_eq_true rfl) rfl (k_vs fun V125 h124 hF123 => ?_)
        have raw_put := h124.2
        have rw41 := h124.2
        refine GO.useFR (fun hFs => ?_)
        have hpe2 : PEC V125 x = PEC V x := PEC.fr hFs hW_0 h_x (vi_fr hFs h_x h_x (by decide +kernel)) (by decide +kernel)
        have hsz2 : vi V125 (vq V125 x 0) 3 = vi V (vq V x 0) 3 := psz_fr hFs hW_0 h_x (by decide +kernel)
        have hah2 : ahv V125 x = ahv V x := ahv_fr hFs hW_0 h_x (by decide +kernel) (by decide +kernel)
        refine GO.aload_n dX6_extend_44 rfl rfl ?_
        refine GO.iload_n dX6_extend_45 rfl rfl ?_
        refine GO.iconst dX6_extend_46 ?_
        refine GO.iadd dX6_extend_47 ?_
        refine GO.iload_n dX6_extend_48 rfl rfl ?_
        refine GO.iconst dX6_extend_49 ?_
        refine GO.iload_n dX6_extend_50 rfl rfl ?_
        refine GO.ishl dX6_extend_51 ?_
        refine GO.ior dX6_extend_52 ?_
        have q126 : -2147483648 ≤ p0 ∧ p0 ≤ 2147483647 := r_p0
        refine GO.callV (ci := 5) (N := mX6_goOn_5) dX6_extend_53 (RX6, TX6, 10) rfl gV_RX6_90 h_x (t_X6_goOn_5 h_x ⟨by omega, by omega⟩ wor_ir (by omega)) rfl [] rfl rfl (Nat.le_of_ble_eq_true rfl) rfl (k_vs fun V129 h128 hF127 => ?_)
        have raw_goOn := h128.2
        have rw53 := h128.2
        refine GO.iinc (X := i1) (n := 1) (Y := i1 + 1) (ls1 := [some (.ref x), some (ti p0), some (ti p1), some (ti (i1 + 1))]) dX6_extend_56 rfl rfl rfl rfl ?_
        refine GO.goto (tgt := 2) dX6_extend_59 (by decide) ?_
        exact ih107 (i1 + 1) V129 ⟨by omega, by omega, by omega, (by first | exact XTI.beg | exact XTI.skip hxt hW_0 h_x (by assumption) (by omega) (by omega) | exact XTI.no hxt hW_0 h_x hpe hah (vi_fr hF118 h_x h_x (by decide +kernel)) (bev_fr hF118 hWx h_x (by decide +kernel) (by decide +kernel)) (orv_fr hF118 hWx h_x (by decide +kernel) (by decide +kernel)) (by omega) rw29 (by omega) rfl (by assumption) (by omega) | exact XTI.go hxt hW_0 hWy h_x hpe hah hpe2 hah2 (vi_fr hF118 h_x h_x (by decide +kernel)) (bev_fr hF118 hWx h_x (by decide +kernel) (by decide +kernel)) (orv_fr hF118 hWx h_x (by decide +kernel) (by decide +kernel)) (by omega) rw29 (by omega) rfl (by assumption) (by assumption) rw41 rw53 rfl rfl (by omega)), trivial⟩ (by show (2147483647 - (i1 + 1)).toNat < (2147483647 - i1).toNat; omega)

theorem t_X6_extend_6 {K : Kmap} {V : Vmap} {x : Nat} {p0 : Int} {p1 : Int} (h_x : K x = some (0, 5)) (r_p0 : ir p0) (r_p1 : ir p1) (q_0 : ((p0 ≥ 2 ∧ p0 ≤ 7))) : MC mX6_extend_6 K V [.ref x, ti p0, ti p1] (VS K (fun V1 => (True) ∧ (XTP V V1 x p0 p1))) := by
  exact t_X6_extend_6_G h_x r_p0 r_p1 (by omega) (by omega)
