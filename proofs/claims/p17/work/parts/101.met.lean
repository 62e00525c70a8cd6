def mX11_check : MRec := (RX11, cX11_check, 3, (some .int), yX11_check, 4, 90, 0, 0, 9797766621314684873895700802803279209044463565243731922466831101232640732633100491228823617617764419367505179450247842283955649007454149170085442756585554871624752266571753841250508572690789992495054848)
def mX11_lookAtStation : MRec := (RX11, cX11_lookAtStation, 3, (some .int), yX11_lookAtStation, 1, 22, 0, 0, 0)
def mX11_look : MRec := (RX11, cX11_look, 4, (some .int), yX11_look, 2, 44, 0, 0, 0)
def mX11_at : MRec := (RX11, cX11_at, 4, (some .int), yX11_at, 1, 21, 0, 0, 0)
def mX11_about : MRec := (RX11, cX11_about, 4, (some .int), yX11_about, 1, 21, 0, 0, 0)
def mX8_has_k29 : MRec := (RX8, cX8_has, 2, (some .boolean), yX8_has, 0, 0, 0, 0, 0)
def mX11_sum : MRec := (RX11, cX11_sum, 3, (some .long), yX11_sum, 1, 24, 0, 0, 0)
def mX11_decidesFrom : MRec := (RX11, cX11_decidesFrom, 3, (some .int), yX11_decidesFrom, 1, 22, 0, 0, 0)
def mX11_sledgesOnWay : MRec := (RX11, cX11_sledgesOnWay, 3, (some .int), yX11_sledgesOnWay, 1, 24, 0, 0, 0)
def mX11_count : MRec := (RX11, cX11_count, 2, (some .int), yX11_count, 2, 46, 0, 0, 0)
def mX12_in : MRec := (RX12, cX12_in, 3, (some .boolean), yX12_in, 0, 0, 0, 0, 0)
def mX12_size : MRec := (RX12, cX12_size, 1, (some .int), yX12_size, 0, 0, 0, 0, 0)
def mX12_begins : MRec := (RX12, cX12_begins, 4, (none : Option Jvm.ClassFile.FieldType), yX12_begins, 0, 0, 0, 0, 29140033383385936063791928602352783599636102585784086660770863519892919988668547989504)
set_option maxHeartbeats 1000000 in
theorem t_X11_check {K : Kmap} {V : Vmap} {x : Nat} {p0 : Int} (h_x : K x = some (0, 10)) (r_p0 : ir p0) : MC mX11_check K V [.ref x, ti p0] (IS K (fun X V1 => (X ≥ (-2147483648) ∧ X ≤ 2147483647) ∧ (CKC V V1 x p0))) := by
  refine MC.start 1 (by decide +kernel) rfl rfl rfl (ls0 := [some (.ref x), some (ti p0), none]) rfl ?_
  refine GO.useWT (fun hW_0 => ?_)
  have htp := tp_rng h_x hW_0
  unfold tpN tpO at htp
  refine GO.iload_n dX11_check_0 rfl rfl ?_
  refine GO.if_lt (tgt := 18) dX11_check_1 (by decide) r_p0 (fun c1 => ?_) (fun c1 => ?_)
  ·
    refine GO.bipush dX11_check_18 rfl ?_
    exact GO.reti rfl rfl dX11_check_20 ⟨rfl, _, rfl, (ir_c rfl), ⟨(by first | exact trivial | omega), (by first | exact CKC.no (by unfold tpN tpO; omega) | exact CKC.mk (by omega) (by unfold tpN tpO; omega) h_x hW_0 (by assumption))⟩⟩
  ·
    refine GO.iload_n dX11_check_4 rfl rfl ?_
    refine GO.aload_n dX11_check_5 rfl rfl ?_
    refine GO.getR h_x fl_RX11_91 rfl rfl dX11_check_6 (fun hv3 h2 => ?_)
    refine GO.getI h2 fl_RX11_199_k31 rfl rfl dX11_check_9 (fun l4 u5 => ?_)
    refine GO.bipush dX11_check_12 rfl ?_
    refine GO.idivP dX11_check_14 vi_ir (ir_c rfl) (by omega) (by omega) ?_
    refine GO.icmp_le (tgt := 21) dX11_check_15 (by decide) r_p0 ⟨by omega, by omega⟩ (fun c6 => ?_) (fun c6 => ?_)
    ·
      refine GO.aload_n dX11_check_21 rfl rfl ?_
      refine GO.iconst dX11_check_22 ?_
      refine GO.iload_n dX11_check_23 rfl rfl ?_
      refine GO.imul dX11_check_24 ?_
      have q7 : -2147483648 ≤ p0 ∧ p0 ≤ 2147483647 := r_p0
      refine GO.callV (ci := 10) (N := mX11_firstWrong) dX11_check_25 (RX11, TX11, 20) rfl gV_RX11_627 h_x (t_X11_firstWrong h_x ⟨by omega, by omega⟩) rfl [] rfl rfl (Nat.le_of_ble_eq_true rfl) rfl (k_ip fun X8 r9 h10 => ?_)
      refine GO.istore_n (ls1 := [some (.ref x), some (ti p0), some (ti X8)]) dX11_check_28 rfl rfl rfl ?_
      refine GO.aload_n dX11_check_29 rfl rfl ?_
      refine GO.getRaw h_x fl_RX11_91 hv3 dX11_check_30 ?_
      refine GO.iconst dX11_check_33 ?_
      refine GO.putI h2 fp_RX11_199_k31 rfl (by decide +kernel) (ir_c rfl) (by decide) (by decide) dX11_check_34 (fun V14 e13 => ?_)
      refine GO.iload_n dX11_check_37 rfl rfl ?_
      have q15 : -2147483648 ≤ X8 ∧ X8 ≤ 2147483647 := r9
      exact GO.reti rfl rfl dX11_check_38 ⟨rfl, _, rfl, r9, ⟨(by first | exact trivial | omega), (by first | exact CKC.no (by unfold tpN tpO; omega) | exact CKC.mk (by omega) (by unfold tpN tpO; omega) h_x hW_0 (by assumption))⟩⟩
    ·
      refine GO.bipush dX11_check_18 rfl ?_
      exact GO.reti rfl rfl dX11_check_20 ⟨rfl, _, rfl, (ir_c rfl), ⟨(by first | exact trivial | omega), (by first | exact CKC.no (by unfold tpN tpO; omega) | exact CKC.mk (by omega) (by unfold tpN tpO; omega) h_x hW_0 (by assumption))⟩⟩

set_option maxHeartbeats 1000000 in
theorem t_X11_lookAtStation {K : Kmap} {V : Vmap} {x : Nat} {p0 : Nat} {p1 : Int} (h_x : K x = some (0, 10)) (h_p0 : K p0 = some (0, 3)) (r_p1 : ir p1) : MC mX11_lookAtStation K V [.ref x, .ref p0, ti p1] (IP K V (fun X => True)) := by
  refine MC.start 0 (by decide +kernel) rfl rfl rfl (ls0 := [some (.ref x), some (.ref p0), some (ti p1)]) rfl ?_
  refine GO.iload_n dX11_lookAtStation_0 rfl rfl ?_
  have q1 : -2147483648 ≤ p1 ∧ p1 ≤ 2147483647 := r_p1
  rcases (show (p1 < 6 ∨ 9 < p1) ∨ p1 = 6 ∨ p1 = 7 ∨ p1 = 8 ∨ p1 = 9 by omega) with c2 | c2 | c2 | c2 | c2
  ·
    refine GO.tableOut (tgt := 52) dX11_lookAtStation_1 r_p1 c2 (by decide) ?_
    refine GO.iload_n dX11_lookAtStation_52 rfl rfl ?_
    refine GO.bipush dX11_lookAtStation_53 rfl ?_
    refine GO.bipush dX11_lookAtStation_55 rfl ?_
    refine GO.callS (N := mX11_between) dX11_lookAtStation_57 gS_RX11_112 (t_X11_between r_p1 (ir_c rfl) (ir_c rfl)) rfl [] rfl rfl (Nat.le_of_ble_eq_true rfl) rfl (k_ip fun X3 r4 h5 => ?_)
    refine GO.if_eq (tgt := 77) dX11_lookAtStation_60 (by decide) r4 (fun c6 => ?_) (fun c6 => ?_)
    ·
      have q7 := h5.2.2 (by omega)
      refine GO.iconst dX11_lookAtStation_77 ?_
      exact GO.reti rfl rfl dX11_lookAtStation_78 ⟨rfl, rfl, _, rfl, (ir_c rfl), trivial⟩
    ·
      have q8 := h5.2.1 (by omega)
      refine GO.aload_n dX11_lookAtStation_63 rfl rfl ?_
      refine GO.getNB h_p0 fl_RX11_491 rfl rfl dX11_lookAtStation_64 (fun hv10 => ?_) (fun n11 hv10 h9 b12 => ?_)
      ·
        refine GO.iload_n dX11_lookAtStation_67 rfl rfl ?_
        refine GO.bipush dX11_lookAtStation_68 rfl ?_
        refine GO.isub dX11_lookAtStation_70 ?_
        refine GO.callS (N := mX4_get_n) dX11_lookAtStation_71 gS_RX11_253 (t_X4_get_n ⟨by omega, by omega⟩) rfl [] rfl rfl (Nat.le_of_ble_eq_true rfl) rfl (k_ip fun X13 r14 h15 => ?_)
        refine GO.goto (tgt := 78) dX11_lookAtStation_74 (by decide) ?_
        have q16 : -2147483648 ≤ X13 ∧ X13 ≤ 2147483647 := r14
        exact GO.reti rfl rfl dX11_lookAtStation_78 ⟨rfl, rfl, _, rfl, r14, trivial⟩
      ·
        refine GO.iload_n dX11_lookAtStation_67 rfl rfl ?_
        refine GO.bipush dX11_lookAtStation_68 rfl ?_
        refine GO.isub dX11_lookAtStation_70 ?_
        refine GO.callS (N := mX4_get) dX11_lookAtStation_71 gS_RX11_253 (t_X4_get rfl h9 ⟨by omega, by omega⟩) rfl [] rfl rfl (Nat.le_of_ble_eq_true rfl) rfl (k_ip fun X17 r18 h19 => ?_)
        have raw_get := h19.2
        have rw71 := h19.2
        refine GO.goto (tgt := 78) dX11_lookAtStation_74 (by decide) ?_
        exact GO.reti rfl rfl dX11_lookAtStation_78 ⟨rfl, rfl, _, rfl, r18, trivial⟩
  ·
    refine GO.tableAt (n := 6) (tgt := 32) dX11_lookAtStation_1 (ir_c rfl) c2 (by decide) (by decide) rfl (by decide) ?_
    refine GO.aload_n dX11_lookAtStation_32 rfl rfl ?_
    refine GO.getI h_p0 fl_RX11_183 rfl rfl dX11_lookAtStation_33 (fun _ _ => ?_)
    have q20 : -2147483648 ≤ vi V p0 6 ∧ vi V p0 6 ≤ 2147483647 := vi_ir
    exact GO.reti rfl rfl dX11_lookAtStation_36 ⟨rfl, rfl, _, rfl, vi_ir, trivial⟩
  ·
    refine GO.tableAt (n := 7) (tgt := 37) dX11_lookAtStation_1 (ir_c rfl) c2 (by decide) (by decide) rfl (by decide) ?_
    refine GO.aload_n dX11_lookAtStation_37 rfl rfl ?_
    refine GO.getI h_p0 fl_RX11_186 rfl rfl dX11_lookAtStation_38 (fun _ _ => ?_)
    have q21 : -2147483648 ≤ vi V p0 7 ∧ vi V p0 7 ≤ 2147483647 := vi_ir
    exact GO.reti rfl rfl dX11_lookAtStation_41 ⟨rfl, rfl, _, rfl, vi_ir, trivial⟩
  ·
    refine GO.tableAt (n := 8) (tgt := 42) dX11_lookAtStation_1 (ir_c rfl) c2 (by decide) (by decide) rfl (by decide) ?_
    refine GO.aload_n dX11_lookAtStation_42 rfl rfl ?_
    refine GO.getI h_p0 fl_RX11_421 rfl rfl dX11_lookAtStation_43 (fun _ _ => ?_)
    have q22 : -2147483648 ≤ vi V p0 8 ∧ vi V p0 8 ≤ 2147483647 := vi_ir
    exact GO.reti rfl rfl dX11_lookAtStation_46 ⟨rfl, rfl, _, rfl, vi_ir, trivial⟩
  ·
    refine GO.tableAt (n := 9) (tgt := 47) dX11_lookAtStation_1 (ir_c rfl) c2 (by decide) (by decide) rfl (by decide) ?_
    refine GO.aload_n dX11_lookAtStation_47 rfl rfl ?_
    refine GO.getI h_p0 fl_RX11_501 rfl rfl dX11_lookAtStation_48 (fun _ _ => ?_)
    have q23 : -2147483648 ≤ vi V p0 9 ∧ vi V p0 9 ≤ 2147483647 := vi_ir
    exact GO.reti rfl rfl dX11_lookAtStation_51 ⟨rfl, rfl, _, rfl, vi_ir, trivial⟩

set_option maxHeartbeats 1000000 in
theorem t_X11_look {K : Kmap} {V : Vmap} {x : Nat} {p0 : Int} {p1 : Int} (h_x : K x = some (0, 10)) (r_p0 : ir p0) (r_p1 : ir p1) : MC mX11_look K V [.ref x, ti p0, ti p1] (IP K V (fun X => True)) := by
  refine MC.start 1 (by decide +kernel) rfl rfl rfl (ls0 := [some (.ref x), some (ti p0), some (ti p1), none]) rfl ?_
  refine GO.aload_n dX11_look_0 rfl rfl ?_
  refine GO.iload_n dX11_look_1 rfl rfl ?_
  refine GO.callV (ci := 10) (N := mX11_anyPlace) dX11_look_2 (RX11, TX11, 20) rfl gV_RX11_384 h_x (t_X11_anyPlace h_x r_p0) rfl [] rfl rfl (Nat.le_of_ble_eq_true rfl) rfl (k_rp (fun h3 => ?_) (fun o1 h2 h3 => ?_))
  ·
    refine GO.astore_nN (ls1 := [some (.ref x), some (ti p0), some (ti p1), some (.null)]) dX11_look_5 rfl rfl rfl ?_
    refine GO.aload_nN dX11_look_6 rfl rfl ?_
    refine GO.ifnonnullN dX11_look_7 ?_
    refine GO.iconst dX11_look_10 ?_
    exact GO.reti rfl rfl dX11_look_11 ⟨rfl, rfl, _, rfl, (ir_c rfl), trivial⟩
  ·
    refine GO.astore_n (ls1 := [some (.ref x), some (ti p0), some (ti p1), some (.ref o1)]) dX11_look_5 rfl rfl rfl ?_
    refine GO.aload_n dX11_look_6 rfl rfl ?_
    refine GO.ifnonnull (tgt := 12) dX11_look_7 (by decide) ?_
    refine GO.iload_n dX11_look_12 rfl rfl ?_
    have q4 : -2147483648 ≤ p1 ∧ p1 ≤ 2147483647 := r_p1
    rcases (show (p1 < 0 ∨ 5 < p1) ∨ p1 = 0 ∨ p1 = 1 ∨ p1 = 2 ∨ p1 = 3 ∨ p1 = 4 ∨ p1 = 5 by omega) with c5 | c5 | c5 | c5 | c5 | c5 | c5
    ·
      refine GO.tableOut (tgt := 90) dX11_look_13 r_p1 c5 (by decide) ?_
      refine GO.aload_n dX11_look_90 rfl rfl ?_
      refine GO.getI h2 fl_RX11_387 rfl rfl dX11_look_91 (fun _ _ => ?_)
      refine GO.iconst dX11_look_94 ?_
      refine GO.icmp_ne (tgt := 107) dX11_look_95 (by decide) vi_ir (ir_c rfl) (fun c6 => ?_) (fun c6 => ?_)
      ·
        refine GO.iconst dX11_look_107 ?_
        exact GO.reti rfl rfl dX11_look_108 ⟨rfl, rfl, _, rfl, (ir_c rfl), trivial⟩
      ·
        refine GO.aload_n dX11_look_98 rfl rfl ?_
        refine GO.aload_n dX11_look_99 rfl rfl ?_
        refine GO.iload_n dX11_look_100 rfl rfl ?_
        refine GO.callV (ci := 10) (N := mX11_lookAtStation) dX11_look_101 (RX11, TX11, 20) rfl gV_RX11_633 h_x (t_X11_lookAtStation h_x h2 r_p1) rfl [] rfl rfl (Nat.le_of_ble_eq_true rfl) rfl (k_ip fun X7 r8 h9 => ?_)
        refine GO.goto (tgt := 108) dX11_look_104 (by decide) ?_
        have q10 : -2147483648 ≤ X7 ∧ X7 ≤ 2147483647 := r8
        exact GO.reti rfl rfl dX11_look_108 ⟨rfl, rfl, _, rfl, r8, trivial⟩
    ·
      refine GO.tableAt (n := 0) (tgt := 52) dX11_look_13 (ir_c rfl) c5 (by decide) (by decide) rfl (by decide) ?_
      refine GO.aload_n dX11_look_52 rfl rfl ?_
      refine GO.getI h2 fl_RX11_387 rfl rfl dX11_look_53 (fun _ _ => ?_)
      have q11 : -2147483648 ≤ vi V o1 0 ∧ vi V o1 0 ≤ 2147483647 := vi_ir
      exact GO.reti rfl rfl dX11_look_56 ⟨rfl, rfl, _, rfl, vi_ir, trivial⟩
    ·
      refine GO.tableAt (n := 1) (tgt := 57) dX11_look_13 (ir_c rfl) c5 (by decide) (by decide) rfl (by decide) ?_
      refine GO.aload_n dX11_look_57 rfl rfl ?_
      refine GO.getI h2 fl_RX11_173 rfl rfl dX11_look_58 (fun _ _ => ?_)
      have q12 : -2147483648 ≤ vi V o1 1 ∧ vi V o1 1 ≤ 2147483647 := vi_ir
      exact GO.reti rfl rfl dX11_look_61 ⟨rfl, rfl, _, rfl, vi_ir, trivial⟩
    ·
      refine GO.tableAt (n := 2) (tgt := 62) dX11_look_13 (ir_c rfl) c5 (by decide) (by decide) rfl (by decide) ?_
      refine GO.aload_n dX11_look_62 rfl rfl ?_
      refine GO.getI h2 fl_RX11_344 rfl rfl dX11_look_63 (fun _ _ => ?_)
      have q13 : -2147483648 ≤ vi V o1 2 ∧ vi V o1 2 ≤ 2147483647 := vi_ir
      exact GO.reti rfl rfl dX11_look_66 ⟨rfl, rfl, _, rfl, vi_ir, trivial⟩
    ·
      refine GO.tableAt (n := 3) (tgt := 67) dX11_look_13 (ir_c rfl) c5 (by decide) (by decide) rfl (by decide) ?_
      refine GO.aload_n dX11_look_67 rfl rfl ?_
      refine GO.getI h2 fl_RX11_347 rfl rfl dX11_look_68 (fun _ _ => ?_)
      have q14 : -2147483648 ≤ vi V o1 3 ∧ vi V o1 3 ≤ 2147483647 := vi_ir
      exact GO.reti rfl rfl dX11_look_71 ⟨rfl, rfl, _, rfl, vi_ir, trivial⟩
    ·
      refine GO.tableAt (n := 4) (tgt := 72) dX11_look_13 (ir_c rfl) c5 (by decide) (by decide) rfl (by decide) ?_
      refine GO.aload_n dX11_look_72 rfl rfl ?_
      refine GO.getI h2 fl_RX11_176 rfl rfl dX11_look_73 (fun _ _ => ?_)
      have q15 : -2147483648 ≤ vi V o1 4 ∧ vi V o1 4 ≤ 2147483647 := vi_ir
      exact GO.reti rfl rfl dX11_look_76 ⟨rfl, rfl, _, rfl, vi_ir, trivial⟩
    ·
      refine GO.tableAt (n := 5) (tgt := 77) dX11_look_13 (ir_c rfl) c5 (by decide) (by decide) rfl (by decide) ?_
      refine GO.aload_n dX11_look_77 rfl rfl ?_
      refine GO.getI h2 fl_RX11_511 rfl rfl dX11_look_78 (fun l16 u17 => ?_)
      refine GO.if_eq (tgt := 88) dX11_look_81 (by decide) vi_ir (fun c18 => ?_) (fun c18 => ?_)
      ·
        refine GO.iconst dX11_look_88 ?_
        exact GO.reti rfl rfl dX11_look_89 ⟨rfl, rfl, _, rfl, (ir_c rfl), trivial⟩
      ·
        refine GO.iconst dX11_look_84 ?_
        refine GO.goto (tgt := 89) dX11_look_85 (by decide) ?_
        exact GO.reti rfl rfl dX11_look_89 ⟨rfl, rfl, _, rfl, (ir_c rfl), trivial⟩

set_option maxHeartbeats 1000000 in
theorem t_X11_at {K : Kmap} {V : Vmap} {x : Nat} {p0 : Int} {p1 : Int} (h_x : K x = some (0, 10)) (r_p0 : ir p0) (r_p1 : ir p1) : MC mX11_at K V [.ref x, ti p0, ti p1] (IP K V (fun X => True)) := by
  refine MC.start 1 (by decide +kernel) rfl rfl rfl (ls0 := [some (.ref x), some (ti p0), some (ti p1), none]) rfl ?_
  refine GO.aload_n dX11_at_0 rfl rfl ?_
  refine GO.iload_n dX11_at_1 rfl rfl ?_
  refine GO.callV (ci := 10) (N := mX11_shipOf) dX11_at_2 (RX11, TX11, 20) rfl gV_RX11_403 h_x (t_X11_shipOf h_x r_p0) rfl [] rfl rfl (Nat.le_of_ble_eq_true rfl) rfl (k_rp (fun h3 => ?_) (fun o1 h2 h3 => ?_))
  ·
    have rwn2 := h3.2
    have hn4 : SN V x → p0 < 0 ∨ vi V x 10 ≤ p0 := h3.2
    refine GO.astore_nN (ls1 := [some (.ref x), some (ti p0), some (ti p1), some (.null)]) dX11_at_5 rfl rfl rfl ?_
    refine GO.aload_nN dX11_at_6 rfl rfl ?_
    refine GO.ifnonnullN dX11_at_7 ?_
    refine GO.iconst dX11_at_10 ?_
    exact GO.reti rfl rfl dX11_at_11 ⟨rfl, rfl, _, rfl, (ir_c rfl), trivial⟩
  ·
    have hp5 : p0 ≥ 0 ∧ p0 < vi V x 10 := h3.1
    have rwp2 := h3.2
    have hq6 : o1 = vq V (vq V x 9) (p0).toNat := h3.2
    refine GO.astore_n (ls1 := [some (.ref x), some (ti p0), some (ti p1), some (.ref o1)]) dX11_at_5 rfl rfl rfl ?_
    refine GO.aload_n dX11_at_6 rfl rfl ?_
    refine GO.ifnonnull (tgt := 12) dX11_at_7 (by decide) ?_
    refine GO.iload_n dX11_at_12 rfl rfl ?_
    have q7 : -2147483648 ≤ p1 ∧ p1 ≤ 2147483647 := r_p1
    rcases (show (p1 < 0 ∨ 4 < p1) ∨ p1 = 0 ∨ p1 = 1 ∨ p1 = 2 ∨ p1 = 3 ∨ p1 = 4 by omega) with c8 | c8 | c8 | c8 | c8 | c8
    ·
      refine GO.tableOut (tgt := 93) dX11_at_13 r_p1 c8 (by decide) ?_
      refine GO.iconst dX11_at_93 ?_
      exact GO.reti rfl rfl dX11_at_94 ⟨rfl, rfl, _, rfl, (ir_c rfl), trivial⟩
    ·
      refine GO.tableAt (n := 0) (tgt := 48) dX11_at_13 (ir_c rfl) c8 (by decide) (by decide) rfl (by decide) ?_
      refine GO.aload_n dX11_at_48 rfl rfl ?_
      refine GO.getI h2 fl_RX11_410 rfl rfl dX11_at_49 (fun _ _ => ?_)
      have q9 : -2147483648 ≤ vi V o1 3 ∧ vi V o1 3 ≤ 2147483647 := vi_ir
      exact GO.reti rfl rfl dX11_at_52 ⟨rfl, rfl, _, rfl, vi_ir, trivial⟩
    ·
      refine GO.tableAt (n := 1) (tgt := 53) dX11_at_13 (ir_c rfl) c8 (by decide) (by decide) rfl (by decide) ?_
      refine GO.aload_n dX11_at_53 rfl rfl ?_
      refine GO.getI h2 fl_RX11_552 rfl rfl dX11_at_54 (fun _ _ => ?_)
      have q10 : -2147483648 ≤ vi V o1 6 ∧ vi V o1 6 ≤ 2147483647 := vi_ir
      exact GO.reti rfl rfl dX11_at_57 ⟨rfl, rfl, _, rfl, vi_ir, trivial⟩
    ·
      refine GO.tableAt (n := 2) (tgt := 58) dX11_at_13 (ir_c rfl) c8 (by decide) (by decide) rfl (by decide) ?_
      refine GO.aload_n dX11_at_58 rfl rfl ?_
      refine GO.getI h2 fl_RX11_553 rfl rfl dX11_at_59 (fun _ _ => ?_)
      have q11 : -2147483648 ≤ vi V o1 7 ∧ vi V o1 7 ≤ 2147483647 := vi_ir
      exact GO.reti rfl rfl dX11_at_62 ⟨rfl, rfl, _, rfl, vi_ir, trivial⟩
    ·
      refine GO.tableAt (n := 3) (tgt := 63) dX11_at_13 (ir_c rfl) c8 (by decide) (by decide) rfl (by decide) ?_
      refine GO.aload_n dX11_at_63 rfl rfl ?_
      refine GO.getI h2 fl_RX11_410 rfl rfl dX11_at_64 (fun _ _ => ?_)
      refine GO.iconst dX11_at_67 ?_
      refine GO.icmp_eq (tgt := 79) dX11_at_68 (by decide) vi_ir (ir_c rfl) (fun c12 => ?_) (fun c12 => ?_)
      ·
        refine GO.aload_n dX11_at_79 rfl rfl ?_
        refine GO.getI h2 fl_RX11_522 rfl rfl dX11_at_80 (fun _ _ => ?_)
        refine GO.goto (tgt := 87) dX11_at_83 (by decide) ?_
        have q13 : -2147483648 ≤ vi V o1 8 ∧ vi V o1 8 ≤ 2147483647 := vi_ir
        exact GO.reti rfl rfl dX11_at_87 ⟨rfl, rfl, _, rfl, vi_ir, trivial⟩
      ·
        refine GO.aload_n dX11_at_71 rfl rfl ?_
        refine GO.getI h2 fl_RX11_410 rfl rfl dX11_at_72 (fun _ _ => ?_)
        refine GO.iconst dX11_at_75 ?_
        refine GO.icmp_ne (tgt := 86) dX11_at_76 (by decide) vi_ir (ir_c rfl) (fun c14 => ?_) (fun c14 => ?_)
        ·
          refine GO.iconst dX11_at_86 ?_
          exact GO.reti rfl rfl dX11_at_87 ⟨rfl, rfl, _, rfl, (ir_c rfl), trivial⟩
        ·
          refine GO.aload_n dX11_at_79 rfl rfl ?_
          refine GO.getI h2 fl_RX11_522 rfl rfl dX11_at_80 (fun _ _ => ?_)
          refine GO.goto (tgt := 87) dX11_at_83 (by decide) ?_
          have q15 : -2147483648 ≤ vi V o1 8 ∧ vi V o1 8 ≤ 2147483647 := vi_ir
          exact GO.reti rfl rfl dX11_at_87 ⟨rfl, rfl, _, rfl, vi_ir, trivial⟩
    ·
      refine GO.tableAt (n := 4) (tgt := 88) dX11_at_13 (ir_c rfl) c8 (by decide) (by decide) rfl (by decide) ?_
      refine GO.aload_n dX11_at_88 rfl rfl ?_
      refine GO.getI h2 fl_RX11_546 rfl rfl dX11_at_89 (fun _ _ => ?_)
      have q16 : -2147483648 ≤ vi V o1 9 ∧ vi V o1 9 ≤ 2147483647 := vi_ir
      exact GO.reti rfl rfl dX11_at_92 ⟨rfl, rfl, _, rfl, vi_ir, trivial⟩

set_option maxHeartbeats 1000000 in
theorem t_X11_about {K : Kmap} {V : Vmap} {x : Nat} {p0 : Int} {p1 : Int} (h_x : K x = some (0, 10)) (r_p0 : ir p0) (r_p1 : ir p1) : MC mX11_about K V [.ref x, ti p0, ti p1] (IP K V (fun X => True)) := by
  refine MC.start 1 (by decide +kernel) rfl rfl rfl (ls0 := [some (.ref x), some (ti p0), some (ti p1), none]) rfl ?_
  refine GO.aload_n dX11_about_0 rfl rfl ?_
  refine GO.iload_n dX11_about_1 rfl rfl ?_
  refine GO.callV (ci := 10) (N := mX11_workOf) dX11_about_2 (RX11, TX11, 20) rfl gV_RX11_309 h_x (t_X11_workOf h_x r_p0) rfl [] rfl rfl (Nat.le_of_ble_eq_true rfl) rfl (k_rp (fun h3 => ?_) (fun o1 h2 h3 => ?_))
  ·
    refine GO.astore_nN (ls1 := [some (.ref x), some (ti p0), some (ti p1), some (.null)]) dX11_about_5 rfl rfl rfl ?_
    refine GO.aload_nN dX11_about_6 rfl rfl ?_
    refine GO.ifnonnullN dX11_about_7 ?_
    refine GO.iconst dX11_about_10 ?_
    exact GO.reti rfl rfl dX11_about_11 ⟨rfl, rfl, _, rfl, (ir_c rfl), trivial⟩
  ·
    refine GO.astore_n (ls1 := [some (.ref x), some (ti p0), some (ti p1), some (.ref o1)]) dX11_about_5 rfl rfl rfl ?_
    refine GO.aload_n dX11_about_6 rfl rfl ?_
    refine GO.ifnonnull (tgt := 12) dX11_about_7 (by decide) ?_
    refine GO.iload_n dX11_about_12 rfl rfl ?_
    have q4 : -2147483648 ≤ p1 ∧ p1 ≤ 2147483647 := r_p1
    rcases (show (p1 < 0 ∨ 10 < p1) ∨ p1 = 0 ∨ p1 = 1 ∨ p1 = 2 ∨ p1 = 3 ∨ p1 = 4 ∨ p1 = 5 ∨ p1 = 6 ∨ p1 = 7 ∨ p1 = 8 ∨ p1 = 9 ∨ p1 = 10 by omega) with c5 | c5 | c5 | c5 | c5 | c5 | c5 | c5 | c5 | c5 | c5 | c5
    ·
      refine GO.tableOut (tgt := 127) dX11_about_13 r_p1 c5 (by decide) ?_
      refine GO.iconst dX11_about_127 ?_
      exact GO.reti rfl rfl dX11_about_128 ⟨rfl, rfl, _, rfl, (ir_c rfl), trivial⟩
    ·
      refine GO.tableAt (n := 0) (tgt := 72) dX11_about_13 (ir_c rfl) c5 (by decide) (by decide) rfl (by decide) ?_
      refine GO.aload_n dX11_about_72 rfl rfl ?_
      refine GO.getI h2 fl_RX11_375 rfl rfl dX11_about_73 (fun _ _ => ?_)
      have q6 : -2147483648 ≤ vi V o1 0 ∧ vi V o1 0 ≤ 2147483647 := vi_ir
      exact GO.reti rfl rfl dX11_about_76 ⟨rfl, rfl, _, rfl, vi_ir, trivial⟩
    ·
      refine GO.tableAt (n := 1) (tgt := 77) dX11_about_13 (ir_c rfl) c5 (by decide) (by decide) rfl (by decide) ?_
      refine GO.aload_n dX11_about_77 rfl rfl ?_
      refine GO.getI h2 fl_RX11_353 rfl rfl dX11_about_78 (fun _ _ => ?_)
      have q7 : -2147483648 ≤ vi V o1 1 ∧ vi V o1 1 ≤ 2147483647 := vi_ir
      exact GO.reti rfl rfl dX11_about_81 ⟨rfl, rfl, _, rfl, vi_ir, trivial⟩
    ·
      refine GO.tableAt (n := 2) (tgt := 82) dX11_about_13 (ir_c rfl) c5 (by decide) (by decide) rfl (by decide) ?_
      refine GO.aload_n dX11_about_82 rfl rfl ?_
      refine GO.getI h2 fl_RX11_378 rfl rfl dX11_about_83 (fun _ _ => ?_)
      have q8 : -2147483648 ≤ vi V o1 2 ∧ vi V o1 2 ≤ 2147483647 := vi_ir
      exact GO.reti rfl rfl dX11_about_86 ⟨rfl, rfl, _, rfl, vi_ir, trivial⟩
    ·
      refine GO.tableAt (n := 3) (tgt := 87) dX11_about_13 (ir_c rfl) c5 (by decide) (by decide) rfl (by decide) ?_
      refine GO.aload_n dX11_about_87 rfl rfl ?_
      refine GO.getI h2 fl_RX11_452 rfl rfl dX11_about_88 (fun _ _ => ?_)
      have q9 : -2147483648 ≤ vi V o1 3 ∧ vi V o1 3 ≤ 2147483647 := vi_ir
      exact GO.reti rfl rfl dX11_about_91 ⟨rfl, rfl, _, rfl, vi_ir, trivial⟩
    ·
      refine GO.tableAt (n := 4) (tgt := 92) dX11_about_13 (ir_c rfl) c5 (by decide) (by decide) rfl (by decide) ?_
      refine GO.aload_n dX11_about_92 rfl rfl ?_
      refine GO.getI h2 fl_RX11_455 rfl rfl dX11_about_93 (fun _ _ => ?_)
      have q10 : -2147483648 ≤ vi V o1 4 ∧ vi V o1 4 ≤ 2147483647 := vi_ir
      exact GO.reti rfl rfl dX11_about_96 ⟨rfl, rfl, _, rfl, vi_ir, trivial⟩
    ·
      refine GO.tableAt (n := 5) (tgt := 97) dX11_about_13 (ir_c rfl) c5 (by decide) (by decide) rfl (by decide) ?_
      refine GO.aload_n dX11_about_97 rfl rfl ?_
      refine GO.getI h2 fl_RX11_461 rfl rfl dX11_about_98 (fun _ _ => ?_)
      have q11 : -2147483648 ≤ vi V o1 7 ∧ vi V o1 7 ≤ 2147483647 := vi_ir
      exact GO.reti rfl rfl dX11_about_101 ⟨rfl, rfl, _, rfl, vi_ir, trivial⟩
    ·
      refine GO.tableAt (n := 6) (tgt := 102) dX11_about_13 (ir_c rfl) c5 (by decide) (by decide) rfl (by decide) ?_
      refine GO.aload_n dX11_about_102 rfl rfl ?_
      refine GO.getI h2 fl_RX11_458 rfl rfl dX11_about_103 (fun _ _ => ?_)
      have q12 : -2147483648 ≤ vi V o1 8 ∧ vi V o1 8 ≤ 2147483647 := vi_ir
      exact GO.reti rfl rfl dX11_about_106 ⟨rfl, rfl, _, rfl, vi_ir, trivial⟩
    ·
      refine GO.tableAt (n := 7) (tgt := 107) dX11_about_13 (ir_c rfl) c5 (by decide) (by decide) rfl (by decide) ?_
      refine GO.aload_n dX11_about_107 rfl rfl ?_
      refine GO.getI h2 fl_RX11_313 rfl rfl dX11_about_108 (fun _ _ => ?_)
      have q13 : -2147483648 ≤ vi V o1 9 ∧ vi V o1 9 ≤ 2147483647 := vi_ir
      exact GO.reti rfl rfl dX11_about_111 ⟨rfl, rfl, _, rfl, vi_ir, trivial⟩
    ·
      refine GO.tableAt (n := 8) (tgt := 112) dX11_about_13 (ir_c rfl) c5 (by decide) (by decide) rfl (by decide) ?_
      refine GO.aload_n dX11_about_112 rfl rfl ?_
      refine GO.getI h2 fl_RX11_316 rfl rfl dX11_about_113 (fun _ _ => ?_)
      have q14 : -2147483648 ≤ vi V o1 10 ∧ vi V o1 10 ≤ 2147483647 := vi_ir
      exact GO.reti rfl rfl dX11_about_116 ⟨rfl, rfl, _, rfl, vi_ir, trivial⟩
    ·
      refine GO.tableAt (n := 9) (tgt := 117) dX11_about_13 (ir_c rfl) c5 (by decide) (by decide) rfl (by decide) ?_
      refine GO.aload_n dX11_about_117 rfl rfl ?_
      refine GO.getI h2 fl_RX11_319 rfl rfl dX11_about_118 (fun _ _ => ?_)
      have q15 : -2147483648 ≤ vi V o1 11 ∧ vi V o1 11 ≤ 2147483647 := vi_ir
      exact GO.reti rfl rfl dX11_about_121 ⟨rfl, rfl, _, rfl, vi_ir, trivial⟩
    ·
      refine GO.tableAt (n := 10) (tgt := 122) dX11_about_13 (ir_c rfl) c5 (by decide) (by decide) rfl (by decide) ?_
      refine GO.aload_n dX11_about_122 rfl rfl ?_
      refine GO.getI h2 fl_RX11_322 rfl rfl dX11_about_123 (fun _ _ => ?_)
      have q16 : -2147483648 ≤ vi V o1 12 ∧ vi V o1 12 ≤ 2147483647 := vi_ir
      exact GO.reti rfl rfl dX11_about_126 ⟨rfl, rfl, _, rfl, vi_ir, trivial⟩

set_option maxHeartbeats 1000000 in
theorem t_X8_has_k29 {K : Kmap} {V : Vmap} {x : Nat} {p0 : Int} (h_x : K x = some (0, 29)) (r_p0 : ir p0) : MC mX8_has_k29 K V [.ref x, ti p0] (IP K V (fun X => (X = 0 ∨ X = 1) ∧ (X ≠ 0 → True) ∧ (X = 0 → True))) := by
  refine MC.start 0 (by decide +kernel) rfl rfl rfl (ls0 := [some (.ref x), some (ti p0)]) rfl ?_
  refine GO.iload_n dX8_has_0 rfl rfl ?_
  refine GO.if_lt (tgt := 16) dX8_has_1 (by decide) r_p0 (fun c1 => ?_) (fun c1 => ?_)
  ·
    refine GO.iconst dX8_has_16 ?_
    exact GO.retz rfl rfl dX8_has_17 (Or.inl rfl) ⟨rfl, rfl, _, rfl, (ir_c rfl), ⟨Or.inl rfl, fun _ => trivial, fun _ => trivial⟩⟩
  ·
    refine GO.iload_n dX8_has_4 rfl rfl ?_
    refine GO.aload_n dX8_has_5 rfl rfl ?_
    refine GO.getI h_x fl_RX8_9_k29 rfl rfl dX8_has_6 (fun l2 u3 => ?_)
    refine GO.icmp_ge (tgt := 16) dX8_has_9 (by decide) r_p0 vi_ir (fun c4 => ?_) (fun c4 => ?_)
    ·
      refine GO.iconst dX8_has_16 ?_
      exact GO.retz rfl rfl dX8_has_17 (Or.inl rfl) ⟨rfl, rfl, _, rfl, (ir_c rfl), ⟨Or.inl rfl, fun _ => trivial, fun _ => trivial⟩⟩
    ·
      refine GO.iconst dX8_has_12 ?_
      refine GO.goto (tgt := 17) dX8_has_13 (by decide) ?_
      exact GO.retz rfl rfl dX8_has_17 (Or.inr rfl) ⟨rfl, rfl, _, rfl, (ir_c rfl), ⟨Or.inr rfl, fun _ => trivial, fun _ => trivial⟩⟩

set_option maxHeartbeats 1000000 in
theorem t_X11_sum {K : Kmap} {V : Vmap} {x : Nat} {p0 : Int} (h_x : K x = some (0, 10)) (r_p0 : ir p0) : MC mX11_sum K V [.ref x, ti p0] (JP K V) := by
  refine MC.start 1 (by decide +kernel) rfl rfl rfl (ls0 := [some (.ref x), some (ti p0), none]) rfl ?_
  refine GO.iload_n dX11_sum_0 rfl rfl ?_
  have hj10 : GO mX11_sum K V (JP K V) K V 0 0 20 [some (.ref x), some (ti p0), none] [] := by
    skip
    refine GO.iload_n dX11_sum_20 rfl rfl ?_
    refine GO.bipush dX11_sum_21 rfl ?_
    refine GO.bipush dX11_sum_23 rfl ?_
    refine GO.callS (N := mX11_between) dX11_sum_25 gS_RX11_112 (t_X11_between r_p0 (ir_c rfl) (ir_c rfl)) rfl [] rfl rfl (Nat.le_of_ble_eq_true rfl) rfl (k_ip fun X11 r12 h13 => ?_)
    refine GO.if_eq (tgt := 56) dX11_sum_28 (by decide) r12 (fun c14 => ?_) (fun c14 => ?_)
    ·
      have q15 := h13.2.2 (by omega)
      refine GO.iload_n dX11_sum_56 rfl rfl ?_
      refine GO.bipush dX11_sum_57 rfl ?_
      refine GO.icmp_lt (tgt := 92) dX11_sum_59 (by decide) r_p0 (ir_c rfl) (fun c16 => ?_) (fun c16 => ?_)
      ·
        refine GO.ldc2 dX11_sum_92 gw_1459 ?_
        refine GO.anyL (fun z17 => ?_)
        exact GO.retl rfl rfl dX11_sum_95 ⟨rfl, rfl, _, rfl⟩
      ·
        refine GO.aload_n dX11_sum_62 rfl rfl ?_
        refine GO.getR h_x fl_RX11_79 rfl rfl dX11_sum_63 (fun hv19 h18 => ?_)
        refine GO.iload_n dX11_sum_66 rfl rfl ?_
        refine GO.bipush dX11_sum_67 rfl ?_
        refine GO.isub dX11_sum_69 ?_
        have q20 : -2147483648 ≤ p0 ∧ p0 ≤ 2147483647 := r_p0
        refine GO.callV (ci := 29) (N := mX8_has_k29) dX11_sum_70 (RX8, TX8, 4) rfl gV_RX11_431 h18 (t_X8_has_k29 h18 ⟨by omega, by omega⟩) rfl [] rfl rfl (Nat.le_of_ble_eq_true rfl) rfl (k_ip fun X21 r22 h23 => ?_)
        refine GO.if_eq (tgt := 92) dX11_sum_73 (by decide) r22 (fun c24 => ?_) (fun c24 => ?_)
        ·
          refine GO.ldc2 dX11_sum_92 gw_1459 ?_
          refine GO.anyL (fun z25 => ?_)
          exact GO.retl rfl rfl dX11_sum_95 ⟨rfl, rfl, _, rfl⟩
        ·
          refine GO.aload_n dX11_sum_76 rfl rfl ?_
          refine GO.getRaw h_x fl_RX11_79 hv19 dX11_sum_77 ?_
          refine GO.iload_n dX11_sum_80 rfl rfl ?_
          refine GO.bipush dX11_sum_81 rfl ?_
          refine GO.isub dX11_sum_83 ?_
          refine GO.iconst dX11_sum_84 ?_
          refine GO.callV (ci := 29) (N := mX8_get_k29) dX11_sum_85 (RX8, TX8, 4) rfl gV_RX11_209 h18 (t_X8_get_k29 h18 ⟨by omega, by omega⟩ (ir_c rfl)) rfl [] rfl rfl (Nat.le_of_ble_eq_true rfl) rfl (k_ip fun X28 r29 h30 => ?_)
          refine GO.i2l dX11_sum_88 ?_
          refine GO.anyL (fun z31 => ?_)
          refine GO.goto (tgt := 95) dX11_sum_89 (by decide) ?_
          exact GO.retl rfl rfl dX11_sum_95 ⟨rfl, rfl, _, rfl⟩
    ·
      have q32 := h13.2.1 (by omega)
      refine GO.aload_n dX11_sum_31 rfl rfl ?_
      refine GO.iload_n dX11_sum_32 rfl rfl ?_
      refine GO.bipush dX11_sum_33 rfl ?_
      refine GO.isub dX11_sum_35 ?_
      have q33 : -2147483648 ≤ p0 ∧ p0 ≤ 2147483647 := r_p0
      refine GO.callV (ci := 10) (N := mX11_partyOf) dX11_sum_36 (RX11, TX11, 20) rfl gV_RX11_151 h_x (t_X11_partyOf h_x ⟨by omega, by omega⟩) rfl [] rfl rfl (Nat.le_of_ble_eq_true rfl) rfl (k_rp (fun h36 => ?_) (fun o34 h35 h36 => ?_))
      ·
        have rwn36 := h36.2
        have hn37 : PN V x → (p0 - 10) < 0 ∨ vi V x 4 ≤ (p0 - 10) := h36.2
        refine GO.astore_nN (ls1 := [some (.ref x), some (ti p0), some (.null)]) dX11_sum_39 rfl rfl rfl ?_
        refine GO.aload_nN dX11_sum_40 rfl rfl ?_
        refine GO.ifnonnullN dX11_sum_41 ?_
        refine GO.ldc2 dX11_sum_44 gw_1459 ?_
        refine GO.anyL (fun z38 => ?_)
        refine GO.goto (tgt := 55) dX11_sum_47 (by decide) ?_
        exact GO.retl rfl rfl dX11_sum_55 ⟨rfl, rfl, _, rfl⟩
      ·
        have hp39 : (p0 - 10) ≥ 0 ∧ (p0 - 10) < vi V x 4 := h36.1
        have rwp36 := h36.2
        have hq40 : o34 = vq V (vq V x 3) ((p0 - 10)).toNat := h36.2
        refine GO.astore_n (ls1 := [some (.ref x), some (ti p0), some (.ref o34)]) dX11_sum_39 rfl rfl rfl ?_
        refine GO.aload_n dX11_sum_40 rfl rfl ?_
        refine GO.ifnonnull (tgt := 50) dX11_sum_41 (by decide) ?_
        refine GO.aload_n dX11_sum_50 rfl rfl ?_
        refine GO.getI h35 fl_RX11_464 rfl rfl dX11_sum_51 (fun _ _ => ?_)
        refine GO.i2l dX11_sum_54 ?_
        refine GO.anyL (fun z41 => ?_)
        exact GO.retl rfl rfl dX11_sum_55 ⟨rfl, rfl, _, rfl⟩
  refine GO.if_lt (tgt := 20) dX11_sum_1 (by decide) r_p0 (fun c42 => ?_) (fun c42 => ?_)
  ·
    exact hj10 
  ·
    refine GO.iload_n dX11_sum_4 rfl rfl ?_
    refine GO.aload_n dX11_sum_5 rfl rfl ?_
    refine GO.getA (n := 8) h_x fl_RX11_98 rfl rfl rfl rfl dX11_sum_6 (fun hv44 h43 => ?_)
    refine GO.alen h43 dX11_sum_9 (fun h45 => ?_)
    refine GO.icmp_ge (tgt := 20) dX11_sum_10 (by decide) r_p0 ⟨by omega, by omega⟩ (fun c46 => ?_) (fun c46 => ?_)
    ·
      exact hj10 
    ·
      refine GO.aload_n dX11_sum_13 rfl rfl ?_
      refine GO.getRaw h_x fl_RX11_98 hv44 dX11_sum_14 ?_
      refine GO.iload_n dX11_sum_17 rfl rfl ?_
      have q49 : -2147483648 ≤ p0 ∧ p0 ≤ 2147483647 := r_p0
      refine GO.lald h43 r_p0 (by omega) (by omega) dX11_sum_18 ?_
      refine GO.anyL (fun z50 => ?_)
      exact GO.retl rfl rfl dX11_sum_19 ⟨rfl, rfl, _, rfl⟩

set_option maxHeartbeats 1000000 in
theorem t_X11_decidesFrom {K : Kmap} {V : Vmap} {x : Nat} {p0 : Int} (h_x : K x = some (0, 10)) (r_p0 : ir p0) : MC mX11_decidesFrom K V [.ref x, ti p0] (IP K V (fun X => True)) := by
  refine MC.start 1 (by decide +kernel) rfl rfl rfl (ls0 := [some (.ref x), some (ti p0), none]) rfl ?_
  refine GO.iload_n dX11_decidesFrom_0 rfl rfl ?_
  refine GO.bipush dX11_decidesFrom_1 rfl ?_
  refine GO.bipush dX11_decidesFrom_3 rfl ?_
  refine GO.callS (N := mX11_between) dX11_decidesFrom_5 gS_RX11_112 (t_X11_between r_p0 (ir_c rfl) (ir_c rfl)) rfl [] rfl rfl (Nat.le_of_ble_eq_true rfl) rfl (k_ip fun X1 r2 h3 => ?_)
  refine GO.if_eq (tgt := 22) dX11_decidesFrom_8 (by decide) r2 (fun c4 => ?_) (fun c4 => ?_)
  ·
    have q5 := h3.2.2 (by omega)
    refine GO.null dX11_decidesFrom_22 ?_
    refine GO.astore_nN (ls1 := [some (.ref x), some (ti p0), some (.null)]) dX11_decidesFrom_23 rfl rfl rfl ?_
    refine GO.aload_nN dX11_decidesFrom_24 rfl rfl ?_
    refine GO.ifnonnullN dX11_decidesFrom_25 ?_
    refine GO.iconst dX11_decidesFrom_28 ?_
    refine GO.goto (tgt := 36) dX11_decidesFrom_29 (by decide) ?_
    exact GO.reti rfl rfl dX11_decidesFrom_36 ⟨rfl, rfl, _, rfl, (ir_c rfl), trivial⟩
  ·
    have q6 := h3.2.1 (by omega)
    refine GO.aload_n dX11_decidesFrom_11 rfl rfl ?_
    refine GO.iload_n dX11_decidesFrom_12 rfl rfl ?_
    refine GO.bipush dX11_decidesFrom_13 rfl ?_
    refine GO.isub dX11_decidesFrom_15 ?_
    have q7 : -2147483648 ≤ p0 ∧ p0 ≤ 2147483647 := r_p0
    refine GO.callV (ci := 10) (N := mX11_partyOf) dX11_decidesFrom_16 (RX11, TX11, 20) rfl gV_RX11_151 h_x (t_X11_partyOf h_x ⟨by omega, by omega⟩) rfl [] rfl rfl (Nat.le_of_ble_eq_true rfl) rfl (k_rp (fun h10 => ?_) (fun o8 h9 h10 => ?_))
    ·
      have rwn16 := h10.2
      have hn11 : PN V x → (p0 - 20) < 0 ∨ vi V x 4 ≤ (p0 - 20) := h10.2
      refine GO.goto (tgt := 23) dX11_decidesFrom_19 (by decide) ?_
      refine GO.astore_nN (ls1 := [some (.ref x), some (ti p0), some (.null)]) dX11_decidesFrom_23 rfl rfl rfl ?_
      refine GO.aload_nN dX11_decidesFrom_24 rfl rfl ?_
      refine GO.ifnonnullN dX11_decidesFrom_25 ?_
      refine GO.iconst dX11_decidesFrom_28 ?_
      refine GO.goto (tgt := 36) dX11_decidesFrom_29 (by decide) ?_
      exact GO.reti rfl rfl dX11_decidesFrom_36 ⟨rfl, rfl, _, rfl, (ir_c rfl), trivial⟩
    ·
      have hp12 : (p0 - 20) ≥ 0 ∧ (p0 - 20) < vi V x 4 := h10.1
      have rwp16 := h10.2
      have hq13 : o8 = vq V (vq V x 3) ((p0 - 20)).toNat := h10.2
      refine GO.goto (tgt := 23) dX11_decidesFrom_19 (by decide) ?_
      refine GO.astore_n (ls1 := [some (.ref x), some (ti p0), some (.ref o8)]) dX11_decidesFrom_23 rfl rfl rfl ?_
      refine GO.aload_n dX11_decidesFrom_24 rfl rfl ?_
      refine GO.ifnonnull (tgt := 32) dX11_decidesFrom_25 (by decide) ?_
      refine GO.aload_n dX11_decidesFrom_32 rfl rfl ?_
      refine GO.getI h9 fl_RX11_341 rfl rfl dX11_decidesFrom_33 (fun _ _ => ?_)
      have q14 : -2147483648 ≤ vi V o8 0 ∧ vi V o8 0 ≤ 2147483647 := vi_ir
      exact GO.reti rfl rfl dX11_decidesFrom_36 ⟨rfl, rfl, _, rfl, vi_ir, trivial⟩

set_option maxHeartbeats 1000000 in
theorem t_X11_sledgesOnWay {K : Kmap} {V : Vmap} {x : Nat} (h_x : K x = some (0, 10)) : MC mX11_sledgesOnWay K V [.ref x] (IP K V (fun X => True)) := by
  refine MC.start 2 (by decide +kernel) rfl rfl rfl (ls0 := [some (.ref x), none, none]) rfl ?_
  refine GO.iconst dX11_sledgesOnWay_0 ?_
  refine GO.istore_n (ls1 := [some (.ref x), some (ti 0), none]) dX11_sledgesOnWay_1 rfl rfl rfl ?_
  refine GO.iconst dX11_sledgesOnWay_2 ?_
  refine GO.istore_n (ls1 := [some (.ref x), some (ti 0), some (ti 0)]) dX11_sledgesOnWay_3 rfl rfl rfl ?_
  refine GO.loop2 (fun i1 i2 W => (-2147483648) ≤ i1 ∧ i1 ≤ 2147483647 ∧ 0 ≤ i2 ∧ i2 ≤ 40 ∧ V = W) (fun i1 i2 => [some (.ref x), some (ti i1), some (ti i2)]) (fun i1 i2 W => (2147483647 - i2).toNat) 0 0 ⟨by omega, by omega, by omega, by omega, rfl⟩ rfl (fun i1 i2 V405 hp407 ih406 => ?_)
  obtain ⟨l_i1, u_i1, l_i2, u_i2, rfl⟩ := hp407
  have r_i1 : ir i1 := ⟨by omega, by omega⟩
  have r_i2 : ir i2 := ⟨by omega, by omega⟩
  show GO mX11_sledgesOnWay K V (IP K V (fun X => True)) K V 0 0 4 [some (.ref x), some (ti i1), some (ti i2)] []
  refine GO.iload_n dX11_sledgesOnWay_4 rfl rfl ?_
  refine GO.aload_n dX11_sledgesOnWay_5 rfl rfl ?_
  refine GO.getR h_x fl_RX11_72 rfl rfl dX11_sledgesOnWay_6 (fun hv409 h408 => ?_)
  refine GO.getI h408 fl_RX11_199_k27 rfl rfl dX11_sledgesOnWay_9 (fun l410 u411 => ?_)
  refine GO.icmp_ge (tgt := 33) dX11_sledgesOnWay_12 (by decide) r_i2 vi_ir (fun c412 => ?_) (fun c412 => ?_)
  ·
    refine GO.iload_n dX11_sledgesOnWay_33 rfl rfl ?_
    exact GO.reti rfl rfl dX11_sledgesOnWay_34 ⟨rfl, rfl, _, rfl, r_i1, trivial⟩
  ·
    refine GO.iload_n dX11_sledgesOnWay_15 rfl rfl ?_
    refine GO.aload_n dX11_sledgesOnWay_16 rfl rfl ?_
    refine GO.getRaw h_x fl_RX11_72 hv409 dX11_sledgesOnWay_17 ?_
    refine GO.iload_n dX11_sledgesOnWay_20 rfl rfl ?_
    refine GO.iconst dX11_sledgesOnWay_21 ?_
    refine GO.callV (ci := 27) (N := mX8_get_k27) dX11_sledgesOnWay_22 (RX8, TX8, 4) rfl gV_RX11_209 h408 (t_X8_get_k27 h408 r_i2 (ir_c rfl)) rfl [ti i1] rfl rfl (Nat.le_of_ble_eq_true rfl) rfl (k_ip fun X415 r416 h417 => ?_)
    refine GO.iadd dX11_sledgesOnWay_25 ?_
    refine GO.norm (fun z418 r419 hn420 => ?_)
    refine GO.istore_n (ls1 := [some (.ref x), some (ti z418), some (ti i2)]) dX11_sledgesOnWay_26 rfl rfl rfl ?_
    refine GO.iinc (X := i2) (n := 1) (Y := i2 + 1) (ls1 := [some (.ref x), some (ti z418), some (ti (i2 + 1))]) dX11_sledgesOnWay_27 rfl rfl rfl rfl ?_
    refine GO.goto (tgt := 4) dX11_sledgesOnWay_30 (by decide) ?_
    have q421 : -2147483648 ≤ z418 ∧ z418 ≤ 2147483647 := r419
    exact ih406 z418 (i2 + 1) V ⟨by omega, by omega, by omega, by omega, rfl⟩ (by show (2147483647 - (i2 + 1)).toNat < (2147483647 - i2).toNat; omega)

set_option maxHeartbeats 1000000 in
theorem t_X11_count {K : Kmap} {V : Vmap} {x : Nat} {p0 : Int} (h_x : K x = some (0, 10)) (r_p0 : ir p0) : MC mX11_count K V [.ref x, ti p0] (IP K V (fun X => True)) := by
  refine MC.start 0 (by decide +kernel) rfl rfl rfl (ls0 := [some (.ref x), some (ti p0)]) rfl ?_
  refine GO.iload_n dX11_count_0 rfl rfl ?_
  have q1 : -2147483648 ≤ p0 ∧ p0 ≤ 2147483647 := r_p0
  rcases (show (p0 < 0 ∨ 16 < p0) ∨ p0 = 0 ∨ p0 = 1 ∨ p0 = 2 ∨ p0 = 3 ∨ p0 = 4 ∨ p0 = 5 ∨ p0 = 6 ∨ p0 = 7 ∨ p0 = 8 ∨ p0 = 9 ∨ p0 = 10 ∨ p0 = 11 ∨ p0 = 12 ∨ p0 = 13 ∨ p0 = 14 ∨ p0 = 15 ∨ p0 = 16 by omega) with c2 | c2 | c2 | c2 | c2 | c2 | c2 | c2 | c2 | c2 | c2 | c2 | c2 | c2 | c2 | c2 | c2 | c2
  ·
    refine GO.tableOut (tgt := 211) dX11_count_1 r_p0 c2 (by decide) ?_
    refine GO.aload_n dX11_count_211 rfl rfl ?_
    refine GO.iload_n dX11_count_212 rfl rfl ?_
    refine GO.callV (ci := 10) (N := mX11_decidesFrom) dX11_count_213 (RX11, TX11, 20) rfl gV_RX11_647 h_x (t_X11_decidesFrom h_x r_p0) rfl [] rfl rfl (Nat.le_of_ble_eq_true rfl) rfl (k_ip fun X3 r4 h5 => ?_)
    have q6 : -2147483648 ≤ X3 ∧ X3 ≤ 2147483647 := r4
    exact GO.reti rfl rfl dX11_count_216 ⟨rfl, rfl, _, rfl, r4, trivial⟩
  ·
    refine GO.tableAt (n := 0) (tgt := 84) dX11_count_1 (ir_c rfl) c2 (by decide) (by decide) rfl (by decide) ?_
    refine GO.aload_n dX11_count_84 rfl rfl ?_
    refine GO.getR h_x fl_RX11_12 rfl rfl dX11_count_85 (fun hv8 h7 => ?_)
    refine GO.getI h7 fl_RX11_145 rfl rfl dX11_count_88 (fun l9 u10 => ?_)
    exact GO.reti rfl rfl dX11_count_91 ⟨rfl, rfl, _, rfl, vi_ir, trivial⟩
  ·
    refine GO.tableAt (n := 1) (tgt := 92) dX11_count_1 (ir_c rfl) c2 (by decide) (by decide) rfl (by decide) ?_
    refine GO.aload_n dX11_count_92 rfl rfl ?_
    refine GO.getR h_x fl_RX11_12 rfl rfl dX11_count_93 (fun hv12 h11 => ?_)
    refine GO.getI h11 fl_RX11_639 rfl rfl dX11_count_96 (fun l13 u14 => ?_)
    exact GO.reti rfl rfl dX11_count_99 ⟨rfl, rfl, _, rfl, vi_ir, trivial⟩
  ·
    refine GO.tableAt (n := 2) (tgt := 100) dX11_count_1 (ir_c rfl) c2 (by decide) (by decide) rfl (by decide) ?_
    refine GO.aload_n dX11_count_100 rfl rfl ?_
    refine GO.getR h_x fl_RX11_12 rfl rfl dX11_count_101 (fun hv16 h15 => ?_)
    refine GO.getI h15 fl_RX11_642 rfl rfl dX11_count_104 (fun l17 u18 => ?_)
    exact GO.reti rfl rfl dX11_count_107 ⟨rfl, rfl, _, rfl, vi_ir, trivial⟩
  ·
    refine GO.tableAt (n := 3) (tgt := 108) dX11_count_1 (ir_c rfl) c2 (by decide) (by decide) rfl (by decide) ?_
    refine GO.aload_n dX11_count_108 rfl rfl ?_
    refine GO.getI h_x fl_RX11_36 rfl rfl dX11_count_109 (fun l19 u20 => ?_)
    exact GO.reti rfl rfl dX11_count_112 ⟨rfl, rfl, _, rfl, vi_ir, trivial⟩
  ·
    refine GO.tableAt (n := 4) (tgt := 113) dX11_count_1 (ir_c rfl) c2 (by decide) (by decide) rfl (by decide) ?_
    refine GO.aload_n dX11_count_113 rfl rfl ?_
    refine GO.getI h_x fl_RX11_46 rfl rfl dX11_count_114 (fun l21 u22 => ?_)
    exact GO.reti rfl rfl dX11_count_117 ⟨rfl, rfl, _, rfl, vi_ir, trivial⟩
  ·
    refine GO.tableAt (n := 5) (tgt := 118) dX11_count_1 (ir_c rfl) c2 (by decide) (by decide) rfl (by decide) ?_
    refine GO.aload_n dX11_count_118 rfl rfl ?_
    refine GO.getR h_x fl_RX11_19 rfl rfl dX11_count_119 (fun hv24 h23 => ?_)
    refine GO.getI h23 fl_RX11_216 rfl rfl dX11_count_122 (fun l25 u26 => ?_)
    exact GO.reti rfl rfl dX11_count_125 ⟨rfl, rfl, _, rfl, vi_ir, trivial⟩
  ·
    refine GO.tableAt (n := 6) (tgt := 126) dX11_count_1 (ir_c rfl) c2 (by decide) (by decide) rfl (by decide) ?_
    refine GO.aload_n dX11_count_126 rfl rfl ?_
    refine GO.getR h_x fl_RX11_19 rfl rfl dX11_count_127 (fun hv28 h27 => ?_)
    refine GO.getR h27 fl_RX11_262 rfl rfl dX11_count_130 (fun hv30 h29 => ?_)
    refine GO.getI h29 fl_RX11_199_k32 rfl rfl dX11_count_133 (fun l31 u32 => ?_)
    exact GO.reti rfl rfl dX11_count_136 ⟨rfl, rfl, _, rfl, vi_ir, trivial⟩
  ·
    refine GO.tableAt (n := 7) (tgt := 137) dX11_count_1 (ir_c rfl) c2 (by decide) (by decide) rfl (by decide) ?_
    refine GO.aload_n dX11_count_137 rfl rfl ?_
    refine GO.getI h_x fl_RX11_55 rfl rfl dX11_count_138 (fun l33 u34 => ?_)
    exact GO.reti rfl rfl dX11_count_141 ⟨rfl, rfl, _, rfl, vi_ir, trivial⟩
  ·
    refine GO.tableAt (n := 8) (tgt := 142) dX11_count_1 (ir_c rfl) c2 (by decide) (by decide) rfl (by decide) ?_
    refine GO.aload_n dX11_count_142 rfl rfl ?_
    refine GO.getI h_x fl_RX11_64 rfl rfl dX11_count_143 (fun l35 u36 => ?_)
    exact GO.reti rfl rfl dX11_count_146 ⟨rfl, rfl, _, rfl, vi_ir, trivial⟩
  ·
    refine GO.tableAt (n := 9) (tgt := 147) dX11_count_1 (ir_c rfl) c2 (by decide) (by decide) rfl (by decide) ?_
    refine GO.aload_n dX11_count_147 rfl rfl ?_
    refine GO.callV (ci := 10) (N := mX11_sledgesOnWay) dX11_count_148 (RX11, TX11, 20) rfl gV_RX11_644 h_x (t_X11_sledgesOnWay h_x) rfl [] rfl rfl (Nat.le_of_ble_eq_true rfl) rfl (k_ip fun X37 r38 h39 => ?_)
    have q40 : -2147483648 ≤ X37 ∧ X37 ≤ 2147483647 := r38
    exact GO.reti rfl rfl dX11_count_151 ⟨rfl, rfl, _, rfl, r38, trivial⟩
  ·
    refine GO.tableAt (n := 10) (tgt := 152) dX11_count_1 (ir_c rfl) c2 (by decide) (by decide) rfl (by decide) ?_
    refine GO.aload_n dX11_count_152 rfl rfl ?_
    refine GO.getR h_x fl_RX11_76 rfl rfl dX11_count_153 (fun hv42 h41 => ?_)
    refine GO.getI h41 fl_RX11_199_k28 rfl rfl dX11_count_156 (fun l43 u44 => ?_)
    exact GO.reti rfl rfl dX11_count_159 ⟨rfl, rfl, _, rfl, vi_ir, trivial⟩
  ·
    refine GO.tableAt (n := 11) (tgt := 160) dX11_count_1 (ir_c rfl) c2 (by decide) (by decide) rfl (by decide) ?_
    refine GO.aload_n dX11_count_160 rfl rfl ?_
    refine GO.getR h_x fl_RX11_79 rfl rfl dX11_count_161 (fun hv46 h45 => ?_)
    refine GO.getI h45 fl_RX11_199_k29 rfl rfl dX11_count_164 (fun l47 u48 => ?_)
    exact GO.reti rfl rfl dX11_count_167 ⟨rfl, rfl, _, rfl, vi_ir, trivial⟩
  ·
    refine GO.tableAt (n := 12) (tgt := 168) dX11_count_1 (ir_c rfl) c2 (by decide) (by decide) rfl (by decide) ?_
    refine GO.aload_n dX11_count_168 rfl rfl ?_
    refine GO.getR h_x fl_RX11_82 rfl rfl dX11_count_169 (fun hv50 h49 => ?_)
    refine GO.getI h49 fl_RX11_199_k26 rfl rfl dX11_count_172 (fun l51 u52 => ?_)
    exact GO.reti rfl rfl dX11_count_175 ⟨rfl, rfl, _, rfl, vi_ir, trivial⟩
  ·
    refine GO.tableAt (n := 13) (tgt := 176) dX11_count_1 (ir_c rfl) c2 (by decide) (by decide) rfl (by decide) ?_
    refine GO.aload_n dX11_count_176 rfl rfl ?_
    refine GO.getR h_x fl_RX11_88 rfl rfl dX11_count_177 (fun hv54 h53 => ?_)
    refine GO.getI h53 fl_RX11_199_k25 rfl rfl dX11_count_180 (fun l55 u56 => ?_)
    exact GO.reti rfl rfl dX11_count_183 ⟨rfl, rfl, _, rfl, vi_ir, trivial⟩
  ·
    refine GO.tableAt (n := 14) (tgt := 184) dX11_count_1 (ir_c rfl) c2 (by decide) (by decide) rfl (by decide) ?_
    refine GO.aload_n dX11_count_184 rfl rfl ?_
    refine GO.getR h_x fl_RX11_26 rfl rfl dX11_count_185 (fun hv58 h57 => ?_)
    refine GO.getR h57 fl_RX11_593 rfl rfl dX11_count_188 (fun hv60 h59 => ?_)
    refine GO.getI h59 fl_RX11_199_k24 rfl rfl dX11_count_191 (fun l61 u62 => ?_)
    exact GO.reti rfl rfl dX11_count_194 ⟨rfl, rfl, _, rfl, vi_ir, trivial⟩
  ·
    refine GO.tableAt (n := 15) (tgt := 195) dX11_count_1 (ir_c rfl) c2 (by decide) (by decide) rfl (by decide) ?_
    refine GO.aload_n dX11_count_195 rfl rfl ?_
    refine GO.getR h_x fl_RX11_85 rfl rfl dX11_count_196 (fun hv64 h63 => ?_)
    refine GO.getI h63 fl_RX11_199_k30 rfl rfl dX11_count_199 (fun l65 u66 => ?_)
    exact GO.reti rfl rfl dX11_count_202 ⟨rfl, rfl, _, rfl, vi_ir, trivial⟩
  ·
    refine GO.tableAt (n := 16) (tgt := 203) dX11_count_1 (ir_c rfl) c2 (by decide) (by decide) rfl (by decide) ?_
    refine GO.aload_n dX11_count_203 rfl rfl ?_
    refine GO.getR h_x fl_RX11_91 rfl rfl dX11_count_204 (fun hv68 h67 => ?_)
    refine GO.getI h67 fl_RX11_199_k31 rfl rfl dX11_count_207 (fun l69 u70 => ?_)
    exact GO.reti rfl rfl dX11_count_210 ⟨rfl, rfl, _, rfl, vi_ir, trivial⟩

set_option maxHeartbeats 1000000 in
theorem t_X12_in {K : Kmap} {V : Vmap} {p0 : Int} {p1 : Int} {p2 : Int} (r_p0 : ir p0) (r_p1 : ir p1) (r_p2 : ir p2) : MC mX12_in K V [ti p0, ti p1, ti p2] (IP K V (fun X => (X = 0 ∨ X = 1) ∧ (X ≠ 0 → p0 ≥ p1 ∧ p0 ≤ p2) ∧ (X = 0 → (p0 < p1 ∨ p0 > p2)) ∧ (X ≠ 0 ↔ p1 ≤ p0 ∧ p0 ≤ p2))) := by
  refine MC.start 0 (by decide +kernel) rfl rfl rfl (ls0 := [some (ti p0), some (ti p1), some (ti p2)]) rfl ?_
  refine GO.iload_n dX12_in_0 rfl rfl ?_
  refine GO.iload_n dX12_in_1 rfl rfl ?_
  refine GO.icmp_lt (tgt := 14) dX12_in_2 (by decide) r_p0 r_p1 (fun c1 => ?_) (fun c1 => ?_)
  ·
    refine GO.iconst dX12_in_14 ?_
    exact GO.retz rfl rfl dX12_in_15 (Or.inl rfl) ⟨rfl, rfl, _, rfl, (ir_c rfl), ⟨Or.inl rfl, fun h => absurd rfl h, fun h => by omega, (by constructor <;> intro _ <;> omega)⟩⟩
  ·
    refine GO.iload_n dX12_in_5 rfl rfl ?_
    refine GO.iload_n dX12_in_6 rfl rfl ?_
    refine GO.icmp_gt (tgt := 14) dX12_in_7 (by decide) r_p0 r_p2 (fun c2 => ?_) (fun c2 => ?_)
    ·
      refine GO.iconst dX12_in_14 ?_
      exact GO.retz rfl rfl dX12_in_15 (Or.inl rfl) ⟨rfl, rfl, _, rfl, (ir_c rfl), ⟨Or.inl rfl, fun h => absurd rfl h, fun h => by omega, (by constructor <;> intro _ <;> omega)⟩⟩
    ·
      refine GO.iconst dX12_in_10 ?_
      refine GO.goto (tgt := 15) dX12_in_11 (by decide) ?_
      exact GO.retz rfl rfl dX12_in_15 (Or.inr rfl) ⟨rfl, rfl, _, rfl, (ir_c rfl), ⟨Or.inr rfl, fun h => by omega, fun h => absurd h (by decide), (by constructor <;> intro _ <;> omega)⟩⟩

set_option maxHeartbeats 1000000 in
theorem t_X12_size {K : Kmap} {V : Vmap} {p0 : Int} (r_p0 : ir p0) (q_0 : p0 ≥ (-3600)) (q_1 : p0 ≤ 3600) : MC mX12_size K V [ti p0] (IP K V (fun X => 0 ≤ X ∧ X ≤ 3600)) := by
  refine MC.start 0 (by decide +kernel) rfl rfl rfl (ls0 := [some (ti p0)]) rfl ?_
  refine GO.iload_n dX12_size_0 rfl rfl ?_
  refine GO.if_ge (tgt := 9) dX12_size_1 (by decide) r_p0 (fun c1 => ?_) (fun c1 => ?_)
  ·
    refine GO.iload_n dX12_size_9 rfl rfl ?_
    have q2 : -2147483648 ≤ p0 ∧ p0 ≤ 2147483647 := r_p0
    exact GO.reti rfl rfl dX12_size_10 ⟨rfl, rfl, _, rfl, r_p0, ⟨by omega, by omega⟩⟩
  ·
    refine GO.iload_n dX12_size_4 rfl rfl ?_
    refine GO.ineg dX12_size_5 ?_
    refine GO.goto (tgt := 10) dX12_size_6 (by decide) ?_
    have q3 : -2147483648 ≤ p0 ∧ p0 ≤ 2147483647 := r_p0
    exact GO.reti rfl rfl dX12_size_10 ⟨rfl, rfl, _, rfl, ⟨by omega, by omega⟩, ⟨by omega, by omega⟩⟩

set_option maxHeartbeats 1000000 in
theorem t_X12_begins {K : Kmap} {V : Vmap} {x : Nat} {p0 : Int} {p1 : Int} (h_x : K x = some (0, 11)) (r_p0 : ir p0) (r_p1 : ir p1) (q_0 : p0 ≥ 4) (q_1 : p0 ≤ 12) (q_2 : p1 ≥ 4) (q_3 : p1 ≤ 12) : MC mX12_begins K V [.ref x, ti p0, ti p1] (VS K (fun V1 => (True))) := by
  refine MC.start 1 (by decide +kernel) rfl rfl rfl (ls0 := [some (.ref x), some (ti p0), some (ti p1), none]) rfl ?_
  refine GO.aload_n dX12_begins_0 rfl rfl ?_
  refine GO.iload_n dX12_begins_1 rfl rfl ?_
  have q2 : -2147483648 ≤ p0 ∧ p0 ≤ 2147483647 := r_p0
  refine GO.putI h_x fp_RX12_365 rfl (by decide +kernel) r_p0 (by omega) (by omega) dX12_begins_2 (fun V3 e1 => ?_)
  refine GO.aload_n dX12_begins_5 rfl rfl ?_
  refine GO.iload_n dX12_begins_6 rfl rfl ?_
  have q5 : -2147483648 ≤ p1 ∧ p1 ≤ 2147483647 := r_p1
  refine GO.putI h_x fp_RX12_368 rfl (by decide +kernel) r_p1 (by omega) (by omega) dX12_begins_7 (fun V6 e4 => ?_)
  refine GO.iconst dX12_begins_10 ?_
  refine GO.istore_n (ls1 := [some (.ref x), some (ti p0), some (ti p1), some (ti 0)]) dX12_begins_11 rfl rfl rfl ?_
  refine GO.loop1 (fun i7 W => 0 ≤ i7 ∧ i7 ≤ 144 ∧ True) (fun i7 => [some (.ref x), some (ti p0), some (ti p1), some (ti i7)]) (fun i7 W => (2147483647 - i7).toNat) 0 ⟨by omega, by omega, trivial⟩ rfl (fun i7 Wi7 hp162 ih161 => ?_)
  obtain ⟨l_i7, u_i7, -⟩ := hp162
  have r_i7 : ir i7 := ⟨by omega, by omega⟩
  show GO mX12_begins K V (VS K (fun V1 => (True))) K Wi7 0 0 12 [some (.ref x), some (ti p0), some (ti p1), some (ti i7)] []
  refine GO.iload_n dX12_begins_12 rfl rfl ?_
  refine GO.sipush dX12_begins_13 rfl ?_
  refine GO.icmp_ge (tgt := 53) dX12_begins_16 (by decide) r_i7 (ir_c rfl) (fun c163 => ?_) (fun c163 => ?_)
  ·
    exact GO.retv rfl rfl dX12_begins_53 ⟨rfl, rfl, trivial⟩
  ·
    refine GO.aload_n dX12_begins_19 rfl rfl ?_
    refine GO.getA (n := 144) h_x fl_RX12_16 rfl rfl rfl rfl dX12_begins_20 (fun hv165 h164 => ?_)
    refine GO.iload_n dX12_begins_23 rfl rfl ?_
    refine GO.iconst dX12_begins_24 ?_
    refine GO.iast (t := 9) rfl rfl (by decide +kernel) h164 r_i7 (by omega) (by omega) (ir_c rfl) (by decide) (by decide) dX12_begins_25 (fun V167 e166 => ?_)
    refine GO.aload_n dX12_begins_26 rfl rfl ?_
    refine GO.getA (n := 144) h_x fl_RX12_20 rfl rfl rfl rfl dX12_begins_27 (fun hv169 h168 => ?_)
    refine GO.iload_n dX12_begins_30 rfl rfl ?_
    refine GO.iconst dX12_begins_31 ?_
    refine GO.iast (t := 10) rfl rfl (by decide +kernel) h168 r_i7 (by omega) (by omega) (ir_c rfl) (by decide) (by decide) dX12_begins_32 (fun V171 e170 => ?_)
    refine GO.aload_n dX12_begins_33 rfl rfl ?_
    refine GO.getA (n := 144) h_x fl_RX12_23 rfl rfl rfl rfl dX12_begins_34 (fun hv173 h172 => ?_)
    refine GO.iload_n dX12_begins_37 rfl rfl ?_
    refine GO.iconst dX12_begins_38 ?_
    refine GO.iast (t := 11) rfl rfl (by decide +kernel) h172 r_i7 (by omega) (by omega) (ir_c rfl) (by decide) (by decide) dX12_begins_39 (fun V175 e174 => ?_)
    refine GO.aload_n dX12_begins_40 rfl rfl ?_
    refine GO.getA (n := 144) h_x fl_RX12_26 rfl rfl rfl rfl dX12_begins_41 (fun hv177 h176 => ?_)
    refine GO.iload_n dX12_begins_44 rfl rfl ?_
    refine GO.iconst dX12_begins_45 ?_
    refine GO.iast (t := 12) rfl rfl (by decide +kernel) h176 r_i7 (by omega) (by omega) (ir_c rfl) (by decide) (by decide) dX12_begins_46 (fun V179 e178 => ?_)
    refine GO.iinc (X := i7) (n := 1) (Y := i7 + 1) (ls1 := [some (.ref x), some (ti p0), some (ti p1), some (ti (i7 + 1))]) dX12_begins_47 rfl rfl rfl rfl ?_
    refine GO.goto (tgt := 12) dX12_begins_50 (by decide) ?_
    exact ih161 (i7 + 1) V179 ⟨by omega, by omega, trivial⟩ (by show (2147483647 - (i7 + 1)).toNat < (2147483647 - i7).toNat; omega)
