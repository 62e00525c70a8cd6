def mX11_hasConsent : MRec := (RX11, cX11_hasConsent, 4, (some .boolean), yX11_hasConsent, 2, 45, 0, 0, 0)
def mX11_judge : MRec := (RX11, cX11_judge, 5, (some .int), yX11_judge, 5, 127, 0, 0, 3794275180128377091639574036764685364535950857523710002444946112771297432101715968)
def mX11_may : MRec := (RX11, cX11_may, 5, (some .int), yX11_may, 6, 151, 0, 0, 3794275180128377091639574036764685364535950857523710002444946112771297432101715968)
def mX11_why : MRec := (RX11, cX11_why, 6, (some .int), yX11_why, 6, 151, 0, 0, 3794275180128377091639574036764685364535950857523710002444946112771297432101715968)
def mX11_whose : MRec := (RX11, cX11_whose, 9, (some .int), yX11_whose, 5, 127, 0, 0, 3794275180128377091639574036764685364535950857523710002444946112771297432042995712)
def mX11_ship : MRec := (RX11, cX11_ship, 4, (some .int), yX11_ship, 2, 35, 1, 11, 165263992197562149737978827008192759957586837964126737088892064295307327535738438166060338139278881631185982643869182853120)
def mX11_isSea : MRec := (RX11, cX11_isSea, 1, (some .boolean), yX11_isSea, 1, 22, 0, 0, 0)
def mX11_cover : MRec := (RX11, cX11_cover, 4, (some .boolean), yX11_cover, 2, 42, 0, 0, 3794275180128377091639574036764685364535950857523710002444946112771297432041422848)
def mX11_sea : MRec := (RX11, cX11_sea, 3, (some .boolean), yX11_sea, 2, 42, 0, 0, 3794275180128377091639574036764685364535950857523710002444946112771297432041422848)
def mX11_shipOf : MRec := (RX11, cX11_shipOf, 2, (some (.object "IceTreaty$Ship")), yX11_shipOf, 0, 0, 0, 0, 0)
def mX11_voyage : MRec := (RX11, cX11_voyage, 7, (some .boolean), yX11_voyage, 3, 69, 0, 0, 7588550360256754183279148073529370729071901715047420004889927495717263796745535488)
def mX11_sledge : MRec := (RX11, cX11_sledge, 8, (some .int), yX11_sledge, 4, 92, 0, 0, 11382825540385131274918722110294056093607852572571130007335140569768796228295852032)
set_option maxHeartbeats 1000000 in
theorem t_X11_hasConsent {K : Kmap} {V : Vmap} {x : Nat} {p0 : Nat} {p1 : Int} (h_x : K x = some (0, 10)) (h_p0 : K p0 = some (0, 9)) (r_p1 : ir p1) : MC mX11_hasConsent K V [.ref x, .ref p0, ti p1] (IP K V (fun X => (X = 0 ∨ X = 1) ∧ (X ≠ 0 → True) ∧ (X = 0 → True))) := by
  refine MC.start 1 (by decide +kernel) rfl rfl rfl (ls0 := [some (.ref x), some (.ref p0), some (ti p1), none]) rfl ?_
  refine GO.aload_n dX11_hasConsent_0 rfl rfl ?_
  refine GO.iload_n dX11_hasConsent_1 rfl rfl ?_
  refine GO.callV (ci := 10) (N := mX11_decidingOn) dX11_hasConsent_2 (RX11, TX11, 20) rfl gV_RX11_369 h_x (t_X11_decidingOn h_x r_p1) rfl [] rfl rfl (Nat.le_of_ble_eq_true rfl) rfl (k_ip fun X1 r2 h3 => ?_)
  refine GO.istore_n (ls1 := [some (.ref x), some (.ref p0), some (ti p1), some (ti X1)]) dX11_hasConsent_5 rfl rfl rfl ?_
  refine GO.aload_n dX11_hasConsent_6 rfl rfl ?_
  refine GO.getI h_p0 fl_RX11_328 rfl rfl dX11_hasConsent_7 (fun _ _ => ?_)
  refine GO.iload_n dX11_hasConsent_10 rfl rfl ?_
  refine GO.iand dX11_hasConsent_11 ?_
  refine GO.if_eq (tgt := 17) dX11_hasConsent_12 (by decide) wand_ir (fun c4 => ?_) (fun c4 => ?_)
  ·
    refine GO.iconst dX11_hasConsent_17 ?_
    refine GO.aload_n dX11_hasConsent_18 rfl rfl ?_
    refine GO.getI h_p0 fl_RX11_325 rfl rfl dX11_hasConsent_19 (fun _ _ => ?_)
    refine GO.iload_n dX11_hasConsent_22 rfl rfl ?_
    refine GO.iand dX11_hasConsent_23 ?_
    refine GO.callS (N := mJ6_bitCount_0f7a4) dX11_hasConsent_24 gS_RX11_286 (t_J6_bitCount_0f7a4 wand_ir) rfl [ti 2] rfl rfl (Nat.le_of_ble_eq_true rfl) rfl (k_ip fun X5 r6 h7 => ?_)
    refine GO.imul dX11_hasConsent_27 ?_
    refine GO.norm (fun z8 r9 _ => ?_)
    refine GO.iload_n dX11_hasConsent_28 rfl rfl ?_
    refine GO.callS (N := mJ6_bitCount_0f7a4) dX11_hasConsent_29 gS_RX11_286 (t_J6_bitCount_0f7a4 r2) rfl [ti z8] rfl rfl (Nat.le_of_ble_eq_true rfl) rfl (k_ip fun X10 r11 h12 => ?_)
    refine GO.icmp_le (tgt := 39) dX11_hasConsent_32 (by decide) r9 r11 (fun c13 => ?_) (fun c13 => ?_)
    ·
      refine GO.iconst dX11_hasConsent_39 ?_
      exact GO.retz rfl rfl dX11_hasConsent_40 (Or.inl rfl) ⟨rfl, rfl, _, rfl, (ir_c rfl), ⟨Or.inl rfl, fun _ => trivial, fun _ => trivial⟩⟩
    ·
      refine GO.iconst dX11_hasConsent_35 ?_
      refine GO.goto (tgt := 40) dX11_hasConsent_36 (by decide) ?_
      exact GO.retz rfl rfl dX11_hasConsent_40 (Or.inr rfl) ⟨rfl, rfl, _, rfl, (ir_c rfl), ⟨Or.inr rfl, fun _ => trivial, fun _ => trivial⟩⟩
  ·
    refine GO.iconst dX11_hasConsent_15 ?_
    exact GO.retz rfl rfl dX11_hasConsent_16 (Or.inl rfl) ⟨rfl, rfl, _, rfl, (ir_c rfl), ⟨Or.inl rfl, fun _ => trivial, fun _ => trivial⟩⟩

set_option maxHeartbeats 1000000 in
theorem t_X11_judge {K : Kmap} {V : Vmap} {x : Nat} {p0 : Nat} {p1 : Int} {p2 : Int} (h_x : K x = some (0, 10)) (h_p0 : K p0 = some (0, 9)) (r_p1 : ir p1) (r_p2 : ir p2) (z_p2 : p2 = 0 ∨ p2 = 1) : MC mX11_judge K V [.ref x, .ref p0, ti p1, ti p2] (IS K (fun X V1 => True)) := by
  refine MC.start 1 (by decide +kernel) rfl rfl rfl (ls0 := [some (.ref x), some (.ref p0), some (ti p1), some (ti p2), none]) rfl ?_
  refine GO.aload_n dX11_judge_0 rfl rfl ?_
  refine GO.aload_n dX11_judge_1 rfl rfl ?_
  refine GO.getI h_p0 fl_RX11_353 rfl rfl dX11_judge_2 (fun _ _ => ?_)
  refine GO.callV (ci := 10) (N := mX11_partyOf) dX11_judge_5 (RX11, TX11, 20) rfl gV_RX11_151 h_x (t_X11_partyOf h_x vi_ir) rfl [] rfl rfl (Nat.le_of_ble_eq_true rfl) rfl (k_rp (fun h3 => ?_) (fun o1 h2 h3 => ?_))
  ·
    refine GO.astoreN (ls1 := [some (.ref x), some (.ref p0), some (ti p1), some (ti p2), some (.null)]) dX11_judge_8 rfl rfl ?_
    refine GO.aloadN dX11_judge_10 rfl ?_
    refine GO.ifnonnullN dX11_judge_12 ?_
    refine GO.iconst dX11_judge_15 ?_
    exact GO.reti rfl rfl dX11_judge_16 ⟨rfl, _, rfl, (ir_c rfl), trivial⟩
  ·
    refine GO.astore (ls1 := [some (.ref x), some (.ref p0), some (ti p1), some (ti p2), some (.ref o1)]) dX11_judge_8 rfl rfl ?_
    refine GO.aload dX11_judge_10 rfl ?_
    refine GO.ifnonnull (tgt := 17) dX11_judge_12 (by decide) ?_
    refine GO.aload_n dX11_judge_17 rfl rfl ?_
    refine GO.aload_n dX11_judge_18 rfl rfl ?_
    refine GO.aload dX11_judge_19 rfl ?_
    refine GO.iload_n dX11_judge_21 rfl rfl ?_
    refine GO.callV (ci := 10) (N := mX11_tellLetters) dX11_judge_22 (RX11, TX11, 20) rfl gV_RX11_354 h_x (t_X11_tellLetters h_x h_p0 h2 r_p1) rfl [] rfl rfl (Nat.le_of_ble_eq_true rfl) rfl (k_vs fun V6 h5 hF4 => ?_)
    refine GO.aload_n dX11_judge_25 rfl rfl ?_
    refine GO.aload_n dX11_judge_26 rfl rfl ?_
    refine GO.callV (ci := 10) (N := mX11_tellNeighbours) dX11_judge_27 (RX11, TX11, 20) rfl gV_RX11_358 h_x (t_X11_tellNeighbours h_x h_p0) rfl [] rfl rfl (Nat.le_of_ble_eq_true rfl) rfl (k_vs fun V9 h8 hF7 => ?_)
    refine GO.aload_n dX11_judge_30 rfl rfl ?_
    refine GO.getR h_x fl_RX11_19 rfl rfl dX11_judge_31 (fun hv11 h10 => ?_)
    refine GO.aload_n dX11_judge_34 rfl rfl ?_
    refine GO.getI h_p0 fl_RX11_353 rfl rfl dX11_judge_35 (fun _ _ => ?_)
    refine GO.aload dX11_judge_38 rfl ?_
    refine GO.iload_n dX11_judge_40 rfl rfl ?_
    refine GO.callV (ci := 1) (N := mX1_weigh) dX11_judge_41 (RX1, TX1, 13) rfl gV_RX11_279 h10 (t_X1_weigh h10 vi_ir h2 r_p1) rfl [] rfl rfl (Nat.le_of_ble_eq_true rfl) rfl (k_vs fun V14 h13 hF12 => ?_)
    refine GO.aload_n dX11_judge_44 rfl rfl ?_
    refine GO.getRaw h_x fl_RX11_19 (Eq.trans (hF12 _ _ _ h_x h_x (by decide +kernel)) hv11) dX11_judge_45 ?_
    refine GO.aload_n dX11_judge_48 rfl rfl ?_
    refine GO.iload_n dX11_judge_49 rfl rfl ?_
    refine GO.iload_n dX11_judge_50 rfl rfl ?_
    refine GO.aload_n dX11_judge_51 rfl rfl ?_
    refine GO.aload_n dX11_judge_52 rfl rfl ?_
    refine GO.iload_n dX11_judge_53 rfl rfl ?_
    refine GO.callV (ci := 10) (N := mX11_hasConsent) dX11_judge_54 (RX11, TX11, 20) rfl gV_RX11_362 h_x (t_X11_hasConsent h_x h_p0 r_p1) rfl [ti p2, ti p1, .ref p0, .ref (vq V9 x 1)] rfl rfl (Nat.le_of_ble_eq_true rfl) rfl (k_ip fun X17 r18 h19 => ?_)
    refine GO.callV (ci := 1) (N := mX1_judge) dX11_judge_57 (RX1, TX1, 13) rfl gV_RX11_366 h10 (t_X1_judge h10 h_p0 r_p1 r_p2 (by omega) r18 (by omega)) rfl [] rfl rfl (Nat.le_of_ble_eq_true rfl) rfl (k_is fun X20 V24 r21 h22 hF23 => ?_)
    have q25 : -2147483648 ≤ X20 ∧ X20 ≤ 2147483647 := r21
    exact GO.reti rfl rfl dX11_judge_60 ⟨rfl, _, rfl, r21, trivial⟩

set_option maxHeartbeats 1000000 in
theorem t_X11_may {K : Kmap} {V : Vmap} {x : Nat} {p0 : Int} {p1 : Int} {p2 : Int} (h_x : K x = some (0, 10)) (r_p0 : ir p0) (r_p1 : ir p1) (r_p2 : ir p2) (z_p2 : p2 = 0 ∨ p2 = 1) : MC mX11_may K V [.ref x, ti p0, ti p1, ti p2] (IS K (fun X V1 => True)) := by
  refine MC.start 1 (by decide +kernel) rfl rfl rfl (ls0 := [some (.ref x), some (ti p0), some (ti p1), some (ti p2), none]) rfl ?_
  refine GO.aload_n dX11_may_0 rfl rfl ?_
  refine GO.iload_n dX11_may_1 rfl rfl ?_
  refine GO.callV (ci := 10) (N := mX11_workOf) dX11_may_2 (RX11, TX11, 20) rfl gV_RX11_309 h_x (t_X11_workOf h_x r_p0) rfl [] rfl rfl (Nat.le_of_ble_eq_true rfl) rfl (k_rp (fun h3 => ?_) (fun o1 h2 h3 => ?_))
  ·
    refine GO.astoreN (ls1 := [some (.ref x), some (ti p0), some (ti p1), some (ti p2), some (.null)]) dX11_may_5 rfl rfl ?_
    refine GO.aloadN dX11_may_7 rfl ?_
    refine GO.ifnullN (tgt := 19) dX11_may_9 (by decide) ?_
    refine GO.iconst dX11_may_19 ?_
    exact GO.reti rfl rfl dX11_may_20 ⟨rfl, _, rfl, (ir_c rfl), trivial⟩
  ·
    refine GO.astore (ls1 := [some (.ref x), some (ti p0), some (ti p1), some (ti p2), some (.ref o1)]) dX11_may_5 rfl rfl ?_
    refine GO.aload dX11_may_7 rfl ?_
    refine GO.ifnull dX11_may_9 ?_
    refine GO.iload_n dX11_may_12 rfl rfl ?_
    refine GO.callS (N := mX11_isDay) dX11_may_13 gS_RX11_276 (t_X11_isDay r_p1) rfl [] rfl rfl (Nat.le_of_ble_eq_true rfl) rfl (k_ip fun X4 r5 h6 => ?_)
    refine GO.if_ne (tgt := 21) dX11_may_16 (by decide) r5 (fun c7 => ?_) (fun c7 => ?_)
    ·
      refine GO.aload_n dX11_may_21 rfl rfl ?_
      refine GO.aload dX11_may_22 rfl ?_
      refine GO.iload_n dX11_may_24 rfl rfl ?_
      refine GO.iload_n dX11_may_25 rfl rfl ?_
      refine GO.callV (ci := 10) (N := mX11_judge) dX11_may_26 (RX11, TX11, 20) rfl gV_RX11_331 h_x (t_X11_judge h_x h2 r_p1 r_p2 (by omega)) rfl [] rfl rfl (Nat.le_of_ble_eq_true rfl) rfl (k_is fun X8 V12 r9 h10 hF11 => ?_)
      have q13 : -2147483648 ≤ X8 ∧ X8 ≤ 2147483647 := r9
      exact GO.reti rfl rfl dX11_may_29 ⟨rfl, _, rfl, r9, trivial⟩
    ·
      refine GO.iconst dX11_may_19 ?_
      exact GO.reti rfl rfl dX11_may_20 ⟨rfl, _, rfl, (ir_c rfl), trivial⟩

set_option maxHeartbeats 1000000 in
theorem t_X11_why {K : Kmap} {V : Vmap} {x : Nat} {p0 : Int} {p1 : Int} {p2 : Int} {p3 : Int} (h_x : K x = some (0, 10)) (r_p0 : ir p0) (r_p1 : ir p1) (r_p2 : ir p2) (z_p2 : p2 = 0 ∨ p2 = 1) (r_p3 : ir p3) : MC mX11_why K V [.ref x, ti p0, ti p1, ti p2, ti p3] (IS K (fun X V1 => True)) := by
  refine MC.start 1 (by decide +kernel) rfl rfl rfl (ls0 := [some (.ref x), some (ti p0), some (ti p1), some (ti p2), some (ti p3), none]) rfl ?_
  refine GO.aload_n dX11_why_0 rfl rfl ?_
  refine GO.iload_n dX11_why_1 rfl rfl ?_
  refine GO.callV (ci := 10) (N := mX11_workOf) dX11_why_2 (RX11, TX11, 20) rfl gV_RX11_309 h_x (t_X11_workOf h_x r_p0) rfl [] rfl rfl (Nat.le_of_ble_eq_true rfl) rfl (k_rp (fun h3 => ?_) (fun o1 h2 h3 => ?_))
  ·
    refine GO.astoreN (ls1 := [some (.ref x), some (ti p0), some (ti p1), some (ti p2), some (ti p3), some (.null)]) dX11_why_5 rfl rfl ?_
    refine GO.aloadN dX11_why_7 rfl ?_
    refine GO.ifnullN (tgt := 29) dX11_why_9 (by decide) ?_
    refine GO.iconst dX11_why_29 ?_
    exact GO.reti rfl rfl dX11_why_30 ⟨rfl, _, rfl, (ir_c rfl), trivial⟩
  ·
    refine GO.astore (ls1 := [some (.ref x), some (ti p0), some (ti p1), some (ti p2), some (ti p3), some (.ref o1)]) dX11_why_5 rfl rfl ?_
    refine GO.aload dX11_why_7 rfl ?_
    refine GO.ifnull dX11_why_9 ?_
    refine GO.iload_n dX11_why_12 rfl rfl ?_
    refine GO.callS (N := mX11_isDay) dX11_why_13 gS_RX11_276 (t_X11_isDay r_p1) rfl [] rfl rfl (Nat.le_of_ble_eq_true rfl) rfl (k_ip fun X4 r5 h6 => ?_)
    refine GO.if_eq (tgt := 29) dX11_why_16 (by decide) r5 (fun c7 => ?_) (fun c7 => ?_)
    ·
      refine GO.iconst dX11_why_29 ?_
      exact GO.reti rfl rfl dX11_why_30 ⟨rfl, _, rfl, (ir_c rfl), trivial⟩
    ·
      refine GO.iload dX11_why_19 rfl ?_
      refine GO.iconst dX11_why_21 ?_
      refine GO.iconst dX11_why_22 ?_
      refine GO.callS (N := mX11_between) dX11_why_23 gS_RX11_112 (t_X11_between r_p3 (ir_c rfl) (ir_c rfl)) rfl [] rfl rfl (Nat.le_of_ble_eq_true rfl) rfl (k_ip fun X8 r9 h10 => ?_)
      refine GO.if_ne (tgt := 31) dX11_why_26 (by decide) r9 (fun c11 => ?_) (fun c11 => ?_)
      ·
        have q12 := h10.2.1 (by omega)
        refine GO.aload_n dX11_why_31 rfl rfl ?_
        refine GO.aload dX11_why_32 rfl ?_
        refine GO.iload_n dX11_why_34 rfl rfl ?_
        refine GO.iload_n dX11_why_35 rfl rfl ?_
        refine GO.callV (ci := 10) (N := mX11_judge) dX11_why_36 (RX11, TX11, 20) rfl gV_RX11_331 h_x (t_X11_judge h_x h2 r_p1 r_p2 (by omega)) rfl [] rfl rfl (Nat.le_of_ble_eq_true rfl) rfl (k_is fun X13 V17 r14 h15 hF16 => ?_)
        refine GO.pop dX11_why_39 rfl ?_
        refine GO.iload dX11_why_40 rfl ?_
        refine GO.if_ne (tgt := 55) dX11_why_42 (by decide) r_p3 (fun c18 => ?_) (fun c18 => ?_)
        ·
          refine GO.aload_n dX11_why_55 rfl rfl ?_
          refine GO.getR h_x fl_RX11_19 rfl rfl dX11_why_56 (fun hv20 h19 => ?_)
          refine GO.getI h19 fl_RX11_338 rfl rfl dX11_why_59 (fun _ _ => ?_)
          have q21 : -2147483648 ≤ vi V17 (vq V17 x 1) 12 ∧ vi V17 (vq V17 x 1) 12 ≤ 2147483647 := vi_ir
          exact GO.reti rfl rfl dX11_why_62 ⟨rfl, _, rfl, vi_ir, trivial⟩
        ·
          refine GO.aload_n dX11_why_45 rfl rfl ?_
          refine GO.getR h_x fl_RX11_19 rfl rfl dX11_why_46 (fun hv23 h22 => ?_)
          refine GO.getI h22 fl_RX11_335 rfl rfl dX11_why_49 (fun _ _ => ?_)
          refine GO.goto (tgt := 62) dX11_why_52 (by decide) ?_
          have q24 : -2147483648 ≤ vi V17 (vq V17 x 1) 11 ∧ vi V17 (vq V17 x 1) 11 ≤ 2147483647 := vi_ir
          exact GO.reti rfl rfl dX11_why_62 ⟨rfl, _, rfl, vi_ir, trivial⟩
      ·
        have q25 := h10.2.2 (by omega)
        refine GO.iconst dX11_why_29 ?_
        exact GO.reti rfl rfl dX11_why_30 ⟨rfl, _, rfl, (ir_c rfl), trivial⟩

set_option maxHeartbeats 1000000 in
theorem t_X11_whose {K : Kmap} {V : Vmap} {x : Nat} {p0 : Int} {p1 : Int} (h_x : K x = some (0, 10)) (r_p0 : ir p0) (r_p1 : ir p1) : MC mX11_whose K V [.ref x, ti p0, ti p1] (IS K (fun X V1 => True)) := by
  refine MC.start 6 (by decide +kernel) rfl rfl rfl (ls0 := [some (.ref x), some (ti p0), some (ti p1), none, none, none, none, none, none]) rfl ?_
  refine GO.aload_n dX11_whose_0 rfl rfl ?_
  refine GO.iload_n dX11_whose_1 rfl rfl ?_
  refine GO.callV (ci := 10) (N := mX11_partyOf) dX11_whose_2 (RX11, TX11, 20) rfl gV_RX11_151 h_x (t_X11_partyOf h_x r_p0) rfl [] rfl rfl (Nat.le_of_ble_eq_true rfl) rfl (k_rp (fun h3 => ?_) (fun o1 h2 h3 => ?_))
  ·
    refine GO.astore_nN (ls1 := [some (.ref x), some (ti p0), some (ti p1), some (.null), none, none, none, none, none]) dX11_whose_5 rfl rfl rfl ?_
    refine GO.aload_nN dX11_whose_6 rfl rfl ?_
    refine GO.ifnullN (tgt := 21) dX11_whose_7 (by decide) ?_
    refine GO.iconst dX11_whose_21 ?_
    exact GO.reti rfl rfl dX11_whose_22 ⟨rfl, _, rfl, (ir_c rfl), trivial⟩
  ·
    refine GO.astore_n (ls1 := [some (.ref x), some (ti p0), some (ti p1), some (.ref o1), none, none, none, none, none]) dX11_whose_5 rfl rfl rfl ?_
    refine GO.aload_n dX11_whose_6 rfl rfl ?_
    refine GO.ifnull dX11_whose_7 ?_
    refine GO.aload_n dX11_whose_10 rfl rfl ?_
    refine GO.getR h_x fl_RX11_12 rfl rfl dX11_whose_11 (fun hv5 h4 => ?_)
    refine GO.iload_n dX11_whose_14 rfl rfl ?_
    refine GO.callV (ci := 0) (N := mX0_isCell) dX11_whose_15 (RX0, TX0, 13) rfl gV_RX11_119 h4 (t_X0_isCell h4 r_p1) rfl [] rfl rfl (Nat.le_of_ble_eq_true rfl) rfl (k_ip fun X6 r7 h8 => ?_)
    refine GO.if_ne (tgt := 23) dX11_whose_18 (by decide) r7 (fun c9 => ?_) (fun c9 => ?_)
    ·
      refine GO.aload_n dX11_whose_23 rfl rfl ?_
      refine GO.getR h_x fl_RX11_19 rfl rfl dX11_whose_24 (fun hv11 h10 => ?_)
      refine GO.iload_n dX11_whose_27 rfl rfl ?_
      refine GO.aload_n dX11_whose_28 rfl rfl ?_
      refine GO.aload_n dX11_whose_29 rfl rfl ?_
      refine GO.getRaw h_x fl_RX11_12 hv5 dX11_whose_30 ?_
      refine GO.getI h4 fl_RX11_145 rfl rfl dX11_whose_33 (fun _ _ => ?_)
      refine GO.callV (ci := 1) (N := mX1_weigh) dX11_whose_36 (RX1, TX1, 13) rfl gV_RX11_279 h10 (t_X1_weigh h10 r_p0 h2 vi_ir) rfl [] rfl rfl (Nat.le_of_ble_eq_true rfl) rfl (k_vs fun V16 h15 hF14 => ?_)
      refine GO.iconst dX11_whose_39 ?_
      refine GO.aload_n dX11_whose_40 rfl rfl ?_
      refine GO.getRaw h_x fl_RX11_19 (Eq.trans (hF14 _ _ _ h_x h_x (by decide +kernel)) hv11) dX11_whose_41 ?_
      refine GO.bipush dX11_whose_44 rfl ?_
      refine GO.iconst dX11_whose_46 ?_
      refine GO.iconst dX11_whose_47 ?_
      refine GO.callV (ci := 1) (N := mX1_numberOf) dX11_whose_48 (RX1, TX1, 13) rfl gV_RX11_292 h10 (t_X1_numberOf h10 (ir_c rfl) (ir_c rfl) (ir_c rfl)) rfl [ti 0] rfl rfl (Nat.le_of_ble_eq_true rfl) rfl (k_ip fun X19 r20 h21 => ?_)
      refine GO.callS (N := mJ9_max_7cf53) dX11_whose_51 gS_RX11_296 (t_J9_max_7cf53 (ir_c rfl) r20) rfl [] rfl rfl (Nat.le_of_ble_eq_true rfl) rfl (k_ip fun X22 r23 h24 => ?_)
      have q25 : -2147483648 ≤ X19 ∧ X19 ≤ 2147483647 := r20
      have q26 : -2147483648 ≤ X22 ∧ X22 ≤ 2147483647 := r23
      refine GO.istore (ls1 := [some (.ref x), some (ti p0), some (ti p1), some (.ref o1), some (ti X22), none, none, none, none]) dX11_whose_54 rfl rfl ?_
      refine GO.aload_n dX11_whose_56 rfl rfl ?_
      refine GO.aload_n dX11_whose_57 rfl rfl ?_
      refine GO.getRaw h_x fl_RX11_12 (Eq.trans (hF14 _ _ _ h_x h_x (by decide +kernel)) hv5) dX11_whose_58 ?_
      refine GO.getI h4 fl_RX11_145 rfl rfl dX11_whose_61 (fun _ _ => ?_)
      refine GO.callV (ci := 2) (N := mX2_decidesOn) dX11_whose_64 (RX2, TX2, 5) rfl gV_RX11_301 h2 (t_X2_decidesOn h2 vi_ir) rfl [] rfl rfl (Nat.le_of_ble_eq_true rfl) rfl (k_ip fun X29 r30 h31 => ?_)
      refine GO.if_eq (tgt := 87) dX11_whose_67 (by decide) r30 (fun c32 => ?_) (fun c32 => ?_)
      ·
        refine GO.bipush dX11_whose_87 rfl ?_
        exact GO.reti rfl rfl dX11_whose_89 ⟨rfl, _, rfl, (ir_c rfl), trivial⟩
      ·
        refine GO.aload_n dX11_whose_70 rfl rfl ?_
        refine GO.getRaw h_x fl_RX11_12 (Eq.trans (hF14 _ _ _ h_x h_x (by decide +kernel)) hv5) dX11_whose_71 ?_
        refine GO.getI h4 fl_RX11_145 rfl rfl dX11_whose_74 (fun _ _ => ?_)
        refine GO.aload_n dX11_whose_77 rfl rfl ?_
        refine GO.getI h2 fl_RX11_341 rfl rfl dX11_whose_78 (fun _ _ => ?_)
        refine GO.isub dX11_whose_81 ?_
        refine GO.norm (fun z35 r36 _ => ?_)
        refine GO.iload dX11_whose_82 rfl ?_
        refine GO.icmp_ge (tgt := 90) dX11_whose_84 (by decide) r36 r23 (fun c37 => ?_) (fun c37 => ?_)
        ·
          refine GO.iconst dX11_whose_90 ?_
          refine GO.istore (ls1 := [some (.ref x), some (ti p0), some (ti p1), some (.ref o1), some (ti X22), some (ti (-1)), none, none, none]) dX11_whose_91 rfl rfl ?_
          refine GO.iconst dX11_whose_93 ?_
          refine GO.istore (ls1 := [some (.ref x), some (ti p0), some (ti p1), some (.ref o1), some (ti X22), some (ti (-1)), some (ti (-1)), none, none]) dX11_whose_94 rfl rfl ?_
          refine GO.iconst dX11_whose_96 ?_
          refine GO.istore (ls1 := [some (.ref x), some (ti p0), some (ti p1), some (.ref o1), some (ti X22), some (ti (-1)), some (ti (-1)), some (ti 0), none]) dX11_whose_97 rfl rfl ?_
          refine GO.loop3 (fun i38 i39 i40 W => (-1) ≤ i38 ∧ i38 ≤ 59 ∧ (-1) ≤ i39 ∧ i39 ≤ 2147483647 ∧ 0 ≤ i40 ∧ i40 ≤ 60 ∧ V16 = W) (fun i38 i39 i40 => [some (.ref x), some (ti p0), some (ti p1), some (.ref o1), some (ti X22), some (ti i38), some (ti i39), some (ti i40), none]) (fun i38 i39 i40 W => (2147483647 - i40).toNat) (-1) (-1) 0 ⟨by omega, by omega, by omega, by omega, by omega, by omega, rfl⟩ rfl (fun i38 i39 i40 V517 hp519 ih518 => ?_)
          obtain ⟨l_i38, u_i38, l_i39, u_i39, l_i40, u_i40, rfl⟩ := hp519
          have r_i38 : ir i38 := ⟨by omega, by omega⟩
          have r_i39 : ir i39 := ⟨by omega, by omega⟩
          have r_i40 : ir i40 := ⟨by omega, by omega⟩
          show GO mX11_whose K V (IS K (fun X V1 => True)) K V16 0 0 99 [some (.ref x), some (ti p0), some (ti p1), some (.ref o1), some (ti X22), some (ti i38), some (ti i39), some (ti i40), none] []
          refine GO.iload dX11_whose_99 rfl ?_
          refine GO.aload_n dX11_whose_101 rfl rfl ?_
          refine GO.getI h_x fl_RX11_46 rfl rfl dX11_whose_102 (fun l520 u521 => ?_)
          refine GO.icmp_ge (tgt := 170) dX11_whose_105 (by decide) r_i40 vi_ir (fun c523 => ?_) (fun c523 => ?_)
          ·
            refine GO.iload dX11_whose_170 rfl ?_
            exact GO.reti rfl rfl dX11_whose_172 ⟨rfl, _, rfl, r_i38, trivial⟩
          ·
            refine GO.aload_n dX11_whose_108 rfl rfl ?_
            refine GO.iload dX11_whose_109 rfl ?_
            refine GO.iconst dX11_whose_111 ?_
            refine GO.callV (ci := 10) (N := mX11_placeOf) dX11_whose_112 (RX11, TX11, 20) rfl gV_RX11_169 h_x (t_X11_placeOf h_x r_i40 (ir_c rfl)) rfl [] rfl rfl (Nat.le_of_ble_eq_true rfl) rfl (k_rp (fun h526 => ?_) (fun o524 h525 h526 => ?_))
            ·
              refine GO.astoreN (ls1 := [some (.ref x), some (ti p0), some (ti p1), some (.ref o1), some (ti X22), some (ti i38), some (ti i39), some (ti i40), some (.null)]) dX11_whose_115 rfl rfl ?_
              refine GO.aloadN dX11_whose_117 rfl ?_
              refine GO.ifnullN (tgt := 164) dX11_whose_119 (by decide) ?_
              refine GO.iinc (X := i40) (n := 1) (Y := i40 + 1) (ls1 := [some (.ref x), some (ti p0), some (ti p1), some (.ref o1), some (ti X22), some (ti i38), some (ti i39), some (ti (i40 + 1)), some (.null)]) dX11_whose_164 rfl rfl rfl rfl ?_
              refine GO.goto (tgt := 99) dX11_whose_167 (by decide) ?_
              refine GO.drop [true, true, true, true, true, true, true, true, false] rfl ?_
              exact ih518 i38 i39 (i40 + 1) V16 ⟨by omega, by omega, by omega, by omega, by omega, by omega, rfl⟩ (by show (2147483647 - (i40 + 1)).toNat < (2147483647 - i40).toNat; omega)
            ·
              refine GO.astore (ls1 := [some (.ref x), some (ti p0), some (ti p1), some (.ref o1), some (ti X22), some (ti i38), some (ti i39), some (ti i40), some (.ref o524)]) dX11_whose_115 rfl rfl ?_
              refine GO.aload dX11_whose_117 rfl ?_
              refine GO.ifnull dX11_whose_119 ?_
              refine GO.aload dX11_whose_122 rfl ?_
              refine GO.getI h525 fl_RX11_176 rfl rfl dX11_whose_124 (fun _ _ => ?_)
              refine GO.iload dX11_whose_127 rfl ?_
              refine GO.icmp_le (tgt := 164) dX11_whose_129 (by decide) vi_ir r_i39 (fun c527 => ?_) (fun c527 => ?_)
              ·
                refine GO.iinc (X := i40) (n := 1) (Y := i40 + 1) (ls1 := [some (.ref x), some (ti p0), some (ti p1), some (.ref o1), some (ti X22), some (ti i38), some (ti i39), some (ti (i40 + 1)), some (.ref o524)]) dX11_whose_164 rfl rfl rfl rfl ?_
                refine GO.goto (tgt := 99) dX11_whose_167 (by decide) ?_
                refine GO.drop [true, true, true, true, true, true, true, true, false] rfl ?_
                have q528 : -2147483648 ≤ vi V16 o524 4 ∧ vi V16 o524 4 ≤ 2147483647 := vi_ir
                exact ih518 i38 i39 (i40 + 1) V16 ⟨by omega, by omega, by omega, by omega, by omega, by omega, rfl⟩ (by show (2147483647 - (i40 + 1)).toNat < (2147483647 - i40).toNat; omega)
              ·
                refine GO.aload_n dX11_whose_132 rfl rfl ?_
                refine GO.getRaw h_x fl_RX11_12 (Eq.trans (hF14 _ _ _ h_x h_x (by decide +kernel)) hv5) dX11_whose_133 ?_
                refine GO.iload_n dX11_whose_136 rfl rfl ?_
                refine GO.aload dX11_whose_137 rfl ?_
                refine GO.getI h525 fl_RX11_344 rfl rfl dX11_whose_139 (fun _ _ => ?_)
                refine GO.aload dX11_whose_142 rfl ?_
                refine GO.getI h525 fl_RX11_347 rfl rfl dX11_whose_144 (fun _ _ => ?_)
                refine GO.callV (ci := 0) (N := mX0_isWithin) dX11_whose_147 (RX0, TX0, 13) rfl gV_RX11_350 h4 (t_X0_isWithin h4 r_p1 vi_ir vi_ir) rfl [] rfl rfl (Nat.le_of_ble_eq_true rfl) rfl (k_ip fun X531 r532 h533 => ?_)
                refine GO.if_eq (tgt := 164) dX11_whose_150 (by decide) r532 (fun c534 => ?_) (fun c534 => ?_)
                ·
                  refine GO.iinc (X := i40) (n := 1) (Y := i40 + 1) (ls1 := [some (.ref x), some (ti p0), some (ti p1), some (.ref o1), some (ti X22), some (ti i38), some (ti i39), some (ti (i40 + 1)), some (.ref o524)]) dX11_whose_164 rfl rfl rfl rfl ?_
                  refine GO.goto (tgt := 99) dX11_whose_167 (by decide) ?_
                  refine GO.drop [true, true, true, true, true, true, true, true, false] rfl ?_
                  have q535 : -2147483648 ≤ vi V16 o524 4 ∧ vi V16 o524 4 ≤ 2147483647 := vi_ir
                  exact ih518 i38 i39 (i40 + 1) V16 ⟨by omega, by omega, by omega, by omega, by omega, by omega, rfl⟩ (by show (2147483647 - (i40 + 1)).toNat < (2147483647 - i40).toNat; omega)
                ·
                  refine GO.iload dX11_whose_153 rfl ?_
                  refine GO.istore (ls1 := [some (.ref x), some (ti p0), some (ti p1), some (.ref o1), some (ti X22), some (ti i40), some (ti i39), some (ti i40), some (.ref o524)]) dX11_whose_155 rfl rfl ?_
                  refine GO.aload dX11_whose_157 rfl ?_
                  refine GO.getI h525 fl_RX11_176 rfl rfl dX11_whose_159 (fun _ _ => ?_)
                  refine GO.name (fun z536 hz537 => ?_)
                  have r538 : ir z536 := hz537 ▸ vi_ir
                  refine GO.istore (ls1 := [some (.ref x), some (ti p0), some (ti p1), some (.ref o1), some (ti X22), some (ti i40), some (ti z536), some (ti i40), some (.ref o524)]) dX11_whose_162 rfl rfl ?_
                  refine GO.iinc (X := i40) (n := 1) (Y := i40 + 1) (ls1 := [some (.ref x), some (ti p0), some (ti p1), some (.ref o1), some (ti X22), some (ti i40), some (ti z536), some (ti (i40 + 1)), some (.ref o524)]) dX11_whose_164 rfl rfl rfl rfl ?_
                  refine GO.goto (tgt := 99) dX11_whose_167 (by decide) ?_
                  refine GO.drop [true, true, true, true, true, true, true, true, false] rfl ?_
                  have q539 : -2147483648 ≤ z536 ∧ z536 ≤ 2147483647 := r538
                  have q540 : -2147483648 ≤ vi V16 o524 4 ∧ vi V16 o524 4 ≤ 2147483647 := vi_ir
                  exact ih518 i40 z536 (i40 + 1) V16 ⟨by omega, by omega, by omega, by omega, by omega, by omega, rfl⟩ (by show (2147483647 - (i40 + 1)).toNat < (2147483647 - i40).toNat; omega)
        ·
          refine GO.bipush dX11_whose_87 rfl ?_
          exact GO.reti rfl rfl dX11_whose_89 ⟨rfl, _, rfl, (ir_c rfl), trivial⟩
    ·
      refine GO.iconst dX11_whose_21 ?_
      exact GO.reti rfl rfl dX11_whose_22 ⟨rfl, _, rfl, (ir_c rfl), trivial⟩

set_option maxHeartbeats 1000000 in
theorem t_X11_ship {K : Kmap} {V : Vmap} {x : Nat} {p0 : Int} {p1 : Int} {p2 : Int} (h_x : K x = some (0, 10)) (r_p0 : ir p0) (r_p1 : ir p1) (r_p2 : ir p2) : MC mX11_ship K V [.ref x, ti p0, ti p1, ti p2] (IX (fun X _ _ => True)) := by
  refine MC.start 0 (by decide +kernel) rfl rfl rfl (ls0 := [some (.ref x), some (ti p0), some (ti p1), some (ti p2)]) rfl ?_
  refine GO.aload_n dX11_ship_0 rfl rfl ?_
  refine GO.iload_n dX11_ship_1 rfl rfl ?_
  refine GO.callV (ci := 10) (N := mX11_partyOf) dX11_ship_2 (RX11, TX11, 20) rfl gV_RX11_151 h_x (t_X11_partyOf h_x r_p0) rfl [] rfl rfl (Nat.le_of_ble_eq_true rfl) rfl (k_rp (fun h3 => ?_) (fun o1 h2 h3 => ?_))
  ·
    refine GO.ifnullN (tgt := 29) dX11_ship_5 (by decide) ?_
    refine GO.iconst dX11_ship_29 ?_
    exact GO.reti rfl rfl dX11_ship_30 ⟨_, rfl, (ir_c rfl), trivial⟩
  ·
    refine GO.ifnull dX11_ship_5 ?_
    refine GO.iload_n dX11_ship_8 rfl rfl ?_
    refine GO.iconst dX11_ship_9 ?_
    refine GO.sipush dX11_ship_10 rfl ?_
    refine GO.callS (N := mX11_between) dX11_ship_13 gS_RX11_112 (t_X11_between r_p1 (ir_c rfl) (ir_c rfl)) rfl [] rfl rfl (Nat.le_of_ble_eq_true rfl) rfl (k_ip fun X4 r5 h6 => ?_)
    refine GO.if_eq (tgt := 29) dX11_ship_16 (by decide) r5 (fun c7 => ?_) (fun c7 => ?_)
    ·
      have q8 := h6.2.2 (by omega)
      refine GO.iconst dX11_ship_29 ?_
      exact GO.reti rfl rfl dX11_ship_30 ⟨_, rfl, (ir_c rfl), trivial⟩
    ·
      have q9 := h6.2.1 (by omega)
      refine GO.iload_n dX11_ship_19 rfl rfl ?_
      refine GO.iconst dX11_ship_20 ?_
      refine GO.bipush dX11_ship_21 rfl ?_
      refine GO.callS (N := mX11_between) dX11_ship_23 gS_RX11_112 (t_X11_between r_p2 (ir_c rfl) (ir_c rfl)) rfl [] rfl rfl (Nat.le_of_ble_eq_true rfl) rfl (k_ip fun X10 r11 h12 => ?_)
      refine GO.if_ne (tgt := 31) dX11_ship_26 (by decide) r11 (fun c13 => ?_) (fun c13 => ?_)
      ·
        have q14 := h12.2.1 (by omega)
        refine GO.aload_n dX11_ship_31 rfl rfl ?_
        refine GO.getI h_x fl_RX11_64 rfl rfl dX11_ship_32 (fun l15 u16 => ?_)
        refine GO.aload_n dX11_ship_35 rfl rfl ?_
        refine GO.getA (n := 10) h_x fl_RX11_60 rfl rfl rfl rfl dX11_ship_36 (fun hv18 h17 => ?_)
        refine GO.alen h17 dX11_ship_39 (fun h19 => ?_)
        refine GO.icmp_lt (tgt := 45) dX11_ship_40 (by decide) vi_ir ⟨by omega, by omega⟩ (fun c20 => ?_) (fun c20 => ?_)
        ·
          refine GO.aload_n dX11_ship_45 rfl rfl ?_
          refine GO.getRaw h_x fl_RX11_60 hv18 dX11_ship_46 ?_
          refine GO.aload_n dX11_ship_49 rfl rfl ?_
          refine GO.getI h_x fl_RX11_64 rfl rfl dX11_ship_50 (fun l23 u24 => ?_)
          refine GO.new (ci := 18) (RX7, TX7, 11) tyX7 rfl rfl lays_6 tyX7_ok gw_225 gw_1045 gw_20 rfl rfl dX11_ship_53 (fun o25 K26 V32 hq27 hK28 hE29 h30 _ hV31 => ?_)
          have h33 := hE29.obj (by decide) h_x
          have h34 := hE29.arr h17
          refine GO.dup dX11_ship_56 rfl ?_
          refine GO.iload_n dX11_ship_57 rfl rfl ?_
          refine GO.iload_n dX11_ship_58 rfl rfl ?_
          refine GO.iload_n dX11_ship_59 rfl rfl ?_
          refine GO.callI (N := mX7_init) dX11_ship_60 gI_RX11_391 rfl (t_X7_init h30 r_p0 r_p1 r_p2) rfl [.ref o25, ti (vi V x 10), .ref (vq V x 9)] rfl rfl (Nat.le_of_ble_eq_true rfl) rfl (k_vx fun K37 V39 h38 hE36 hF35 => ?_)
          have h40 := hE36.obj (by decide) h33
          have h41 := hE36.arr h34
          have h42 := h38.1
          refine GO.aast (t := 7) (by decide) (RX7, TX7, 11) rfl rfl rfl (by decide +kernel) h41 h42 vi_ir (by omega) (by omega) dX11_ship_63 (fun V44 e43 => ?_)
          refine GO.aload_n dX11_ship_64 rfl rfl ?_
          refine GO.dup dX11_ship_65 rfl ?_
          refine GO.getI h40 fl_RX11_64 rfl rfl dX11_ship_66 (fun l45 u46 => ?_)
          have e49 : vi V32 x 10 = vi V x 10 := vi_nw hV31 (K_old h_x hq27)
          have e48 : vi V39 x 10 = vi V32 x 10 := vi_fr hF35 h33 h40 (by decide +kernel)
          have e47 : vi V44 x 10 = vi V39 x 10 := vi_up e43 (Or.inl (K_ne h40 h41 (by decide)))
          refine GO.dup_x1 dX11_ship_69 rfl rfl ?_
          refine GO.iconst dX11_ship_70 ?_
          refine GO.iadd dX11_ship_71 ?_
          refine GO.putI h40 fp_RX11_64 rfl (by decide +kernel) ⟨by omega, by omega⟩ (by omega) (by omega) dX11_ship_72 (fun V51 e50 => ?_)
          exact GO.reti rfl rfl dX11_ship_75 ⟨_, rfl, vi_ir, trivial⟩
        ·
          refine GO.iconst dX11_ship_43 ?_
          exact GO.reti rfl rfl dX11_ship_44 ⟨_, rfl, (ir_c rfl), trivial⟩
      ·
        have q52 := h12.2.2 (by omega)
        refine GO.iconst dX11_ship_29 ?_
        exact GO.reti rfl rfl dX11_ship_30 ⟨_, rfl, (ir_c rfl), trivial⟩

set_option maxHeartbeats 1000000 in
theorem t_X11_isSea {K : Kmap} {V : Vmap} {p0 : Int} (r_p0 : ir p0) : MC mX11_isSea K V [ti p0] (IP K V (fun X => (X = 0 ∨ X = 1) ∧ (X ≠ 0 → p0 ≥ 0 ∧ p0 ≤ 3) ∧ (X = 0 → (p0 < 0 ∨ p0 > 3)))) := by
  refine MC.start 0 (by decide +kernel) rfl rfl rfl (ls0 := [some (ti p0)]) rfl ?_
  refine GO.iload_n dX11_isSea_0 rfl rfl ?_
  refine GO.iconst dX11_isSea_1 ?_
  refine GO.iconst dX11_isSea_2 ?_
  refine GO.callS (N := mX11_between) dX11_isSea_3 gS_RX11_112 (t_X11_between r_p0 (ir_c rfl) (ir_c rfl)) rfl [] rfl rfl (Nat.le_of_ble_eq_true rfl) rfl (k_ip fun X1 r2 h3 => ?_)
  exact GO.retz rfl rfl dX11_isSea_6 (by omega) ⟨rfl, rfl, _, rfl, r2, ⟨by omega, fun h => by omega, fun h => by omega⟩⟩

set_option maxHeartbeats 1000000 in
theorem t_X11_cover {K : Kmap} {V : Vmap} {x : Nat} {p0 : Int} {p1 : Int} {p2 : Int} (h_x : K x = some (0, 10)) (r_p0 : ir p0) (r_p1 : ir p1) (r_p2 : ir p2) : MC mX11_cover K V [.ref x, ti p0, ti p1, ti p2] (IS K (fun X V1 => (X = 0 ∨ X = 1) ∧ (X ≠ 0 → p0 ≥ 0 ∧ p0 ≤ 3 ∧ p1 ≥ 0 ∧ p1 ≤ 11 ∧ p2 ≥ 0 ∧ p2 ≤ 100) ∧ (X = 0 → (p0 < 0 ∨ p0 > 3 ∨ p1 < 0 ∨ p1 > 11 ∨ p2 < 0 ∨ p2 > 100)))) := by
  refine MC.start 0 (by decide +kernel) rfl rfl rfl (ls0 := [some (.ref x), some (ti p0), some (ti p1), some (ti p2)]) rfl ?_
  refine GO.iload_n dX11_cover_0 rfl rfl ?_
  refine GO.callS (N := mX11_isSea) dX11_cover_1 gS_RX11_394 (t_X11_isSea r_p0) rfl [] rfl rfl (Nat.le_of_ble_eq_true rfl) rfl (k_ip fun X1 r2 h3 => ?_)
  refine GO.if_eq (tgt := 27) dX11_cover_4 (by decide) r2 (fun c4 => ?_) (fun c4 => ?_)
  ·
    have q5 := h3.2.2 (by omega)
    refine GO.iconst dX11_cover_27 ?_
    exact GO.retz rfl rfl dX11_cover_28 (Or.inl rfl) ⟨rfl, _, rfl, (ir_c rfl), ⟨Or.inl rfl, fun h => absurd rfl h, fun h => by omega⟩⟩
  ·
    have q6 := h3.2.1 (by omega)
    refine GO.iload_n dX11_cover_7 rfl rfl ?_
    refine GO.iconst dX11_cover_8 ?_
    refine GO.bipush dX11_cover_9 rfl ?_
    refine GO.callS (N := mX11_between) dX11_cover_11 gS_RX11_112 (t_X11_between r_p1 (ir_c rfl) (ir_c rfl)) rfl [] rfl rfl (Nat.le_of_ble_eq_true rfl) rfl (k_ip fun X7 r8 h9 => ?_)
    refine GO.if_eq (tgt := 27) dX11_cover_14 (by decide) r8 (fun c10 => ?_) (fun c10 => ?_)
    ·
      have q11 := h9.2.2 (by omega)
      refine GO.iconst dX11_cover_27 ?_
      exact GO.retz rfl rfl dX11_cover_28 (Or.inl rfl) ⟨rfl, _, rfl, (ir_c rfl), ⟨Or.inl rfl, fun h => absurd rfl h, fun h => by omega⟩⟩
    ·
      have q12 := h9.2.1 (by omega)
      refine GO.iload_n dX11_cover_17 rfl rfl ?_
      refine GO.iconst dX11_cover_18 ?_
      refine GO.bipush dX11_cover_19 rfl ?_
      refine GO.callS (N := mX11_between) dX11_cover_21 gS_RX11_112 (t_X11_between r_p2 (ir_c rfl) (ir_c rfl)) rfl [] rfl rfl (Nat.le_of_ble_eq_true rfl) rfl (k_ip fun X13 r14 h15 => ?_)
      refine GO.if_ne (tgt := 29) dX11_cover_24 (by decide) r14 (fun c16 => ?_) (fun c16 => ?_)
      ·
        have q17 := h15.2.1 (by omega)
        refine GO.aload_n dX11_cover_29 rfl rfl ?_
        refine GO.getR h_x fl_RX11_12 rfl rfl dX11_cover_30 (fun hv19 h18 => ?_)
        refine GO.getB h18 fl_RX11_397 rfl rfl dX11_cover_33 (fun n22 hv21 h20 b23 => ?_)
        refine GO.iload_n dX11_cover_36 rfl rfl ?_
        refine GO.bipush dX11_cover_37 rfl ?_
        refine GO.imul dX11_cover_39 ?_
        refine GO.iload_n dX11_cover_40 rfl rfl ?_
        refine GO.iadd dX11_cover_41 ?_
        refine GO.iload_n dX11_cover_42 rfl rfl ?_
        have q24 : -2147483648 ≤ p1 ∧ p1 ≤ 2147483647 := r_p1
        have q25 : -2147483648 ≤ p0 ∧ p0 ≤ 2147483647 := r_p0
        refine GO.callS (N := mX4_put) dX11_cover_43 gS_RX11_108 (t_X4_put h20 ⟨by omega, by omega⟩ r_p2) rfl [] rfl rfl (Nat.le_of_ble_eq_true rfl) rfl (k_vs fun V28 h27 hF26 => ?_)
        refine GO.iconst dX11_cover_46 ?_
        exact GO.retz rfl rfl dX11_cover_47 (Or.inr rfl) ⟨rfl, _, rfl, (ir_c rfl), ⟨Or.inr rfl, fun h => by omega, fun h => absurd h (by decide)⟩⟩
      ·
        have q29 := h15.2.2 (by omega)
        refine GO.iconst dX11_cover_27 ?_
        exact GO.retz rfl rfl dX11_cover_28 (Or.inl rfl) ⟨rfl, _, rfl, (ir_c rfl), ⟨Or.inl rfl, fun h => absurd rfl h, fun h => by omega⟩⟩

set_option maxHeartbeats 1000000 in
theorem t_X11_sea {K : Kmap} {V : Vmap} {x : Nat} {p0 : Int} {p1 : Int} (h_x : K x = some (0, 10)) (r_p0 : ir p0) (r_p1 : ir p1) : MC mX11_sea K V [.ref x, ti p0, ti p1] (IS K (fun X V1 => (X = 0 ∨ X = 1) ∧ (X ≠ 0 → p0 ≥ 0 ∧ p0 ≤ 3 ∧ p1 ≥ 1 ∧ p1 ≤ 90) ∧ (X = 0 → (p0 < 0 ∨ p0 > 3 ∨ p1 < 1 ∨ p1 > 90)))) := by
  refine MC.start 0 (by decide +kernel) rfl rfl rfl (ls0 := [some (.ref x), some (ti p0), some (ti p1)]) rfl ?_
  refine GO.iload_n dX11_sea_0 rfl rfl ?_
  refine GO.callS (N := mX11_isSea) dX11_sea_1 gS_RX11_394 (t_X11_isSea r_p0) rfl [] rfl rfl (Nat.le_of_ble_eq_true rfl) rfl (k_ip fun X1 r2 h3 => ?_)
  refine GO.if_eq (tgt := 17) dX11_sea_4 (by decide) r2 (fun c4 => ?_) (fun c4 => ?_)
  ·
    have q5 := h3.2.2 (by omega)
    refine GO.iconst dX11_sea_17 ?_
    exact GO.retz rfl rfl dX11_sea_18 (Or.inl rfl) ⟨rfl, _, rfl, (ir_c rfl), ⟨Or.inl rfl, fun h => absurd rfl h, fun h => by omega⟩⟩
  ·
    have q6 := h3.2.1 (by omega)
    refine GO.iload_n dX11_sea_7 rfl rfl ?_
    refine GO.iconst dX11_sea_8 ?_
    refine GO.bipush dX11_sea_9 rfl ?_
    refine GO.callS (N := mX11_between) dX11_sea_11 gS_RX11_112 (t_X11_between r_p1 (ir_c rfl) (ir_c rfl)) rfl [] rfl rfl (Nat.le_of_ble_eq_true rfl) rfl (k_ip fun X7 r8 h9 => ?_)
    refine GO.if_ne (tgt := 19) dX11_sea_14 (by decide) r8 (fun c10 => ?_) (fun c10 => ?_)
    ·
      have q11 := h9.2.1 (by omega)
      refine GO.aload_n dX11_sea_19 rfl rfl ?_
      refine GO.getR h_x fl_RX11_12 rfl rfl dX11_sea_20 (fun hv13 h12 => ?_)
      refine GO.getB h12 fl_RX11_400 rfl rfl dX11_sea_23 (fun n16 hv15 h14 b17 => ?_)
      refine GO.iload_n dX11_sea_26 rfl rfl ?_
      refine GO.iload_n dX11_sea_27 rfl rfl ?_
      refine GO.callS (N := mX4_put) dX11_sea_28 gS_RX11_108 (t_X4_put h14 r_p0 r_p1) rfl [] rfl rfl (Nat.le_of_ble_eq_true rfl) rfl (k_vs fun V20 h19 hF18 => ?_)
      refine GO.iconst dX11_sea_31 ?_
      exact GO.retz rfl rfl dX11_sea_32 (Or.inr rfl) ⟨rfl, _, rfl, (ir_c rfl), ⟨Or.inr rfl, fun h => by omega, fun h => absurd h (by decide)⟩⟩
    ·
      have q21 := h9.2.2 (by omega)
      refine GO.iconst dX11_sea_17 ?_
      exact GO.retz rfl rfl dX11_sea_18 (Or.inl rfl) ⟨rfl, _, rfl, (ir_c rfl), ⟨Or.inl rfl, fun h => absurd rfl h, fun h => by omega⟩⟩

set_option maxHeartbeats 1000000 in
theorem t_X11_shipOf {K : Kmap} {V : Vmap} {x : Nat} {p0 : Int} (h_x : K x = some (0, 10)) (r_p0 : ir p0) : MC mX11_shipOf K V [.ref x, ti p0] (RP K V 6 (True) (fun _ => True)) := by
  refine MC.start 0 (by decide +kernel) rfl rfl rfl (ls0 := [some (.ref x), some (ti p0)]) rfl ?_
  refine GO.iload_n dX11_shipOf_0 rfl rfl ?_
  refine GO.if_lt (tgt := 30) dX11_shipOf_1 (by decide) r_p0 (fun c1 => ?_) (fun c1 => ?_)
  ·
    refine GO.null dX11_shipOf_30 ?_
    exact GO.reta rfl rfl (Or.inl ⟨_, rfl⟩) dX11_shipOf_31 (Or.inl rfl) ⟨rfl, rfl, Or.inl ⟨rfl, trivial⟩⟩
  ·
    refine GO.iload_n dX11_shipOf_4 rfl rfl ?_
    refine GO.aload_n dX11_shipOf_5 rfl rfl ?_
    refine GO.getI h_x fl_RX11_64 rfl rfl dX11_shipOf_6 (fun l2 u3 => ?_)
    refine GO.icmp_ge (tgt := 30) dX11_shipOf_9 (by decide) r_p0 vi_ir (fun c4 => ?_) (fun c4 => ?_)
    ·
      refine GO.null dX11_shipOf_30 ?_
      exact GO.reta rfl rfl (Or.inl ⟨_, rfl⟩) dX11_shipOf_31 (Or.inl rfl) ⟨rfl, rfl, Or.inl ⟨rfl, trivial⟩⟩
    ·
      refine GO.iload_n dX11_shipOf_12 rfl rfl ?_
      refine GO.aload_n dX11_shipOf_13 rfl rfl ?_
      refine GO.getA (n := 10) h_x fl_RX11_60 rfl rfl rfl rfl dX11_shipOf_14 (fun hv6 h5 => ?_)
      refine GO.alen h5 dX11_shipOf_17 (fun h7 => ?_)
      have q9 : -2147483648 ≤ p0 ∧ p0 ≤ 2147483647 := r_p0
      refine GO.icmp_ge (tgt := 30) dX11_shipOf_18 (by decide) r_p0 ⟨by omega, by omega⟩ (fun h => by exfalso; omega) (fun c8 => ?_)
      refine GO.aload_n dX11_shipOf_21 rfl rfl ?_
      refine GO.getRaw h_x fl_RX11_60 hv6 dX11_shipOf_22 ?_
      refine GO.iload_n dX11_shipOf_25 rfl rfl ?_
      refine GO.aald (t := 7) rfl rfl h5 r_p0 (by omega) (by omega) dX11_shipOf_26 (fun _ => ?_) (fun _ h12 => ?_)
      ·
        refine GO.goto (tgt := 31) dX11_shipOf_27 (by decide) ?_
        exact GO.reta rfl rfl (Or.inl ⟨_, rfl⟩) dX11_shipOf_31 (Or.inl rfl) ⟨rfl, rfl, Or.inl ⟨rfl, trivial⟩⟩
      ·
        refine GO.goto (tgt := 31) dX11_shipOf_27 (by decide) ?_
        exact GO.reta rfl rfl (Or.inl ⟨_, rfl⟩) dX11_shipOf_31 (Or.inr ⟨_, rfl⟩) ⟨rfl, rfl, Or.inr ⟨_, rfl, h12, trivial⟩⟩

set_option maxHeartbeats 1000000 in
theorem t_X11_voyage {K : Kmap} {V : Vmap} {x : Nat} {p0 : Int} {p1 : Int} {p2 : Int} {p3 : Int} (h_x : K x = some (0, 10)) (r_p0 : ir p0) (r_p1 : ir p1) (r_p2 : ir p2) (r_p3 : ir p3) : MC mX11_voyage K V [.ref x, ti p0, ti p1, ti p2, ti p3] (IS K (fun X V1 => (X = 0 ∨ X = 1) ∧ (X ≠ 0 → True) ∧ (X = 0 → True))) := by
  refine MC.start 2 (by decide +kernel) rfl rfl rfl (ls0 := [some (.ref x), some (ti p0), some (ti p1), some (ti p2), some (ti p3), none, none]) rfl ?_
  refine GO.aload_n dX11_voyage_0 rfl rfl ?_
  refine GO.iload_n dX11_voyage_1 rfl rfl ?_
  refine GO.callV (ci := 10) (N := mX11_shipOf) dX11_voyage_2 (RX11, TX11, 20) rfl gV_RX11_403 h_x (t_X11_shipOf h_x r_p0) rfl [] rfl rfl (Nat.le_of_ble_eq_true rfl) rfl (k_rp (fun h3 => ?_) (fun o1 h2 h3 => ?_))
  ·
    refine GO.astoreN (ls1 := [some (.ref x), some (ti p0), some (ti p1), some (ti p2), some (ti p3), some (.null), none]) dX11_voyage_5 rfl rfl ?_
    refine GO.aload_n dX11_voyage_7 rfl rfl ?_
    refine GO.iload_n dX11_voyage_8 rfl rfl ?_
    refine GO.callV (ci := 10) (N := mX11_standingStation) dX11_voyage_9 (RX11, TX11, 20) rfl gV_RX11_195 h_x (t_X11_standingStation h_x r_p2) rfl [] rfl rfl (Nat.le_of_ble_eq_true rfl) rfl (k_rp (fun h6 => ?_) (fun o4 h5 h6 => ?_))
    ·
      refine GO.astoreN (ls1 := [some (.ref x), some (ti p0), some (ti p1), some (ti p2), some (ti p3), some (.null), some (.null)]) dX11_voyage_12 rfl rfl ?_
      refine GO.aloadN dX11_voyage_14 rfl ?_
      refine GO.ifnullN (tgt := 45) dX11_voyage_16 (by decide) ?_
      refine GO.iconst dX11_voyage_45 ?_
      exact GO.retz rfl rfl dX11_voyage_46 (Or.inl rfl) ⟨rfl, _, rfl, (ir_c rfl), ⟨Or.inl rfl, fun _ => trivial, fun _ => trivial⟩⟩
    ·
      refine GO.astore (ls1 := [some (.ref x), some (ti p0), some (ti p1), some (ti p2), some (ti p3), some (.null), some (.ref o4)]) dX11_voyage_12 rfl rfl ?_
      refine GO.aloadN dX11_voyage_14 rfl ?_
      refine GO.ifnullN (tgt := 45) dX11_voyage_16 (by decide) ?_
      refine GO.iconst dX11_voyage_45 ?_
      exact GO.retz rfl rfl dX11_voyage_46 (Or.inl rfl) ⟨rfl, _, rfl, (ir_c rfl), ⟨Or.inl rfl, fun _ => trivial, fun _ => trivial⟩⟩
  ·
    refine GO.astore (ls1 := [some (.ref x), some (ti p0), some (ti p1), some (ti p2), some (ti p3), some (.ref o1), none]) dX11_voyage_5 rfl rfl ?_
    refine GO.aload_n dX11_voyage_7 rfl rfl ?_
    refine GO.iload_n dX11_voyage_8 rfl rfl ?_
    refine GO.callV (ci := 10) (N := mX11_standingStation) dX11_voyage_9 (RX11, TX11, 20) rfl gV_RX11_195 h_x (t_X11_standingStation h_x r_p2) rfl [] rfl rfl (Nat.le_of_ble_eq_true rfl) rfl (k_rp (fun h9 => ?_) (fun o7 h8 h9 => ?_))
    ·
      refine GO.astoreN (ls1 := [some (.ref x), some (ti p0), some (ti p1), some (ti p2), some (ti p3), some (.ref o1), some (.null)]) dX11_voyage_12 rfl rfl ?_
      refine GO.aload dX11_voyage_14 rfl ?_
      refine GO.ifnull dX11_voyage_16 ?_
      refine GO.iload_n dX11_voyage_19 rfl rfl ?_
      refine GO.callS (N := mX11_isSea) dX11_voyage_20 gS_RX11_394 (t_X11_isSea r_p1) rfl [] rfl rfl (Nat.le_of_ble_eq_true rfl) rfl (k_ip fun X10 r11 h12 => ?_)
      refine GO.if_eq (tgt := 45) dX11_voyage_23 (by decide) r11 (fun c13 => ?_) (fun c13 => ?_)
      ·
        have q14 := h12.2.2 (by omega)
        refine GO.iconst dX11_voyage_45 ?_
        exact GO.retz rfl rfl dX11_voyage_46 (Or.inl rfl) ⟨rfl, _, rfl, (ir_c rfl), ⟨Or.inl rfl, fun _ => trivial, fun _ => trivial⟩⟩
      ·
        have q15 := h12.2.1 (by omega)
        refine GO.aloadN dX11_voyage_26 rfl ?_
        refine GO.ifnullN (tgt := 45) dX11_voyage_28 (by decide) ?_
        refine GO.iconst dX11_voyage_45 ?_
        exact GO.retz rfl rfl dX11_voyage_46 (Or.inl rfl) ⟨rfl, _, rfl, (ir_c rfl), ⟨Or.inl rfl, fun _ => trivial, fun _ => trivial⟩⟩
    ·
      refine GO.astore (ls1 := [some (.ref x), some (ti p0), some (ti p1), some (ti p2), some (ti p3), some (.ref o1), some (.ref o7)]) dX11_voyage_12 rfl rfl ?_
      refine GO.aload dX11_voyage_14 rfl ?_
      refine GO.ifnull dX11_voyage_16 ?_
      refine GO.iload_n dX11_voyage_19 rfl rfl ?_
      refine GO.callS (N := mX11_isSea) dX11_voyage_20 gS_RX11_394 (t_X11_isSea r_p1) rfl [] rfl rfl (Nat.le_of_ble_eq_true rfl) rfl (k_ip fun X16 r17 h18 => ?_)
      refine GO.if_eq (tgt := 45) dX11_voyage_23 (by decide) r17 (fun c19 => ?_) (fun c19 => ?_)
      ·
        have q20 := h18.2.2 (by omega)
        refine GO.iconst dX11_voyage_45 ?_
        exact GO.retz rfl rfl dX11_voyage_46 (Or.inl rfl) ⟨rfl, _, rfl, (ir_c rfl), ⟨Or.inl rfl, fun _ => trivial, fun _ => trivial⟩⟩
      ·
        have q21 := h18.2.1 (by omega)
        refine GO.aload dX11_voyage_26 rfl ?_
        refine GO.ifnull dX11_voyage_28 ?_
        refine GO.iload dX11_voyage_31 rfl ?_
        refine GO.iconst dX11_voyage_33 ?_
        refine GO.aload dX11_voyage_34 rfl ?_
        refine GO.getI h2 fl_RX11_407 rfl rfl dX11_voyage_36 (fun _ _ => ?_)
        refine GO.callS (N := mX11_between) dX11_voyage_39 gS_RX11_112 (t_X11_between r_p3 (ir_c rfl) vi_ir) rfl [] rfl rfl (Nat.le_of_ble_eq_true rfl) rfl (k_ip fun X22 r23 h24 => ?_)
        refine GO.if_ne (tgt := 47) dX11_voyage_42 (by decide) r23 (fun c25 => ?_) (fun c25 => ?_)
        ·
          have q26 := h24.2.1 (by omega)
          refine GO.aload dX11_voyage_47 rfl ?_
          refine GO.getI h2 fl_RX11_410 rfl rfl dX11_voyage_49 (fun _ _ => ?_)
          refine GO.if_ne (tgt := 70) dX11_voyage_52 (by decide) vi_ir (fun c27 => ?_) (fun c27 => ?_)
          ·
            refine GO.iconst dX11_voyage_70 ?_
            exact GO.retz rfl rfl dX11_voyage_71 (Or.inl rfl) ⟨rfl, _, rfl, (ir_c rfl), ⟨Or.inl rfl, fun _ => trivial, fun _ => trivial⟩⟩
          ·
            refine GO.aload_n dX11_voyage_55 rfl rfl ?_
            refine GO.getR h_x fl_RX11_12 rfl rfl dX11_voyage_56 (fun hv29 h28 => ?_)
            refine GO.aload dX11_voyage_59 rfl ?_
            refine GO.getI h8 fl_RX11_344 rfl rfl dX11_voyage_61 (fun _ _ => ?_)
            refine GO.callV (ci := 0) (N := mX0_isNearSea) dX11_voyage_64 (RX0, TX0, 13) rfl gV_RX11_413 h28 (t_X0_isNearSea h28 vi_ir) rfl [] rfl rfl (Nat.le_of_ble_eq_true rfl) rfl (k_ip fun X30 r31 h32 => ?_)
            refine GO.if_ne (tgt := 72) dX11_voyage_67 (by decide) r31 (fun c33 => ?_) (fun c33 => ?_)
            ·
              refine GO.aload dX11_voyage_72 rfl ?_
              refine GO.iload_n dX11_voyage_74 rfl rfl ?_
              refine GO.iload_n dX11_voyage_75 rfl rfl ?_
              refine GO.iload dX11_voyage_76 rfl ?_
              refine GO.aload_n dX11_voyage_78 rfl rfl ?_
              refine GO.getRaw h_x fl_RX11_12 hv29 dX11_voyage_79 ?_
              refine GO.getI h28 fl_RX11_145 rfl rfl dX11_voyage_82 (fun _ _ => ?_)
              refine GO.aload_n dX11_voyage_85 rfl rfl ?_
              refine GO.getRaw h_x fl_RX11_12 hv29 dX11_voyage_86 ?_
              refine GO.getB h28 fl_RX11_400 rfl rfl dX11_voyage_89 (fun n40 hv39 h38 b41 => ?_)
              refine GO.iload_n dX11_voyage_92 rfl rfl ?_
              refine GO.callS (N := mX4_get) dX11_voyage_93 gS_RX11_253 (t_X4_get rfl h38 r_p1) rfl [ti (vi V (vq V x 0) 0), ti p3, ti p2, ti p1, .ref o1] rfl rfl (Nat.le_of_ble_eq_true rfl) rfl (k_ip fun X42 r43 h44 => ?_)
              refine GO.callV (ci := 6) (N := mX7_leave) dX11_voyage_96 (RX7, TX7, 11) rfl gV_RX11_416 h2 (t_X7_leave h2 r_p1 r_p2 r_p3 vi_ir r43) rfl [] rfl rfl (Nat.le_of_ble_eq_true rfl) rfl (k_vs fun V47 h46 hF45 => ?_)
              refine GO.aload_n dX11_voyage_99 rfl rfl ?_
              refine GO.iconst dX11_voyage_100 ?_
              refine GO.iload dX11_voyage_101 rfl ?_
              refine GO.callV (ci := 10) (N := mX11_tally) dX11_voyage_103 (RX11, TX11, 20) rfl gV_RX11_192 h_x (t_X11_tally h_x (ir_c rfl) r_p3) rfl [] rfl rfl (Nat.le_of_ble_eq_true rfl) rfl (k_vs fun V50 h49 hF48 => ?_)
              refine GO.iconst dX11_voyage_106 ?_
              exact GO.retz rfl rfl dX11_voyage_107 (Or.inr rfl) ⟨rfl, _, rfl, (ir_c rfl), ⟨Or.inr rfl, fun _ => trivial, fun _ => trivial⟩⟩
            ·
              refine GO.iconst dX11_voyage_70 ?_
              exact GO.retz rfl rfl dX11_voyage_71 (Or.inl rfl) ⟨rfl, _, rfl, (ir_c rfl), ⟨Or.inl rfl, fun _ => trivial, fun _ => trivial⟩⟩
        ·
          have q51 := h24.2.2 (by omega)
          refine GO.iconst dX11_voyage_45 ?_
          exact GO.retz rfl rfl dX11_voyage_46 (Or.inl rfl) ⟨rfl, _, rfl, (ir_c rfl), ⟨Or.inl rfl, fun _ => trivial, fun _ => trivial⟩⟩

set_option maxHeartbeats 1000000 in
theorem t_X11_sledge {K : Kmap} {V : Vmap} {x : Nat} {p0 : Int} {p1 : Int} {p2 : Int} (h_x : K x = some (0, 10)) (r_p0 : ir p0) (r_p1 : ir p1) (r_p2 : ir p2) : MC mX11_sledge K V [.ref x, ti p0, ti p1, ti p2] (IS K (fun X V1 => True)) := by
  refine MC.start 4 (by decide +kernel) rfl rfl rfl (ls0 := [some (.ref x), some (ti p0), some (ti p1), some (ti p2), none, none, none, none]) rfl ?_
  refine GO.aload_n dX11_sledge_0 rfl rfl ?_
  refine GO.iload_n dX11_sledge_1 rfl rfl ?_
  refine GO.callV (ci := 10) (N := mX11_standingStation) dX11_sledge_2 (RX11, TX11, 20) rfl gV_RX11_195 h_x (t_X11_standingStation h_x r_p0) rfl [] rfl rfl (Nat.le_of_ble_eq_true rfl) rfl (k_rp (fun h3 => ?_) (fun o1 h2 h3 => ?_))
  ·
    refine GO.astoreN (ls1 := [some (.ref x), some (ti p0), some (ti p1), some (ti p2), some (.null), none, none, none]) dX11_sledge_5 rfl rfl ?_
    refine GO.aload_n dX11_sledge_7 rfl rfl ?_
    refine GO.iload_n dX11_sledge_8 rfl rfl ?_
    refine GO.callV (ci := 10) (N := mX11_standingStation) dX11_sledge_9 (RX11, TX11, 20) rfl gV_RX11_195 h_x (t_X11_standingStation h_x r_p1) rfl [] rfl rfl (Nat.le_of_ble_eq_true rfl) rfl (k_rp (fun h6 => ?_) (fun o4 h5 h6 => ?_))
    ·
      refine GO.astoreN (ls1 := [some (.ref x), some (ti p0), some (ti p1), some (ti p2), some (.null), some (.null), none, none]) dX11_sledge_12 rfl rfl ?_
      refine GO.aloadN dX11_sledge_14 rfl ?_
      refine GO.ifnullN (tgt := 42) dX11_sledge_16 (by decide) ?_
      refine GO.iconst dX11_sledge_42 ?_
      exact GO.reti rfl rfl dX11_sledge_43 ⟨rfl, _, rfl, (ir_c rfl), trivial⟩
    ·
      refine GO.astore (ls1 := [some (.ref x), some (ti p0), some (ti p1), some (ti p2), some (.null), some (.ref o4), none, none]) dX11_sledge_12 rfl rfl ?_
      refine GO.aloadN dX11_sledge_14 rfl ?_
      refine GO.ifnullN (tgt := 42) dX11_sledge_16 (by decide) ?_
      refine GO.iconst dX11_sledge_42 ?_
      exact GO.reti rfl rfl dX11_sledge_43 ⟨rfl, _, rfl, (ir_c rfl), trivial⟩
  ·
    refine GO.astore (ls1 := [some (.ref x), some (ti p0), some (ti p1), some (ti p2), some (.ref o1), none, none, none]) dX11_sledge_5 rfl rfl ?_
    refine GO.aload_n dX11_sledge_7 rfl rfl ?_
    refine GO.iload_n dX11_sledge_8 rfl rfl ?_
    refine GO.callV (ci := 10) (N := mX11_standingStation) dX11_sledge_9 (RX11, TX11, 20) rfl gV_RX11_195 h_x (t_X11_standingStation h_x r_p1) rfl [] rfl rfl (Nat.le_of_ble_eq_true rfl) rfl (k_rp (fun h9 => ?_) (fun o7 h8 h9 => ?_))
    ·
      refine GO.astoreN (ls1 := [some (.ref x), some (ti p0), some (ti p1), some (ti p2), some (.ref o1), some (.null), none, none]) dX11_sledge_12 rfl rfl ?_
      refine GO.aload dX11_sledge_14 rfl ?_
      refine GO.ifnull dX11_sledge_16 ?_
      refine GO.aloadN dX11_sledge_19 rfl ?_
      refine GO.ifnullN (tgt := 42) dX11_sledge_21 (by decide) ?_
      refine GO.iconst dX11_sledge_42 ?_
      exact GO.reti rfl rfl dX11_sledge_43 ⟨rfl, _, rfl, (ir_c rfl), trivial⟩
    ·
      refine GO.astore (ls1 := [some (.ref x), some (ti p0), some (ti p1), some (ti p2), some (.ref o1), some (.ref o7), none, none]) dX11_sledge_12 rfl rfl ?_
      refine GO.aload dX11_sledge_14 rfl ?_
      refine GO.ifnull dX11_sledge_16 ?_
      refine GO.aload dX11_sledge_19 rfl ?_
      refine GO.ifnull dX11_sledge_21 ?_
      refine GO.iload_n dX11_sledge_24 rfl rfl ?_
      refine GO.iload_n dX11_sledge_25 rfl rfl ?_
      refine GO.icmp_eq (tgt := 42) dX11_sledge_26 (by decide) r_p0 r_p1 (fun c10 => ?_) (fun c10 => ?_)
      ·
        refine GO.iconst dX11_sledge_42 ?_
        exact GO.reti rfl rfl dX11_sledge_43 ⟨rfl, _, rfl, (ir_c rfl), trivial⟩
      ·
        refine GO.aload dX11_sledge_29 rfl ?_
        refine GO.getI h2 fl_RX11_173 rfl rfl dX11_sledge_31 (fun _ _ => ?_)
        refine GO.aload dX11_sledge_34 rfl ?_
        refine GO.getI h8 fl_RX11_173 rfl rfl dX11_sledge_36 (fun _ _ => ?_)
        refine GO.icmp_eq (tgt := 44) dX11_sledge_39 (by decide) vi_ir vi_ir (fun c11 => ?_) (fun c11 => ?_)
        ·
          refine GO.iload_n dX11_sledge_44 rfl rfl ?_
          refine GO.iconst dX11_sledge_45 ?_
          refine GO.sipush dX11_sledge_46 rfl ?_
          refine GO.callS (N := mX11_between) dX11_sledge_49 gS_RX11_112 (t_X11_between r_p2 (ir_c rfl) (ir_c rfl)) rfl [] rfl rfl (Nat.le_of_ble_eq_true rfl) rfl (k_ip fun X12 r13 h14 => ?_)
          refine GO.if_eq (tgt := 74) dX11_sledge_52 (by decide) r13 (fun c15 => ?_) (fun c15 => ?_)
          ·
            have q16 := h14.2.2 (by omega)
            refine GO.iconst dX11_sledge_74 ?_
            exact GO.reti rfl rfl dX11_sledge_75 ⟨rfl, _, rfl, (ir_c rfl), trivial⟩
          ·
            have q17 := h14.2.1 (by omega)
            refine GO.iload_n dX11_sledge_55 rfl rfl ?_
            refine GO.aload dX11_sledge_56 rfl ?_
            refine GO.getI h2 fl_RX11_186 rfl rfl dX11_sledge_58 (fun _ _ => ?_)
            refine GO.icmp_gt (tgt := 74) dX11_sledge_61 (by decide) r_p2 vi_ir (fun c18 => ?_) (fun c18 => ?_)
            ·
              refine GO.iconst dX11_sledge_74 ?_
              exact GO.reti rfl rfl dX11_sledge_75 ⟨rfl, _, rfl, (ir_c rfl), trivial⟩
            ·
              refine GO.aload_n dX11_sledge_64 rfl rfl ?_
              refine GO.getR h_x fl_RX11_72 rfl rfl dX11_sledge_65 (fun hv20 h19 => ?_)
              refine GO.callV (ci := 7) (N := mX8_isFull) dX11_sledge_68 (RX8, TX8, 4) rfl gV_RX11_265 h19 (t_X8_isFull h19) rfl [] rfl rfl (Nat.le_of_ble_eq_true rfl) rfl (k_ip fun X21 r22 h23 => ?_)
              refine GO.if_eq (tgt := 76) dX11_sledge_71 (by decide) r22 (fun c24 => ?_) (fun c24 => ?_)
              ·
                refine GO.aload_n dX11_sledge_76 rfl rfl ?_
                refine GO.getR h_x fl_RX11_12 rfl rfl dX11_sledge_77 (fun hv26 h25 => ?_)
                refine GO.aload dX11_sledge_80 rfl ?_
                refine GO.getI h2 fl_RX11_344 rfl rfl dX11_sledge_82 (fun _ _ => ?_)
                refine GO.aload dX11_sledge_85 rfl ?_
                refine GO.getI h8 fl_RX11_344 rfl rfl dX11_sledge_87 (fun _ _ => ?_)
                refine GO.callV (ci := 0) (N := mX0_leastDays) dX11_sledge_90 (RX0, TX0, 13) rfl gV_RX11_418 h25 (t_X0_leastDays h25 vi_ir vi_ir) rfl [] rfl rfl (Nat.le_of_ble_eq_true rfl) rfl (k_is fun X27 V31 r28 h29 hF30 => ?_)
                refine GO.istore (ls1 := [some (.ref x), some (ti p0), some (ti p1), some (ti p2), some (.ref o1), some (.ref o7), some (ti X27), none]) dX11_sledge_93 rfl rfl ?_
                refine GO.iload dX11_sledge_95 rfl ?_
                refine GO.iconst dX11_sledge_97 ?_
                refine GO.icmp_eq (tgt := 107) dX11_sledge_98 (by decide) r28 (ir_c rfl) (fun c32 => ?_) (fun c32 => ?_)
                ·
                  refine GO.iconst dX11_sledge_107 ?_
                  exact GO.reti rfl rfl dX11_sledge_108 ⟨rfl, _, rfl, (ir_c rfl), trivial⟩
                ·
                  refine GO.iload dX11_sledge_101 rfl ?_
                  refine GO.iload_n dX11_sledge_103 rfl rfl ?_
                  refine GO.icmp_lt (tgt := 109) dX11_sledge_104 (by decide) r28 r_p2 (fun c33 => ?_) (fun c33 => ?_)
                  ·
                    refine GO.aload dX11_sledge_109 rfl ?_
                    refine GO.dup dX11_sledge_111 rfl ?_
                    refine GO.getI h2 fl_RX11_186 rfl rfl dX11_sledge_112 (fun _ _ => ?_)
                    refine GO.iload_n dX11_sledge_115 rfl rfl ?_
                    refine GO.isub dX11_sledge_116 ?_
                    refine GO.norm (fun z34 r35 _ => ?_)
                    refine GO.putI h2 fp_RX11_186 rfl (by decide +kernel) r35 (r35).1 (r35).2 dX11_sledge_117 (fun V37 e36 => ?_)
                    refine GO.aload_n dX11_sledge_120 rfl rfl ?_
                    refine GO.iconst dX11_sledge_121 ?_
                    refine GO.iload dX11_sledge_122 rfl ?_
                    refine GO.callV (ci := 10) (N := mX11_tally) dX11_sledge_124 (RX11, TX11, 20) rfl gV_RX11_192 h_x (t_X11_tally h_x (ir_c rfl) r28) rfl [] rfl rfl (Nat.le_of_ble_eq_true rfl) rfl (k_vs fun V40 h39 hF38 => ?_)
                    refine GO.aload_n dX11_sledge_127 rfl rfl ?_
                    refine GO.getRaw h_x fl_RX11_12 (Eq.trans (hF38 _ _ _ h_x h_x (by decide +kernel)) (Eq.trans (uq_ne e36 (Or.inl (K_ne h_x h2 (by decide)))) (Eq.trans (hF30 _ _ _ h_x h_x (by decide +kernel)) hv26))) dX11_sledge_128 ?_
                    refine GO.getI h25 fl_RX11_145 rfl rfl dX11_sledge_131 (fun _ _ => ?_)
                    refine GO.iconst dX11_sledge_134 ?_
                    refine GO.iload dX11_sledge_135 rfl ?_
                    refine GO.callS (N := mJ9_max_7cf53) dX11_sledge_137 gS_RX11_296 (t_J9_max_7cf53 (ir_c rfl) r28) rfl [ti (vi V40 (vq V x 0) 0)] rfl rfl (Nat.le_of_ble_eq_true rfl) rfl (k_ip fun X43 r44 h45 => ?_)
                    have q46 : -2147483648 ≤ X27 ∧ X27 ≤ 2147483647 := r28
                    have q47 : -2147483648 ≤ X43 ∧ X43 ≤ 2147483647 := r44
                    have q48 : -2147483648 ≤ p2 ∧ p2 ≤ 2147483647 := r_p2
                    have q49 : -2147483648 ≤ vi V o1 7 ∧ vi V o1 7 ≤ 2147483647 := vi_ir
                    refine GO.iadd dX11_sledge_140 ?_
                    refine GO.norm (fun z50 r51 _ => ?_)
                    refine GO.istore (ls1 := [some (.ref x), some (ti p0), some (ti p1), some (ti p2), some (.ref o1), some (.ref o7), some (ti X27), some (ti z50)]) dX11_sledge_141 rfl rfl ?_
                    refine GO.aload_n dX11_sledge_143 rfl rfl ?_
                    refine GO.getRaw h_x fl_RX11_72 (Eq.trans (hF38 _ _ _ h_x h_x (by decide +kernel)) (Eq.trans (uq_ne e36 (Or.inl (K_ne h_x h2 (by decide)))) (Eq.trans (hF30 _ _ _ h_x h_x (by decide +kernel)) hv20))) dX11_sledge_144 ?_
                    refine GO.iload_n dX11_sledge_147 rfl rfl ?_
                    refine GO.aload dX11_sledge_148 rfl ?_
                    refine GO.getI h8 fl_RX11_344 rfl rfl dX11_sledge_150 (fun _ _ => ?_)
                    refine GO.iload dX11_sledge_153 rfl ?_
                    refine GO.iload_n dX11_sledge_155 rfl rfl ?_
                    refine GO.iload dX11_sledge_156 rfl ?_
                    refine GO.isub dX11_sledge_158 ?_
                    refine GO.norm (fun z54 r55 _ => ?_)
                    refine GO.iconst dX11_sledge_159 ?_
                    refine GO.callV (ci := 7) (N := mX8_append) dX11_sledge_160 (RX8, TX8, 4) rfl gV_RX11_205 h19 (t_X8_append h19 r_p1 vi_ir r51 r55 (ir_c rfl)) rfl [] rfl rfl (Nat.le_of_ble_eq_true rfl) rfl (k_is fun X56 V60 r57 h58 hF59 => ?_)
                    refine GO.pop dX11_sledge_163 rfl ?_
                    refine GO.iload dX11_sledge_164 rfl ?_
                    have q61 : -2147483648 ≤ z50 ∧ z50 ≤ 2147483647 := r51
                    exact GO.reti rfl rfl dX11_sledge_166 ⟨rfl, _, rfl, r51, trivial⟩
                  ·
                    refine GO.iconst dX11_sledge_107 ?_
                    exact GO.reti rfl rfl dX11_sledge_108 ⟨rfl, _, rfl, (ir_c rfl), trivial⟩
              ·
                refine GO.iconst dX11_sledge_74 ?_
                exact GO.reti rfl rfl dX11_sledge_75 ⟨rfl, _, rfl, (ir_c rfl), trivial⟩
        ·
          refine GO.iconst dX11_sledge_42 ?_
          exact GO.reti rfl rfl dX11_sledge_43 ⟨rfl, _, rfl, (ir_c rfl), trivial⟩
