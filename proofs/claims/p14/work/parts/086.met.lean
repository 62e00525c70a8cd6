def mX11_number : MRec := (RX11, cX11_number, 6, (some .int), yX11_number, 5, 127, 0, 0, 123947994148171612303484120256144569967825878055802728615871649113951085856808377342222976957446615908923352254691881254912)
def mX11_decides : MRec := (RX11, cX11_decides, 4, (some .int), yX11_decides, 2, 42, 0, 0, 0)
def mX11_work : MRec := (RX11, cX11_work, 9, (some .int), yX11_work, 2, 37, 1, 15, 2124551971267068394758352826209874509318372470908127692797776552801614239443408970956650009060917142918390929473202137926319055703550692287938934796583951825385615572996070517136949248)
def mX11_workOf : MRec := (RX11, cX11_workOf, 2, (some (.object "IceTreaty$Work")), yX11_workOf, 0, 0, 0, 0, 0)
def mX11_tell : MRec := (RX11, cX11_tell, 4, (some .boolean), yX11_tell, 1, 21, 0, 0, 29710560942849126597578981376)
def mX11_study : MRec := (RX11, cX11_study, 4, (some .boolean), yX11_study, 1, 22, 0, 0, 118842243771396506390315925504)
def mX11_say : MRec := (RX11, cX11_say, 6, (some .boolean), yX11_say, 1, 21, 0, 0, 475368975085586025561263702016)
def mX4_put_t135 : MRec := (RX4, cX4_put, 3, (none : Option Jvm.ClassFile.FieldType), yX4_put, 0, 0, 0, 0, 165263992197562149737978827008192759957101170741070304821162198818601447809077836456297302609928821211897803006255839576064)
def mX11_tellLetters : MRec := (RX11, cX11_tellLetters, 5, (none : Option Jvm.ClassFile.FieldType), yX11_tellLetters, 1, 22, 0, 0, 165263992197562149737978827008192759957101170741070304821162198818601447809077836456297302609928821211897803006255839576064)
def mX11_tellNeighbours : MRec := (RX11, cX11_tellNeighbours, 8, (none : Option Jvm.ClassFile.FieldType), yX11_tellNeighbours, 3, 66, 0, 0, 165263992197562149737978827008192759957101170741070304821162198818601447809077836456297302609928821211897803006255839576064)
set_option maxHeartbeats 1000000 in
theorem t_X11_number {K : Kmap} {V : Vmap} {x : Nat} {p0 : Int} {p1 : Int} {p2 : Int} (h_x : K x = some (0, 10)) (r_p0 : ir p0) (r_p1 : ir p1) (r_p2 : ir p2) : MC mX11_number K V [.ref x, ti p0, ti p1, ti p2] (IS K (fun X V1 => True)) := by
  refine MC.start 2 (by decide +kernel) rfl rfl rfl (ls0 := [some (.ref x), some (ti p0), some (ti p1), some (ti p2), none, none]) rfl ?_
  refine GO.aload_n dX11_number_0 rfl rfl ?_
  refine GO.iload_n dX11_number_1 rfl rfl ?_
  refine GO.callV (ci := 10) (N := mX11_partyOf) dX11_number_2 (RX11, TX11, 20) rfl gV_RX11_151 h_x (t_X11_partyOf h_x r_p1) rfl [] rfl rfl (Nat.le_of_ble_eq_true rfl) rfl (k_rp (fun h3 => ?_) (fun o1 h2 h3 => ?_))
  ·
    have rwn2 := h3.2
    have hn4 : PN V x → p1 < 0 ∨ vi V x 4 ≤ p1 := h3.2
    refine GO.astoreN (ls1 := [some (.ref x), some (ti p0), some (ti p1), some (ti p2), some (.null), none]) dX11_number_5 rfl rfl ?_
    refine GO.iload_n dX11_number_7 rfl rfl ?_
    refine GO.bipush dX11_number_8 rfl ?_
    refine GO.bipush dX11_number_10 rfl ?_
    refine GO.callS (N := mX11_between) dX11_number_12 gS_RX11_112 (t_X11_between r_p0 (ir_c rfl) (ir_c rfl)) rfl [] rfl rfl (Nat.le_of_ble_eq_true rfl) rfl (k_ip fun X5 r6 h7 => ?_)
    refine GO.istore (ls1 := [some (.ref x), some (ti p0), some (ti p1), some (ti p2), some (.null), some (ti X5)]) dX11_number_15 rfl rfl ?_
    refine GO.aloadN dX11_number_17 rfl ?_
    refine GO.ifnullN (tgt := 43) dX11_number_19 (by decide) ?_
    refine GO.iconst dX11_number_43 ?_
    exact GO.reti rfl rfl dX11_number_44 ⟨rfl, _, rfl, (ir_c rfl), trivial⟩
  ·
    have hp8 : p1 ≥ 0 ∧ p1 < vi V x 4 := h3.1
    have rwp2 := h3.2
    have hq9 : o1 = vq V (vq V x 3) (p1).toNat := h3.2
    refine GO.astore (ls1 := [some (.ref x), some (ti p0), some (ti p1), some (ti p2), some (.ref o1), none]) dX11_number_5 rfl rfl ?_
    refine GO.iload_n dX11_number_7 rfl rfl ?_
    refine GO.bipush dX11_number_8 rfl ?_
    refine GO.bipush dX11_number_10 rfl ?_
    refine GO.callS (N := mX11_between) dX11_number_12 gS_RX11_112 (t_X11_between r_p0 (ir_c rfl) (ir_c rfl)) rfl [] rfl rfl (Nat.le_of_ble_eq_true rfl) rfl (k_ip fun X10 r11 h12 => ?_)
    refine GO.istore (ls1 := [some (.ref x), some (ti p0), some (ti p1), some (ti p2), some (.ref o1), some (ti X10)]) dX11_number_15 rfl rfl ?_
    refine GO.aload dX11_number_17 rfl ?_
    refine GO.ifnull dX11_number_19 ?_
    refine GO.iload_n dX11_number_22 rfl rfl ?_
    refine GO.callS (N := mX11_isDay) dX11_number_23 gS_RX11_276 (t_X11_isDay r_p2) rfl [] rfl rfl (Nat.le_of_ble_eq_true rfl) rfl (k_ip fun X13 r14 h15 => ?_)
    refine GO.if_eq (tgt := 43) dX11_number_26 (by decide) r14 (fun c16 => ?_) (fun c16 => ?_)
    ·
      refine GO.iconst dX11_number_43 ?_
      exact GO.reti rfl rfl dX11_number_44 ⟨rfl, _, rfl, (ir_c rfl), trivial⟩
    ·
      refine GO.iload_n dX11_number_29 rfl rfl ?_
      refine GO.iconst dX11_number_30 ?_
      refine GO.iconst dX11_number_31 ?_
      refine GO.callS (N := mX11_between) dX11_number_32 gS_RX11_112 (t_X11_between r_p0 (ir_c rfl) (ir_c rfl)) rfl [] rfl rfl (Nat.le_of_ble_eq_true rfl) rfl (k_ip fun X17 r18 h19 => ?_)
      have hj26 : ∀ (l27 : 0 ≤ p0), ∀ (u28 : p0 ≤ 25), GO mX11_number K V (IS K (fun X V1 => True)) K V 0 0 45 [some (.ref x), some (ti p0), some (ti p1), some (ti p2), some (.ref o1), some (ti X10)] [] := by
        intro l27 u28
        refine GO.aload_n dX11_number_45 rfl rfl ?_
        refine GO.getR h_x fl_RX11_19 rfl rfl dX11_number_46 (fun hv30 h29 => ?_)
        refine GO.iload_n dX11_number_49 rfl rfl ?_
        refine GO.aload dX11_number_50 rfl ?_
        refine GO.iload_n dX11_number_52 rfl rfl ?_
        refine GO.callV (ci := 1) (N := mX1_weigh) dX11_number_53 (RX1, TX1, 13) rfl gV_RX11_279 h29 (t_X1_weigh h29 r_p1 h2 r_p2) rfl [] rfl rfl (Nat.le_of_ble_eq_true rfl) rfl (k_vs fun V33 h32 hF31 => ?_)
        refine GO.iload dX11_number_56 rfl ?_
        refine GO.if_eq (tgt := 83) dX11_number_58 (by decide) r11 (fun c34 => ?_) (fun c34 => ?_)
        ·
          have q35 := h12.2.2 (by omega)
          refine GO.iload_n dX11_number_83 rfl rfl ?_
          have q36 : -2147483648 ≤ p0 ∧ p0 ≤ 2147483647 := r_p0
          rcases (show (p0 < 0 ∨ 2 < p0) ∨ p0 = 0 ∨ p0 = 1 ∨ p0 = 2 by omega) with c37 | c37 | c37 | c37
          ·
            refine GO.tableOut (tgt := 156) dX11_number_84 r_p0 c37 (by decide) ?_
            refine GO.aload_n dX11_number_156 rfl rfl ?_
            refine GO.getRaw h_x fl_RX11_19 (Eq.trans (hF31 _ _ _ h_x h_x (by decide +kernel)) hv30) dX11_number_157 ?_
            refine GO.bipush dX11_number_160 rfl ?_
            refine GO.iconst dX11_number_162 ?_
            refine GO.iconst dX11_number_163 ?_
            refine GO.callV (ci := 1) (N := mX1_numberOf) dX11_number_164 (RX1, TX1, 13) rfl gV_RX11_292 h29 (t_X1_numberOf h29 (ir_c rfl) (ir_c rfl) (ir_c rfl)) rfl [] rfl rfl (Nat.le_of_ble_eq_true rfl) rfl (k_ip fun X40 r41 h42 => ?_)
            refine GO.iconst dX11_number_167 ?_
            refine GO.icmp_ne (tgt := 175) dX11_number_168 (by decide) r41 (ir_c rfl) (fun c43 => ?_) (fun c43 => ?_)
            ·
              refine GO.iconst dX11_number_175 ?_
              exact GO.reti rfl rfl dX11_number_176 ⟨rfl, _, rfl, (ir_c rfl), trivial⟩
            ·
              refine GO.iconst dX11_number_171 ?_
              refine GO.goto (tgt := 176) dX11_number_172 (by decide) ?_
              exact GO.reti rfl rfl dX11_number_176 ⟨rfl, _, rfl, (ir_c rfl), trivial⟩
          ·
            refine GO.tableAt (n := 0) (tgt := 112) dX11_number_84 (ir_c rfl) c37 (by decide) (by decide) rfl (by decide) ?_
            refine GO.iconst dX11_number_112 ?_
            refine GO.aload_n dX11_number_113 rfl rfl ?_
            refine GO.getRaw h_x fl_RX11_19 (Eq.trans (hF31 _ _ _ h_x h_x (by decide +kernel)) hv30) dX11_number_114 ?_
            refine GO.bipush dX11_number_117 rfl ?_
            refine GO.iconst dX11_number_119 ?_
            refine GO.iconst dX11_number_120 ?_
            refine GO.callV (ci := 1) (N := mX1_numberOf) dX11_number_121 (RX1, TX1, 13) rfl gV_RX11_292 h29 (t_X1_numberOf h29 (ir_c rfl) (ir_c rfl) (ir_c rfl)) rfl [ti 0] rfl rfl (Nat.le_of_ble_eq_true rfl) rfl (k_ip fun X46 r47 h48 => ?_)
            refine GO.callS (N := mJ9_max_7cf53) dX11_number_124 gS_RX11_296 (t_J9_max_7cf53 (ir_c rfl) r47) rfl [] rfl rfl (Nat.le_of_ble_eq_true rfl) rfl (k_ip fun X49 r50 h51 => ?_)
            have q52 : -2147483648 ≤ X46 ∧ X46 ≤ 2147483647 := r47
            have q53 : -2147483648 ≤ X49 ∧ X49 ≤ 2147483647 := r50
            exact GO.reti rfl rfl dX11_number_127 ⟨rfl, _, rfl, r50, trivial⟩
          ·
            refine GO.tableAt (n := 1) (tgt := 128) dX11_number_84 (ir_c rfl) c37 (by decide) (by decide) rfl (by decide) ?_
            refine GO.aload_n dX11_number_128 rfl rfl ?_
            refine GO.getRaw h_x fl_RX11_19 (Eq.trans (hF31 _ _ _ h_x h_x (by decide +kernel)) hv30) dX11_number_129 ?_
            refine GO.bipush dX11_number_132 rfl ?_
            refine GO.iconst dX11_number_134 ?_
            refine GO.iconst dX11_number_135 ?_
            refine GO.callV (ci := 1) (N := mX1_numberOf) dX11_number_136 (RX1, TX1, 13) rfl gV_RX11_292 h29 (t_X1_numberOf h29 (ir_c rfl) (ir_c rfl) (ir_c rfl)) rfl [] rfl rfl (Nat.le_of_ble_eq_true rfl) rfl (k_ip fun X56 r57 h58 => ?_)
            have q59 : -2147483648 ≤ X56 ∧ X56 ≤ 2147483647 := r57
            exact GO.reti rfl rfl dX11_number_139 ⟨rfl, _, rfl, r57, trivial⟩
          ·
            refine GO.tableAt (n := 2) (tgt := 140) dX11_number_84 (ir_c rfl) c37 (by decide) (by decide) rfl (by decide) ?_
            refine GO.iconst dX11_number_140 ?_
            refine GO.aload_n dX11_number_141 rfl rfl ?_
            refine GO.getRaw h_x fl_RX11_19 (Eq.trans (hF31 _ _ _ h_x h_x (by decide +kernel)) hv30) dX11_number_142 ?_
            refine GO.bipush dX11_number_145 rfl ?_
            refine GO.iconst dX11_number_147 ?_
            refine GO.iconst dX11_number_148 ?_
            refine GO.callV (ci := 1) (N := mX1_numberOf) dX11_number_149 (RX1, TX1, 13) rfl gV_RX11_292 h29 (t_X1_numberOf h29 (ir_c rfl) (ir_c rfl) (ir_c rfl)) rfl [ti 0] rfl rfl (Nat.le_of_ble_eq_true rfl) rfl (k_ip fun X62 r63 h64 => ?_)
            refine GO.callS (N := mJ9_max_7cf53) dX11_number_152 gS_RX11_296 (t_J9_max_7cf53 (ir_c rfl) r63) rfl [] rfl rfl (Nat.le_of_ble_eq_true rfl) rfl (k_ip fun X65 r66 h67 => ?_)
            have q68 : -2147483648 ≤ X62 ∧ X62 ≤ 2147483647 := r63
            have q69 : -2147483648 ≤ X65 ∧ X65 ≤ 2147483647 := r66
            exact GO.reti rfl rfl dX11_number_155 ⟨rfl, _, rfl, r66, trivial⟩
        ·
          have q70 := h12.2.1 (by omega)
          refine GO.aload_n dX11_number_61 rfl rfl ?_
          refine GO.getRaw h_x fl_RX11_19 (Eq.trans (hF31 _ _ _ h_x h_x (by decide +kernel)) hv30) dX11_number_62 ?_
          refine GO.bipush dX11_number_65 rfl ?_
          refine GO.iload_n dX11_number_67 rfl rfl ?_
          refine GO.bipush dX11_number_68 rfl ?_
          refine GO.isub dX11_number_70 ?_
          refine GO.iconst dX11_number_71 ?_
          have q73 : -2147483648 ≤ p0 ∧ p0 ≤ 2147483647 := r_p0
          refine GO.idivP dX11_number_72 ⟨by omega, by omega⟩ (ir_c rfl) (by omega) (by omega) ?_
          refine GO.iload_n dX11_number_73 rfl rfl ?_
          refine GO.bipush dX11_number_74 rfl ?_
          refine GO.isub dX11_number_76 ?_
          refine GO.iconst dX11_number_77 ?_
          refine GO.iremP dX11_number_78 ⟨by omega, by omega⟩ (ir_c rfl) (by omega) (by omega) ?_
          refine GO.callV (ci := 1) (N := mX1_numberOf) dX11_number_79 (RX1, TX1, 13) rfl gV_RX11_292 h29 (t_X1_numberOf h29 (ir_c rfl) ⟨by omega, by omega⟩ ⟨by omega, by omega⟩) rfl [] rfl rfl (Nat.le_of_ble_eq_true rfl) rfl (k_ip fun X74 r75 h76 => ?_)
          have q77 : -2147483648 ≤ X74 ∧ X74 ≤ 2147483647 := r75
          exact GO.reti rfl rfl dX11_number_82 ⟨rfl, _, rfl, r75, trivial⟩
      refine GO.if_ne (tgt := 45) dX11_number_35 (by decide) r18 (fun c78 => ?_) (fun c78 => ?_)
      ·
        have q79 := h19.2.1 (by omega)
        have q80 : -2147483648 ≤ p0 ∧ p0 ≤ 2147483647 := r_p0
        exact hj26  (by omega) (by omega)
      ·
        have q81 := h19.2.2 (by omega)
        refine GO.iload dX11_number_38 rfl ?_
        refine GO.if_ne (tgt := 45) dX11_number_40 (by decide) r11 (fun c82 => ?_) (fun c82 => ?_)
        ·
          have q83 := h12.2.1 (by omega)
          have q84 : -2147483648 ≤ p0 ∧ p0 ≤ 2147483647 := r_p0
          exact hj26  (by omega) (by omega)
        ·
          have q85 := h12.2.2 (by omega)
          refine GO.iconst dX11_number_43 ?_
          exact GO.reti rfl rfl dX11_number_44 ⟨rfl, _, rfl, (ir_c rfl), trivial⟩

set_option maxHeartbeats 1000000 in
theorem t_X11_decides {K : Kmap} {V : Vmap} {x : Nat} {p0 : Int} {p1 : Int} (h_x : K x = some (0, 10)) (r_p0 : ir p0) (r_p1 : ir p1) : MC mX11_decides K V [.ref x, ti p0, ti p1] (IP K V (fun X => True)) := by
  refine MC.start 1 (by decide +kernel) rfl rfl rfl (ls0 := [some (.ref x), some (ti p0), some (ti p1), none]) rfl ?_
  refine GO.aload_n dX11_decides_0 rfl rfl ?_
  refine GO.iload_n dX11_decides_1 rfl rfl ?_
  refine GO.callV (ci := 10) (N := mX11_partyOf) dX11_decides_2 (RX11, TX11, 20) rfl gV_RX11_151 h_x (t_X11_partyOf h_x r_p0) rfl [] rfl rfl (Nat.le_of_ble_eq_true rfl) rfl (k_rp (fun h3 => ?_) (fun o1 h2 h3 => ?_))
  ·
    have rwn2 := h3.2
    have hn4 : PN V x → p0 < 0 ∨ vi V x 4 ≤ p0 := h3.2
    refine GO.astore_nN (ls1 := [some (.ref x), some (ti p0), some (ti p1), some (.null)]) dX11_decides_5 rfl rfl rfl ?_
    refine GO.aload_nN dX11_decides_6 rfl rfl ?_
    refine GO.ifnullN (tgt := 17) dX11_decides_7 (by decide) ?_
    refine GO.iconst dX11_decides_17 ?_
    exact GO.reti rfl rfl dX11_decides_18 ⟨rfl, rfl, _, rfl, (ir_c rfl), trivial⟩
  ·
    have hp5 : p0 ≥ 0 ∧ p0 < vi V x 4 := h3.1
    have rwp2 := h3.2
    have hq6 : o1 = vq V (vq V x 3) (p0).toNat := h3.2
    refine GO.astore_n (ls1 := [some (.ref x), some (ti p0), some (ti p1), some (.ref o1)]) dX11_decides_5 rfl rfl rfl ?_
    refine GO.aload_n dX11_decides_6 rfl rfl ?_
    refine GO.ifnull dX11_decides_7 ?_
    refine GO.iload_n dX11_decides_10 rfl rfl ?_
    refine GO.callS (N := mX11_isDay) dX11_decides_11 gS_RX11_276 (t_X11_isDay r_p1) rfl [] rfl rfl (Nat.le_of_ble_eq_true rfl) rfl (k_ip fun X7 r8 h9 => ?_)
    refine GO.if_ne (tgt := 19) dX11_decides_14 (by decide) r8 (fun c10 => ?_) (fun c10 => ?_)
    ·
      refine GO.aload_n dX11_decides_19 rfl rfl ?_
      refine GO.iload_n dX11_decides_20 rfl rfl ?_
      refine GO.callV (ci := 2) (N := mX2_decidesOn) dX11_decides_21 (RX2, TX2, 5) rfl gV_RX11_301 h2 (t_X2_decidesOn h2 r_p1) rfl [] rfl rfl (Nat.le_of_ble_eq_true rfl) rfl (k_ip fun X11 r12 h13 => ?_)
      refine GO.if_eq (tgt := 31) dX11_decides_24 (by decide) r12 (fun c14 => ?_) (fun c14 => ?_)
      ·
        refine GO.iconst dX11_decides_31 ?_
        exact GO.reti rfl rfl dX11_decides_32 ⟨rfl, rfl, _, rfl, (ir_c rfl), trivial⟩
      ·
        refine GO.iconst dX11_decides_27 ?_
        refine GO.goto (tgt := 32) dX11_decides_28 (by decide) ?_
        exact GO.reti rfl rfl dX11_decides_32 ⟨rfl, rfl, _, rfl, (ir_c rfl), trivial⟩
    ·
      refine GO.iconst dX11_decides_17 ?_
      exact GO.reti rfl rfl dX11_decides_18 ⟨rfl, rfl, _, rfl, (ir_c rfl), trivial⟩

set_option maxHeartbeats 1000000 in
theorem t_X11_work {K : Kmap} {V : Vmap} {x : Nat} {p0 : Int} {p1 : Int} {p2 : Int} {p3 : Int} {p4 : Int} {p5 : Int} {p6 : Int} (h_x : K x = some (0, 10)) (r_p0 : ir p0) (r_p1 : ir p1) (r_p2 : ir p2) (r_p3 : ir p3) (r_p4 : ir p4) (r_p5 : ir p5) (r_p6 : ir p6) : MC mX11_work K V [.ref x, ti p0, ti p1, ti p2, ti p3, ti p4, ti p5, ti p6] (IX (fun X _ _ => True)) := by
  refine MC.start 1 (by decide +kernel) rfl rfl rfl (ls0 := [some (.ref x), some (ti p0), some (ti p1), some (ti p2), some (ti p3), some (ti p4), some (ti p5), some (ti p6), none]) rfl ?_
  refine GO.iload_n dX11_work_0 rfl rfl ?_
  refine GO.iconst dX11_work_1 ?_
  refine GO.bipush dX11_work_2 rfl ?_
  refine GO.callS (N := mX11_between) dX11_work_4 gS_RX11_112 (t_X11_between r_p0 (ir_c rfl) (ir_c rfl)) rfl [] rfl rfl (Nat.le_of_ble_eq_true rfl) rfl (k_ip fun X1 r2 h3 => ?_)
  refine GO.if_eq (tgt := 41) dX11_work_7 (by decide) r2 (fun c4 => ?_) (fun c4 => ?_)
  ·
    have q5 := h3.2.2 (by omega)
    refine GO.iconst dX11_work_41 ?_
    exact GO.reti rfl rfl dX11_work_42 ⟨_, rfl, (ir_c rfl), trivial⟩
  ·
    have q6 := h3.2.1 (by omega)
    refine GO.aload_n dX11_work_10 rfl rfl ?_
    refine GO.iload_n dX11_work_11 rfl rfl ?_
    refine GO.callV (ci := 10) (N := mX11_partyOf) dX11_work_12 (RX11, TX11, 20) rfl gV_RX11_151 h_x (t_X11_partyOf h_x r_p1) rfl [] rfl rfl (Nat.le_of_ble_eq_true rfl) rfl (k_rp (fun h9 => ?_) (fun o7 h8 h9 => ?_))
    ·
      have rwn12 := h9.2
      have hn10 : PN V x → p1 < 0 ∨ vi V x 4 ≤ p1 := h9.2
      refine GO.ifnullN (tgt := 41) dX11_work_15 (by decide) ?_
      refine GO.iconst dX11_work_41 ?_
      exact GO.reti rfl rfl dX11_work_42 ⟨_, rfl, (ir_c rfl), trivial⟩
    ·
      have hp11 : p1 ≥ 0 ∧ p1 < vi V x 4 := h9.1
      have rwp12 := h9.2
      have hq12 : o7 = vq V (vq V x 3) (p1).toNat := h9.2
      refine GO.ifnull dX11_work_15 ?_
      refine GO.aload_n dX11_work_18 rfl rfl ?_
      refine GO.getR h_x fl_RX11_12 rfl rfl dX11_work_19 (fun hv14 h13 => ?_)
      refine GO.iload_n dX11_work_22 rfl rfl ?_
      refine GO.callV (ci := 0) (N := mX0_isCell) dX11_work_23 (RX0, TX0, 13) rfl gV_RX11_119 h13 (t_X0_isCell h13 r_p2) rfl [] rfl rfl (Nat.le_of_ble_eq_true rfl) rfl (k_ip fun X15 r16 h17 => ?_)
      refine GO.if_eq (tgt := 41) dX11_work_26 (by decide) r16 (fun c18 => ?_) (fun c18 => ?_)
      ·
        refine GO.iconst dX11_work_41 ?_
        exact GO.reti rfl rfl dX11_work_42 ⟨_, rfl, (ir_c rfl), trivial⟩
      ·
        refine GO.aload_n dX11_work_29 rfl rfl ?_
        refine GO.getI h_x fl_RX11_55 rfl rfl dX11_work_30 (fun l19 u20 => ?_)
        refine GO.aload_n dX11_work_33 rfl rfl ?_
        refine GO.getA (n := 100) h_x fl_RX11_51 rfl rfl rfl rfl dX11_work_34 (fun hv22 h21 => ?_)
        refine GO.alen h21 dX11_work_37 (fun h23 => ?_)
        refine GO.icmp_lt (tgt := 43) dX11_work_38 (by decide) vi_ir ⟨by omega, by omega⟩ (fun c24 => ?_) (fun c24 => ?_)
        ·
          refine GO.iload dX11_work_43 rfl ?_
          refine GO.iload dX11_work_45 rfl ?_
          refine GO.callS (N := mX11_areDays) dX11_work_47 gS_RX11_213 (t_X11_areDays r_p3 r_p4) rfl [] rfl rfl (Nat.le_of_ble_eq_true rfl) rfl (k_ip fun X25 r26 h27 => ?_)
          refine GO.if_eq (tgt := 88) dX11_work_50 (by decide) r26 (fun c28 => ?_) (fun c28 => ?_)
          ·
            have q29 := h27.2.2 (by omega)
            refine GO.iconst dX11_work_88 ?_
            exact GO.reti rfl rfl dX11_work_89 ⟨_, rfl, (ir_c rfl), trivial⟩
          ·
            have q30 := h27.2.1 (by omega)
            refine GO.iload dX11_work_53 rfl ?_
            refine GO.aload_n dX11_work_55 rfl rfl ?_
            refine GO.getRaw h_x fl_RX11_12 hv14 dX11_work_56 ?_
            refine GO.getI h13 fl_RX11_145 rfl rfl dX11_work_59 (fun l33 u34 => ?_)
            refine GO.icmp_lt (tgt := 88) dX11_work_62 (by decide) r_p3 vi_ir (fun c35 => ?_) (fun c35 => ?_)
            ·
              refine GO.iconst dX11_work_88 ?_
              exact GO.reti rfl rfl dX11_work_89 ⟨_, rfl, (ir_c rfl), trivial⟩
            ·
              refine GO.iload dX11_work_65 rfl ?_
              refine GO.iconst dX11_work_67 ?_
              refine GO.sipush dX11_work_68 rfl ?_
              refine GO.callS (N := mX11_between) dX11_work_71 gS_RX11_112 (t_X11_between r_p5 (ir_c rfl) (ir_c rfl)) rfl [] rfl rfl (Nat.le_of_ble_eq_true rfl) rfl (k_ip fun X36 r37 h38 => ?_)
              refine GO.if_eq (tgt := 88) dX11_work_74 (by decide) r37 (fun c39 => ?_) (fun c39 => ?_)
              ·
                have q40 := h38.2.2 (by omega)
                refine GO.iconst dX11_work_88 ?_
                exact GO.reti rfl rfl dX11_work_89 ⟨_, rfl, (ir_c rfl), trivial⟩
              ·
                have q41 := h38.2.1 (by omega)
                refine GO.iload dX11_work_77 rfl ?_
                refine GO.iconst dX11_work_79 ?_
                refine GO.bipush dX11_work_80 rfl ?_
                refine GO.callS (N := mX11_between) dX11_work_82 gS_RX11_112 (t_X11_between r_p6 (ir_c rfl) (ir_c rfl)) rfl [] rfl rfl (Nat.le_of_ble_eq_true rfl) rfl (k_ip fun X42 r43 h44 => ?_)
                refine GO.if_ne (tgt := 90) dX11_work_85 (by decide) r43 (fun c45 => ?_) (fun c45 => ?_)
                ·
                  have q46 := h44.2.1 (by omega)
                  refine GO.new (ci := 21) (RX10, TX10, 15) tyX10 rfl rfl lays_9 tyX10_ok gw_223 gw_875 gw_19 rfl rfl dX11_work_90 (fun o47 K48 V54 hq49 hK50 hE51 h52 _ hV53 => ?_)
                  have h55 := hE51.obj (by decide) h_x
                  refine GO.dup dX11_work_93 rfl ?_
                  refine GO.iload_n dX11_work_94 rfl rfl ?_
                  refine GO.iload_n dX11_work_95 rfl rfl ?_
                  refine GO.iload_n dX11_work_96 rfl rfl ?_
                  refine GO.iload dX11_work_97 rfl ?_
                  refine GO.iload dX11_work_99 rfl ?_
                  refine GO.callI (N := mX10_init) dX11_work_101 gI_RX11_304 rfl (t_X10_init h52 r_p0 r_p1 r_p2 r_p3 r_p4) rfl [.ref o47] rfl rfl (Nat.le_of_ble_eq_true rfl) rfl (k_vx fun K58 V60 h59 hE57 hF56 => ?_)
                  have h61 := hE57.obj (by decide) h55
                  have h62 := h59.1
                  refine GO.astore (ls1 := [some (.ref x), some (ti p0), some (ti p1), some (ti p2), some (ti p3), some (ti p4), some (ti p5), some (ti p6), some (.ref o47)]) dX11_work_104 rfl rfl ?_
                  refine GO.aload dX11_work_106 rfl ?_
                  refine GO.iload dX11_work_108 rfl ?_
                  refine GO.putI h62 fp_RX11_305 rfl (by decide +kernel) r_p5 (r_p5).1 (r_p5).2 dX11_work_110 (fun V64 e63 => ?_)
                  refine GO.aload dX11_work_113 rfl ?_
                  refine GO.iload dX11_work_115 rfl ?_
                  refine GO.putI h62 fp_RX11_306 rfl (by decide +kernel) r_p6 (r_p6).1 (r_p6).2 dX11_work_117 (fun V66 e65 => ?_)
                  refine GO.aload_n dX11_work_120 rfl rfl ?_
                  refine GO.getA (n := 100) h61 fl_RX11_51 rfl rfl rfl rfl dX11_work_121 (fun hv68 h67 => ?_)
                  refine GO.aload_n dX11_work_124 rfl rfl ?_
                  refine GO.getI h61 fl_RX11_55 rfl rfl dX11_work_125 (fun l69 u70 => ?_)
                  have e74 : vi V54 x 8 = vi V x 8 := vi_nw hV53 (K_old h_x hq49)
                  have e73 : vi V60 x 8 = vi V54 x 8 := vi_fr hF56 h55 h61 (by decide +kernel)
                  have e72 : vi V64 x 8 = vi V60 x 8 := vi_up e63 (Or.inl (K_ne h61 h62 (by decide)))
                  have e71 : vi V66 x 8 = vi V64 x 8 := vi_up e65 (Or.inl (K_ne h61 h62 (by decide)))
                  refine GO.aload dX11_work_128 rfl ?_
                  refine GO.aast (t := 6) (by decide) (RX10, TX10, 15) rfl rfl rfl (by decide +kernel) h67 h62 vi_ir (by omega) (by omega) dX11_work_130 (fun V76 e75 => ?_)
                  refine GO.aload_n dX11_work_131 rfl rfl ?_
                  refine GO.dup dX11_work_132 rfl ?_
                  refine GO.getI h61 fl_RX11_55 rfl rfl dX11_work_133 (fun l77 u78 => ?_)
                  have e79 : vi V76 x 8 = vi V66 x 8 := vi_up e75 (Or.inl (K_ne h61 h67 (by decide)))
                  refine GO.dup_x1 dX11_work_136 rfl rfl ?_
                  refine GO.iconst dX11_work_137 ?_
                  refine GO.iadd dX11_work_138 ?_
                  refine GO.putI h61 fp_RX11_55 rfl (by decide +kernel) ⟨by omega, by omega⟩ (by omega) (by omega) dX11_work_139 (fun V81 e80 => ?_)
                  exact GO.reti rfl rfl dX11_work_142 ⟨_, rfl, vi_ir, trivial⟩
                ·
                  have q82 := h44.2.2 (by omega)
                  refine GO.iconst dX11_work_88 ?_
                  exact GO.reti rfl rfl dX11_work_89 ⟨_, rfl, (ir_c rfl), trivial⟩
        ·
          refine GO.iconst dX11_work_41 ?_
          exact GO.reti rfl rfl dX11_work_42 ⟨_, rfl, (ir_c rfl), trivial⟩

set_option maxHeartbeats 1000000 in
theorem t_X11_workOf {K : Kmap} {V : Vmap} {x : Nat} {p0 : Int} (h_x : K x = some (0, 10)) (r_p0 : ir p0) : MC mX11_workOf K V [.ref x, ti p0] (RP K V 9 (True) (fun _ => True)) := by
  refine MC.start 0 (by decide +kernel) rfl rfl rfl (ls0 := [some (.ref x), some (ti p0)]) rfl ?_
  refine GO.iload_n dX11_workOf_0 rfl rfl ?_
  refine GO.if_lt (tgt := 30) dX11_workOf_1 (by decide) r_p0 (fun c1 => ?_) (fun c1 => ?_)
  ·
    refine GO.null dX11_workOf_30 ?_
    exact GO.reta rfl rfl (Or.inl ⟨_, rfl⟩) dX11_workOf_31 (Or.inl rfl) ⟨rfl, rfl, Or.inl ⟨rfl, trivial⟩⟩
  ·
    refine GO.iload_n dX11_workOf_4 rfl rfl ?_
    refine GO.aload_n dX11_workOf_5 rfl rfl ?_
    refine GO.getI h_x fl_RX11_55 rfl rfl dX11_workOf_6 (fun l2 u3 => ?_)
    refine GO.icmp_ge (tgt := 30) dX11_workOf_9 (by decide) r_p0 vi_ir (fun c4 => ?_) (fun c4 => ?_)
    ·
      refine GO.null dX11_workOf_30 ?_
      exact GO.reta rfl rfl (Or.inl ⟨_, rfl⟩) dX11_workOf_31 (Or.inl rfl) ⟨rfl, rfl, Or.inl ⟨rfl, trivial⟩⟩
    ·
      refine GO.iload_n dX11_workOf_12 rfl rfl ?_
      refine GO.aload_n dX11_workOf_13 rfl rfl ?_
      refine GO.getA (n := 100) h_x fl_RX11_51 rfl rfl rfl rfl dX11_workOf_14 (fun hv6 h5 => ?_)
      refine GO.alen h5 dX11_workOf_17 (fun h7 => ?_)
      have q9 : -2147483648 ≤ p0 ∧ p0 ≤ 2147483647 := r_p0
      refine GO.icmp_ge (tgt := 30) dX11_workOf_18 (by decide) r_p0 ⟨by omega, by omega⟩ (fun h => by exfalso; omega) (fun c8 => ?_)
      refine GO.aload_n dX11_workOf_21 rfl rfl ?_
      refine GO.getRaw h_x fl_RX11_51 hv6 dX11_workOf_22 ?_
      refine GO.iload_n dX11_workOf_25 rfl rfl ?_
      refine GO.aald (t := 6) rfl rfl h5 r_p0 (by omega) (by omega) dX11_workOf_26 (fun _ => ?_) (fun _ h12 => ?_)
      ·
        refine GO.goto (tgt := 31) dX11_workOf_27 (by decide) ?_
        exact GO.reta rfl rfl (Or.inl ⟨_, rfl⟩) dX11_workOf_31 (Or.inl rfl) ⟨rfl, rfl, Or.inl ⟨rfl, trivial⟩⟩
      ·
        refine GO.goto (tgt := 31) dX11_workOf_27 (by decide) ?_
        exact GO.reta rfl rfl (Or.inl ⟨_, rfl⟩) dX11_workOf_31 (Or.inr ⟨_, rfl⟩) ⟨rfl, rfl, Or.inr ⟨_, rfl, h12, trivial⟩⟩

set_option maxHeartbeats 1000000 in
theorem t_X11_tell {K : Kmap} {V : Vmap} {x : Nat} {p0 : Int} {p1 : Int} (h_x : K x = some (0, 10)) (r_p0 : ir p0) (r_p1 : ir p1) : MC mX11_tell K V [.ref x, ti p0, ti p1] (IS K (fun X V1 => (X = 0 ∨ X = 1) ∧ (X ≠ 0 → True) ∧ (X = 0 → True))) := by
  refine MC.start 1 (by decide +kernel) rfl rfl rfl (ls0 := [some (.ref x), some (ti p0), some (ti p1), none]) rfl ?_
  refine GO.aload_n dX11_tell_0 rfl rfl ?_
  refine GO.iload_n dX11_tell_1 rfl rfl ?_
  refine GO.callV (ci := 10) (N := mX11_workOf) dX11_tell_2 (RX11, TX11, 20) rfl gV_RX11_309 h_x (t_X11_workOf h_x r_p0) rfl [] rfl rfl (Nat.le_of_ble_eq_true rfl) rfl (k_rp (fun h3 => ?_) (fun o1 h2 h3 => ?_))
  ·
    refine GO.astore_nN (ls1 := [some (.ref x), some (ti p0), some (ti p1), some (.null)]) dX11_tell_5 rfl rfl rfl ?_
    refine GO.aload_nN dX11_tell_6 rfl rfl ?_
    refine GO.ifnonnullN dX11_tell_7 ?_
    refine GO.iconst dX11_tell_10 ?_
    exact GO.retz rfl rfl dX11_tell_11 (by omega) ⟨rfl, _, rfl, (ir_c rfl), ⟨by omega, fun _ => trivial, fun _ => trivial⟩⟩
  ·
    refine GO.astore_n (ls1 := [some (.ref x), some (ti p0), some (ti p1), some (.ref o1)]) dX11_tell_5 rfl rfl rfl ?_
    refine GO.aload_n dX11_tell_6 rfl rfl ?_
    refine GO.ifnonnull (tgt := 12) dX11_tell_7 (by decide) ?_
    refine GO.iload_n dX11_tell_12 rfl rfl ?_
    have hj12 : GO mX11_tell K V (IS K (fun X V1 => (X = 0 ∨ X = 1) ∧ (X ≠ 0 → True) ∧ (X = 0 → True))) K V 0 0 37 [some (.ref x), some (ti p0), some (ti p1), some (.ref o1)] [] := by
      skip
      refine GO.iload_n dX11_tell_37 rfl rfl ?_
      refine GO.iconst dX11_tell_38 ?_
      refine GO.icmp_ne (tgt := 63) dX11_tell_39 (by decide) r_p1 (ir_c rfl) (fun c13 => ?_) (fun c13 => ?_)
      ·
        refine GO.iconst dX11_tell_63 ?_
        exact GO.retz rfl rfl dX11_tell_64 (by omega) ⟨rfl, _, rfl, (ir_c rfl), ⟨by omega, fun _ => trivial, fun _ => trivial⟩⟩
      ·
        refine GO.aload_n dX11_tell_42 rfl rfl ?_
        refine GO.getI h2 fl_RX11_316 rfl rfl dX11_tell_43 (fun _ _ => ?_)
        refine GO.iconst dX11_tell_46 ?_
        refine GO.icmp_ne (tgt := 63) dX11_tell_47 (by decide) vi_ir (ir_c rfl) (fun c14 => ?_) (fun c14 => ?_)
        ·
          refine GO.iconst dX11_tell_63 ?_
          exact GO.retz rfl rfl dX11_tell_64 (by omega) ⟨rfl, _, rfl, (ir_c rfl), ⟨by omega, fun _ => trivial, fun _ => trivial⟩⟩
        ·
          refine GO.aload_n dX11_tell_50 rfl rfl ?_
          refine GO.aload_n dX11_tell_51 rfl rfl ?_
          refine GO.getR h_x fl_RX11_12 rfl rfl dX11_tell_52 (fun hv16 h15 => ?_)
          refine GO.getI h15 fl_RX11_145 rfl rfl dX11_tell_55 (fun l17 u18 => ?_)
          refine GO.putI h2 fp_RX11_316 rfl (by decide +kernel) vi_ir (vi_ir).1 (vi_ir).2 dX11_tell_58 (fun V20 e19 => ?_)
          refine GO.iconst dX11_tell_61 ?_
          exact GO.retz rfl rfl dX11_tell_62 (by omega) ⟨rfl, _, rfl, (ir_c rfl), ⟨by omega, fun _ => trivial, fun _ => trivial⟩⟩
    refine GO.if_ne (tgt := 37) dX11_tell_13 (by decide) r_p1 (fun c21 => ?_) (fun c21 => ?_)
    ·
      exact hj12 
    ·
      refine GO.aload_n dX11_tell_16 rfl rfl ?_
      refine GO.getI h2 fl_RX11_313 rfl rfl dX11_tell_17 (fun _ _ => ?_)
      refine GO.iconst dX11_tell_20 ?_
      refine GO.icmp_ne (tgt := 37) dX11_tell_21 (by decide) vi_ir (ir_c rfl) (fun c22 => ?_) (fun c22 => ?_)
      ·
        exact hj12 
      ·
        refine GO.aload_n dX11_tell_24 rfl rfl ?_
        refine GO.aload_n dX11_tell_25 rfl rfl ?_
        refine GO.getR h_x fl_RX11_12 rfl rfl dX11_tell_26 (fun hv24 h23 => ?_)
        refine GO.getI h23 fl_RX11_145 rfl rfl dX11_tell_29 (fun l25 u26 => ?_)
        refine GO.putI h2 fp_RX11_313 rfl (by decide +kernel) vi_ir (vi_ir).1 (vi_ir).2 dX11_tell_32 (fun V28 e27 => ?_)
        refine GO.iconst dX11_tell_35 ?_
        exact GO.retz rfl rfl dX11_tell_36 (by omega) ⟨rfl, _, rfl, (ir_c rfl), ⟨by omega, fun _ => trivial, fun _ => trivial⟩⟩

set_option maxHeartbeats 1000000 in
theorem t_X11_study {K : Kmap} {V : Vmap} {x : Nat} {p0 : Int} {p1 : Int} (h_x : K x = some (0, 10)) (r_p0 : ir p0) (r_p1 : ir p1) : MC mX11_study K V [.ref x, ti p0, ti p1] (IS K (fun X V1 => (X = 0 ∨ X = 1) ∧ (X ≠ 0 → True) ∧ (X = 0 → True))) := by
  refine MC.start 1 (by decide +kernel) rfl rfl rfl (ls0 := [some (.ref x), some (ti p0), some (ti p1), none]) rfl ?_
  refine GO.aload_n dX11_study_0 rfl rfl ?_
  refine GO.iload_n dX11_study_1 rfl rfl ?_
  refine GO.callV (ci := 10) (N := mX11_workOf) dX11_study_2 (RX11, TX11, 20) rfl gV_RX11_309 h_x (t_X11_workOf h_x r_p0) rfl [] rfl rfl (Nat.le_of_ble_eq_true rfl) rfl (k_rp (fun h3 => ?_) (fun o1 h2 h3 => ?_))
  ·
    refine GO.astore_nN (ls1 := [some (.ref x), some (ti p0), some (ti p1), some (.null)]) dX11_study_5 rfl rfl rfl ?_
    refine GO.aload_nN dX11_study_6 rfl rfl ?_
    refine GO.ifnullN (tgt := 29) dX11_study_7 (by decide) ?_
    refine GO.iconst dX11_study_29 ?_
    exact GO.retz rfl rfl dX11_study_30 (by omega) ⟨rfl, _, rfl, (ir_c rfl), ⟨by omega, fun _ => trivial, fun _ => trivial⟩⟩
  ·
    refine GO.astore_n (ls1 := [some (.ref x), some (ti p0), some (ti p1), some (.ref o1)]) dX11_study_5 rfl rfl rfl ?_
    refine GO.aload_n dX11_study_6 rfl rfl ?_
    refine GO.ifnull dX11_study_7 ?_
    refine GO.iload_n dX11_study_10 rfl rfl ?_
    refine GO.iconst dX11_study_11 ?_
    refine GO.sipush dX11_study_12 rfl ?_
    refine GO.callS (N := mX11_between) dX11_study_15 gS_RX11_112 (t_X11_between r_p1 (ir_c rfl) (ir_c rfl)) rfl [] rfl rfl (Nat.le_of_ble_eq_true rfl) rfl (k_ip fun X4 r5 h6 => ?_)
    refine GO.if_eq (tgt := 29) dX11_study_18 (by decide) r5 (fun c7 => ?_) (fun c7 => ?_)
    ·
      have q8 := h6.2.2 (by omega)
      refine GO.iconst dX11_study_29 ?_
      exact GO.retz rfl rfl dX11_study_30 (by omega) ⟨rfl, _, rfl, (ir_c rfl), ⟨by omega, fun _ => trivial, fun _ => trivial⟩⟩
    ·
      have q9 := h6.2.1 (by omega)
      refine GO.aload_n dX11_study_21 rfl rfl ?_
      refine GO.getI h2 fl_RX11_319 rfl rfl dX11_study_22 (fun _ _ => ?_)
      refine GO.iconst dX11_study_25 ?_
      refine GO.icmp_eq (tgt := 31) dX11_study_26 (by decide) vi_ir (ir_c rfl) (fun c10 => ?_) (fun c10 => ?_)
      ·
        refine GO.aload_n dX11_study_31 rfl rfl ?_
        refine GO.aload_n dX11_study_32 rfl rfl ?_
        refine GO.getR h_x fl_RX11_12 rfl rfl dX11_study_33 (fun hv12 h11 => ?_)
        refine GO.getI h11 fl_RX11_145 rfl rfl dX11_study_36 (fun l13 u14 => ?_)
        refine GO.putI h2 fp_RX11_319 rfl (by decide +kernel) vi_ir (vi_ir).1 (vi_ir).2 dX11_study_39 (fun V16 e15 => ?_)
        refine GO.aload_n dX11_study_42 rfl rfl ?_
        refine GO.iload_n dX11_study_43 rfl rfl ?_
        refine GO.putI h2 fp_RX11_322 rfl (by decide +kernel) r_p1 (r_p1).1 (r_p1).2 dX11_study_44 (fun V18 e17 => ?_)
        refine GO.iconst dX11_study_47 ?_
        exact GO.retz rfl rfl dX11_study_48 (by omega) ⟨rfl, _, rfl, (ir_c rfl), ⟨by omega, fun _ => trivial, fun _ => trivial⟩⟩
      ·
        refine GO.iconst dX11_study_29 ?_
        exact GO.retz rfl rfl dX11_study_30 (by omega) ⟨rfl, _, rfl, (ir_c rfl), ⟨by omega, fun _ => trivial, fun _ => trivial⟩⟩

set_option maxHeartbeats 1000000 in
theorem t_X11_say {K : Kmap} {V : Vmap} {x : Nat} {p0 : Int} {p1 : Int} {p2 : Int} (h_x : K x = some (0, 10)) (r_p0 : ir p0) (r_p1 : ir p1) (r_p2 : ir p2) (z_p2 : p2 = 0 ∨ p2 = 1) : MC mX11_say K V [.ref x, ti p0, ti p1, ti p2] (IS K (fun X V1 => (X = 0 ∨ X = 1) ∧ (X ≠ 0 → True) ∧ (X = 0 → True))) := by
  refine MC.start 2 (by decide +kernel) rfl rfl rfl (ls0 := [some (.ref x), some (ti p0), some (ti p1), some (ti p2), none, none]) rfl ?_
  refine GO.aload_n dX11_say_0 rfl rfl ?_
  refine GO.iload_n dX11_say_1 rfl rfl ?_
  refine GO.callV (ci := 10) (N := mX11_workOf) dX11_say_2 (RX11, TX11, 20) rfl gV_RX11_309 h_x (t_X11_workOf h_x r_p1) rfl [] rfl rfl (Nat.le_of_ble_eq_true rfl) rfl (k_rp (fun h3 => ?_) (fun o1 h2 h3 => ?_))
  ·
    refine GO.astoreN (ls1 := [some (.ref x), some (ti p0), some (ti p1), some (ti p2), some (.null), none]) dX11_say_5 rfl rfl ?_
    refine GO.aload_n dX11_say_7 rfl rfl ?_
    refine GO.iload_n dX11_say_8 rfl rfl ?_
    refine GO.callV (ci := 10) (N := mX11_partyOf) dX11_say_9 (RX11, TX11, 20) rfl gV_RX11_151 h_x (t_X11_partyOf h_x r_p0) rfl [] rfl rfl (Nat.le_of_ble_eq_true rfl) rfl (k_rp (fun h6 => ?_) (fun o4 h5 h6 => ?_))
    ·
      have rwn9 := h6.2
      have hn7 : PN V x → p0 < 0 ∨ vi V x 4 ≤ p0 := h6.2
      refine GO.ifnullN (tgt := 20) dX11_say_12 (by decide) ?_
      refine GO.iconst dX11_say_20 ?_
      exact GO.retz rfl rfl dX11_say_21 (by omega) ⟨rfl, _, rfl, (ir_c rfl), ⟨by omega, fun _ => trivial, fun _ => trivial⟩⟩
    ·
      have hp8 : p0 ≥ 0 ∧ p0 < vi V x 4 := h6.1
      have rwp9 := h6.2
      have hq9 : o4 = vq V (vq V x 3) (p0).toNat := h6.2
      refine GO.ifnull dX11_say_12 ?_
      refine GO.aloadN dX11_say_15 rfl ?_
      refine GO.ifnonnullN dX11_say_17 ?_
      refine GO.iconst dX11_say_20 ?_
      exact GO.retz rfl rfl dX11_say_21 (by omega) ⟨rfl, _, rfl, (ir_c rfl), ⟨by omega, fun _ => trivial, fun _ => trivial⟩⟩
  ·
    refine GO.astore (ls1 := [some (.ref x), some (ti p0), some (ti p1), some (ti p2), some (.ref o1), none]) dX11_say_5 rfl rfl ?_
    refine GO.aload_n dX11_say_7 rfl rfl ?_
    refine GO.iload_n dX11_say_8 rfl rfl ?_
    refine GO.callV (ci := 10) (N := mX11_partyOf) dX11_say_9 (RX11, TX11, 20) rfl gV_RX11_151 h_x (t_X11_partyOf h_x r_p0) rfl [] rfl rfl (Nat.le_of_ble_eq_true rfl) rfl (k_rp (fun h12 => ?_) (fun o10 h11 h12 => ?_))
    ·
      have rwn9 := h12.2
      have hn13 : PN V x → p0 < 0 ∨ vi V x 4 ≤ p0 := h12.2
      refine GO.ifnullN (tgt := 20) dX11_say_12 (by decide) ?_
      refine GO.iconst dX11_say_20 ?_
      exact GO.retz rfl rfl dX11_say_21 (by omega) ⟨rfl, _, rfl, (ir_c rfl), ⟨by omega, fun _ => trivial, fun _ => trivial⟩⟩
    ·
      have hp14 : p0 ≥ 0 ∧ p0 < vi V x 4 := h12.1
      have rwp9 := h12.2
      have hq15 : o10 = vq V (vq V x 3) (p0).toNat := h12.2
      refine GO.ifnull dX11_say_12 ?_
      refine GO.aload dX11_say_15 rfl ?_
      refine GO.ifnonnull (tgt := 22) dX11_say_17 (by decide) ?_
      refine GO.iconst dX11_say_22 ?_
      refine GO.iload_n dX11_say_23 rfl rfl ?_
      refine GO.ishl dX11_say_24 ?_
      refine GO.name (fun z16 hz17 => ?_)
      have r18 : ir z16 := hz17 ▸ wshl_ir
      refine GO.istore (ls1 := [some (.ref x), some (ti p0), some (ti p1), some (ti p2), some (.ref o1), some (ti z16)]) dX11_say_25 rfl rfl ?_
      refine GO.aload dX11_say_27 rfl ?_
      refine GO.iload_n dX11_say_29 rfl rfl ?_
      have hj21 : ∀ (z20 : Int), ∀ (l22 : (-2147483648) ≤ z20), ∀ (u23 : z20 ≤ 2147483647), GO mX11_say K V (IS K (fun X V1 => (X = 0 ∨ X = 1) ∧ (X ≠ 0 → True) ∧ (X = 0 → True))) K V 0 0 54 [some (.ref x), some (ti p0), some (ti p1), some (ti p2), some (.ref o1), some (ti z16)] [ti z20, .ref o1] := by
        intro z20 l22 u23
        have r24 : ir z20 := ⟨by omega, by omega⟩
        refine GO.putI h2 fp_RX11_325 rfl (by decide +kernel) r24 (r24).1 (r24).2 dX11_say_54 (fun V26 e25 => ?_)
        refine GO.aload dX11_say_57 rfl ?_
        refine GO.iload_n dX11_say_59 rfl rfl ?_
        refine GO.if_eq (tgt := 76) dX11_say_60 (by decide) r_p2 (fun c27 => ?_) (fun c27 => ?_)
        ·
          refine GO.aload dX11_say_76 rfl ?_
          refine GO.getI h2 fl_RX11_328 rfl rfl dX11_say_78 (fun _ _ => ?_)
          refine GO.iload dX11_say_81 rfl ?_
          refine GO.ior dX11_say_83 ?_
          refine GO.putI h2 fp_RX11_328 rfl (by decide +kernel) wor_ir (wor_ir).1 (wor_ir).2 dX11_say_84 (fun V29 e28 => ?_)
          refine GO.iconst dX11_say_87 ?_
          exact GO.retz rfl rfl dX11_say_88 (by omega) ⟨rfl, _, rfl, (ir_c rfl), ⟨by omega, fun _ => trivial, fun _ => trivial⟩⟩
        ·
          refine GO.aload dX11_say_63 rfl ?_
          refine GO.getI h2 fl_RX11_328 rfl rfl dX11_say_65 (fun _ _ => ?_)
          refine GO.iload dX11_say_68 rfl ?_
          refine GO.iconst dX11_say_70 ?_
          refine GO.ixor dX11_say_71 ?_
          refine GO.iand dX11_say_72 ?_
          refine GO.goto (tgt := 84) dX11_say_73 (by decide) ?_
          refine GO.putI h2 fp_RX11_328 rfl (by decide +kernel) wand_ir (wand_ir).1 (wand_ir).2 dX11_say_84 (fun V31 e30 => ?_)
          refine GO.iconst dX11_say_87 ?_
          exact GO.retz rfl rfl dX11_say_88 (by omega) ⟨rfl, _, rfl, (ir_c rfl), ⟨by omega, fun _ => trivial, fun _ => trivial⟩⟩
      refine GO.if_eq (tgt := 44) dX11_say_30 (by decide) r_p2 (fun c32 => ?_) (fun c32 => ?_)
      ·
        refine GO.aload dX11_say_44 rfl ?_
        refine GO.getI h2 fl_RX11_325 rfl rfl dX11_say_46 (fun _ _ => ?_)
        refine GO.iload dX11_say_49 rfl ?_
        refine GO.iconst dX11_say_51 ?_
        refine GO.ixor dX11_say_52 ?_
        refine GO.iand dX11_say_53 ?_
        have q33 : -2147483648 ≤ wand (vi V o1 13) (wxor z16 (-1)) ∧ wand (vi V o1 13) (wxor z16 (-1)) ≤ 2147483647 := wand_ir
        exact hj21 (wand (vi V o1 13) (wxor z16 (-1))) (by omega) (by omega)
      ·
        refine GO.aload dX11_say_33 rfl ?_
        refine GO.getI h2 fl_RX11_325 rfl rfl dX11_say_35 (fun _ _ => ?_)
        refine GO.iload dX11_say_38 rfl ?_
        refine GO.ior dX11_say_40 ?_
        refine GO.goto (tgt := 54) dX11_say_41 (by decide) ?_
        have q34 : -2147483648 ≤ wor (vi V o1 13) z16 ∧ wor (vi V o1 13) z16 ≤ 2147483647 := wor_ir
        exact hj21 (wor (vi V o1 13) z16) (by omega) (by omega)

set_option maxHeartbeats 1000000 in
theorem t_X4_put_t135 {K : Kmap} {V : Vmap} {p0 n_p0 : Nat} {p1 : Int} {p2 : Int} (h_p0 : K p0 = some (136, n_p0)) (r_p1 : ir p1) (r_p2 : ir p2) : MC mX4_put_t135 K V [.ref p0, ti p1, ti p2] (VS K (fun V1 => (True) ∧ (V1 = rpv V p0 n_p0 p1 p2))) := by
  refine MC.start 0 (by decide +kernel) rfl rfl rfl (ls0 := [some (.ref p0), some (ti p1), some (ti p2)]) rfl ?_
  refine GO.aload_n dX4_put_0 rfl rfl ?_
  refine GO.ifnull dX4_put_1 ?_
  refine GO.iload_n dX4_put_4 rfl rfl ?_
  refine GO.if_lt (tgt := 18) dX4_put_5 (by decide) r_p1 (fun c1 => ?_) (fun c1 => ?_)
  ·
    exact GO.retv rfl rfl dX4_put_18 ⟨rfl, rfl, ⟨trivial, (by first | exact rpv_in (by assumption) (by omega) (by omega) | exact rpv_out (by omega))⟩⟩
  ·
    refine GO.iload_n dX4_put_8 rfl rfl ?_
    refine GO.aload_n dX4_put_9 rfl rfl ?_
    refine GO.alen h_p0 dX4_put_10 (fun h2 => ?_)
    refine GO.icmp_ge (tgt := 18) dX4_put_11 (by decide) r_p1 ⟨by omega, by omega⟩ (fun c3 => ?_) (fun c3 => ?_)
    ·
      exact GO.retv rfl rfl dX4_put_18 ⟨rfl, rfl, ⟨trivial, (by first | exact rpv_in (by assumption) (by omega) (by omega) | exact rpv_out (by omega))⟩⟩
    ·
      refine GO.aload_n dX4_put_14 rfl rfl ?_
      refine GO.iload_n dX4_put_15 rfl rfl ?_
      refine GO.iload_n dX4_put_16 rfl rfl ?_
      have q4 : -2147483648 ≤ p1 ∧ p1 ≤ 2147483647 := r_p1
      refine GO.iast (t := 135) rfl rfl (by decide +kernel) h_p0 r_p1 (by omega) (by omega) r_p2 (r_p2).1 (r_p2).2 dX4_put_17 (fun V6 e5 => ?_)
      exact GO.retv rfl rfl dX4_put_18 ⟨rfl, rfl, ⟨trivial, (by first | exact rpv_in (by assumption) (by omega) (by omega) | exact rpv_out (by omega))⟩⟩

set_option maxHeartbeats 1000000 in
theorem t_X11_tellLetters {K : Kmap} {V : Vmap} {x : Nat} {p0 : Nat} {p1 : Nat} {p2 : Int} (h_x : K x = some (0, 10)) (h_p0 : K p0 = some (0, 9)) (h_p1 : K p1 = some (0, 2)) (r_p2 : ir p2) : MC mX11_tellLetters K V [.ref x, .ref p0, .ref p1, ti p2] (VS K (fun V1 => (True))) := by
  refine MC.start 1 (by decide +kernel) rfl rfl rfl (ls0 := [some (.ref x), some (.ref p0), some (.ref p1), some (ti p2), none]) rfl ?_
  refine GO.aload_n dX11_tellLetters_0 rfl rfl ?_
  refine GO.getR h_x fl_RX11_19 rfl rfl dX11_tellLetters_1 (fun hv2 h1 => ?_)
  refine GO.getA (n := 14) h1 fl_RX11_372 rfl rfl rfl rfl dX11_tellLetters_4 (fun hv4 h3 => ?_)
  refine GO.astore (ls1 := [some (.ref x), some (.ref p0), some (.ref p1), some (ti p2), some (.ref (vq V (vq V x 1) 8))]) dX11_tellLetters_7 rfl rfl ?_
  refine GO.aload dX11_tellLetters_9 rfl ?_
  refine GO.iconst dX11_tellLetters_11 ?_
  refine GO.aload_n dX11_tellLetters_12 rfl rfl ?_
  refine GO.getI h_p0 fl_RX11_375 rfl rfl dX11_tellLetters_13 (fun _ _ => ?_)
  refine GO.callS (N := mX4_put_t135) dX11_tellLetters_16 gS_RX11_108 (t_X4_put_t135 h3 (ir_c rfl) vi_ir) rfl [] rfl rfl (Nat.le_of_ble_eq_true rfl) rfl (k_vs fun V7 h6 hF5 => ?_)
  have raw_put := h6.2
  have rw16 := h6.2
  refine GO.aload dX11_tellLetters_19 rfl ?_
  refine GO.iconst dX11_tellLetters_21 ?_
  refine GO.aload_n dX11_tellLetters_22 rfl rfl ?_
  refine GO.getI h_p0 fl_RX11_353 rfl rfl dX11_tellLetters_23 (fun _ _ => ?_)
  refine GO.callS (N := mX4_put_t135) dX11_tellLetters_26 gS_RX11_108 (t_X4_put_t135 h3 (ir_c rfl) vi_ir) rfl [] rfl rfl (Nat.le_of_ble_eq_true rfl) rfl (k_vs fun V10 h9 hF8 => ?_)
  have raw_put := h9.2
  have rw26 := h9.2
  refine GO.aload dX11_tellLetters_29 rfl ?_
  refine GO.iconst dX11_tellLetters_31 ?_
  refine GO.aload_n dX11_tellLetters_32 rfl rfl ?_
  refine GO.iload_n dX11_tellLetters_33 rfl rfl ?_
  refine GO.callV (ci := 2) (N := mX2_decidesOn) dX11_tellLetters_34 (RX2, TX2, 5) rfl gV_RX11_301 h_p1 (t_X2_decidesOn h_p1 r_p2) rfl [ti 2, .ref (vq V (vq V x 1) 8)] rfl rfl (Nat.le_of_ble_eq_true rfl) rfl (k_ip fun X11 r12 h13 => ?_)
  have hj16 : ∀ (z15 : Int), ∀ (l17 : 0 ≤ z15), ∀ (u18 : z15 ≤ 1), GO mX11_tellLetters K V (VS K (fun V1 => (True))) K V10 0 0 45 [some (.ref x), some (.ref p0), some (.ref p1), some (ti p2), some (.ref (vq V (vq V x 1) 8))] [ti z15, ti 2, .ref (vq V (vq V x 1) 8)] := by
    intro z15 l17 u18
    have r19 : ir z15 := ⟨by omega, by omega⟩
    refine GO.callS (N := mX4_put_t135) dX11_tellLetters_45 gS_RX11_108 (t_X4_put_t135 h3 (ir_c rfl) r19) rfl [] rfl rfl (Nat.le_of_ble_eq_true rfl) rfl (k_vs fun V22 h21 hF20 => ?_)
    have raw_put := h21.2
    have rw45 := h21.2
    refine GO.aload dX11_tellLetters_48 rfl ?_
    refine GO.iconst dX11_tellLetters_50 ?_
    refine GO.aload_n dX11_tellLetters_51 rfl rfl ?_
    refine GO.getR h_x fl_RX11_12 rfl rfl dX11_tellLetters_52 (fun hv24 h23 => ?_)
    refine GO.getA (n := 144) h23 fl_RX11_123 rfl rfl rfl rfl dX11_tellLetters_55 (fun hv26 h25 => ?_)
    refine GO.aload_n dX11_tellLetters_58 rfl rfl ?_
    refine GO.getI h_p0 fl_RX11_378 rfl rfl dX11_tellLetters_59 (fun _ _ => ?_)
    refine GO.callS (N := mX4_get) dX11_tellLetters_62 gS_RX11_253 (t_X4_get rfl h25 vi_ir) rfl [ti 3, .ref (vq V (vq V x 1) 8)] rfl rfl (Nat.le_of_ble_eq_true rfl) rfl (k_ip fun X27 r28 h29 => ?_)
    have raw_get := h29.2
    have rw62 := h29.2
    refine GO.callS (N := mX4_put_t135) dX11_tellLetters_65 gS_RX11_108 (t_X4_put_t135 h3 (ir_c rfl) r28) rfl [] rfl rfl (Nat.le_of_ble_eq_true rfl) rfl (k_vs fun V32 h31 hF30 => ?_)
    have raw_put := h31.2
    have rw65 := h31.2
    refine GO.aload dX11_tellLetters_68 rfl ?_
    refine GO.iconst dX11_tellLetters_70 ?_
    refine GO.aload_n dX11_tellLetters_71 rfl rfl ?_
    refine GO.getRaw h_x fl_RX11_12 (Eq.trans (hF30 _ _ _ h_x h_x (by decide +kernel)) hv24) dX11_tellLetters_72 ?_
    refine GO.getA (n := 144) h23 fl_RX11_126 rfl rfl rfl rfl dX11_tellLetters_75 (fun hv36 h35 => ?_)
    refine GO.aload_n dX11_tellLetters_78 rfl rfl ?_
    refine GO.getI h_p0 fl_RX11_378 rfl rfl dX11_tellLetters_79 (fun _ _ => ?_)
    refine GO.callS (N := mX4_get) dX11_tellLetters_82 gS_RX11_253 (t_X4_get rfl h35 vi_ir) rfl [ti 4, .ref (vq V (vq V x 1) 8)] rfl rfl (Nat.le_of_ble_eq_true rfl) rfl (k_ip fun X37 r38 h39 => ?_)
    have raw_get := h39.2
    have rw82 := h39.2
    refine GO.callS (N := mX4_put_t135) dX11_tellLetters_85 gS_RX11_108 (t_X4_put_t135 h3 (ir_c rfl) r38) rfl [] rfl rfl (Nat.le_of_ble_eq_true rfl) rfl (k_vs fun V42 h41 hF40 => ?_)
    have raw_put := h41.2
    have rw85 := h41.2
    refine GO.aload dX11_tellLetters_88 rfl ?_
    refine GO.bipush dX11_tellLetters_90 rfl ?_
    refine GO.aload_n dX11_tellLetters_92 rfl rfl ?_
    refine GO.getI h_p0 fl_RX11_305 rfl rfl dX11_tellLetters_93 (fun _ _ => ?_)
    refine GO.callS (N := mX4_put_t135) dX11_tellLetters_96 gS_RX11_108 (t_X4_put_t135 h3 (ir_c rfl) vi_ir) rfl [] rfl rfl (Nat.le_of_ble_eq_true rfl) rfl (k_vs fun V45 h44 hF43 => ?_)
    have raw_put := h44.2
    have rw96 := h44.2
    refine GO.aload dX11_tellLetters_99 rfl ?_
    refine GO.bipush dX11_tellLetters_101 rfl ?_
    refine GO.aload_n dX11_tellLetters_103 rfl rfl ?_
    refine GO.getI h_p0 fl_RX11_306 rfl rfl dX11_tellLetters_104 (fun _ _ => ?_)
    refine GO.callS (N := mX4_put_t135) dX11_tellLetters_107 gS_RX11_108 (t_X4_put_t135 h3 (ir_c rfl) vi_ir) rfl [] rfl rfl (Nat.le_of_ble_eq_true rfl) rfl (k_vs fun V48 h47 hF46 => ?_)
    have raw_put := h47.2
    have rw107 := h47.2
    refine GO.aload dX11_tellLetters_110 rfl ?_
    refine GO.bipush dX11_tellLetters_112 rfl ?_
    refine GO.iload_n dX11_tellLetters_114 rfl rfl ?_
    refine GO.sipush dX11_tellLetters_115 rfl ?_
    refine GO.irem dX11_tellLetters_118 (ir_c rfl) (by omega) ?_
    refine GO.callS (N := mX4_put_t135) dX11_tellLetters_119 gS_RX11_108 (t_X4_put_t135 h3 (ir_c rfl) wrem_ir) rfl [] rfl rfl (Nat.le_of_ble_eq_true rfl) rfl (k_vs fun V51 h50 hF49 => ?_)
    have raw_put := h50.2
    have rw119 := h50.2
    refine GO.aload dX11_tellLetters_122 rfl ?_
    refine GO.bipush dX11_tellLetters_124 rfl ?_
    refine GO.iload_n dX11_tellLetters_126 rfl rfl ?_
    refine GO.sipush dX11_tellLetters_127 rfl ?_
    refine GO.idiv dX11_tellLetters_130 (ir_c rfl) (by omega) ?_
    refine GO.callS (N := mX4_put_t135) dX11_tellLetters_131 gS_RX11_108 (t_X4_put_t135 h3 (ir_c rfl) wdiv_ir) rfl [] rfl rfl (Nat.le_of_ble_eq_true rfl) rfl (k_vs fun V54 h53 hF52 => ?_)
    have raw_put := h53.2
    have rw131 := h53.2
    refine GO.aload dX11_tellLetters_134 rfl ?_
    refine GO.bipush dX11_tellLetters_136 rfl ?_
    refine GO.aload_n dX11_tellLetters_138 rfl rfl ?_
    refine GO.getRaw h_x fl_RX11_12 (Eq.trans (hF52 _ _ _ h_x h_x (by decide +kernel)) (Eq.trans (hF49 _ _ _ h_x h_x (by decide +kernel)) (Eq.trans (hF46 _ _ _ h_x h_x (by decide +kernel)) (Eq.trans (hF43 _ _ _ h_x h_x (by decide +kernel)) (Eq.trans (hF40 _ _ _ h_x h_x (by decide +kernel)) (Eq.trans (hF30 _ _ _ h_x h_x (by decide +kernel)) hv24)))))) dX11_tellLetters_139 ?_
    refine GO.iload_n dX11_tellLetters_142 rfl rfl ?_
    refine GO.callV (ci := 0) (N := mX0_isDark) dX11_tellLetters_143 (RX0, TX0, 13) rfl gV_RX11_381 h23 (t_X0_isDark h23 r_p2) rfl [ti 13, .ref (vq V (vq V x 1) 8)] rfl rfl (Nat.le_of_ble_eq_true rfl) rfl (k_ip fun X57 r58 h59 => ?_)
    refine GO.if_eq (tgt := 153) dX11_tellLetters_146 (by decide) r58 (fun c60 => ?_) (fun c60 => ?_)
    ·
      refine GO.iconst dX11_tellLetters_153 ?_
      refine GO.callS (N := mX4_put_t135) dX11_tellLetters_154 gS_RX11_108 (t_X4_put_t135 h3 (ir_c rfl) (ir_c rfl)) rfl [] rfl rfl (Nat.le_of_ble_eq_true rfl) rfl (k_vs fun V63 h62 hF61 => ?_)
      have raw_put := h62.2
      have rw154 := h62.2
      exact GO.retv rfl rfl dX11_tellLetters_157 ⟨rfl, rfl, trivial⟩
    ·
      refine GO.iconst dX11_tellLetters_149 ?_
      refine GO.goto (tgt := 154) dX11_tellLetters_150 (by decide) ?_
      refine GO.callS (N := mX4_put_t135) dX11_tellLetters_154 gS_RX11_108 (t_X4_put_t135 h3 (ir_c rfl) (ir_c rfl)) rfl [] rfl rfl (Nat.le_of_ble_eq_true rfl) rfl (k_vs fun V66 h65 hF64 => ?_)
      have raw_put := h65.2
      have rw154 := h65.2
      exact GO.retv rfl rfl dX11_tellLetters_157 ⟨rfl, rfl, trivial⟩
  refine GO.if_eq (tgt := 44) dX11_tellLetters_37 (by decide) r12 (fun c67 => ?_) (fun c67 => ?_)
  ·
    refine GO.iconst dX11_tellLetters_44 ?_
    exact hj16 0 (by omega) (by omega)
  ·
    refine GO.iconst dX11_tellLetters_40 ?_
    refine GO.goto (tgt := 45) dX11_tellLetters_41 (by decide) ?_
    exact hj16 1 (by omega) (by omega)

set_option maxHeartbeats 1000000 in
theorem t_X11_tellNeighbours {K : Kmap} {V : Vmap} {x : Nat} {p0 : Nat} (h_x : K x = some (0, 10)) (h_p0 : K p0 = some (0, 9)) : MC mX11_tellNeighbours K V [.ref x, .ref p0] (VS K (fun V1 => (True))) := by
  refine MC.start 6 (by decide +kernel) rfl rfl rfl (ls0 := [some (.ref x), some (.ref p0), none, none, none, none, none, none]) rfl ?_
  refine GO.iconst dX11_tellNeighbours_0 ?_
  refine GO.istore_n (ls1 := [some (.ref x), some (.ref p0), some (ti 0), none, none, none, none, none]) dX11_tellNeighbours_1 rfl rfl rfl ?_
  refine GO.iconst dX11_tellNeighbours_2 ?_
  refine GO.istore_n (ls1 := [some (.ref x), some (.ref p0), some (ti 0), some (ti 0), none, none, none, none]) dX11_tellNeighbours_3 rfl rfl rfl ?_
  refine GO.iconst dX11_tellNeighbours_4 ?_
  refine GO.istore (ls1 := [some (.ref x), some (.ref p0), some (ti 0), some (ti 0), some (ti 0), none, none, none]) dX11_tellNeighbours_5 rfl rfl ?_
  refine GO.iconst dX11_tellNeighbours_7 ?_
  refine GO.istore (ls1 := [some (.ref x), some (.ref p0), some (ti 0), some (ti 0), some (ti 0), some (ti 0), none, none]) dX11_tellNeighbours_8 rfl rfl ?_
  refine GO.iconst dX11_tellNeighbours_10 ?_
  refine GO.istore (ls1 := [some (.ref x), some (.ref p0), some (ti 0), some (ti 0), some (ti 0), some (ti 0), some (ti 0), none]) dX11_tellNeighbours_11 rfl rfl ?_
  refine GO.loop5 (fun i1 i2 i3 i4 i5 W => 0 ≤ i1 ∧ i1 ≤ 2147483647 ∧ (-2147483648) ≤ i2 ∧ i2 ≤ 2147483647 ∧ (-2147483648) ≤ i3 ∧ i3 ≤ 2147483647 ∧ (-2147483648) ≤ i4 ∧ i4 ≤ 2147483647 ∧ 0 ≤ i5 ∧ i5 ≤ 60 ∧ V = W) (fun i1 i2 i3 i4 i5 => [some (.ref x), some (.ref p0), some (ti i1), some (ti i2), some (ti i3), some (ti i4), some (ti i5), none]) (fun i1 i2 i3 i4 i5 W => (2147483647 - i5).toNat) 0 0 0 0 0 ⟨by omega, by omega, by omega, by omega, by omega, by omega, by omega, by omega, by omega, by omega, rfl⟩ rfl (fun i1 i2 i3 i4 i5 V9911 hp9913 ih9912 => ?_)
  obtain ⟨l_i1, u_i1, l_i2, u_i2, l_i3, u_i3, l_i4, u_i4, l_i5, u_i5, rfl⟩ := hp9913
  have r_i1 : ir i1 := ⟨by omega, by omega⟩
  have r_i2 : ir i2 := ⟨by omega, by omega⟩
  have r_i3 : ir i3 := ⟨by omega, by omega⟩
  have r_i4 : ir i4 := ⟨by omega, by omega⟩
  have r_i5 : ir i5 := ⟨by omega, by omega⟩
  show GO mX11_tellNeighbours K V (VS K (fun V1 => (True))) K V 0 0 13 [some (.ref x), some (.ref p0), some (ti i1), some (ti i2), some (ti i3), some (ti i4), some (ti i5), none] []
  refine GO.iload dX11_tellNeighbours_13 rfl ?_
  refine GO.aload_n dX11_tellNeighbours_15 rfl rfl ?_
  refine GO.getI h_x fl_RX11_46 rfl rfl dX11_tellNeighbours_16 (fun l9914 u9915 => ?_)
  refine GO.icmp_ge (tgt := 204) dX11_tellNeighbours_19 (by decide) r_i5 vi_ir (fun c9916 => ?_) (fun c9916 => ?_)
  ·
    refine GO.aload_n dX11_tellNeighbours_204 rfl rfl ?_
    refine GO.getR h_x fl_RX11_19 rfl rfl dX11_tellNeighbours_205 (fun hv9918 h9917 => ?_)
    refine GO.getA (n := 14) h9917 fl_RX11_372 rfl rfl rfl rfl dX11_tellNeighbours_208 (fun hv9920 h9919 => ?_)
    refine GO.iconst dX11_tellNeighbours_211 ?_
    refine GO.iload_n dX11_tellNeighbours_212 rfl rfl ?_
    refine GO.callS (N := mX4_put_t135) dX11_tellNeighbours_213 gS_RX11_108 (t_X4_put_t135 h9919 (ir_c rfl) r_i1) rfl [] rfl rfl (Nat.le_of_ble_eq_true rfl) rfl (k_vs fun V9923 h9922 hF9921 => ?_)
    have raw_put := h9922.2
    have rw213 := h9922.2
    refine GO.aload_n dX11_tellNeighbours_216 rfl rfl ?_
    refine GO.getRaw h_x fl_RX11_19 (Eq.trans (hF9921 _ _ _ h_x h_x (by decide +kernel)) hv9918) dX11_tellNeighbours_217 ?_
    refine GO.getA (n := 14) h9917 fl_RX11_372 rfl rfl rfl rfl dX11_tellNeighbours_220 (fun hv9927 h9926 => ?_)
    refine GO.bipush dX11_tellNeighbours_223 rfl ?_
    refine GO.iload_n dX11_tellNeighbours_225 rfl rfl ?_
    refine GO.callS (N := mX4_put_t135) dX11_tellNeighbours_226 gS_RX11_108 (t_X4_put_t135 h9926 (ir_c rfl) r_i2) rfl [] rfl rfl (Nat.le_of_ble_eq_true rfl) rfl (k_vs fun V9930 h9929 hF9928 => ?_)
    have raw_put := h9929.2
    have rw226 := h9929.2
    refine GO.aload_n dX11_tellNeighbours_229 rfl rfl ?_
    refine GO.getRaw h_x fl_RX11_19 (Eq.trans (hF9928 _ _ _ h_x h_x (by decide +kernel)) (Eq.trans (hF9921 _ _ _ h_x h_x (by decide +kernel)) hv9918)) dX11_tellNeighbours_230 ?_
    refine GO.getA (n := 14) h9917 fl_RX11_372 rfl rfl rfl rfl dX11_tellNeighbours_233 (fun hv9934 h9933 => ?_)
    refine GO.bipush dX11_tellNeighbours_236 rfl ?_
    refine GO.iload dX11_tellNeighbours_238 rfl ?_
    refine GO.callS (N := mX4_put_t135) dX11_tellNeighbours_240 gS_RX11_108 (t_X4_put_t135 h9933 (ir_c rfl) r_i3) rfl [] rfl rfl (Nat.le_of_ble_eq_true rfl) rfl (k_vs fun V9937 h9936 hF9935 => ?_)
    have raw_put := h9936.2
    have rw240 := h9936.2
    refine GO.aload_n dX11_tellNeighbours_243 rfl rfl ?_
    refine GO.getRaw h_x fl_RX11_19 (Eq.trans (hF9935 _ _ _ h_x h_x (by decide +kernel)) (Eq.trans (hF9928 _ _ _ h_x h_x (by decide +kernel)) (Eq.trans (hF9921 _ _ _ h_x h_x (by decide +kernel)) hv9918))) dX11_tellNeighbours_244 ?_
    refine GO.getA (n := 14) h9917 fl_RX11_372 rfl rfl rfl rfl dX11_tellNeighbours_247 (fun hv9941 h9940 => ?_)
    refine GO.bipush dX11_tellNeighbours_250 rfl ?_
    refine GO.iload dX11_tellNeighbours_252 rfl ?_
    refine GO.callS (N := mX4_put_t135) dX11_tellNeighbours_254 gS_RX11_108 (t_X4_put_t135 h9940 (ir_c rfl) r_i4) rfl [] rfl rfl (Nat.le_of_ble_eq_true rfl) rfl (k_vs fun V9944 h9943 hF9942 => ?_)
    have raw_put := h9943.2
    have rw254 := h9943.2
    exact GO.retv rfl rfl dX11_tellNeighbours_257 ⟨rfl, rfl, trivial⟩
  ·
    refine GO.aload_n dX11_tellNeighbours_22 rfl rfl ?_
    refine GO.iload dX11_tellNeighbours_23 rfl ?_
    refine GO.callV (ci := 10) (N := mX11_anyPlace) dX11_tellNeighbours_25 (RX11, TX11, 20) rfl gV_RX11_384 h_x (t_X11_anyPlace h_x r_i5) rfl [] rfl rfl (Nat.le_of_ble_eq_true rfl) rfl (k_rp (fun h9947 => ?_) (fun o9945 h9946 h9947 => ?_))
    ·
      refine GO.astoreN (ls1 := [some (.ref x), some (.ref p0), some (ti i1), some (ti i2), some (ti i3), some (ti i4), some (ti i5), some (.null)]) dX11_tellNeighbours_28 rfl rfl ?_
      refine GO.aloadN dX11_tellNeighbours_30 rfl ?_
      refine GO.ifnonnullN dX11_tellNeighbours_32 ?_
      refine GO.goto (tgt := 198) dX11_tellNeighbours_35 (by decide) ?_
      refine GO.iinc (X := i5) (n := 1) (Y := i5 + 1) (ls1 := [some (.ref x), some (.ref p0), some (ti i1), some (ti i2), some (ti i3), some (ti i4), some (ti (i5 + 1)), some (.null)]) dX11_tellNeighbours_198 rfl rfl rfl rfl ?_
      refine GO.goto (tgt := 13) dX11_tellNeighbours_201 (by decide) ?_
      refine GO.drop [true, true, true, true, true, true, true, false] rfl ?_
      exact ih9912 i1 i2 i3 i4 (i5 + 1) V ⟨by omega, by omega, by omega, by omega, by omega, by omega, by omega, by omega, by omega, by omega, rfl⟩ (by show (2147483647 - (i5 + 1)).toNat < (2147483647 - i5).toNat; omega)
    ·
      refine GO.astore (ls1 := [some (.ref x), some (.ref p0), some (ti i1), some (ti i2), some (ti i3), some (ti i4), some (ti i5), some (.ref o9945)]) dX11_tellNeighbours_28 rfl rfl ?_
      refine GO.aload dX11_tellNeighbours_30 rfl ?_
      refine GO.ifnonnull (tgt := 38) dX11_tellNeighbours_32 (by decide) ?_
      refine GO.aload dX11_tellNeighbours_38 rfl ?_
      refine GO.getI h9946 fl_RX11_387 rfl rfl dX11_tellNeighbours_40 (fun _ _ => ?_)
      refine GO.iconst dX11_tellNeighbours_43 ?_
      have hj9960 : GO mX11_tellNeighbours K V (VS K (fun V1 => (True))) K V 0 0 84 [some (.ref x), some (.ref p0), some (ti i1), some (ti i2), some (ti i3), some (ti i4), some (ti i5), some (.ref o9945)] [] := by
        skip
        refine GO.aload dX11_tellNeighbours_84 rfl ?_
        refine GO.getI h9946 fl_RX11_387 rfl rfl dX11_tellNeighbours_86 (fun _ _ => ?_)
        refine GO.iconst dX11_tellNeighbours_89 ?_
        have hj9970 : GO mX11_tellNeighbours K V (VS K (fun V1 => (True))) K V 0 0 119 [some (.ref x), some (.ref p0), some (ti i1), some (ti i2), some (ti i3), some (ti i4), some (ti i5), some (.ref o9945)] [] := by
          skip
          refine GO.aload dX11_tellNeighbours_119 rfl ?_
          refine GO.getI h9946 fl_RX11_387 rfl rfl dX11_tellNeighbours_121 (fun _ _ => ?_)
          refine GO.iconst dX11_tellNeighbours_124 ?_
          have hj9980 : GO mX11_tellNeighbours K V (VS K (fun V1 => (True))) K V 0 0 154 [some (.ref x), some (.ref p0), some (ti i1), some (ti i2), some (ti i3), some (ti i4), some (ti i5), some (.ref o9945)] [] := by
            skip
            refine GO.aload dX11_tellNeighbours_154 rfl ?_
            refine GO.getI h9946 fl_RX11_387 rfl rfl dX11_tellNeighbours_156 (fun _ _ => ?_)
            refine GO.iconst dX11_tellNeighbours_159 ?_
            refine GO.icmp_ne (tgt := 198) dX11_tellNeighbours_160 (by decide) vi_ir (ir_c rfl) (fun c9981 => ?_) (fun c9981 => ?_)
            ·
              refine GO.iinc (X := i5) (n := 1) (Y := i5 + 1) (ls1 := [some (.ref x), some (.ref p0), some (ti i1), some (ti i2), some (ti i3), some (ti i4), some (ti (i5 + 1)), some (.ref o9945)]) dX11_tellNeighbours_198 rfl rfl rfl rfl ?_
              refine GO.goto (tgt := 13) dX11_tellNeighbours_201 (by decide) ?_
              refine GO.drop [true, true, true, true, true, true, true, false] rfl ?_
              exact ih9912 i1 i2 i3 i4 (i5 + 1) V ⟨by omega, by omega, by omega, by omega, by omega, by omega, by omega, by omega, by omega, by omega, rfl⟩ (by show (2147483647 - (i5 + 1)).toNat < (2147483647 - i5).toNat; omega)
            ·
              refine GO.aload dX11_tellNeighbours_163 rfl ?_
              refine GO.getI h9946 fl_RX11_173 rfl rfl dX11_tellNeighbours_165 (fun _ _ => ?_)
              refine GO.aload_n dX11_tellNeighbours_168 rfl rfl ?_
              refine GO.getI h_p0 fl_RX11_353 rfl rfl dX11_tellNeighbours_169 (fun _ _ => ?_)
              refine GO.icmp_eq (tgt := 198) dX11_tellNeighbours_172 (by decide) vi_ir vi_ir (fun c9982 => ?_) (fun c9982 => ?_)
              ·
                refine GO.iinc (X := i5) (n := 1) (Y := i5 + 1) (ls1 := [some (.ref x), some (.ref p0), some (ti i1), some (ti i2), some (ti i3), some (ti i4), some (ti (i5 + 1)), some (.ref o9945)]) dX11_tellNeighbours_198 rfl rfl rfl rfl ?_
                refine GO.goto (tgt := 13) dX11_tellNeighbours_201 (by decide) ?_
                refine GO.drop [true, true, true, true, true, true, true, false] rfl ?_
                exact ih9912 i1 i2 i3 i4 (i5 + 1) V ⟨by omega, by omega, by omega, by omega, by omega, by omega, by omega, by omega, by omega, by omega, rfl⟩ (by show (2147483647 - (i5 + 1)).toNat < (2147483647 - i5).toNat; omega)
              ·
                refine GO.aload_n dX11_tellNeighbours_175 rfl rfl ?_
                refine GO.getR h_x fl_RX11_12 rfl rfl dX11_tellNeighbours_176 (fun hv9984 h9983 => ?_)
                refine GO.aload_n dX11_tellNeighbours_179 rfl rfl ?_
                refine GO.getI h_p0 fl_RX11_378 rfl rfl dX11_tellNeighbours_180 (fun _ _ => ?_)
                refine GO.aload dX11_tellNeighbours_183 rfl ?_
                refine GO.getI h9946 fl_RX11_344 rfl rfl dX11_tellNeighbours_185 (fun _ _ => ?_)
                refine GO.callV (ci := 0) (N := mX0_far) dX11_tellNeighbours_188 (RX0, TX0, 13) rfl gV_RX11_388 h9983 (t_X0_far h9983 vi_ir vi_ir) rfl [] rfl rfl (Nat.le_of_ble_eq_true rfl) rfl (k_ip fun X9985 r9986 h9987 => ?_)
                refine GO.iconst dX11_tellNeighbours_191 ?_
                refine GO.icmp_gt (tgt := 198) dX11_tellNeighbours_192 (by decide) r9986 (ir_c rfl) (fun c9988 => ?_) (fun c9988 => ?_)
                ·
                  refine GO.iinc (X := i5) (n := 1) (Y := i5 + 1) (ls1 := [some (.ref x), some (.ref p0), some (ti i1), some (ti i2), some (ti i3), some (ti i4), some (ti (i5 + 1)), some (.ref o9945)]) dX11_tellNeighbours_198 rfl rfl rfl rfl ?_
                  refine GO.goto (tgt := 13) dX11_tellNeighbours_201 (by decide) ?_
                  refine GO.drop [true, true, true, true, true, true, true, false] rfl ?_
                  exact ih9912 i1 i2 i3 i4 (i5 + 1) V ⟨by omega, by omega, by omega, by omega, by omega, by omega, by omega, by omega, by omega, by omega, rfl⟩ (by show (2147483647 - (i5 + 1)).toNat < (2147483647 - i5).toNat; omega)
                ·
                  refine GO.iincN (X := i4) (n := 1) dX11_tellNeighbours_195 rfl rfl (fun z9989 r9990 => ?_)
                  show GO mX11_tellNeighbours K V (VS K (fun V1 => (True))) K V 0 0 198 [some (.ref x), some (.ref p0), some (ti i1), some (ti i2), some (ti i3), some (ti z9989), some (ti i5), some (.ref o9945)] []
                  refine GO.iinc (X := i5) (n := 1) (Y := i5 + 1) (ls1 := [some (.ref x), some (.ref p0), some (ti i1), some (ti i2), some (ti i3), some (ti z9989), some (ti (i5 + 1)), some (.ref o9945)]) dX11_tellNeighbours_198 rfl rfl rfl rfl ?_
                  refine GO.goto (tgt := 13) dX11_tellNeighbours_201 (by decide) ?_
                  refine GO.drop [true, true, true, true, true, true, true, false] rfl ?_
                  have q9991 : -2147483648 ≤ z9989 ∧ z9989 ≤ 2147483647 := r9990
                  exact ih9912 i1 i2 i3 z9989 (i5 + 1) V ⟨by omega, by omega, by omega, by omega, by omega, by omega, by omega, by omega, by omega, by omega, rfl⟩ (by show (2147483647 - (i5 + 1)).toNat < (2147483647 - i5).toNat; omega)
          refine GO.icmp_ne (tgt := 154) dX11_tellNeighbours_125 (by decide) vi_ir (ir_c rfl) (fun c9992 => ?_) (fun c9992 => ?_)
          ·
            exact hj9980 
          ·
            refine GO.aload_n dX11_tellNeighbours_128 rfl rfl ?_
            refine GO.getR h_x fl_RX11_12 rfl rfl dX11_tellNeighbours_129 (fun hv9994 h9993 => ?_)
            refine GO.aload_n dX11_tellNeighbours_132 rfl rfl ?_
            refine GO.getI h_p0 fl_RX11_378 rfl rfl dX11_tellNeighbours_133 (fun _ _ => ?_)
            refine GO.aload dX11_tellNeighbours_136 rfl ?_
            refine GO.getI h9946 fl_RX11_344 rfl rfl dX11_tellNeighbours_138 (fun _ _ => ?_)
            refine GO.callV (ci := 0) (N := mX0_far) dX11_tellNeighbours_141 (RX0, TX0, 13) rfl gV_RX11_388 h9993 (t_X0_far h9993 vi_ir vi_ir) rfl [] rfl rfl (Nat.le_of_ble_eq_true rfl) rfl (k_ip fun X9995 r9996 h9997 => ?_)
            refine GO.iconst dX11_tellNeighbours_144 ?_
            refine GO.icmp_gt (tgt := 154) dX11_tellNeighbours_145 (by decide) r9996 (ir_c rfl) (fun c9998 => ?_) (fun c9998 => ?_)
            ·
              exact hj9980 
            ·
              refine GO.iincN (X := i3) (n := 1) dX11_tellNeighbours_148 rfl rfl (fun z9999 r10000 => ?_)
              show GO mX11_tellNeighbours K V (VS K (fun V1 => (True))) K V 0 0 151 [some (.ref x), some (.ref p0), some (ti i1), some (ti i2), some (ti z9999), some (ti i4), some (ti i5), some (.ref o9945)] []
              refine GO.goto (tgt := 198) dX11_tellNeighbours_151 (by decide) ?_
              refine GO.iinc (X := i5) (n := 1) (Y := i5 + 1) (ls1 := [some (.ref x), some (.ref p0), some (ti i1), some (ti i2), some (ti z9999), some (ti i4), some (ti (i5 + 1)), some (.ref o9945)]) dX11_tellNeighbours_198 rfl rfl rfl rfl ?_
              refine GO.goto (tgt := 13) dX11_tellNeighbours_201 (by decide) ?_
              refine GO.drop [true, true, true, true, true, true, true, false] rfl ?_
              have q10001 : -2147483648 ≤ z9999 ∧ z9999 ≤ 2147483647 := r10000
              exact ih9912 i1 i2 z9999 i4 (i5 + 1) V ⟨by omega, by omega, by omega, by omega, by omega, by omega, by omega, by omega, by omega, by omega, rfl⟩ (by show (2147483647 - (i5 + 1)).toNat < (2147483647 - i5).toNat; omega)
        refine GO.icmp_ne (tgt := 119) dX11_tellNeighbours_90 (by decide) vi_ir (ir_c rfl) (fun c10002 => ?_) (fun c10002 => ?_)
        ·
          exact hj9970 
        ·
          refine GO.aload_n dX11_tellNeighbours_93 rfl rfl ?_
          refine GO.getR h_x fl_RX11_12 rfl rfl dX11_tellNeighbours_94 (fun hv10004 h10003 => ?_)
          refine GO.aload_n dX11_tellNeighbours_97 rfl rfl ?_
          refine GO.getI h_p0 fl_RX11_378 rfl rfl dX11_tellNeighbours_98 (fun _ _ => ?_)
          refine GO.aload dX11_tellNeighbours_101 rfl ?_
          refine GO.getI h9946 fl_RX11_344 rfl rfl dX11_tellNeighbours_103 (fun _ _ => ?_)
          refine GO.callV (ci := 0) (N := mX0_far) dX11_tellNeighbours_106 (RX0, TX0, 13) rfl gV_RX11_388 h10003 (t_X0_far h10003 vi_ir vi_ir) rfl [] rfl rfl (Nat.le_of_ble_eq_true rfl) rfl (k_ip fun X10005 r10006 h10007 => ?_)
          refine GO.iconst dX11_tellNeighbours_109 ?_
          refine GO.icmp_gt (tgt := 119) dX11_tellNeighbours_110 (by decide) r10006 (ir_c rfl) (fun c10008 => ?_) (fun c10008 => ?_)
          ·
            exact hj9970 
          ·
            refine GO.iincN (X := i2) (n := 1) dX11_tellNeighbours_113 rfl rfl (fun z10009 r10010 => ?_)
            show GO mX11_tellNeighbours K V (VS K (fun V1 => (True))) K V 0 0 116 [some (.ref x), some (.ref p0), some (ti i1), some (ti z10009), some (ti i3), some (ti i4), some (ti i5), some (.ref o9945)] []
            refine GO.goto (tgt := 198) dX11_tellNeighbours_116 (by decide) ?_
            refine GO.iinc (X := i5) (n := 1) (Y := i5 + 1) (ls1 := [some (.ref x), some (.ref p0), some (ti i1), some (ti z10009), some (ti i3), some (ti i4), some (ti (i5 + 1)), some (.ref o9945)]) dX11_tellNeighbours_198 rfl rfl rfl rfl ?_
            refine GO.goto (tgt := 13) dX11_tellNeighbours_201 (by decide) ?_
            refine GO.drop [true, true, true, true, true, true, true, false] rfl ?_
            have q10011 : -2147483648 ≤ z10009 ∧ z10009 ≤ 2147483647 := r10010
            exact ih9912 i1 z10009 i3 i4 (i5 + 1) V ⟨by omega, by omega, by omega, by omega, by omega, by omega, by omega, by omega, by omega, by omega, rfl⟩ (by show (2147483647 - (i5 + 1)).toNat < (2147483647 - i5).toNat; omega)
      refine GO.icmp_ne (tgt := 84) dX11_tellNeighbours_44 (by decide) vi_ir (ir_c rfl) (fun c10012 => ?_) (fun c10012 => ?_)
      ·
        exact hj9960 
      ·
        refine GO.aload_n dX11_tellNeighbours_47 rfl rfl ?_
        refine GO.getR h_x fl_RX11_12 rfl rfl dX11_tellNeighbours_48 (fun hv10014 h10013 => ?_)
        refine GO.aload_n dX11_tellNeighbours_51 rfl rfl ?_
        refine GO.getI h_p0 fl_RX11_378 rfl rfl dX11_tellNeighbours_52 (fun _ _ => ?_)
        refine GO.aload dX11_tellNeighbours_55 rfl ?_
        refine GO.getI h9946 fl_RX11_344 rfl rfl dX11_tellNeighbours_57 (fun _ _ => ?_)
        refine GO.aload dX11_tellNeighbours_60 rfl ?_
        refine GO.getI h9946 fl_RX11_347 rfl rfl dX11_tellNeighbours_62 (fun _ _ => ?_)
        refine GO.callV (ci := 0) (N := mX0_isWithin) dX11_tellNeighbours_65 (RX0, TX0, 13) rfl gV_RX11_350 h10013 (t_X0_isWithin h10013 vi_ir vi_ir vi_ir) rfl [] rfl rfl (Nat.le_of_ble_eq_true rfl) rfl (k_ip fun X10015 r10016 h10017 => ?_)
        refine GO.if_eq (tgt := 84) dX11_tellNeighbours_68 (by decide) r10016 (fun c10018 => ?_) (fun c10018 => ?_)
        ·
          exact hj9960 
        ·
          refine GO.iload_n dX11_tellNeighbours_71 rfl rfl ?_
          refine GO.aload dX11_tellNeighbours_72 rfl ?_
          refine GO.getI h9946 fl_RX11_176 rfl rfl dX11_tellNeighbours_74 (fun _ _ => ?_)
          refine GO.callS (N := mJ9_max_7cf53) dX11_tellNeighbours_77 gS_RX11_296 (t_J9_max_7cf53 r_i1 vi_ir) rfl [] rfl rfl (Nat.le_of_ble_eq_true rfl) rfl (k_ip fun X10019 r10020 h10021 => ?_)
          have q10022 : -2147483648 ≤ vi V o9945 4 ∧ vi V o9945 4 ≤ 2147483647 := vi_ir
          have q10023 : -2147483648 ≤ X10019 ∧ X10019 ≤ 2147483647 := r10020
          refine GO.istore_n (ls1 := [some (.ref x), some (.ref p0), some (ti X10019), some (ti i2), some (ti i3), some (ti i4), some (ti i5), some (.ref o9945)]) dX11_tellNeighbours_80 rfl rfl rfl ?_
          refine GO.goto (tgt := 198) dX11_tellNeighbours_81 (by decide) ?_
          refine GO.iinc (X := i5) (n := 1) (Y := i5 + 1) (ls1 := [some (.ref x), some (.ref p0), some (ti X10019), some (ti i2), some (ti i3), some (ti i4), some (ti (i5 + 1)), some (.ref o9945)]) dX11_tellNeighbours_198 rfl rfl rfl rfl ?_
          refine GO.goto (tgt := 13) dX11_tellNeighbours_201 (by decide) ?_
          refine GO.drop [true, true, true, true, true, true, true, false] rfl ?_
          exact ih9912 X10019 i2 i3 i4 (i5 + 1) V ⟨by omega, by omega, by omega, by omega, by omega, by omega, by omega, by omega, by omega, by omega, rfl⟩ (by show (2147483647 - (i5 + 1)).toNat < (2147483647 - i5).toNat; omega)
