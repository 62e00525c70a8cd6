def mX11_number : MRec := (RX11, cX11_number, 6, (some .int), yX11_number, 5, 127, 0, 0, 123947994148171612303484120256144569967825878055802728615871649113951085856808377342222976957446615908923352254691881254912)
def mX11_decides : MRec := (RX11, cX11_decides, 4, (some .int), yX11_decides, 2, 42, 0, 0, 0)
def mX11_work : MRec := (RX11, cX11_work, 9, (some .int), yX11_work, 2, 37, 1, 15, 2124551971267068394758352826209874509318372470908127692797776552801614239443408970956650009060917142918390929473202137926319055703550692287938934796583951825385615572996070517136949248)
def mX11_workOf : MRec := (RX11, cX11_workOf, 2, (some (.object "IceTreaty$Work")), yX11_workOf, 0, 0, 0, 0, 0)
def mX11_tell : MRec := (RX11, cX11_tell, 4, (some .boolean), yX11_tell, 1, 21, 0, 0, 29710560942849126597578981376)
def mX11_study : MRec := (RX11, cX11_study, 4, (some .boolean), yX11_study, 1, 22, 0, 0, 118842243771396506390315925504)
def mX11_say : MRec := (RX11, cX11_say, 6, (some .boolean), yX11_say, 1, 21, 0, 0, 475368975085586025561263702016)
def mX4_put_t135 : MRec := (RX4, cX4_put, 3, (none : Option Jvm.ClassFile.FieldType), yX4_put, 0, 0, 0, 0, 165263992197562149737978827008192759957101170741070304821162198818601447809077836456297302609928821211897803006255839576064)
def mX11_tellLetters : MRec := (RX11, cX11_tellLetters, 5, (none : Option Jvm.ClassFile.FieldType), yX11_tellLetters, 1, 22, 0, 0, 165263992197562149737978827008192759957101170741070304821162198818601447809077836456297302609928821211897803006255839576064)
set_option maxHeartbeats 1000000 in
theorem t_X11_number {K : Kmap} {V : Vmap} {x : Nat} {p0 : Int} {p1 : Int} {p2 : Int} (h_x : K x = some (0, 10)) (r_p0 : ir p0) (r_p1 : ir p1) (r_p2 : ir p2) (w_0 : CWI K V x) : MC mX11_number K V [.ref x, ti p0, ti p1, ti p2] (IS K (fun X V1 => (X ≥ (-2147483648) ∧ X ≤ 2147483647) ∧ (NBX K V x p0 p1 p2 X) ∧ (CWI K V1 x))) := by
  refine MC.start 2 (by decide +kernel) rfl rfl rfl (ls0 := [some (.ref x), some (ti p0), some (ti p1), some (ti p2), none, none]) rfl ?_
  refine GO.useWT (fun hW_0 => ?_)
  refine GO.aload_n dX11_number_0 rfl rfl ?_
  refine GO.iload_n dX11_number_1 rfl rfl ?_
  refine GO.callV (ci := 10) (N := mX11_partyOf) dX11_number_2 (RX11, TX11, 20) rfl gV_RX11_151 h_x (t_X11_partyOf h_x r_p1) rfl [] rfl rfl (Nat.le_of_ble_eq_true rfl) rfl (k_rp (fun h3 => ?_) (fun o1 h2 h3 => ?_))
  ·
    have rwn2 := h3.2
    have hn4 : PN V x → p1 < 0 ∨ vi V x 4 ≤ p1 := h3.2
    refine GO.astoreN (ls1 := [some (.ref x), some (ti p0), some (ti p1), some (ti p2), some (.null), none]) dX11_number_5 rfl rfl ?_
    refine GO.iload_n dX11_number_7 rfl rfl ?_
    refine GO.bipush dX11_number_8 rfl ?_
    refine GO.bipush dX11_number_10 rfl ?_
    refine GO.callS (N := mX11_between) dX11_number_12 gS_RX11_112 (t_X11_between r_p0 (ir_c rfl) (ir_c rfl)) rfl [] rfl rfl (Nat.le_of_ble_eq_true rfl) rfl (k_ip fun X5 r6 h7 => ?_)
    refine GO.istore (ls1 := [some (.ref x), some (ti p0), some (ti p1), some (ti p2), some (.null), some (ti X5)]) dX11_number_15 rfl rfl ?_
    refine GO.aloadN dX11_number_17 rfl ?_
    refine GO.ifnullN (tgt := 43) dX11_number_19 (by decide) ?_
    refine GO.iconst dX11_number_43 ?_
    exact GO.reti rfl rfl dX11_number_44 ⟨rfl, _, rfl, (ir_c rfl), ⟨(by first | exact trivial | omega), (by first | exact NBX.no (by have h9 := rwn2 w_0.1; omega) rfl | exact NBX.no (by omega) rfl), (by first | exact w_0)⟩⟩
  ·
    have hp8 : p1 ≥ 0 ∧ p1 < vi V x 4 := h3.1
    have rwp2 := h3.2
    have hq9 : o1 = vq V (vq V x 3) (p1).toNat := h3.2
    refine GO.astore (ls1 := [some (.ref x), some (ti p0), some (ti p1), some (ti p2), some (.ref o1), none]) dX11_number_5 rfl rfl ?_
    refine GO.iload_n dX11_number_7 rfl rfl ?_
    refine GO.bipush dX11_number_8 rfl ?_
    refine GO.bipush dX11_number_10 rfl ?_
    refine GO.callS (N := mX11_between) dX11_number_12 gS_RX11_112 (t_X11_between r_p0 (ir_c rfl) (ir_c rfl)) rfl [] rfl rfl (Nat.le_of_ble_eq_true rfl) rfl (k_ip fun X10 r11 h12 => ?_)
    refine GO.istore (ls1 := [some (.ref x), some (ti p0), some (ti p1), some (ti p2), some (.ref o1), some (ti X10)]) dX11_number_15 rfl rfl ?_
    refine GO.aload dX11_number_17 rfl ?_
    refine GO.ifnull dX11_number_19 ?_
    refine GO.iload_n dX11_number_22 rfl rfl ?_
    refine GO.callS (N := mX11_isDay) dX11_number_23 gS_RX11_276 (t_X11_isDay r_p2) rfl [] rfl rfl (Nat.le_of_ble_eq_true rfl) rfl (k_ip fun X13 r14 h15 => ?_)
    refine GO.if_eq (tgt := 43) dX11_number_26 (by decide) r14 (fun c16 => ?_) (fun c16 => ?_)
    ·
      have q17 := h15.2.2 (by omega)
      refine GO.iconst dX11_number_43 ?_
      exact GO.reti rfl rfl dX11_number_44 ⟨rfl, _, rfl, (ir_c rfl), ⟨(by first | exact trivial | omega), (by first | exact NBX.no (by omega) rfl), (by first | exact w_0)⟩⟩
    ·
      have q18 := h15.2.1 (by omega)
      refine GO.iload_n dX11_number_29 rfl rfl ?_
      refine GO.iconst dX11_number_30 ?_
      refine GO.iconst dX11_number_31 ?_
      refine GO.callS (N := mX11_between) dX11_number_32 gS_RX11_112 (t_X11_between r_p0 (ir_c rfl) (ir_c rfl)) rfl [] rfl rfl (Nat.le_of_ble_eq_true rfl) rfl (k_ip fun X19 r20 h21 => ?_)
      refine GO.if_ne (tgt := 45) dX11_number_35 (by decide) r20 (fun c22 => ?_) (fun c22 => ?_)
      ·
        have q23 := h21.2.1 (by omega)
        refine GO.aload_n dX11_number_45 rfl rfl ?_
        refine GO.getR h_x fl_RX11_19 rfl rfl dX11_number_46 (fun hv25 h24 => ?_)
        refine GO.iload_n dX11_number_49 rfl rfl ?_
        refine GO.aload dX11_number_50 rfl ?_
        refine GO.iload_n dX11_number_52 rfl rfl ?_
        refine GO.callV (ci := 1) (N := mX1_weigh) dX11_number_53 (RX1, TX1, 13) rfl gV_RX11_279 h24 (t_X1_weigh h24 r_p1 h2 r_p2) rfl [] rfl rfl (Nat.le_of_ble_eq_true rfl) rfl (k_vs fun V28 h27 hF26 => ?_)
        have raw_weigh := h27.2
        have rw53 := h27.2
        have hcw := CWI.weigh w_0 rw53 rfl rwp2 ⟨by omega, by omega⟩ hF26 hW_0 h_x (by decide +kernel) (by decide +kernel)
        refine GO.iload dX11_number_56 rfl ?_
        refine GO.if_eq (tgt := 83) dX11_number_58 (by decide) r11 (fun c29 => ?_) (fun c29 => ?_)
        ·
          have q30 := h12.2.2 (by omega)
          refine GO.iload_n dX11_number_83 rfl rfl ?_
          have q31 : -2147483648 ≤ p0 ∧ p0 ≤ 2147483647 := r_p0
          rcases (show (p0 < 0 ∨ 2 < p0) ∨ p0 = 0 ∨ p0 = 1 ∨ p0 = 2 by omega) with c32 | c32 | c32 | c32
          ·
            refine GO.tableOut (tgt := 156) dX11_number_84 r_p0 c32 (by decide) ?_
            refine GO.aload_n dX11_number_156 rfl rfl ?_
            refine GO.getRaw h_x fl_RX11_19 (Eq.trans (hF26 _ _ _ h_x h_x (by decide +kernel)) hv25) dX11_number_157 ?_
            refine GO.bipush dX11_number_160 rfl ?_
            refine GO.iconst dX11_number_162 ?_
            refine GO.iconst dX11_number_163 ?_
            refine GO.callV (ci := 1) (N := mX1_numberOf) dX11_number_164 (RX1, TX1, 13) rfl gV_RX11_292 h24 (t_X1_numberOf h24 (ir_c rfl) (ir_c rfl) (ir_c rfl)) rfl [] rfl rfl (Nat.le_of_ble_eq_true rfl) rfl (k_ip fun X35 r36 h37 => ?_)
            have raw_numberOf := h37.2
            have rw164 := h37.2
            refine GO.iconst dX11_number_167 ?_
            refine GO.icmp_ne (tgt := 175) dX11_number_168 (by decide) r36 (ir_c rfl) (fun c38 => ?_) (fun c38 => ?_)
            ·
              refine GO.iconst dX11_number_175 ?_
              exact GO.reti rfl rfl dX11_number_176 ⟨rfl, _, rfl, (ir_c rfl), ⟨(by first | exact trivial | omega), (by first | exact NBX.no (by omega) rfl | exact NBX.v3 (hcw.2 (by omega)) ⟨by omega, by omega⟩ ⟨by omega, by omega⟩ (by omega) rw164 (by omega)), (by first | exact w_0 | exact hcw.1)⟩⟩
            ·
              refine GO.iconst dX11_number_171 ?_
              refine GO.goto (tgt := 176) dX11_number_172 (by decide) ?_
              exact GO.reti rfl rfl dX11_number_176 ⟨rfl, _, rfl, (ir_c rfl), ⟨(by first | exact trivial | omega), (by first | exact NBX.no (by omega) rfl | exact NBX.v3 (hcw.2 (by omega)) ⟨by omega, by omega⟩ ⟨by omega, by omega⟩ (by omega) rw164 (by omega)), (by first | exact w_0 | exact hcw.1)⟩⟩
          ·
            refine GO.tableAt (n := 0) (tgt := 112) dX11_number_84 (ir_c rfl) c32 (by decide) (by decide) rfl (by decide) ?_
            refine GO.iconst dX11_number_112 ?_
            refine GO.aload_n dX11_number_113 rfl rfl ?_
            refine GO.getRaw h_x fl_RX11_19 (Eq.trans (hF26 _ _ _ h_x h_x (by decide +kernel)) hv25) dX11_number_114 ?_
            refine GO.bipush dX11_number_117 rfl ?_
            refine GO.iconst dX11_number_119 ?_
            refine GO.iconst dX11_number_120 ?_
            refine GO.callV (ci := 1) (N := mX1_numberOf) dX11_number_121 (RX1, TX1, 13) rfl gV_RX11_292 h24 (t_X1_numberOf h24 (ir_c rfl) (ir_c rfl) (ir_c rfl)) rfl [ti 0] rfl rfl (Nat.le_of_ble_eq_true rfl) rfl (k_ip fun X41 r42 h43 => ?_)
            have raw_numberOf := h43.2
            have rw121 := h43.2
            refine GO.callS (N := mJ9_max_7cf53) dX11_number_124 gS_RX11_296 (t_J9_max_7cf53 (ir_c rfl) r42) rfl [] rfl rfl (Nat.le_of_ble_eq_true rfl) rfl (k_ip fun X44 r45 h46 => ?_)
            have q47 : -2147483648 ≤ X44 ∧ X44 ≤ 2147483647 := r45
            exact GO.reti rfl rfl dX11_number_127 ⟨rfl, _, rfl, r45, ⟨(by first | exact trivial | omega), (by first | exact NBX.no (by omega) rfl | exact NBX.v0 (hcw.2 (by omega)) ⟨by omega, by omega⟩ ⟨by omega, by omega⟩ (by omega) rw121 (by omega)), (by first | exact w_0 | exact hcw.1)⟩⟩
          ·
            refine GO.tableAt (n := 1) (tgt := 128) dX11_number_84 (ir_c rfl) c32 (by decide) (by decide) rfl (by decide) ?_
            refine GO.aload_n dX11_number_128 rfl rfl ?_
            refine GO.getRaw h_x fl_RX11_19 (Eq.trans (hF26 _ _ _ h_x h_x (by decide +kernel)) hv25) dX11_number_129 ?_
            refine GO.bipush dX11_number_132 rfl ?_
            refine GO.iconst dX11_number_134 ?_
            refine GO.iconst dX11_number_135 ?_
            refine GO.callV (ci := 1) (N := mX1_numberOf) dX11_number_136 (RX1, TX1, 13) rfl gV_RX11_292 h24 (t_X1_numberOf h24 (ir_c rfl) (ir_c rfl) (ir_c rfl)) rfl [] rfl rfl (Nat.le_of_ble_eq_true rfl) rfl (k_ip fun X50 r51 h52 => ?_)
            have raw_numberOf := h52.2
            have rw136 := h52.2
            exact GO.reti rfl rfl dX11_number_139 ⟨rfl, _, rfl, r51, ⟨(by first | exact trivial | omega), (by first | exact NBX.no (by omega) rfl | exact NBX.v1 (hcw.2 (by omega)) ⟨by omega, by omega⟩ ⟨by omega, by omega⟩ (by omega) rw136), (by first | exact w_0 | exact hcw.1)⟩⟩
          ·
            refine GO.tableAt (n := 2) (tgt := 140) dX11_number_84 (ir_c rfl) c32 (by decide) (by decide) rfl (by decide) ?_
            refine GO.iconst dX11_number_140 ?_
            refine GO.aload_n dX11_number_141 rfl rfl ?_
            refine GO.getRaw h_x fl_RX11_19 (Eq.trans (hF26 _ _ _ h_x h_x (by decide +kernel)) hv25) dX11_number_142 ?_
            refine GO.bipush dX11_number_145 rfl ?_
            refine GO.iconst dX11_number_147 ?_
            refine GO.iconst dX11_number_148 ?_
            refine GO.callV (ci := 1) (N := mX1_numberOf) dX11_number_149 (RX1, TX1, 13) rfl gV_RX11_292 h24 (t_X1_numberOf h24 (ir_c rfl) (ir_c rfl) (ir_c rfl)) rfl [ti 0] rfl rfl (Nat.le_of_ble_eq_true rfl) rfl (k_ip fun X55 r56 h57 => ?_)
            have raw_numberOf := h57.2
            have rw149 := h57.2
            refine GO.callS (N := mJ9_max_7cf53) dX11_number_152 gS_RX11_296 (t_J9_max_7cf53 (ir_c rfl) r56) rfl [] rfl rfl (Nat.le_of_ble_eq_true rfl) rfl (k_ip fun X58 r59 h60 => ?_)
            have q61 : -2147483648 ≤ X58 ∧ X58 ≤ 2147483647 := r59
            exact GO.reti rfl rfl dX11_number_155 ⟨rfl, _, rfl, r59, ⟨(by first | exact trivial | omega), (by first | exact NBX.no (by omega) rfl | exact NBX.v2 (hcw.2 (by omega)) ⟨by omega, by omega⟩ ⟨by omega, by omega⟩ (by omega) rw149 (by omega)), (by first | exact w_0 | exact hcw.1)⟩⟩
        ·
          have q62 := h12.2.1 (by omega)
          refine GO.aload_n dX11_number_61 rfl rfl ?_
          refine GO.getRaw h_x fl_RX11_19 (Eq.trans (hF26 _ _ _ h_x h_x (by decide +kernel)) hv25) dX11_number_62 ?_
          refine GO.bipush dX11_number_65 rfl ?_
          refine GO.iload_n dX11_number_67 rfl rfl ?_
          refine GO.bipush dX11_number_68 rfl ?_
          refine GO.isub dX11_number_70 ?_
          refine GO.iconst dX11_number_71 ?_
          have q65 : -2147483648 ≤ p0 ∧ p0 ≤ 2147483647 := r_p0
          refine GO.idivP dX11_number_72 ⟨by omega, by omega⟩ (ir_c rfl) (by omega) (by omega) ?_
          refine GO.iload_n dX11_number_73 rfl rfl ?_
          refine GO.bipush dX11_number_74 rfl ?_
          refine GO.isub dX11_number_76 ?_
          refine GO.iconst dX11_number_77 ?_
          refine GO.iremP dX11_number_78 ⟨by omega, by omega⟩ (ir_c rfl) (by omega) (by omega) ?_
          refine GO.callV (ci := 1) (N := mX1_numberOf) dX11_number_79 (RX1, TX1, 13) rfl gV_RX11_292 h24 (t_X1_numberOf h24 (ir_c rfl) ⟨by omega, by omega⟩ ⟨by omega, by omega⟩) rfl [] rfl rfl (Nat.le_of_ble_eq_true rfl) rfl (k_ip fun X66 r67 h68 => ?_)
          have raw_numberOf := h68.2
          have rw79 := h68.2
          exact GO.reti rfl rfl dX11_number_82 ⟨rfl, _, rfl, r67, ⟨(by first | exact trivial | omega), (by first | exact NBX.no (by omega) rfl | exact NBX.vk (hcw.2 (by omega)) ⟨by omega, by omega⟩ ⟨by omega, by omega⟩ ⟨by omega, by omega⟩ rw79), (by first | exact w_0 | exact hcw.1)⟩⟩
      ·
        have q69 := h21.2.2 (by omega)
        refine GO.iload dX11_number_38 rfl ?_
        refine GO.if_ne (tgt := 45) dX11_number_40 (by decide) r11 (fun c70 => ?_) (fun c70 => ?_)
        ·
          have q71 := h12.2.1 (by omega)
          refine GO.aload_n dX11_number_45 rfl rfl ?_
          refine GO.getR h_x fl_RX11_19 rfl rfl dX11_number_46 (fun hv73 h72 => ?_)
          refine GO.iload_n dX11_number_49 rfl rfl ?_
          refine GO.aload dX11_number_50 rfl ?_
          refine GO.iload_n dX11_number_52 rfl rfl ?_
          refine GO.callV (ci := 1) (N := mX1_weigh) dX11_number_53 (RX1, TX1, 13) rfl gV_RX11_279 h72 (t_X1_weigh h72 r_p1 h2 r_p2) rfl [] rfl rfl (Nat.le_of_ble_eq_true rfl) rfl (k_vs fun V76 h75 hF74 => ?_)
          have raw_weigh := h75.2
          have rw53 := h75.2
          have hcw := CWI.weigh w_0 rw53 rfl rwp2 ⟨by omega, by omega⟩ hF74 hW_0 h_x (by decide +kernel) (by decide +kernel)
          refine GO.iload dX11_number_56 rfl ?_
          refine GO.if_eq (tgt := 83) dX11_number_58 (by decide) r11 (fun h => by exfalso; omega) (fun c77 => ?_)
          have q78 := h12.2.1 (by omega)
          refine GO.aload_n dX11_number_61 rfl rfl ?_
          refine GO.getRaw h_x fl_RX11_19 (Eq.trans (hF74 _ _ _ h_x h_x (by decide +kernel)) hv73) dX11_number_62 ?_
          refine GO.bipush dX11_number_65 rfl ?_
          refine GO.iload_n dX11_number_67 rfl rfl ?_
          refine GO.bipush dX11_number_68 rfl ?_
          refine GO.isub dX11_number_70 ?_
          refine GO.iconst dX11_number_71 ?_
          have q81 : -2147483648 ≤ p0 ∧ p0 ≤ 2147483647 := r_p0
          refine GO.idivP dX11_number_72 ⟨by omega, by omega⟩ (ir_c rfl) (by omega) (by omega) ?_
          refine GO.iload_n dX11_number_73 rfl rfl ?_
          refine GO.bipush dX11_number_74 rfl ?_
          refine GO.isub dX11_number_76 ?_
          refine GO.iconst dX11_number_77 ?_
          refine GO.iremP dX11_number_78 ⟨by omega, by omega⟩ (ir_c rfl) (by omega) (by omega) ?_
          refine GO.callV (ci := 1) (N := mX1_numberOf) dX11_number_79 (RX1, TX1, 13) rfl gV_RX11_292 h72 (t_X1_numberOf h72 (ir_c rfl) ⟨by omega, by omega⟩ ⟨by omega, by omega⟩) rfl [] rfl rfl (Nat.le_of_ble_eq_true rfl) rfl (k_ip fun X82 r83 h84 => ?_)
          have raw_numberOf := h84.2
          have rw79 := h84.2
          exact GO.reti rfl rfl dX11_number_82 ⟨rfl, _, rfl, r83, ⟨(by first | exact trivial | omega), (by first | exact NBX.no (by omega) rfl | exact NBX.vk (hcw.2 (by omega)) ⟨by omega, by omega⟩ ⟨by omega, by omega⟩ ⟨by omega, by omega⟩ rw79), (by first | exact w_0 | exact hcw.1)⟩⟩
        ·
          have q85 := h12.2.2 (by omega)
          refine GO.iconst dX11_number_43 ?_
          exact GO.reti rfl rfl dX11_number_44 ⟨rfl, _, rfl, (ir_c rfl), ⟨(by first | exact trivial | omega), (by first | exact NBX.no (by omega) rfl), (by first | exact w_0)⟩⟩

set_option maxHeartbeats 1000000 in
theorem t_X11_decides {K : Kmap} {V : Vmap} {x : Nat} {p0 : Int} {p1 : Int} (h_x : K x = some (0, 10)) (r_p0 : ir p0) (r_p1 : ir p1) : MC mX11_decides K V [.ref x, ti p0, ti p1] (IP K V (fun X => True)) := by
  refine MC.start 1 (by decide +kernel) rfl rfl rfl (ls0 := [some (.ref x), some (ti p0), some (ti p1), none]) rfl ?_
  refine GO.aload_n dX11_decides_0 rfl rfl ?_
  refine GO.iload_n dX11_decides_1 rfl rfl ?_
  refine GO.callV (ci := 10) (N := mX11_partyOf) dX11_decides_2 (RX11, TX11, 20) rfl gV_RX11_151 h_x (t_X11_partyOf h_x r_p0) rfl [] rfl rfl (Nat.le_of_ble_eq_true rfl) rfl (k_rp (fun h3 => ?_) (fun o1 h2 h3 => ?_))
  ·
    have rwn2 := h3.2
    have hn4 : PN V x → p0 < 0 ∨ vi V x 4 ≤ p0 := h3.2
    refine GO.astore_nN (ls1 := [some (.ref x), some (ti p0), some (ti p1), some (.null)]) dX11_decides_5 rfl rfl rfl ?_
    refine GO.aload_nN dX11_decides_6 rfl rfl ?_
    refine GO.ifnullN (tgt := 17) dX11_decides_7 (by decide) ?_
    refine GO.iconst dX11_decides_17 ?_
    exact GO.reti rfl rfl dX11_decides_18 ⟨rfl, rfl, _, rfl, (ir_c rfl), trivial⟩
  ·
    have hp5 : p0 ≥ 0 ∧ p0 < vi V x 4 := h3.1
    have rwp2 := h3.2
    have hq6 : o1 = vq V (vq V x 3) (p0).toNat := h3.2
    refine GO.astore_n (ls1 := [some (.ref x), some (ti p0), some (ti p1), some (.ref o1)]) dX11_decides_5 rfl rfl rfl ?_
    refine GO.aload_n dX11_decides_6 rfl rfl ?_
    refine GO.ifnull dX11_decides_7 ?_
    refine GO.iload_n dX11_decides_10 rfl rfl ?_
    refine GO.callS (N := mX11_isDay) dX11_decides_11 gS_RX11_276 (t_X11_isDay r_p1) rfl [] rfl rfl (Nat.le_of_ble_eq_true rfl) rfl (k_ip fun X7 r8 h9 => ?_)
    refine GO.if_ne (tgt := 19) dX11_decides_14 (by decide) r8 (fun c10 => ?_) (fun c10 => ?_)
    ·
      have q11 := h9.2.1 (by omega)
      refine GO.aload_n dX11_decides_19 rfl rfl ?_
      refine GO.iload_n dX11_decides_20 rfl rfl ?_
      refine GO.callV (ci := 2) (N := mX2_decidesOn) dX11_decides_21 (RX2, TX2, 5) rfl gV_RX11_301 h2 (t_X2_decidesOn h2 r_p1) rfl [] rfl rfl (Nat.le_of_ble_eq_true rfl) rfl (k_ip fun X12 r13 h14 => ?_)
      refine GO.if_eq (tgt := 31) dX11_decides_24 (by decide) r13 (fun c15 => ?_) (fun c15 => ?_)
      ·
        refine GO.iconst dX11_decides_31 ?_
        exact GO.reti rfl rfl dX11_decides_32 ⟨rfl, rfl, _, rfl, (ir_c rfl), trivial⟩
      ·
        refine GO.iconst dX11_decides_27 ?_
        refine GO.goto (tgt := 32) dX11_decides_28 (by decide) ?_
        exact GO.reti rfl rfl dX11_decides_32 ⟨rfl, rfl, _, rfl, (ir_c rfl), trivial⟩
    ·
      have q16 := h9.2.2 (by omega)
      refine GO.iconst dX11_decides_17 ?_
      exact GO.reti rfl rfl dX11_decides_18 ⟨rfl, rfl, _, rfl, (ir_c rfl), trivial⟩

set_option maxHeartbeats 1000000 in
theorem t_X11_work {K : Kmap} {V : Vmap} {x : Nat} {p0 : Int} {p1 : Int} {p2 : Int} {p3 : Int} {p4 : Int} {p5 : Int} {p6 : Int} (h_x : K x = some (0, 10)) (r_p0 : ir p0) (r_p1 : ir p1) (r_p2 : ir p2) (r_p3 : ir p3) (r_p4 : ir p4) (r_p5 : ir p5) (r_p6 : ir p6) : MC mX11_work K V [.ref x, ti p0, ti p1, ti p2, ti p3, ti p4, ti p5, ti p6] (IX (fun X _ _ => True)) := by
  refine MC.start 1 (by decide +kernel) rfl rfl rfl (ls0 := [some (.ref x), some (ti p0), some (ti p1), some (ti p2), some (ti p3), some (ti p4), some (ti p5), some (ti p6), none]) rfl ?_
  refine GO.iload_n dX11_work_0 rfl rfl ?_
  refine GO.iconst dX11_work_1 ?_
  refine GO.bipush dX11_work_2 rfl ?_
  refine GO.callS (N := mX11_between) dX11_work_4 gS_RX11_112 (t_X11_between r_p0 (ir_c rfl) (ir_c rfl)) rfl [] rfl rfl (Nat.le_of_ble_eq_true rfl) rfl (k_ip fun X1 r2 h3 => ?_)
  refine GO.if_eq (tgt := 41) dX11_work_7 (by decide) r2 (fun c4 => ?_) (fun c4 => ?_)
  ·
    have q5 := h3.2.2 (by omega)
    refine GO.iconst dX11_work_41 ?_
    exact GO.reti rfl rfl dX11_work_42 ⟨_, rfl, (ir_c rfl), trivial⟩
  ·
    have q6 := h3.2.1 (by omega)
    refine GO.aload_n dX11_work_10 rfl rfl ?_
    refine GO.iload_n dX11_work_11 rfl rfl ?_
    refine GO.callV (ci := 10) (N := mX11_partyOf) dX11_work_12 (RX11, TX11, 20) rfl gV_RX11_151 h_x (t_X11_partyOf h_x r_p1) rfl [] rfl rfl (Nat.le_of_ble_eq_true rfl) rfl (k_rp (fun h9 => ?_) (fun o7 h8 h9 => ?_))
    ·
      have rwn12 := h9.2
      have hn10 : PN V x → p1 < 0 ∨ vi V x 4 ≤ p1 := h9.2
      refine GO.ifnullN (tgt := 41) dX11_work_15 (by decide) ?_
      refine GO.iconst dX11_work_41 ?_
      exact GO.reti rfl rfl dX11_work_42 ⟨_, rfl, (ir_c rfl), trivial⟩
    ·
      have hp11 : p1 ≥ 0 ∧ p1 < vi V x 4 := h9.1
      have rwp12 := h9.2
      have hq12 : o7 = vq V (vq V x 3) (p1).toNat := h9.2
      refine GO.ifnull dX11_work_15 ?_
      refine GO.aload_n dX11_work_18 rfl rfl ?_
      refine GO.getR h_x fl_RX11_12 rfl rfl dX11_work_19 (fun hv14 h13 => ?_)
      refine GO.iload_n dX11_work_22 rfl rfl ?_
      refine GO.callV (ci := 0) (N := mX0_isCell) dX11_work_23 (RX0, TX0, 13) rfl gV_RX11_119 h13 (t_X0_isCell h13 r_p2) rfl [] rfl rfl (Nat.le_of_ble_eq_true rfl) rfl (k_ip fun X15 r16 h17 => ?_)
      refine GO.if_eq (tgt := 41) dX11_work_26 (by decide) r16 (fun c18 => ?_) (fun c18 => ?_)
      ·
        refine GO.iconst dX11_work_41 ?_
        exact GO.reti rfl rfl dX11_work_42 ⟨_, rfl, (ir_c rfl), trivial⟩
      ·
        refine GO.aload_n dX11_work_29 rfl rfl ?_
        refine GO.getI h_x fl_RX11_55 rfl rfl dX11_work_30 (fun l19 u20 => ?_)
        refine GO.aload_n dX11_work_33 rfl rfl ?_
        refine GO.getA (n := 100) h_x fl_RX11_51 rfl rfl rfl rfl dX11_work_34 (fun hv22 h21 => ?_)
        refine GO.alen h21 dX11_work_37 (fun h23 => ?_)
        refine GO.icmp_lt (tgt := 43) dX11_work_38 (by decide) vi_ir ⟨by omega, by omega⟩ (fun c24 => ?_) (fun c24 => ?_)
        ·
          refine GO.iload dX11_work_43 rfl ?_
          refine GO.iload dX11_work_45 rfl ?_
          refine GO.callS (N := mX11_areDays) dX11_work_47 gS_RX11_213 (t_X11_areDays r_p3 r_p4) rfl [] rfl rfl (Nat.le_of_ble_eq_true rfl) rfl (k_ip fun X25 r26 h27 => ?_)
          refine GO.if_eq (tgt := 88) dX11_work_50 (by decide) r26 (fun c28 => ?_) (fun c28 => ?_)
          ·
            have q29 := h27.2.2 (by omega)
            refine GO.iconst dX11_work_88 ?_
            exact GO.reti rfl rfl dX11_work_89 ⟨_, rfl, (ir_c rfl), trivial⟩
          ·
            have q30 := h27.2.1 (by omega)
            refine GO.iload dX11_work_53 rfl ?_
            refine GO.aload_n dX11_work_55 rfl rfl ?_
            refine GO.getRaw h_x fl_RX11_12 hv14 dX11_work_56 ?_
            refine GO.getI h13 fl_RX11_145 rfl rfl dX11_work_59 (fun l33 u34 => ?_)
            refine GO.icmp_lt (tgt := 88) dX11_work_62 (by decide) r_p3 vi_ir (fun c35 => ?_) (fun c35 => ?_)
            ·
              refine GO.iconst dX11_work_88 ?_
              exact GO.reti rfl rfl dX11_work_89 ⟨_, rfl, (ir_c rfl), trivial⟩
            ·
              refine GO.iload dX11_work_65 rfl ?_
              refine GO.iconst dX11_work_67 ?_
              refine GO.sipush dX11_work_68 rfl ?_
              refine GO.callS (N := mX11_between) dX11_work_71 gS_RX11_112 (t_X11_between r_p5 (ir_c rfl) (ir_c rfl)) rfl [] rfl rfl (Nat.le_of_ble_eq_true rfl) rfl (k_ip fun X36 r37 h38 => ?_)
              refine GO.if_eq (tgt := 88) dX11_work_74 (by decide) r37 (fun c39 => ?_) (fun c39 => ?_)
              ·
                have q40 := h38.2.2 (by omega)
                refine GO.iconst dX11_work_88 ?_
                exact GO.reti rfl rfl dX11_work_89 ⟨_, rfl, (ir_c rfl), trivial⟩
              ·
                have q41 := h38.2.1 (by omega)
                refine GO.iload dX11_work_77 rfl ?_
                refine GO.iconst dX11_work_79 ?_
                refine GO.bipush dX11_work_80 rfl ?_
                refine GO.callS (N := mX11_between) dX11_work_82 gS_RX11_112 (t_X11_between r_p6 (ir_c rfl) (ir_c rfl)) rfl [] rfl rfl (Nat.le_of_ble_eq_true rfl) rfl (k_ip fun X42 r43 h44 => ?_)
                refine GO.if_ne (tgt := 90) dX11_work_85 (by decide) r43 (fun c45 => ?_) (fun c45 => ?_)
                ·
                  have q46 := h44.2.1 (by omega)
                  refine GO.new (ci := 21) (RX10, TX10, 15) tyX10 rfl rfl lays_9 tyX10_ok gw_223 gw_875 gw_19 rfl rfl dX11_work_90 (fun o47 K48 V54 hq49 hK50 hE51 h52 _ hV53 => ?_)
                  have h55 := hE51.obj (by decide) h_x
                  refine GO.dup dX11_work_93 rfl ?_
                  refine GO.iload_n dX11_work_94 rfl rfl ?_
                  refine GO.iload_n dX11_work_95 rfl rfl ?_
                  refine GO.iload_n dX11_work_96 rfl rfl ?_
                  refine GO.iload dX11_work_97 rfl ?_
                  refine GO.iload dX11_work_99 rfl ?_
                  refine GO.callI (N := mX10_init) dX11_work_101 gI_RX11_304 rfl (t_X10_init h52 r_p0 r_p1 r_p2 r_p3 r_p4) rfl [.ref o47] rfl rfl (Nat.le_of_ble_eq_true rfl) rfl (k_vx fun K58 V60 h59 hE57 hF56 => ?_)
                  have h61 := hE57.obj (by decide) h55
                  have h62 := h59.1
                  refine GO.astore (ls1 := [some (.ref x), some (ti p0), some (ti p1), some (ti p2), some (ti p3), some (ti p4), some (ti p5), some (ti p6), some (.ref o47)]) dX11_work_104 rfl rfl ?_
                  refine GO.aload dX11_work_106 rfl ?_
                  refine GO.iload dX11_work_108 rfl ?_
                  refine GO.putI h62 fp_RX11_305 rfl (by decide +kernel) r_p5 (r_p5).1 (r_p5).2 dX11_work_110 (fun V64 e63 => ?_)
                  refine GO.aload dX11_work_113 rfl ?_
                  refine GO.iload dX11_work_115 rfl ?_
                  refine GO.putI h62 fp_RX11_306 rfl (by decide +kernel) r_p6 (r_p6).1 (r_p6).2 dX11_work_117 (fun V66 e65 => ?_)
                  refine GO.aload_n dX11_work_120 rfl rfl ?_
                  refine GO.getA (n := 100) h61 fl_RX11_51 rfl rfl rfl rfl dX11_work_121 (fun hv68 h67 => ?_)
                  refine GO.aload_n dX11_work_124 rfl rfl ?_
                  refine GO.getI h61 fl_RX11_55 rfl rfl dX11_work_125 (fun l69 u70 => ?_)
                  have e74 : vi V54 x 8 = vi V x 8 := vi_nw hV53 (K_old h_x hq49)
                  have e73 : vi V60 x 8 = vi V54 x 8 := vi_fr hF56 h55 h61 (by decide +kernel)
                  have e72 : vi V64 x 8 = vi V60 x 8 := vi_up e63 (Or.inl (K_ne h61 h62 (by decide)))
                  have e71 : vi V66 x 8 = vi V64 x 8 := vi_up e65 (Or.inl (K_ne h61 h62 (by decide)))
                  refine GO.aload dX11_work_128 rfl ?_
                  refine GO.aast (t := 6) (by decide) (RX10, TX10, 15) rfl rfl rfl (by decide +kernel) h67 h62 vi_ir (by omega) (by omega) dX11_work_130 (fun V76 e75 => ?_)
                  refine GO.aload_n dX11_work_131 rfl rfl ?_
                  refine GO.dup dX11_work_132 rfl ?_
                  refine GO.getI h61 fl_RX11_55 rfl rfl dX11_work_133 (fun l77 u78 => ?_)
                  have e79 : vi V76 x 8 = vi V66 x 8 := vi_up e75 (Or.inl (K_ne h61 h67 (by decide)))
                  refine GO.dup_x1 dX11_work_136 rfl rfl ?_
                  refine GO.iconst dX11_work_137 ?_
                  refine GO.iadd dX11_work_138 ?_
                  refine GO.putI h61 fp_RX11_55 rfl (by decide +kernel) ⟨by omega, by omega⟩ (by omega) (by omega) dX11_work_139 (fun V81 e80 => ?_)
                  exact GO.reti rfl rfl dX11_work_142 ⟨_, rfl, vi_ir, trivial⟩
                ·
                  have q82 := h44.2.2 (by omega)
                  refine GO.iconst dX11_work_88 ?_
                  exact GO.reti rfl rfl dX11_work_89 ⟨_, rfl, (ir_c rfl), trivial⟩
        ·
          refine GO.iconst dX11_work_41 ?_
          exact GO.reti rfl rfl dX11_work_42 ⟨_, rfl, (ir_c rfl), trivial⟩

set_option maxHeartbeats 1000000 in
theorem t_X11_workOf {K : Kmap} {V : Vmap} {x : Nat} {p0 : Int} (h_x : K x = some (0, 10)) (r_p0 : ir p0) : MC mX11_workOf K V [.ref x, ti p0] (RP K V 9 (True) (fun _ => True)) := by
  refine MC.start 0 (by decide +kernel) rfl rfl rfl (ls0 := [some (.ref x), some (ti p0)]) rfl ?_
  refine GO.iload_n dX11_workOf_0 rfl rfl ?_
  refine GO.if_lt (tgt := 30) dX11_workOf_1 (by decide) r_p0 (fun c1 => ?_) (fun c1 => ?_)
  ·
    refine GO.null dX11_workOf_30 ?_
    exact GO.reta rfl rfl (Or.inl ⟨_, rfl⟩) dX11_workOf_31 (Or.inl rfl) ⟨rfl, rfl, Or.inl ⟨rfl, trivial⟩⟩
  ·
    refine GO.iload_n dX11_workOf_4 rfl rfl ?_
    refine GO.aload_n dX11_workOf_5 rfl rfl ?_
    refine GO.getI h_x fl_RX11_55 rfl rfl dX11_workOf_6 (fun l2 u3 => ?_)
    refine GO.icmp_ge (tgt := 30) dX11_workOf_9 (by decide) r_p0 vi_ir (fun c4 => ?_) (fun c4 => ?_)
    ·
      refine GO.null dX11_workOf_30 ?_
      exact GO.reta rfl rfl (Or.inl ⟨_, rfl⟩) dX11_workOf_31 (Or.inl rfl) ⟨rfl, rfl, Or.inl ⟨rfl, trivial⟩⟩
    ·
      refine GO.iload_n dX11_workOf_12 rfl rfl ?_
      refine GO.aload_n dX11_workOf_13 rfl rfl ?_
      refine GO.getA (n := 100) h_x fl_RX11_51 rfl rfl rfl rfl dX11_workOf_14 (fun hv6 h5 => ?_)
      refine GO.alen h5 dX11_workOf_17 (fun h7 => ?_)
      have q9 : -2147483648 ≤ p0 ∧ p0 ≤ 2147483647 := r_p0
      refine GO.icmp_ge (tgt := 30) dX11_workOf_18 (by decide) r_p0 ⟨by omega, by omega⟩ (fun h => by exfalso; omega) (fun c8 => ?_)
      refine GO.aload_n dX11_workOf_21 rfl rfl ?_
      refine GO.getRaw h_x fl_RX11_51 hv6 dX11_workOf_22 ?_
      refine GO.iload_n dX11_workOf_25 rfl rfl ?_
      refine GO.aald (t := 6) rfl rfl h5 r_p0 (by omega) (by omega) dX11_workOf_26 (fun _ => ?_) (fun _ h12 => ?_)
      ·
        refine GO.goto (tgt := 31) dX11_workOf_27 (by decide) ?_
        exact GO.reta rfl rfl (Or.inl ⟨_, rfl⟩) dX11_workOf_31 (Or.inl rfl) ⟨rfl, rfl, Or.inl ⟨rfl, trivial⟩⟩
      ·
        refine GO.goto (tgt := 31) dX11_workOf_27 (by decide) ?_
        exact GO.reta rfl rfl (Or.inl ⟨_, rfl⟩) dX11_workOf_31 (Or.inr ⟨_, rfl⟩) ⟨rfl, rfl, Or.inr ⟨_, rfl, h12, trivial⟩⟩

set_option maxHeartbeats 1000000 in
theorem t_X11_tell {K : Kmap} {V : Vmap} {x : Nat} {p0 : Int} {p1 : Int} (h_x : K x = some (0, 10)) (r_p0 : ir p0) (r_p1 : ir p1) : MC mX11_tell K V [.ref x, ti p0, ti p1] (IS K (fun X V1 => (X = 0 ∨ X = 1) ∧ (X ≠ 0 → True) ∧ (X = 0 → True))) := by
  refine MC.start 1 (by decide +kernel) rfl rfl rfl (ls0 := [some (.ref x), some (ti p0), some (ti p1), none]) rfl ?_
  refine GO.aload_n dX11_tell_0 rfl rfl ?_
  refine GO.iload_n dX11_tell_1 rfl rfl ?_
  refine GO.callV (ci := 10) (N := mX11_workOf) dX11_tell_2 (RX11, TX11, 20) rfl gV_RX11_309 h_x (t_X11_workOf h_x r_p0) rfl [] rfl rfl (Nat.le_of_ble_eq_true rfl) rfl (k_rp (fun h3 => ?_) (fun o1 h2 h3 => ?_))
  ·
    refine GO.astore_nN (ls1 := [some (.ref x), some (ti p0), some (ti p1), some (.null)]) dX11_tell_5 rfl rfl rfl ?_
    refine GO.aload_nN dX11_tell_6 rfl rfl ?_
    refine GO.ifnonnullN dX11_tell_7 ?_
    refine GO.iconst dX11_tell_10 ?_
    exact GO.retz rfl rfl dX11_tell_11 (Or.inl rfl) ⟨rfl, _, rfl, (ir_c rfl), ⟨Or.inl rfl, fun _ => trivial, fun _ => trivial⟩⟩
  ·
    refine GO.astore_n (ls1 := [some (.ref x), some (ti p0), some (ti p1), some (.ref o1)]) dX11_tell_5 rfl rfl rfl ?_
    refine GO.aload_n dX11_tell_6 rfl rfl ?_
    refine GO.ifnonnull (tgt := 12) dX11_tell_7 (by decide) ?_
    refine GO.iload_n dX11_tell_12 rfl rfl ?_
    have hj12 : GO mX11_tell K V (IS K (fun X V1 => (X = 0 ∨ X = 1) ∧ (X ≠ 0 → True) ∧ (X = 0 → True))) K V 0 0 37 [some (.ref x), some (ti p0), some (ti p1), some (.ref o1)] [] := by
      skip
      refine GO.iload_n dX11_tell_37 rfl rfl ?_
      refine GO.iconst dX11_tell_38 ?_
      refine GO.icmp_ne (tgt := 63) dX11_tell_39 (by decide) r_p1 (ir_c rfl) (fun c13 => ?_) (fun c13 => ?_)
      ·
        refine GO.iconst dX11_tell_63 ?_
        exact GO.retz rfl rfl dX11_tell_64 (Or.inl rfl) ⟨rfl, _, rfl, (ir_c rfl), ⟨Or.inl rfl, fun _ => trivial, fun _ => trivial⟩⟩
      ·
        refine GO.aload_n dX11_tell_42 rfl rfl ?_
        refine GO.getI h2 fl_RX11_316 rfl rfl dX11_tell_43 (fun _ _ => ?_)
        refine GO.iconst dX11_tell_46 ?_
        refine GO.icmp_ne (tgt := 63) dX11_tell_47 (by decide) vi_ir (ir_c rfl) (fun c14 => ?_) (fun c14 => ?_)
        ·
          refine GO.iconst dX11_tell_63 ?_
          exact GO.retz rfl rfl dX11_tell_64 (Or.inl rfl) ⟨rfl, _, rfl, (ir_c rfl), ⟨Or.inl rfl, fun _ => trivial, fun _ => trivial⟩⟩
        ·
          refine GO.aload_n dX11_tell_50 rfl rfl ?_
          refine GO.aload_n dX11_tell_51 rfl rfl ?_
          refine GO.getR h_x fl_RX11_12 rfl rfl dX11_tell_52 (fun hv16 h15 => ?_)
          refine GO.getI h15 fl_RX11_145 rfl rfl dX11_tell_55 (fun l17 u18 => ?_)
          refine GO.putI h2 fp_RX11_316 rfl (by decide +kernel) vi_ir (vi_ir).1 (vi_ir).2 dX11_tell_58 (fun V20 e19 => ?_)
          refine GO.iconst dX11_tell_61 ?_
          exact GO.retz rfl rfl dX11_tell_62 (Or.inr rfl) ⟨rfl, _, rfl, (ir_c rfl), ⟨Or.inr rfl, fun _ => trivial, fun _ => trivial⟩⟩
    refine GO.if_ne (tgt := 37) dX11_tell_13 (by decide) r_p1 (fun c21 => ?_) (fun c21 => ?_)
    ·
      exact hj12 
    ·
      refine GO.aload_n dX11_tell_16 rfl rfl ?_
      refine GO.getI h2 fl_RX11_313 rfl rfl dX11_tell_17 (fun _ _ => ?_)
      refine GO.iconst dX11_tell_20 ?_
      refine GO.icmp_ne (tgt := 37) dX11_tell_21 (by decide) vi_ir (ir_c rfl) (fun c22 => ?_) (fun c22 => ?_)
      ·
        exact hj12 
      ·
        refine GO.aload_n dX11_tell_24 rfl rfl ?_
        refine GO.aload_n dX11_tell_25 rfl rfl ?_
        refine GO.getR h_x fl_RX11_12 rfl rfl dX11_tell_26 (fun hv24 h23 => ?_)
        refine GO.getI h23 fl_RX11_145 rfl rfl dX11_tell_29 (fun l25 u26 => ?_)
        refine GO.putI h2 fp_RX11_313 rfl (by decide +kernel) vi_ir (vi_ir).1 (vi_ir).2 dX11_tell_32 (fun V28 e27 => ?_)
        refine GO.iconst dX11_tell_35 ?_
        exact GO.retz rfl rfl dX11_tell_36 (Or.inr rfl) ⟨rfl, _, rfl, (ir_c rfl), ⟨Or.inr rfl, fun _ => trivial, fun _ => trivial⟩⟩

set_option maxHeartbeats 1000000 in
theorem t_X11_study {K : Kmap} {V : Vmap} {x : Nat} {p0 : Int} {p1 : Int} (h_x : K x = some (0, 10)) (r_p0 : ir p0) (r_p1 : ir p1) : MC mX11_study K V [.ref x, ti p0, ti p1] (IS K (fun X V1 => (X = 0 ∨ X = 1) ∧ (X ≠ 0 → True) ∧ (X = 0 → True))) := by
  refine MC.start 1 (by decide +kernel) rfl rfl rfl (ls0 := [some (.ref x), some (ti p0), some (ti p1), none]) rfl ?_
  refine GO.aload_n dX11_study_0 rfl rfl ?_
  refine GO.iload_n dX11_study_1 rfl rfl ?_
  refine GO.callV (ci := 10) (N := mX11_workOf) dX11_study_2 (RX11, TX11, 20) rfl gV_RX11_309 h_x (t_X11_workOf h_x r_p0) rfl [] rfl rfl (Nat.le_of_ble_eq_true rfl) rfl (k_rp (fun h3 => ?_) (fun o1 h2 h3 => ?_))
  ·
    refine GO.astore_nN (ls1 := [some (.ref x), some (ti p0), some (ti p1), some (.null)]) dX11_study_5 rfl rfl rfl ?_
    refine GO.aload_nN dX11_study_6 rfl rfl ?_
    refine GO.ifnullN (tgt := 29) dX11_study_7 (by decide) ?_
    refine GO.iconst dX11_study_29 ?_
    exact GO.retz rfl rfl dX11_study_30 (Or.inl rfl) ⟨rfl, _, rfl, (ir_c rfl), ⟨Or.inl rfl, fun _ => trivial, fun _ => trivial⟩⟩
  ·
    refine GO.astore_n (ls1 := [some (.ref x), some (ti p0), some (ti p1), some (.ref o1)]) dX11_study_5 rfl rfl rfl ?_
    refine GO.aload_n dX11_study_6 rfl rfl ?_
    refine GO.ifnull dX11_study_7 ?_
    refine GO.iload_n dX11_study_10 rfl rfl ?_
    refine GO.iconst dX11_study_11 ?_
    refine GO.sipush dX11_study_12 rfl ?_
    refine GO.callS (N := mX11_between) dX11_study_15 gS_RX11_112 (t_X11_between r_p1 (ir_c rfl) (ir_c rfl)) rfl [] rfl rfl (Nat.le_of_ble_eq_true rfl) rfl (k_ip fun X4 r5 h6 => ?_)
    refine GO.if_eq (tgt := 29) dX11_study_18 (by decide) r5 (fun c7 => ?_) (fun c7 => ?_)
    ·
      have q8 := h6.2.2 (by omega)
      refine GO.iconst dX11_study_29 ?_
      exact GO.retz rfl rfl dX11_study_30 (Or.inl rfl) ⟨rfl, _, rfl, (ir_c rfl), ⟨Or.inl rfl, fun _ => trivial, fun _ => trivial⟩⟩
    ·
      have q9 := h6.2.1 (by omega)
      refine GO.aload_n dX11_study_21 rfl rfl ?_
      refine GO.getI h2 fl_RX11_319 rfl rfl dX11_study_22 (fun _ _ => ?_)
      refine GO.iconst dX11_study_25 ?_
      refine GO.icmp_eq (tgt := 31) dX11_study_26 (by decide) vi_ir (ir_c rfl) (fun c10 => ?_) (fun c10 => ?_)
      ·
        refine GO.aload_n dX11_study_31 rfl rfl ?_
        refine GO.aload_n dX11_study_32 rfl rfl ?_
        refine GO.getR h_x fl_RX11_12 rfl rfl dX11_study_33 (fun hv12 h11 => ?_)
        refine GO.getI h11 fl_RX11_145 rfl rfl dX11_study_36 (fun l13 u14 => ?_)
        refine GO.putI h2 fp_RX11_319 rfl (by decide +kernel) vi_ir (vi_ir).1 (vi_ir).2 dX11_study_39 (fun V16 e15 => ?_)
        refine GO.aload_n dX11_study_42 rfl rfl ?_
        refine GO.iload_n dX11_study_43 rfl rfl ?_
        refine GO.putI h2 fp_RX11_322 rfl (by decide +kernel) r_p1 (r_p1).1 (r_p1).2 dX11_study_44 (fun V18 e17 => ?_)
        refine GO.iconst dX11_study_47 ?_
        exact GO.retz rfl rfl dX11_study_48 (Or.inr rfl) ⟨rfl, _, rfl, (ir_c rfl), ⟨Or.inr rfl, fun _ => trivial, fun _ => trivial⟩⟩
      ·
        refine GO.iconst dX11_study_29 ?_
        exact GO.retz rfl rfl dX11_study_30 (Or.inl rfl) ⟨rfl, _, rfl, (ir_c rfl), ⟨Or.inl rfl, fun _ => trivial, fun _ => trivial⟩⟩

set_option maxHeartbeats 1000000 in
theorem t_X11_say {K : Kmap} {V : Vmap} {x : Nat} {p0 : Int} {p1 : Int} {p2 : Int} (h_x : K x = some (0, 10)) (r_p0 : ir p0) (r_p1 : ir p1) (r_p2 : ir p2) (z_p2 : p2 = 0 ∨ p2 = 1) : MC mX11_say K V [.ref x, ti p0, ti p1, ti p2] (IS K (fun X V1 => (X = 0 ∨ X = 1) ∧ (X ≠ 0 → True) ∧ (X = 0 → True))) := by
  refine MC.start 2 (by decide +kernel) rfl rfl rfl (ls0 := [some (.ref x), some (ti p0), some (ti p1), some (ti p2), none, none]) rfl ?_
  refine GO.aload_n dX11_say_0 rfl rfl ?_
  refine GO.iload_n dX11_say_1 rfl rfl ?_
  refine GO.callV (ci := 10) (N := mX11_workOf) dX11_say_2 (RX11, TX11, 20) rfl gV_RX11_309 h_x (t_X11_workOf h_x r_p1) rfl [] rfl rfl (Nat.le_of_ble_eq_true rfl) rfl (k_rp (fun h3 => ?_) (fun o1 h2 h3 => ?_))
  ·
    refine GO.astoreN (ls1 := [some (.ref x), some (ti p0), some (ti p1), some (ti p2), some (.null), none]) dX11_say_5 rfl rfl ?_
    refine GO.aload_n dX11_say_7 rfl rfl ?_
    refine GO.iload_n dX11_say_8 rfl rfl ?_
    refine GO.callV (ci := 10) (N := mX11_partyOf) dX11_say_9 (RX11, TX11, 20) rfl gV_RX11_151 h_x (t_X11_partyOf h_x r_p0) rfl [] rfl rfl (Nat.le_of_ble_eq_true rfl) rfl (k_rp (fun h6 => ?_) (fun o4 h5 h6 => ?_))
    ·
      have rwn9 := h6.2
      have hn7 : PN V x → p0 < 0 ∨ vi V x 4 ≤ p0 := h6.2
      refine GO.ifnullN (tgt := 20) dX11_say_12 (by decide) ?_
      refine GO.iconst dX11_say_20 ?_
      exact GO.retz rfl rfl dX11_say_21 (Or.inl rfl) ⟨rfl, _, rfl, (ir_c rfl), ⟨Or.inl rfl, fun _ => trivial, fun _ => trivial⟩⟩
    ·
      have hp8 : p0 ≥ 0 ∧ p0 < vi V x 4 := h6.1
      have rwp9 := h6.2
      have hq9 : o4 = vq V (vq V x 3) (p0).toNat := h6.2
      refine GO.ifnull dX11_say_12 ?_
      refine GO.aloadN dX11_say_15 rfl ?_
      refine GO.ifnonnullN dX11_say_17 ?_
      refine GO.iconst dX11_say_20 ?_
      exact GO.retz rfl rfl dX11_say_21 (Or.inl rfl) ⟨rfl, _, rfl, (ir_c rfl), ⟨Or.inl rfl, fun _ => trivial, fun _ => trivial⟩⟩
  ·
    refine GO.astore (ls1 := [some (.ref x), some (ti p0), some (ti p1), some (ti p2), some (.ref o1), none]) dX11_say_5 rfl rfl ?_
    refine GO.aload_n dX11_say_7 rfl rfl ?_
    refine GO.iload_n dX11_say_8 rfl rfl ?_
    refine GO.callV (ci := 10) (N := mX11_partyOf) dX11_say_9 (RX11, TX11, 20) rfl gV_RX11_151 h_x (t_X11_partyOf h_x r_p0) rfl [] rfl rfl (Nat.le_of_ble_eq_true rfl) rfl (k_rp (fun h12 => ?_) (fun o10 h11 h12 => ?_))
    ·
      have rwn9 := h12.2
      have hn13 : PN V x → p0 < 0 ∨ vi V x 4 ≤ p0 := h12.2
      refine GO.ifnullN (tgt := 20) dX11_say_12 (by decide) ?_
      refine GO.iconst dX11_say_20 ?_
      exact GO.retz rfl rfl dX11_say_21 (Or.inl rfl) ⟨rfl, _, rfl, (ir_c rfl), ⟨Or.inl rfl, fun _ => trivial, fun _ => trivial⟩⟩
    ·
      have hp14 : p0 ≥ 0 ∧ p0 < vi V x 4 := h12.1
      have rwp9 := h12.2
      have hq15 : o10 = vq V (vq V x 3) (p0).toNat := h12.2
      refine GO.ifnull dX11_say_12 ?_
      refine GO.aload dX11_say_15 rfl ?_
      refine GO.ifnonnull (tgt := 22) dX11_say_17 (by decide) ?_
      refine GO.iconst dX11_say_22 ?_
      refine GO.iload_n dX11_say_23 rfl rfl ?_
      refine GO.ishl dX11_say_24 ?_
      refine GO.name (fun z16 hz17 => ?_)
      have r18 : ir z16 := hz17 ▸ wshl_ir
      refine GO.istore (ls1 := [some (.ref x), some (ti p0), some (ti p1), some (ti p2), some (.ref o1), some (ti z16)]) dX11_say_25 rfl rfl ?_
      refine GO.aload dX11_say_27 rfl ?_
      refine GO.iload_n dX11_say_29 rfl rfl ?_
      have hj21 : ∀ (z20 : Int), ∀ (l22 : (-2147483648) ≤ z20), ∀ (u23 : z20 ≤ 2147483647), GO mX11_say K V (IS K (fun X V1 => (X = 0 ∨ X = 1) ∧ (X ≠ 0 → True) ∧ (X = 0 → True))) K V 0 0 54 [some (.ref x), some (ti p0), some (ti p1), some (ti p2), some (.ref o1), some (ti z16)] [ti z20, .ref o1] := by
        intro z20 l22 u23
        have r24 : ir z20 := ⟨by omega, by omega⟩
        refine GO.putI h2 fp_RX11_325 rfl (by decide +kernel) r24 (r24).1 (r24).2 dX11_say_54 (fun V26 e25 => ?_)
        refine GO.aload dX11_say_57 rfl ?_
        refine GO.iload_n dX11_say_59 rfl rfl ?_
        refine GO.if_eq (tgt := 76) dX11_say_60 (by decide) r_p2 (fun c27 => ?_) (fun c27 => ?_)
        ·
          refine GO.aload dX11_say_76 rfl ?_
          refine GO.getI h2 fl_RX11_328 rfl rfl dX11_say_78 (fun _ _ => ?_)
          refine GO.iload dX11_say_81 rfl ?_
          refine GO.ior dX11_say_83 ?_
          refine GO.putI h2 fp_RX11_328 rfl (by decide +kernel) wor_ir (wor_ir).1 (wor_ir).2 dX11_say_84 (fun V29 e28 => ?_)
          refine GO.iconst dX11_say_87 ?_
          exact GO.retz rfl rfl dX11_say_88 (Or.inr rfl) ⟨rfl, _, rfl, (ir_c rfl), ⟨Or.inr rfl, fun _ => trivial, fun _ => trivial⟩⟩
        ·
          refine GO.aload dX11_say_63 rfl ?_
          refine GO.getI h2 fl_RX11_328 rfl rfl dX11_say_65 (fun _ _ => ?_)
          refine GO.iload dX11_say_68 rfl ?_
          refine GO.iconst dX11_say_70 ?_
          refine GO.ixor dX11_say_71 ?_
          refine GO.iand dX11_say_72 ?_
          refine GO.goto (tgt := 84) dX11_say_73 (by decide) ?_
          refine GO.putI h2 fp_RX11_328 rfl (by decide +kernel) wand_ir (wand_ir).1 (wand_ir).2 dX11_say_84 (fun V31 e30 => ?_)
          refine GO.iconst dX11_say_87 ?_
          exact GO.retz rfl rfl dX11_say_88 (Or.inr rfl) ⟨rfl, _, rfl, (ir_c rfl), ⟨Or.inr rfl, fun _ => trivial, fun _ => trivial⟩⟩
      refine GO.if_eq (tgt := 44) dX11_say_30 (by decide) r_p2 (fun c32 => ?_) (fun c32 => ?_)
      ·
        refine GO.aload dX11_say_44 rfl ?_
        refine GO.getI h2 fl_RX11_325 rfl rfl dX11_say_46 (fun _ _ => ?_)
        refine GO.iload dX11_say_49 rfl ?_
        refine GO.iconst dX11_say_51 ?_
        refine GO.ixor dX11_say_52 ?_
        refine GO.iand dX11_say_53 ?_
        have q33 : -2147483648 ≤ wand (vi V o1 13) (wxor z16 (-1)) ∧ wand (vi V o1 13) (wxor z16 (-1)) ≤ 2147483647 := wand_ir
        exact hj21 (wand (vi V o1 13) (wxor z16 (-1))) (by omega) (by omega)
      ·
        refine GO.aload dX11_say_33 rfl ?_
        refine GO.getI h2 fl_RX11_325 rfl rfl dX11_say_35 (fun _ _ => ?_)
        refine GO.iload dX11_say_38 rfl ?_
        refine GO.ior dX11_say_40 ?_
        refine GO.goto (tgt := 54) dX11_say_41 (by decide) ?_
        have q34 : -2147483648 ≤ wor (vi V o1 13) z16 ∧ wor (vi V o1 13) z16 ≤ 2147483647 := wor_ir
        exact hj21 (wor (vi V o1 13) z16) (by omega) (by omega)

set_option maxHeartbeats 1000000 in
theorem t_X4_put_t135 {K : Kmap} {V : Vmap} {p0 n_p0 : Nat} {p1 : Int} {p2 : Int} (h_p0 : K p0 = some (136, n_p0)) (r_p1 : ir p1) (r_p2 : ir p2) : MC mX4_put_t135 K V [.ref p0, ti p1, ti p2] (VS K (fun V1 => (True) ∧ (V1 = rpv V p0 n_p0 p1 p2))) := by
  refine MC.start 0 (by decide +kernel) rfl rfl rfl (ls0 := [some (.ref p0), some (ti p1), some (ti p2)]) rfl ?_
  refine GO.aload_n dX4_put_0 rfl rfl ?_
  refine GO.ifnull dX4_put_1 ?_
  refine GO.iload_n dX4_put_4 rfl rfl ?_
  refine GO.if_lt (tgt := 18) dX4_put_5 (by decide) r_p1 (fun c1 => ?_) (fun c1 => ?_)
  ·
    exact GO.retv rfl rfl dX4_put_18 ⟨rfl, rfl, ⟨trivial, (by first | exact rpv_in (by assumption) (by omega) (by omega) | exact rpv_out (by omega))⟩⟩
  ·
    refine GO.iload_n dX4_put_8 rfl rfl ?_
    refine GO.aload_n dX4_put_9 rfl rfl ?_
    refine GO.alen h_p0 dX4_put_10 (fun h2 => ?_)
    refine GO.icmp_ge (tgt := 18) dX4_put_11 (by decide) r_p1 ⟨by omega, by omega⟩ (fun c3 => ?_) (fun c3 => ?_)
    ·
      exact GO.retv rfl rfl dX4_put_18 ⟨rfl, rfl, ⟨trivial, (by first | exact rpv_in (by assumption) (by omega) (by omega) | exact rpv_out (by omega))⟩⟩
    ·
      refine GO.aload_n dX4_put_14 rfl rfl ?_
      refine GO.iload_n dX4_put_15 rfl rfl ?_
      refine GO.iload_n dX4_put_16 rfl rfl ?_
      have q4 : -2147483648 ≤ p1 ∧ p1 ≤ 2147483647 := r_p1
      refine GO.iast (t := 135) rfl rfl (by decide +kernel) h_p0 r_p1 (by omega) (by omega) r_p2 (r_p2).1 (r_p2).2 dX4_put_17 (fun V6 e5 => ?_)
      exact GO.retv rfl rfl dX4_put_18 ⟨rfl, rfl, ⟨trivial, (by first | exact rpv_in (by assumption) (by omega) (by omega) | exact rpv_out (by omega))⟩⟩

set_option maxHeartbeats 1000000 in
theorem t_X11_tellLetters {K : Kmap} {V : Vmap} {x : Nat} {p0 : Nat} {p1 : Nat} {p2 : Int} (h_x : K x = some (0, 10)) (h_p0 : K p0 = some (0, 9)) (h_p1 : K p1 = some (0, 2)) (r_p2 : ir p2) : MC mX11_tellLetters K V [.ref x, .ref p0, .ref p1, ti p2] (VS K (fun V1 => (True))) := by
  refine MC.start 1 (by decide +kernel) rfl rfl rfl (ls0 := [some (.ref x), some (.ref p0), some (.ref p1), some (ti p2), none]) rfl ?_
  refine GO.aload_n dX11_tellLetters_0 rfl rfl ?_
  refine GO.getR h_x fl_RX11_19 rfl rfl dX11_tellLetters_1 (fun hv2 h1 => ?_)
  refine GO.getA (n := 14) h1 fl_RX11_372 rfl rfl rfl rfl dX11_tellLetters_4 (fun hv4 h3 => ?_)
  refine GO.astore (ls1 := [some (.ref x), some (.ref p0), some (.ref p1), some (ti p2), some (.ref (vq V (vq V x 1) 8))]) dX11_tellLetters_7 rfl rfl ?_
  refine GO.aload dX11_tellLetters_9 rfl ?_
  refine GO.iconst dX11_tellLetters_11 ?_
  refine GO.aload_n dX11_tellLetters_12 rfl rfl ?_
  refine GO.getI h_p0 fl_RX11_375 rfl rfl dX11_tellLetters_13 (fun _ _ => ?_)
  refine GO.callS (N := mX4_put_t135) dX11_tellLetters_16 gS_RX11_108 (t_X4_put_t135 h3 (ir_c rfl) vi_ir) rfl [] rfl rfl (Nat.le_of_ble_eq_true rfl) rfl (k_vs fun V7 h6 hF5 => ?_)
  have raw_put := h6.2
  have rw16 := h6.2
  refine GO.aload dX11_tellLetters_19 rfl ?_
  refine GO.iconst dX11_tellLetters_21 ?_
  refine GO.aload_n dX11_tellLetters_22 rfl rfl ?_
  refine GO.getI h_p0 fl_RX11_353 rfl rfl dX11_tellLetters_23 (fun _ _ => ?_)
  refine GO.callS (N := mX4_put_t135) dX11_tellLetters_26 gS_RX11_108 (t_X4_put_t135 h3 (ir_c rfl) vi_ir) rfl [] rfl rfl (Nat.le_of_ble_eq_true rfl) rfl (k_vs fun V10 h9 hF8 => ?_)
  have raw_put := h9.2
  have rw26 := h9.2
  refine GO.aload dX11_tellLetters_29 rfl ?_
  refine GO.iconst dX11_tellLetters_31 ?_
  refine GO.aload_n dX11_tellLetters_32 rfl rfl ?_
  refine GO.iload_n dX11_tellLetters_33 rfl rfl ?_
  refine GO.callV (ci := 2) (N := mX2_decidesOn) dX11_tellLetters_34 (RX2, TX2, 5) rfl gV_RX11_301 h_p1 (t_X2_decidesOn h_p1 r_p2) rfl [ti 2, .ref (vq V (vq V x 1) 8)] rfl rfl (Nat.le_of_ble_eq_true rfl) rfl (k_ip fun X11 r12 h13 => ?_)
  have hj16 : ∀ (z15 : Int), ∀ (l17 : 0 ≤ z15), ∀ (u18 : z15 ≤ 1), GO mX11_tellLetters K V (VS K (fun V1 => (True))) K V10 0 0 45 [some (.ref x), some (.ref p0), some (.ref p1), some (ti p2), some (.ref (vq V (vq V x 1) 8))] [ti z15, ti 2, .ref (vq V (vq V x 1) 8)] := by
    intro z15 l17 u18
    have r19 : ir z15 := ⟨by omega, by omega⟩
    refine GO.callS (N := mX4_put_t135) dX11_tellLetters_45 gS_RX11_108 (t_X4_put_t135 h3 (ir_c rfl) r19) rfl [] rfl rfl (Nat.le_of_ble_eq_true rfl) rfl (k_vs fun V22 h21 hF20 => ?_)
    have raw_put := h21.2
    have rw45 := h21.2
    refine GO.aload dX11_tellLetters_48 rfl ?_
    refine GO.iconst dX11_tellLetters_50 ?_
    refine GO.aload_n dX11_tellLetters_51 rfl rfl ?_
    refine GO.getR h_x fl_RX11_12 rfl rfl dX11_tellLetters_52 (fun hv24 h23 => ?_)
    refine GO.getA (n := 144) h23 fl_RX11_123 rfl rfl rfl rfl dX11_tellLetters_55 (fun hv26 h25 => ?_)
    refine GO.aload_n dX11_tellLetters_58 rfl rfl ?_
    refine GO.getI h_p0 fl_RX11_378 rfl rfl dX11_tellLetters_59 (fun _ _ => ?_)
    refine GO.callS (N := mX4_get) dX11_tellLetters_62 gS_RX11_253 (t_X4_get rfl h25 vi_ir) rfl [ti 3, .ref (vq V (vq V x 1) 8)] rfl rfl (Nat.le_of_ble_eq_true rfl) rfl (k_ip fun X27 r28 h29 => ?_)
    have raw_get := h29.2
    have rw62 := h29.2
    refine GO.callS (N := mX4_put_t135) dX11_tellLetters_65 gS_RX11_108 (t_X4_put_t135 h3 (ir_c rfl) r28) rfl [] rfl rfl (Nat.le_of_ble_eq_true rfl) rfl (k_vs fun V32 h31 hF30 => ?_)
    have raw_put := h31.2
    have rw65 := h31.2
    refine GO.aload dX11_tellLetters_68 rfl ?_
    refine GO.iconst dX11_tellLetters_70 ?_
    refine GO.aload_n dX11_tellLetters_71 rfl rfl ?_
    refine GO.getRaw h_x fl_RX11_12 (Eq.trans (hF30 _ _ _ h_x h_x (by decide +kernel)) hv24) dX11_tellLetters_72 ?_
    refine GO.getA (n := 144) h23 fl_RX11_126 rfl rfl rfl rfl dX11_tellLetters_75 (fun hv36 h35 => ?_)
    refine GO.aload_n dX11_tellLetters_78 rfl rfl ?_
    refine GO.getI h_p0 fl_RX11_378 rfl rfl dX11_tellLetters_79 (fun _ _ => ?_)
    refine GO.callS (N := mX4_get) dX11_tellLetters_82 gS_RX11_253 (t_X4_get rfl h35 vi_ir) rfl [ti 4, .ref (vq V (vq V x 1) 8)] rfl rfl (Nat.le_of_ble_eq_true rfl) rfl (k_ip fun X37 r38 h39 => ?_)
    have raw_get := h39.2
    have rw82 := h39.2
    refine GO.callS (N := mX4_put_t135) dX11_tellLetters_85 gS_RX11_108 (t_X4_put_t135 h3 (ir_c rfl) r38) rfl [] rfl rfl (Nat.le_of_ble_eq_true rfl) rfl (k_vs fun V42 h41 hF40 => ?_)
    have raw_put := h41.2
    have rw85 := h41.2
    refine GO.aload dX11_tellLetters_88 rfl ?_
    refine GO.bipush dX11_tellLetters_90 rfl ?_
    refine GO.aload_n dX11_tellLetters_92 rfl rfl ?_
    refine GO.getI h_p0 fl_RX11_305 rfl rfl dX11_tellLetters_93 (fun _ _ => ?_)
    refine GO.callS (N := mX4_put_t135) dX11_tellLetters_96 gS_RX11_108 (t_X4_put_t135 h3 (ir_c rfl) vi_ir) rfl [] rfl rfl (Nat.le_of_ble_eq_true rfl) rfl (k_vs fun V45 h44 hF43 => ?_)
    have raw_put := h44.2
    have rw96 := h44.2
    refine GO.aload dX11_tellLetters_99 rfl ?_
    refine GO.bipush dX11_tellLetters_101 rfl ?_
    refine GO.aload_n dX11_tellLetters_103 rfl rfl ?_
    refine GO.getI h_p0 fl_RX11_306 rfl rfl dX11_tellLetters_104 (fun _ _ => ?_)
    refine GO.callS (N := mX4_put_t135) dX11_tellLetters_107 gS_RX11_108 (t_X4_put_t135 h3 (ir_c rfl) vi_ir) rfl [] rfl rfl (Nat.le_of_ble_eq_true rfl) rfl (k_vs fun V48 h47 hF46 => ?_)
    have raw_put := h47.2
    have rw107 := h47.2
    refine GO.aload dX11_tellLetters_110 rfl ?_
    refine GO.bipush dX11_tellLetters_112 rfl ?_
    refine GO.iload_n dX11_tellLetters_114 rfl rfl ?_
    refine GO.sipush dX11_tellLetters_115 rfl ?_
    refine GO.irem dX11_tellLetters_118 (ir_c rfl) (by omega) ?_
    refine GO.callS (N := mX4_put_t135) dX11_tellLetters_119 gS_RX11_108 (t_X4_put_t135 h3 (ir_c rfl) wrem_ir) rfl [] rfl rfl (Nat.le_of_ble_eq_true rfl) rfl (k_vs fun V51 h50 hF49 => ?_)
    have raw_put := h50.2
    have rw119 := h50.2
    refine GO.aload dX11_tellLetters_122 rfl ?_
    refine GO.bipush dX11_tellLetters_124 rfl ?_
    refine GO.iload_n dX11_tellLetters_126 rfl rfl ?_
    refine GO.sipush dX11_tellLetters_127 rfl ?_
    refine GO.idiv dX11_tellLetters_130 (ir_c rfl) (by omega) ?_
    refine GO.callS (N := mX4_put_t135) dX11_tellLetters_131 gS_RX11_108 (t_X4_put_t135 h3 (ir_c rfl) wdiv_ir) rfl [] rfl rfl (Nat.le_of_ble_eq_true rfl) rfl (k_vs fun V54 h53 hF52 => ?_)
    have raw_put := h53.2
    have rw131 := h53.2
    refine GO.aload dX11_tellLetters_134 rfl ?_
    refine GO.bipush dX11_tellLetters_136 rfl ?_
    refine GO.aload_n dX11_tellLetters_138 rfl rfl ?_
    refine GO.getRaw h_x fl_RX11_12 (Eq.trans (hF52 _ _ _ h_x h_x (by decide +kernel)) (Eq.trans (hF49 _ _ _ h_x h_x (by decide +kernel)) (Eq.trans (hF46 _ _ _ h_x h_x (by decide +kernel)) (Eq.trans (hF43 _ _ _ h_x h_x (by decide +kernel)) (Eq.trans (hF40 _ _ _ h_x h_x (by decide +kernel)) (Eq.trans (hF30 _ _ _ h_x h_x (by decide +kernel)) hv24)))))) dX11_tellLetters_139 ?_
    refine GO.iload_n dX11_tellLetters_142 rfl rfl ?_
    refine GO.callV (ci := 0) (N := mX0_isDark) dX11_tellLetters_143 (RX0, TX0, 13) rfl gV_RX11_381 h23 (t_X0_isDark h23 r_p2) rfl [ti 13, .ref (vq V (vq V x 1) 8)] rfl rfl (Nat.le_of_ble_eq_true rfl) rfl (k_ip fun X57 r58 h59 => ?_)
    refine GO.if_eq (tgt := 153) dX11_tellLetters_146 (by decide) r58 (fun c60 => ?_) (fun c60 => ?_)
    ·
      refine GO.iconst dX11_tellLetters_153 ?_
      refine GO.callS (N := mX4_put_t135) dX11_tellLetters_154 gS_RX11_108 (t_X4_put_t135 h3 (ir_c rfl) (ir_c rfl)) rfl [] rfl rfl (Nat.le_of_ble_eq_true rfl) rfl (k_vs fun V63 h62 hF61 => ?_)
      have raw_put := h62.2
      have rw154 := h62.2
      exact GO.retv rfl rfl dX11_tellLetters_157 ⟨rfl, rfl, trivial⟩
    ·
      refine GO.iconst dX11_tellLetters_149 ?_
      refine GO.goto (tgt := 154) dX11_tellLetters_150 (by decide) ?_
      refine GO.callS (N := mX4_put_t135) dX11_tellLetters_154 gS_RX11_108 (t_X4_put_t135 h3 (ir_c rfl) (ir_c rfl)) rfl [] rfl rfl (Nat.le_of_ble_eq_true rfl) rfl (k_vs fun V66 h65 hF64 => ?_)
      have raw_put := h65.2
      have rw154 := h65.2
      exact GO.retv rfl rfl dX11_tellLetters_157 ⟨rfl, rfl, trivial⟩
  refine GO.if_eq (tgt := 44) dX11_tellLetters_37 (by decide) r12 (fun c67 => ?_) (fun c67 => ?_)
  ·
    refine GO.iconst dX11_tellLetters_44 ?_
    exact hj16 0 (by omega) (by omega)
  ·
    refine GO.iconst dX11_tellLetters_40 ?_
    refine GO.goto (tgt := 45) dX11_tellLetters_41 (by decide) ?_
    exact hj16 1 (by omega) (by omega)
