def mX11_sledge : MRec := (RX11, cX11_sledge, 8, (some .int), yX11_sledge, 4, 92, 0, 0, 149502054158244092924433911175587146134101311725520811805218980426523451386786935515518273034061695487692739372876119666381369593524171053510559582292709609981251306043089201004453328138269529997312)
def mX11_people : MRec := (RX11, cX11_people, 4, (some .boolean), yX11_people, 3, 66, 0, 0, 137438953472)
def mX11_hide : MRec := (RX11, cX11_hide, 4, (some .boolean), yX11_hide, 3, 66, 0, 0, 824633720832)
def mX11_declare : MRec := (RX11, cX11_declare, 5, (some .boolean), yX11_declare, 2, 44, 0, 0, 13194139533312)
def mX8_isFull_k28 : MRec := (RX8, cX8_isFull, 1, (some .boolean), yX8_isFull, 0, 0, 0, 0, 0)
def mX8_put_k28 : MRec := (RX8, cX8_put, 6, (none : Option Jvm.ClassFile.FieldType), yX8_put, 0, 0, 0, 0, 5415370496329716522614090203404460358274291162843391748379842930887932241807862544999950011922147613471467208908991351228465152)
def mX8_append_k28 : MRec := (RX8, cX8_append, 7, (some .int), yX8_append, 1, 25, 0, 0, 2392032866531905486790942578809394338145620987608332988883503686824375184280873545946128538634052219851605177476011827463498108000803416525160133105857065232280273705978608061616258853495938628976640)
def mX11_visit : MRec := (RX11, cX11_visit, 6, (some .int), yX11_visit, 3, 66, 0, 0, 2392032866531905486790942578809394338145620987608332988883503686824375184280873545946128538634052219851605177476011827463498108000803416525160133105857065232280273705978608061616258853495938628976640)
def mX8_has_k28 : MRec := (RX8, cX8_has, 2, (some .boolean), yX8_has, 0, 0, 0, 0, 0)
def mX8_get_k28 : MRec := (RX8, cX8_get, 5, (some .int), yX8_get, 0, 0, 0, 0, 0)
def mX11_seen : MRec := (RX11, cX11_seen, 3, (some .int), yX11_seen, 1, 24, 0, 0, 0)
def mX4_get_n : MRec := (RX4, cX4_get, 2, (some .int), yX4_get, 0, 0, 0, 0, 0)
def mX4_put_n : MRec := (RX4, cX4_put, 3, (none : Option Jvm.ClassFile.FieldType), yX4_put, 0, 0, 0, 0, 0)
set_option maxHeartbeats 1000000 in
theorem t_X11_sledge {K : Kmap} {V : Vmap} {x : Nat} {p0 : Int} {p1 : Int} {p2 : Int} (h_x : K x = some (0, 10)) (r_p0 : ir p0) (r_p1 : ir p1) (r_p2 : ir p2) : MC mX11_sledge K V [.ref x, ti p0, ti p1, ti p2] (IS K (fun X V1 => True)) := by
  refine MC.start 4 (by decide +kernel) rfl rfl rfl (ls0 := [some (.ref x), some (ti p0), some (ti p1), some (ti p2), none, none, none, none]) rfl ?_
  refine GO.aload_n dX11_sledge_0 rfl rfl ?_
  refine GO.iload_n dX11_sledge_1 rfl rfl ?_
  refine GO.callV (ci := 10) (N := mX11_standingStation) dX11_sledge_2 (RX11, TX11, 20) rfl gV_RX11_195 h_x (t_X11_standingStation h_x r_p0) rfl [] rfl rfl (Nat.le_of_ble_eq_true rfl) rfl (k_rp (fun h3 => ?_) (fun o1 h2 h3 => ?_))
  ·
    have rwn2 := h3.2
    have hn4 : NN 6 5 V x → ¬ STN V x p0 := h3.2
    refine GO.astoreN (ls1 := [some (.ref x), some (ti p0), some (ti p1), some (ti p2), some (.null), none, none, none]) dX11_sledge_5 rfl rfl ?_
    refine GO.aload_n dX11_sledge_7 rfl rfl ?_
    refine GO.iload_n dX11_sledge_8 rfl rfl ?_
    refine GO.callV (ci := 10) (N := mX11_standingStation) dX11_sledge_9 (RX11, TX11, 20) rfl gV_RX11_195 h_x (t_X11_standingStation h_x r_p1) rfl [] rfl rfl (Nat.le_of_ble_eq_true rfl) rfl (k_rp (fun h7 => ?_) (fun o5 h6 h7 => ?_))
    ·
      have rwn9 := h7.2
      have hn8 : NN 6 5 V x → ¬ STN V x p1 := h7.2
      refine GO.astoreN (ls1 := [some (.ref x), some (ti p0), some (ti p1), some (ti p2), some (.null), some (.null), none, none]) dX11_sledge_12 rfl rfl ?_
      refine GO.aloadN dX11_sledge_14 rfl ?_
      refine GO.ifnullN (tgt := 42) dX11_sledge_16 (by decide) ?_
      refine GO.iconst dX11_sledge_42 ?_
      exact GO.reti rfl rfl dX11_sledge_43 ⟨rfl, _, rfl, (ir_c rfl), trivial⟩
    ·
      have hp9 : p1 ≥ 0 ∧ p1 < vi V x 6 := h7.1
      have rwp9 := h7.2
      have hq10 : o5 = plO V x (p1).toNat ∧ STN V x p1 := h7.2
      refine GO.astore (ls1 := [some (.ref x), some (ti p0), some (ti p1), some (ti p2), some (.null), some (.ref o5), none, none]) dX11_sledge_12 rfl rfl ?_
      refine GO.aloadN dX11_sledge_14 rfl ?_
      refine GO.ifnullN (tgt := 42) dX11_sledge_16 (by decide) ?_
      refine GO.iconst dX11_sledge_42 ?_
      exact GO.reti rfl rfl dX11_sledge_43 ⟨rfl, _, rfl, (ir_c rfl), trivial⟩
  ·
    have hp11 : p0 ≥ 0 ∧ p0 < vi V x 6 := h3.1
    have rwp2 := h3.2
    have hq12 : o1 = plO V x (p0).toNat ∧ STN V x p0 := h3.2
    refine GO.astore (ls1 := [some (.ref x), some (ti p0), some (ti p1), some (ti p2), some (.ref o1), none, none, none]) dX11_sledge_5 rfl rfl ?_
    refine GO.aload_n dX11_sledge_7 rfl rfl ?_
    refine GO.iload_n dX11_sledge_8 rfl rfl ?_
    refine GO.callV (ci := 10) (N := mX11_standingStation) dX11_sledge_9 (RX11, TX11, 20) rfl gV_RX11_195 h_x (t_X11_standingStation h_x r_p1) rfl [] rfl rfl (Nat.le_of_ble_eq_true rfl) rfl (k_rp (fun h15 => ?_) (fun o13 h14 h15 => ?_))
    ·
      have rwn9 := h15.2
      have hn16 : NN 6 5 V x → ¬ STN V x p1 := h15.2
      refine GO.astoreN (ls1 := [some (.ref x), some (ti p0), some (ti p1), some (ti p2), some (.ref o1), some (.null), none, none]) dX11_sledge_12 rfl rfl ?_
      refine GO.aload dX11_sledge_14 rfl ?_
      refine GO.ifnull dX11_sledge_16 ?_
      refine GO.aloadN dX11_sledge_19 rfl ?_
      refine GO.ifnullN (tgt := 42) dX11_sledge_21 (by decide) ?_
      refine GO.iconst dX11_sledge_42 ?_
      exact GO.reti rfl rfl dX11_sledge_43 ⟨rfl, _, rfl, (ir_c rfl), trivial⟩
    ·
      have hp17 : p1 ≥ 0 ∧ p1 < vi V x 6 := h15.1
      have rwp9 := h15.2
      have hq18 : o13 = plO V x (p1).toNat ∧ STN V x p1 := h15.2
      refine GO.astore (ls1 := [some (.ref x), some (ti p0), some (ti p1), some (ti p2), some (.ref o1), some (.ref o13), none, none]) dX11_sledge_12 rfl rfl ?_
      refine GO.aload dX11_sledge_14 rfl ?_
      refine GO.ifnull dX11_sledge_16 ?_
      refine GO.aload dX11_sledge_19 rfl ?_
      refine GO.ifnull dX11_sledge_21 ?_
      refine GO.iload_n dX11_sledge_24 rfl rfl ?_
      refine GO.iload_n dX11_sledge_25 rfl rfl ?_
      refine GO.icmp_eq (tgt := 42) dX11_sledge_26 (by decide) r_p0 r_p1 (fun c19 => ?_) (fun c19 => ?_)
      ·
        refine GO.iconst dX11_sledge_42 ?_
        exact GO.reti rfl rfl dX11_sledge_43 ⟨rfl, _, rfl, (ir_c rfl), trivial⟩
      ·
        refine GO.aload dX11_sledge_29 rfl ?_
        refine GO.getI h2 fl_RX11_173 rfl rfl dX11_sledge_31 (fun _ _ => ?_)
        refine GO.aload dX11_sledge_34 rfl ?_
        refine GO.getI h14 fl_RX11_173 rfl rfl dX11_sledge_36 (fun _ _ => ?_)
        refine GO.icmp_eq (tgt := 44) dX11_sledge_39 (by decide) vi_ir vi_ir (fun c20 => ?_) (fun c20 => ?_)
        ·
          refine GO.iload_n dX11_sledge_44 rfl rfl ?_
          refine GO.iconst dX11_sledge_45 ?_
          refine GO.sipush dX11_sledge_46 rfl ?_
          refine GO.callS (N := mX11_between) dX11_sledge_49 gS_RX11_112 (t_X11_between r_p2 (ir_c rfl) (ir_c rfl)) rfl [] rfl rfl (Nat.le_of_ble_eq_true rfl) rfl (k_ip fun X21 r22 h23 => ?_)
          refine GO.if_eq (tgt := 74) dX11_sledge_52 (by decide) r22 (fun c24 => ?_) (fun c24 => ?_)
          ·
            have q25 := h23.2.2 (by omega)
            refine GO.iconst dX11_sledge_74 ?_
            exact GO.reti rfl rfl dX11_sledge_75 ⟨rfl, _, rfl, (ir_c rfl), trivial⟩
          ·
            have q26 := h23.2.1 (by omega)
            refine GO.iload_n dX11_sledge_55 rfl rfl ?_
            refine GO.aload dX11_sledge_56 rfl ?_
            refine GO.getI h2 fl_RX11_186 rfl rfl dX11_sledge_58 (fun _ _ => ?_)
            refine GO.icmp_gt (tgt := 74) dX11_sledge_61 (by decide) r_p2 vi_ir (fun c27 => ?_) (fun c27 => ?_)
            ·
              refine GO.iconst dX11_sledge_74 ?_
              exact GO.reti rfl rfl dX11_sledge_75 ⟨rfl, _, rfl, (ir_c rfl), trivial⟩
            ·
              refine GO.aload_n dX11_sledge_64 rfl rfl ?_
              refine GO.getR h_x fl_RX11_72 rfl rfl dX11_sledge_65 (fun hv29 h28 => ?_)
              refine GO.callV (ci := 27) (N := mX8_isFull_k27) dX11_sledge_68 (RX8, TX8, 4) rfl gV_RX11_265 h28 (t_X8_isFull_k27 h28) rfl [] rfl rfl (Nat.le_of_ble_eq_true rfl) rfl (k_ip fun X30 r31 h32 => ?_)
              refine GO.if_eq (tgt := 76) dX11_sledge_71 (by decide) r31 (fun c33 => ?_) (fun c33 => ?_)
              ·
                have q34 := h32.2.2 (by omega)
                refine GO.aload_n dX11_sledge_76 rfl rfl ?_
                refine GO.getR h_x fl_RX11_12 rfl rfl dX11_sledge_77 (fun hv36 h35 => ?_)
                refine GO.aload dX11_sledge_80 rfl ?_
                refine GO.getI h2 fl_RX11_344 rfl rfl dX11_sledge_82 (fun _ _ => ?_)
                refine GO.aload dX11_sledge_85 rfl ?_
                refine GO.getI h14 fl_RX11_344 rfl rfl dX11_sledge_87 (fun _ _ => ?_)
                refine GO.callV (ci := 0) (N := mX0_leastDays) dX11_sledge_90 (RX0, TX0, 13) rfl gV_RX11_418 h35 (t_X0_leastDays h35 vi_ir vi_ir) rfl [] rfl rfl (Nat.le_of_ble_eq_true rfl) rfl (k_is fun X37 V41 r38 h39 hF40 => ?_)
                refine GO.istore (ls1 := [some (.ref x), some (ti p0), some (ti p1), some (ti p2), some (.ref o1), some (.ref o13), some (ti X37), none]) dX11_sledge_93 rfl rfl ?_
                refine GO.iload dX11_sledge_95 rfl ?_
                refine GO.iconst dX11_sledge_97 ?_
                refine GO.icmp_eq (tgt := 107) dX11_sledge_98 (by decide) r38 (ir_c rfl) (fun c42 => ?_) (fun c42 => ?_)
                ·
                  refine GO.iconst dX11_sledge_107 ?_
                  exact GO.reti rfl rfl dX11_sledge_108 ⟨rfl, _, rfl, (ir_c rfl), trivial⟩
                ·
                  refine GO.iload dX11_sledge_101 rfl ?_
                  refine GO.iload_n dX11_sledge_103 rfl rfl ?_
                  refine GO.icmp_lt (tgt := 109) dX11_sledge_104 (by decide) r38 r_p2 (fun c43 => ?_) (fun c43 => ?_)
                  ·
                    refine GO.aload dX11_sledge_109 rfl ?_
                    refine GO.dup dX11_sledge_111 rfl ?_
                    refine GO.getI h2 fl_RX11_186 rfl rfl dX11_sledge_112 (fun _ _ => ?_)
                    refine GO.iload_n dX11_sledge_115 rfl rfl ?_
                    refine GO.isub dX11_sledge_116 ?_
                    refine GO.norm (fun z44 r45 hn46 => ?_)
                    refine GO.putI h2 fp_RX11_186 rfl (by decide +kernel) r45 (r45).1 (r45).2 dX11_sledge_117 (fun V48 e47 => ?_)
                    refine GO.aload_n dX11_sledge_120 rfl rfl ?_
                    refine GO.iconst dX11_sledge_121 ?_
                    refine GO.iload dX11_sledge_122 rfl ?_
                    refine GO.callV (ci := 10) (N := mX11_tally) dX11_sledge_124 (RX11, TX11, 20) rfl gV_RX11_192 h_x (t_X11_tally h_x (ir_c rfl) r38) rfl [] rfl rfl (Nat.le_of_ble_eq_true rfl) rfl (k_vs fun V51 h50 hF49 => ?_)
                    refine GO.aload_n dX11_sledge_127 rfl rfl ?_
                    refine GO.getRaw h_x fl_RX11_12 (Eq.trans (hF49 _ _ _ h_x h_x (by decide +kernel)) (Eq.trans (uq_ne e47 (Or.inl (K_ne h_x h2 (by decide)))) (Eq.trans (hF40 _ _ _ h_x h_x (by decide +kernel)) hv36))) dX11_sledge_128 ?_
                    refine GO.getI h35 fl_RX11_145 rfl rfl dX11_sledge_131 (fun l54 u55 => ?_)
                    refine GO.iconst dX11_sledge_134 ?_
                    refine GO.iload dX11_sledge_135 rfl ?_
                    refine GO.callS (N := mJ9_max_7cf53) dX11_sledge_137 gS_RX11_296 (t_J9_max_7cf53 (ir_c rfl) r38) rfl [ti (vi V51 (vq V x 0) 0)] rfl rfl (Nat.le_of_ble_eq_true rfl) rfl (k_ip fun X56 r57 h58 => ?_)
                    have q59 : -2147483648 ≤ X37 ∧ X37 ≤ 2147483647 := r38
                    have q60 : -2147483648 ≤ X56 ∧ X56 ≤ 2147483647 := r57
                    have q61 : -2147483648 ≤ p2 ∧ p2 ≤ 2147483647 := r_p2
                    have q62 : -2147483648 ≤ vi V o1 7 ∧ vi V o1 7 ≤ 2147483647 := vi_ir
                    refine GO.iadd dX11_sledge_140 ?_
                    refine GO.name (fun z63 hz64 => ?_)
                    refine GO.istore (ls1 := [some (.ref x), some (ti p0), some (ti p1), some (ti p2), some (.ref o1), some (.ref o13), some (ti X37), some (ti z63)]) dX11_sledge_141 rfl rfl ?_
                    refine GO.aload_n dX11_sledge_143 rfl rfl ?_
                    refine GO.getRaw h_x fl_RX11_72 (Eq.trans (hF49 _ _ _ h_x h_x (by decide +kernel)) (Eq.trans (uq_ne e47 (Or.inl (K_ne h_x h2 (by decide)))) (Eq.trans (hF40 _ _ _ h_x h_x (by decide +kernel)) hv29))) dX11_sledge_144 ?_
                    refine GO.iload_n dX11_sledge_147 rfl rfl ?_
                    refine GO.aload dX11_sledge_148 rfl ?_
                    refine GO.getI h14 fl_RX11_344 rfl rfl dX11_sledge_150 (fun _ _ => ?_)
                    refine GO.iload dX11_sledge_153 rfl ?_
                    refine GO.iload_n dX11_sledge_155 rfl rfl ?_
                    refine GO.iload dX11_sledge_156 rfl ?_
                    refine GO.isub dX11_sledge_158 ?_
                    refine GO.norm (fun z67 r68 hn69 => ?_)
                    refine GO.iconst dX11_sledge_159 ?_
                    refine GO.callV (ci := 27) (N := mX8_append_k27) dX11_sledge_160 (RX8, TX8, 4) rfl gV_RX11_205 h28 (t_X8_append_k27 h28 r_p1 vi_ir ⟨by omega, by omega⟩ r68 (ir_c rfl)) rfl [] rfl rfl (Nat.le_of_ble_eq_true rfl) rfl (k_is fun X70 V74 r71 h72 hF73 => ?_)
                    refine GO.pop dX11_sledge_163 rfl ?_
                    refine GO.iload dX11_sledge_164 rfl ?_
                    exact GO.reti rfl rfl dX11_sledge_166 ⟨rfl, _, rfl, ⟨by omega, by omega⟩, trivial⟩
                  ·
                    refine GO.iconst dX11_sledge_107 ?_
                    exact GO.reti rfl rfl dX11_sledge_108 ⟨rfl, _, rfl, (ir_c rfl), trivial⟩
              ·
                have q75 := h32.2.1 (by omega)
                refine GO.iconst dX11_sledge_74 ?_
                exact GO.reti rfl rfl dX11_sledge_75 ⟨rfl, _, rfl, (ir_c rfl), trivial⟩
        ·
          refine GO.iconst dX11_sledge_42 ?_
          exact GO.reti rfl rfl dX11_sledge_43 ⟨rfl, _, rfl, (ir_c rfl), trivial⟩

set_option maxHeartbeats 1000000 in
theorem t_X11_people {K : Kmap} {V : Vmap} {x : Nat} {p0 : Int} {p1 : Int} (h_x : K x = some (0, 10)) (r_p0 : ir p0) (r_p1 : ir p1) : MC mX11_people K V [.ref x, ti p0, ti p1] (IS K (fun X V1 => (X = 0 ∨ X = 1) ∧ (X ≠ 0 → True) ∧ (X = 0 → True))) := by
  refine MC.start 1 (by decide +kernel) rfl rfl rfl (ls0 := [some (.ref x), some (ti p0), some (ti p1), none]) rfl ?_
  refine GO.aload_n dX11_people_0 rfl rfl ?_
  refine GO.iload_n dX11_people_1 rfl rfl ?_
  refine GO.callV (ci := 10) (N := mX11_standingStation) dX11_people_2 (RX11, TX11, 20) rfl gV_RX11_195 h_x (t_X11_standingStation h_x r_p0) rfl [] rfl rfl (Nat.le_of_ble_eq_true rfl) rfl (k_rp (fun h3 => ?_) (fun o1 h2 h3 => ?_))
  ·
    have rwn2 := h3.2
    have hn4 : NN 6 5 V x → ¬ STN V x p0 := h3.2
    refine GO.astore_nN (ls1 := [some (.ref x), some (ti p0), some (ti p1), some (.null)]) dX11_people_5 rfl rfl rfl ?_
    refine GO.aload_nN dX11_people_6 rfl rfl ?_
    refine GO.ifnullN (tgt := 39) dX11_people_7 (by decide) ?_
    refine GO.iconst dX11_people_39 ?_
    exact GO.retz rfl rfl dX11_people_40 (Or.inl rfl) ⟨rfl, _, rfl, (ir_c rfl), ⟨Or.inl rfl, fun _ => trivial, fun _ => trivial⟩⟩
  ·
    have hp5 : p0 ≥ 0 ∧ p0 < vi V x 6 := h3.1
    have rwp2 := h3.2
    have hq6 : o1 = plO V x (p0).toNat ∧ STN V x p0 := h3.2
    refine GO.astore_n (ls1 := [some (.ref x), some (ti p0), some (ti p1), some (.ref o1)]) dX11_people_5 rfl rfl rfl ?_
    refine GO.aload_n dX11_people_6 rfl rfl ?_
    refine GO.ifnull dX11_people_7 ?_
    refine GO.iload_n dX11_people_10 rfl rfl ?_
    refine GO.sipush dX11_people_11 rfl ?_
    refine GO.sipush dX11_people_14 rfl ?_
    refine GO.callS (N := mX11_between) dX11_people_17 gS_RX11_112 (t_X11_between r_p1 (ir_c rfl) (ir_c rfl)) rfl [] rfl rfl (Nat.le_of_ble_eq_true rfl) rfl (k_ip fun X7 r8 h9 => ?_)
    refine GO.if_eq (tgt := 39) dX11_people_20 (by decide) r8 (fun c10 => ?_) (fun c10 => ?_)
    ·
      have q11 := h9.2.2 (by omega)
      refine GO.iconst dX11_people_39 ?_
      exact GO.retz rfl rfl dX11_people_40 (Or.inl rfl) ⟨rfl, _, rfl, (ir_c rfl), ⟨Or.inl rfl, fun _ => trivial, fun _ => trivial⟩⟩
    ·
      have q12 := h9.2.1 (by omega)
      refine GO.aload_n dX11_people_23 rfl rfl ?_
      refine GO.getI h2 fl_RX11_183 rfl rfl dX11_people_24 (fun _ _ => ?_)
      refine GO.iload_n dX11_people_27 rfl rfl ?_
      refine GO.iadd dX11_people_28 ?_
      refine GO.norm (fun z13 r14 hn15 => ?_)
      refine GO.iconst dX11_people_29 ?_
      refine GO.sipush dX11_people_30 rfl ?_
      refine GO.callS (N := mX11_between) dX11_people_33 gS_RX11_112 (t_X11_between r14 (ir_c rfl) (ir_c rfl)) rfl [] rfl rfl (Nat.le_of_ble_eq_true rfl) rfl (k_ip fun X16 r17 h18 => ?_)
      refine GO.if_ne (tgt := 41) dX11_people_36 (by decide) r17 (fun c19 => ?_) (fun c19 => ?_)
      ·
        have q20 := h18.2.1 (by omega)
        refine GO.aload_n dX11_people_41 rfl rfl ?_
        refine GO.dup dX11_people_42 rfl ?_
        refine GO.getI h2 fl_RX11_183 rfl rfl dX11_people_43 (fun _ _ => ?_)
        refine GO.iload_n dX11_people_46 rfl rfl ?_
        refine GO.iadd dX11_people_47 ?_
        refine GO.norm (fun z21 r22 hn23 => ?_)
        refine GO.putI h2 fp_RX11_183 rfl (by decide +kernel) r22 (r22).1 (r22).2 dX11_people_48 (fun V25 e24 => ?_)
        refine GO.iconst dX11_people_51 ?_
        exact GO.retz rfl rfl dX11_people_52 (Or.inr rfl) ⟨rfl, _, rfl, (ir_c rfl), ⟨Or.inr rfl, fun _ => trivial, fun _ => trivial⟩⟩
      ·
        have q26 := h18.2.2 (by omega)
        refine GO.iconst dX11_people_39 ?_
        exact GO.retz rfl rfl dX11_people_40 (Or.inl rfl) ⟨rfl, _, rfl, (ir_c rfl), ⟨Or.inl rfl, fun _ => trivial, fun _ => trivial⟩⟩

set_option maxHeartbeats 1000000 in
theorem t_X11_hide {K : Kmap} {V : Vmap} {x : Nat} {p0 : Int} {p1 : Int} (h_x : K x = some (0, 10)) (r_p0 : ir p0) (r_p1 : ir p1) : MC mX11_hide K V [.ref x, ti p0, ti p1] (IS K (fun X V1 => (X = 0 ∨ X = 1) ∧ (X ≠ 0 → True) ∧ (X = 0 → True))) := by
  refine MC.start 1 (by decide +kernel) rfl rfl rfl (ls0 := [some (.ref x), some (ti p0), some (ti p1), none]) rfl ?_
  refine GO.aload_n dX11_hide_0 rfl rfl ?_
  refine GO.iload_n dX11_hide_1 rfl rfl ?_
  refine GO.callV (ci := 10) (N := mX11_standingStation) dX11_hide_2 (RX11, TX11, 20) rfl gV_RX11_195 h_x (t_X11_standingStation h_x r_p0) rfl [] rfl rfl (Nat.le_of_ble_eq_true rfl) rfl (k_rp (fun h3 => ?_) (fun o1 h2 h3 => ?_))
  ·
    have rwn2 := h3.2
    have hn4 : NN 6 5 V x → ¬ STN V x p0 := h3.2
    refine GO.astore_nN (ls1 := [some (.ref x), some (ti p0), some (ti p1), some (.null)]) dX11_hide_5 rfl rfl rfl ?_
    refine GO.aload_nN dX11_hide_6 rfl rfl ?_
    refine GO.ifnullN (tgt := 27) dX11_hide_7 (by decide) ?_
    refine GO.iconst dX11_hide_27 ?_
    exact GO.retz rfl rfl dX11_hide_28 (Or.inl rfl) ⟨rfl, _, rfl, (ir_c rfl), ⟨Or.inl rfl, fun _ => trivial, fun _ => trivial⟩⟩
  ·
    have hp5 : p0 ≥ 0 ∧ p0 < vi V x 6 := h3.1
    have rwp2 := h3.2
    have hq6 : o1 = plO V x (p0).toNat ∧ STN V x p0 := h3.2
    refine GO.astore_n (ls1 := [some (.ref x), some (ti p0), some (ti p1), some (.ref o1)]) dX11_hide_5 rfl rfl rfl ?_
    refine GO.aload_n dX11_hide_6 rfl rfl ?_
    refine GO.ifnull dX11_hide_7 ?_
    refine GO.iload_n dX11_hide_10 rfl rfl ?_
    refine GO.aload_n dX11_hide_11 rfl rfl ?_
    refine GO.getI h2 fl_RX11_186 rfl rfl dX11_hide_12 (fun _ _ => ?_)
    refine GO.icmp_gt (tgt := 27) dX11_hide_15 (by decide) r_p1 vi_ir (fun c7 => ?_) (fun c7 => ?_)
    ·
      refine GO.iconst dX11_hide_27 ?_
      exact GO.retz rfl rfl dX11_hide_28 (Or.inl rfl) ⟨rfl, _, rfl, (ir_c rfl), ⟨Or.inl rfl, fun _ => trivial, fun _ => trivial⟩⟩
    ·
      refine GO.iload_n dX11_hide_18 rfl rfl ?_
      refine GO.aload_n dX11_hide_19 rfl rfl ?_
      refine GO.getI h2 fl_RX11_421 rfl rfl dX11_hide_20 (fun _ _ => ?_)
      refine GO.ineg dX11_hide_23 ?_
      refine GO.norm (fun z8 r9 hn10 => ?_)
      refine GO.icmp_ge (tgt := 29) dX11_hide_24 (by decide) r_p1 r9 (fun c11 => ?_) (fun c11 => ?_)
      ·
        refine GO.aload_n dX11_hide_29 rfl rfl ?_
        refine GO.dup dX11_hide_30 rfl ?_
        refine GO.getI h2 fl_RX11_186 rfl rfl dX11_hide_31 (fun _ _ => ?_)
        refine GO.iload_n dX11_hide_34 rfl rfl ?_
        refine GO.isub dX11_hide_35 ?_
        refine GO.norm (fun z12 r13 hn14 => ?_)
        refine GO.putI h2 fp_RX11_186 rfl (by decide +kernel) r13 (r13).1 (r13).2 dX11_hide_36 (fun V16 e15 => ?_)
        refine GO.aload_n dX11_hide_39 rfl rfl ?_
        refine GO.dup dX11_hide_40 rfl ?_
        refine GO.getI h2 fl_RX11_421 rfl rfl dX11_hide_41 (fun _ _ => ?_)
        refine GO.iload_n dX11_hide_44 rfl rfl ?_
        refine GO.iadd dX11_hide_45 ?_
        refine GO.norm (fun z17 r18 hn19 => ?_)
        refine GO.putI h2 fp_RX11_421 rfl (by decide +kernel) r18 (r18).1 (r18).2 dX11_hide_46 (fun V21 e20 => ?_)
        refine GO.iconst dX11_hide_49 ?_
        exact GO.retz rfl rfl dX11_hide_50 (Or.inr rfl) ⟨rfl, _, rfl, (ir_c rfl), ⟨Or.inr rfl, fun _ => trivial, fun _ => trivial⟩⟩
      ·
        refine GO.iconst dX11_hide_27 ?_
        exact GO.retz rfl rfl dX11_hide_28 (Or.inl rfl) ⟨rfl, _, rfl, (ir_c rfl), ⟨Or.inl rfl, fun _ => trivial, fun _ => trivial⟩⟩

set_option maxHeartbeats 1000000 in
theorem t_X11_declare {K : Kmap} {V : Vmap} {x : Nat} {p0 : Int} {p1 : Int} {p2 : Int} (h_x : K x = some (0, 10)) (r_p0 : ir p0) (r_p1 : ir p1) (r_p2 : ir p2) : MC mX11_declare K V [.ref x, ti p0, ti p1, ti p2] (IS K (fun X V1 => (X = 0 ∨ X = 1) ∧ (X ≠ 0 → True) ∧ (X = 0 → True) ∧ (KND V x p0 1 (0 ≤ p1 ∧ p1 ≤ 500 ∧ 0 ≤ p2 ∧ p2 ≤ 1000000) X))) := by
  refine MC.start 1 (by decide +kernel) rfl rfl rfl (ls0 := [some (.ref x), some (ti p0), some (ti p1), some (ti p2), none]) rfl ?_
  refine GO.aload_n dX11_declare_0 rfl rfl ?_
  refine GO.iload_n dX11_declare_1 rfl rfl ?_
  refine GO.iconst dX11_declare_2 ?_
  refine GO.callV (ci := 10) (N := mX11_placeOf) dX11_declare_3 (RX11, TX11, 20) rfl gV_RX11_169 h_x (t_X11_placeOf h_x r_p0 (ir_c rfl)) rfl [] rfl rfl (Nat.le_of_ble_eq_true rfl) rfl (k_rp (fun h3 => ?_) (fun o1 h2 h3 => ?_))
  ·
    have rwn3 := h3.2
    have hn4 : NN 6 5 V x → ¬ PK V x p0 1 := h3.2
    refine GO.astoreN (ls1 := [some (.ref x), some (ti p0), some (ti p1), some (ti p2), some (.null)]) dX11_declare_6 rfl rfl ?_
    refine GO.aloadN dX11_declare_8 rfl ?_
    refine GO.ifnullN (tgt := 35) dX11_declare_10 (by decide) ?_
    refine GO.iconst dX11_declare_35 ?_
    exact GO.retz rfl rfl dX11_declare_36 (Or.inl rfl) ⟨rfl, _, rfl, (ir_c rfl), ⟨Or.inl rfl, fun _ => trivial, fun _ => trivial, (by first | exact KND.nk rwn3 rfl | exact KND.np (by omega) rfl)⟩⟩
  ·
    have hp5 : p0 ≥ 0 ∧ p0 < vi V x 6 := h3.1
    have rwp3 := h3.2
    have hq6 : o1 = plO V x (p0).toNat ∧ PK V x p0 1 := h3.2
    refine GO.astore (ls1 := [some (.ref x), some (ti p0), some (ti p1), some (ti p2), some (.ref o1)]) dX11_declare_6 rfl rfl ?_
    refine GO.aload dX11_declare_8 rfl ?_
    refine GO.ifnull dX11_declare_10 ?_
    refine GO.iload_n dX11_declare_13 rfl rfl ?_
    refine GO.iconst dX11_declare_14 ?_
    refine GO.sipush dX11_declare_15 rfl ?_
    refine GO.callS (N := mX11_between) dX11_declare_18 gS_RX11_112 (t_X11_between r_p1 (ir_c rfl) (ir_c rfl)) rfl [] rfl rfl (Nat.le_of_ble_eq_true rfl) rfl (k_ip fun X7 r8 h9 => ?_)
    refine GO.if_eq (tgt := 35) dX11_declare_21 (by decide) r8 (fun c10 => ?_) (fun c10 => ?_)
    ·
      have q11 := h9.2.2 (by omega)
      refine GO.iconst dX11_declare_35 ?_
      exact GO.retz rfl rfl dX11_declare_36 (Or.inl rfl) ⟨rfl, _, rfl, (ir_c rfl), ⟨Or.inl rfl, fun _ => trivial, fun _ => trivial, (by first | exact KND.np (by omega) rfl | exact KND.ok rwp3 ⟨by omega, by omega, by omega, by omega⟩ (by omega))⟩⟩
    ·
      have q12 := h9.2.1 (by omega)
      refine GO.iload_n dX11_declare_24 rfl rfl ?_
      refine GO.iconst dX11_declare_25 ?_
      refine GO.ldcw (X := 1000000) dX11_declare_26 gw_1159 rfl ?_
      refine GO.callS (N := mX11_between) dX11_declare_29 gS_RX11_112 (t_X11_between r_p2 (ir_c rfl) (ir_c rfl)) rfl [] rfl rfl (Nat.le_of_ble_eq_true rfl) rfl (k_ip fun X13 r14 h15 => ?_)
      refine GO.if_ne (tgt := 37) dX11_declare_32 (by decide) r14 (fun c16 => ?_) (fun c16 => ?_)
      ·
        have q17 := h15.2.1 (by omega)
        refine GO.aload dX11_declare_37 rfl ?_
        refine GO.iload_n dX11_declare_39 rfl rfl ?_
        refine GO.putI h2 fp_RX11_425 rfl (by decide +kernel) r_p1 (r_p1).1 (r_p1).2 dX11_declare_40 (fun V19 e18 => ?_)
        refine GO.aload dX11_declare_43 rfl ?_
        refine GO.iload_n dX11_declare_45 rfl rfl ?_
        refine GO.putI h2 fp_RX11_428 rfl (by decide +kernel) r_p2 (r_p2).1 (r_p2).2 dX11_declare_46 (fun V21 e20 => ?_)
        refine GO.iconst dX11_declare_49 ?_
        exact GO.retz rfl rfl dX11_declare_50 (Or.inr rfl) ⟨rfl, _, rfl, (ir_c rfl), ⟨Or.inr rfl, fun _ => trivial, fun _ => trivial, (by first | exact KND.np (by omega) rfl | exact KND.ok rwp3 ⟨by omega, by omega, by omega, by omega⟩ (by omega))⟩⟩
      ·
        have q22 := h15.2.2 (by omega)
        refine GO.iconst dX11_declare_35 ?_
        exact GO.retz rfl rfl dX11_declare_36 (Or.inl rfl) ⟨rfl, _, rfl, (ir_c rfl), ⟨Or.inl rfl, fun _ => trivial, fun _ => trivial, (by first | exact KND.np (by omega) rfl | exact KND.ok rwp3 ⟨by omega, by omega, by omega, by omega⟩ (by omega))⟩⟩

set_option maxHeartbeats 1000000 in
theorem t_X8_isFull_k28 {K : Kmap} {V : Vmap} {x : Nat} (h_x : K x = some (0, 28)) : MC mX8_isFull_k28 K V [.ref x] (IP K V (fun X => (X = 0 ∨ X = 1) ∧ (X ≠ 0 → vi V x 3 ≥ 60) ∧ (X = 0 → vi V x 3 ≤ 59))) := by
  refine MC.start 0 (by decide +kernel) rfl rfl rfl (ls0 := [some (.ref x)]) rfl ?_
  refine GO.aload_n dX8_isFull_0 rfl rfl ?_
  refine GO.getI h_x fl_RX8_9_k28 rfl rfl dX8_isFull_1 (fun l1 u2 => ?_)
  refine GO.aload_n dX8_isFull_4 rfl rfl ?_
  refine GO.getI h_x fl_RX8_18_k28 rfl rfl dX8_isFull_5 (fun l3 u4 => ?_)
  refine GO.icmp_lt (tgt := 15) dX8_isFull_8 (by decide) vi_ir vi_ir (fun c5 => ?_) (fun c5 => ?_)
  ·
    refine GO.iconst dX8_isFull_15 ?_
    exact GO.retz rfl rfl dX8_isFull_16 (Or.inl rfl) ⟨rfl, rfl, _, rfl, (ir_c rfl), ⟨Or.inl rfl, fun h => absurd rfl h, fun h => by omega⟩⟩
  ·
    refine GO.iconst dX8_isFull_11 ?_
    refine GO.goto (tgt := 16) dX8_isFull_12 (by decide) ?_
    exact GO.retz rfl rfl dX8_isFull_16 (Or.inr rfl) ⟨rfl, rfl, _, rfl, (ir_c rfl), ⟨Or.inr rfl, fun h => by omega, fun h => absurd h (by decide)⟩⟩

set_option maxHeartbeats 1000000 in
theorem t_X8_put_k28 {K : Kmap} {V : Vmap} {x : Nat} {p0 : Int} {p1 : Int} {p2 : Int} (h_x : K x = some (0, 28)) (r_p0 : ir p0) (r_p1 : ir p1) (r_p2 : ir p2) : MC mX8_put_k28 K V [.ref x, ti p0, ti p1, ti p2] (VS K (fun V1 => (True))) := by
  refine MC.start 2 (by decide +kernel) rfl rfl rfl (ls0 := [some (.ref x), some (ti p0), some (ti p1), some (ti p2), none, none]) rfl ?_
  refine GO.iload_n dX8_put_0 rfl rfl ?_
  refine GO.aload_n dX8_put_1 rfl rfl ?_
  refine GO.getI h_x fl_RX8_15_k28 rfl rfl dX8_put_2 (fun l1 u2 => ?_)
  refine GO.imul dX8_put_5 ?_
  refine GO.norm (fun z3 r4 hn5 => ?_)
  refine GO.iload_n dX8_put_6 rfl rfl ?_
  refine GO.iadd dX8_put_7 ?_
  refine GO.norm (fun z6 r7 hn8 => ?_)
  refine GO.istore (ls1 := [some (.ref x), some (ti p0), some (ti p1), some (ti p2), some (ti z6), none]) dX8_put_8 rfl rfl ?_
  refine GO.iload_n dX8_put_10 rfl rfl ?_
  have hj18 : ∀ (z17 : Int), ∀ (l19 : 0 ≤ z17), ∀ (u20 : z17 ≤ 1), GO mX8_put_k28 K V (VS K (fun V1 => (True))) K V 0 0 39 [some (.ref x), some (ti p0), some (ti p1), some (ti p2), some (ti z6), none] [ti z17] := by
    intro z17 l19 u20
    have r21 : ir z17 := ⟨by omega, by omega⟩
    refine GO.istore (ls1 := [some (.ref x), some (ti p0), some (ti p1), some (ti p2), some (ti z6), some (ti z17)]) dX8_put_39 rfl rfl ?_
    refine GO.iload dX8_put_41 rfl ?_
    refine GO.if_eq (tgt := 69) dX8_put_43 (by decide) r21 (fun c22 => ?_) (fun c22 => ?_)
    ·
      exact GO.retv rfl rfl dX8_put_69 ⟨rfl, rfl, trivial⟩
    ·
      refine GO.iload dX8_put_46 rfl ?_
      refine GO.if_lt (tgt := 69) dX8_put_48 (by decide) r7 (fun c23 => ?_) (fun c23 => ?_)
      ·
        exact GO.retv rfl rfl dX8_put_69 ⟨rfl, rfl, trivial⟩
      ·
        refine GO.iload dX8_put_51 rfl ?_
        refine GO.aload_n dX8_put_53 rfl rfl ?_
        refine GO.getA (n := 300) h_x fl_RX8_27_k28 rfl rfl rfl rfl dX8_put_54 (fun hv25 h24 => ?_)
        refine GO.alen h24 dX8_put_57 (fun h26 => ?_)
        refine GO.icmp_ge (tgt := 69) dX8_put_58 (by decide) r7 ⟨by omega, by omega⟩ (fun c27 => ?_) (fun c27 => ?_)
        ·
          exact GO.retv rfl rfl dX8_put_69 ⟨rfl, rfl, trivial⟩
        ·
          refine GO.aload_n dX8_put_61 rfl rfl ?_
          refine GO.getRaw h_x fl_RX8_27_k28 hv25 dX8_put_62 ?_
          refine GO.iload dX8_put_65 rfl ?_
          refine GO.iload_n dX8_put_67 rfl rfl ?_
          have q30 : -2147483648 ≤ z6 ∧ z6 ≤ 2147483647 := r7
          refine GO.iast (t := 150) rfl rfl (by decide +kernel) h24 r7 (by omega) (by omega) r_p2 (r_p2).1 (r_p2).2 dX8_put_68 (fun V32 e31 => ?_)
          exact GO.retv rfl rfl dX8_put_69 ⟨rfl, rfl, trivial⟩
  have hj41 : GO mX8_put_k28 K V (VS K (fun V1 => (True))) K V 0 0 38 [some (.ref x), some (ti p0), some (ti p1), some (ti p2), some (ti z6), none] [] := by
    skip
    refine GO.iconst dX8_put_38 ?_
    exact hj18 0 (by omega) (by omega)
  refine GO.if_lt (tgt := 38) dX8_put_11 (by decide) r_p0 (fun c42 => ?_) (fun c42 => ?_)
  ·
    exact hj41 
  ·
    refine GO.iload_n dX8_put_14 rfl rfl ?_
    refine GO.aload_n dX8_put_15 rfl rfl ?_
    refine GO.getI h_x fl_RX8_9_k28 rfl rfl dX8_put_16 (fun l43 u44 => ?_)
    refine GO.icmp_ge (tgt := 38) dX8_put_19 (by decide) r_p0 vi_ir (fun c45 => ?_) (fun c45 => ?_)
    ·
      exact hj41 
    ·
      refine GO.iload_n dX8_put_22 rfl rfl ?_
      refine GO.if_lt (tgt := 38) dX8_put_23 (by decide) r_p1 (fun c46 => ?_) (fun c46 => ?_)
      ·
        exact hj41 
      ·
        refine GO.iload_n dX8_put_26 rfl rfl ?_
        refine GO.aload_n dX8_put_27 rfl rfl ?_
        refine GO.getI h_x fl_RX8_15_k28 rfl rfl dX8_put_28 (fun l47 u48 => ?_)
        refine GO.icmp_ge (tgt := 38) dX8_put_31 (by decide) r_p1 vi_ir (fun c49 => ?_) (fun c49 => ?_)
        ·
          exact hj41 
        ·
          refine GO.iconst dX8_put_34 ?_
          refine GO.goto (tgt := 39) dX8_put_35 (by decide) ?_
          exact hj18 1 (by omega) (by omega)

set_option maxHeartbeats 1000000 in
theorem t_X8_append_k28 {K : Kmap} {V : Vmap} {x : Nat} {p0 : Int} {p1 : Int} {p2 : Int} {p3 : Int} {p4 : Int} (h_x : K x = some (0, 28)) (r_p0 : ir p0) (r_p1 : ir p1) (r_p2 : ir p2) (r_p3 : ir p3) (r_p4 : ir p4) : MC mX8_append_k28 K V [.ref x, ti p0, ti p1, ti p2, ti p3, ti p4] (IS K (fun X V1 => True)) := by
  refine MC.start 1 (by decide +kernel) rfl rfl rfl (ls0 := [some (.ref x), some (ti p0), some (ti p1), some (ti p2), some (ti p3), some (ti p4), none]) rfl ?_
  refine GO.aload_n dX8_append_0 rfl rfl ?_
  refine GO.callV (ci := 28) (N := mX8_isFull_k28) dX8_append_1 (RX8, TX8, 4) rfl gV_RX8_31 h_x (t_X8_isFull_k28 h_x) rfl [] rfl rfl (Nat.le_of_ble_eq_true rfl) rfl (k_ip fun X1 r2 h3 => ?_)
  refine GO.if_eq (tgt := 9) dX8_append_4 (by decide) r2 (fun c4 => ?_) (fun c4 => ?_)
  ·
    have q5 := h3.2.2 (by omega)
    refine GO.aload_n dX8_append_9 rfl rfl ?_
    refine GO.getI h_x fl_RX8_9_k28 rfl rfl dX8_append_10 (fun l6 u7 => ?_)
    refine GO.name (fun z8 hz9 => ?_)
    have r10 : ir z8 := hz9 ▸ vi_ir
    refine GO.istore (ls1 := [some (.ref x), some (ti p0), some (ti p1), some (ti p2), some (ti p3), some (ti p4), some (ti z8)]) dX8_append_13 rfl rfl ?_
    refine GO.aload_n dX8_append_15 rfl rfl ?_
    refine GO.dup dX8_append_16 rfl ?_
    refine GO.getI h_x fl_RX8_9_k28 rfl rfl dX8_append_17 (fun l11 u12 => ?_)
    refine GO.iconst dX8_append_20 ?_
    refine GO.iadd dX8_append_21 ?_
    have q14 : -2147483648 ≤ vi V x 3 ∧ vi V x 3 ≤ 2147483647 := vi_ir
    have q15 : -2147483648 ≤ z8 ∧ z8 ≤ 2147483647 := r10
    refine GO.putI h_x fp_RX8_9_k28 rfl (by decide +kernel) ⟨by omega, by omega⟩ (by omega) (by omega) dX8_append_22 (fun V16 e13 => ?_)
    refine GO.aload_n dX8_append_25 rfl rfl ?_
    refine GO.iload dX8_append_26 rfl ?_
    refine GO.iconst dX8_append_28 ?_
    refine GO.iload_n dX8_append_29 rfl rfl ?_
    refine GO.callV (ci := 28) (N := mX8_put_k28) dX8_append_30 (RX8, TX8, 4) rfl gV_RX8_35 h_x (t_X8_put_k28 h_x r10 (ir_c rfl) r_p0) rfl [] rfl rfl (Nat.le_of_ble_eq_true rfl) rfl (k_vs fun V19 h18 hF17 => ?_)
    refine GO.aload_n dX8_append_33 rfl rfl ?_
    refine GO.iload dX8_append_34 rfl ?_
    refine GO.iconst dX8_append_36 ?_
    refine GO.iload_n dX8_append_37 rfl rfl ?_
    refine GO.callV (ci := 28) (N := mX8_put_k28) dX8_append_38 (RX8, TX8, 4) rfl gV_RX8_35 h_x (t_X8_put_k28 h_x r10 (ir_c rfl) r_p1) rfl [] rfl rfl (Nat.le_of_ble_eq_true rfl) rfl (k_vs fun V22 h21 hF20 => ?_)
    refine GO.aload_n dX8_append_41 rfl rfl ?_
    refine GO.iload dX8_append_42 rfl ?_
    refine GO.iconst dX8_append_44 ?_
    refine GO.iload_n dX8_append_45 rfl rfl ?_
    refine GO.callV (ci := 28) (N := mX8_put_k28) dX8_append_46 (RX8, TX8, 4) rfl gV_RX8_35 h_x (t_X8_put_k28 h_x r10 (ir_c rfl) r_p2) rfl [] rfl rfl (Nat.le_of_ble_eq_true rfl) rfl (k_vs fun V25 h24 hF23 => ?_)
    refine GO.aload_n dX8_append_49 rfl rfl ?_
    refine GO.iload dX8_append_50 rfl ?_
    refine GO.iconst dX8_append_52 ?_
    refine GO.iload dX8_append_53 rfl ?_
    refine GO.callV (ci := 28) (N := mX8_put_k28) dX8_append_55 (RX8, TX8, 4) rfl gV_RX8_35 h_x (t_X8_put_k28 h_x r10 (ir_c rfl) r_p3) rfl [] rfl rfl (Nat.le_of_ble_eq_true rfl) rfl (k_vs fun V28 h27 hF26 => ?_)
    refine GO.aload_n dX8_append_58 rfl rfl ?_
    refine GO.iload dX8_append_59 rfl ?_
    refine GO.iconst dX8_append_61 ?_
    refine GO.iload dX8_append_62 rfl ?_
    refine GO.callV (ci := 28) (N := mX8_put_k28) dX8_append_64 (RX8, TX8, 4) rfl gV_RX8_35 h_x (t_X8_put_k28 h_x r10 (ir_c rfl) r_p4) rfl [] rfl rfl (Nat.le_of_ble_eq_true rfl) rfl (k_vs fun V31 h30 hF29 => ?_)
    refine GO.iload dX8_append_67 rfl ?_
    exact GO.reti rfl rfl dX8_append_69 ⟨rfl, _, rfl, r10, trivial⟩
  ·
    have q32 := h3.2.1 (by omega)
    refine GO.iconst dX8_append_7 ?_
    exact GO.reti rfl rfl dX8_append_8 ⟨rfl, _, rfl, (ir_c rfl), trivial⟩

set_option maxHeartbeats 1000000 in
theorem t_X11_visit {K : Kmap} {V : Vmap} {x : Nat} {p0 : Int} {p1 : Int} (h_x : K x = some (0, 10)) (r_p0 : ir p0) (r_p1 : ir p1) : MC mX11_visit K V [.ref x, ti p0, ti p1] (IS K (fun X V1 => True)) := by
  refine MC.start 3 (by decide +kernel) rfl rfl rfl (ls0 := [some (.ref x), some (ti p0), some (ti p1), none, none, none]) rfl ?_
  refine GO.aload_n dX11_visit_0 rfl rfl ?_
  refine GO.iload_n dX11_visit_1 rfl rfl ?_
  refine GO.callV (ci := 10) (N := mX11_partyOf) dX11_visit_2 (RX11, TX11, 20) rfl gV_RX11_151 h_x (t_X11_partyOf h_x r_p0) rfl [] rfl rfl (Nat.le_of_ble_eq_true rfl) rfl (k_rp (fun h3 => ?_) (fun o1 h2 h3 => ?_))
  ·
    have rwn2 := h3.2
    have hn4 : PN V x → p0 < 0 ∨ vi V x 4 ≤ p0 := h3.2
    refine GO.astore_nN (ls1 := [some (.ref x), some (ti p0), some (ti p1), some (.null), none, none]) dX11_visit_5 rfl rfl rfl ?_
    refine GO.aload_n dX11_visit_6 rfl rfl ?_
    refine GO.iload_n dX11_visit_7 rfl rfl ?_
    refine GO.callV (ci := 10) (N := mX11_standingStation) dX11_visit_8 (RX11, TX11, 20) rfl gV_RX11_195 h_x (t_X11_standingStation h_x r_p1) rfl [] rfl rfl (Nat.le_of_ble_eq_true rfl) rfl (k_rp (fun h7 => ?_) (fun o5 h6 h7 => ?_))
    ·
      have rwn8 := h7.2
      have hn8 : NN 6 5 V x → ¬ STN V x p1 := h7.2
      refine GO.astoreN (ls1 := [some (.ref x), some (ti p0), some (ti p1), some (.null), some (.null), none]) dX11_visit_11 rfl rfl ?_
      refine GO.aload_nN dX11_visit_13 rfl rfl ?_
      refine GO.ifnullN (tgt := 45) dX11_visit_14 (by decide) ?_
      refine GO.iconst dX11_visit_45 ?_
      exact GO.reti rfl rfl dX11_visit_46 ⟨rfl, _, rfl, (ir_c rfl), trivial⟩
    ·
      have hp9 : p1 ≥ 0 ∧ p1 < vi V x 6 := h7.1
      have rwp8 := h7.2
      have hq10 : o5 = plO V x (p1).toNat ∧ STN V x p1 := h7.2
      refine GO.astore (ls1 := [some (.ref x), some (ti p0), some (ti p1), some (.null), some (.ref o5), none]) dX11_visit_11 rfl rfl ?_
      refine GO.aload_nN dX11_visit_13 rfl rfl ?_
      refine GO.ifnullN (tgt := 45) dX11_visit_14 (by decide) ?_
      refine GO.iconst dX11_visit_45 ?_
      exact GO.reti rfl rfl dX11_visit_46 ⟨rfl, _, rfl, (ir_c rfl), trivial⟩
  ·
    have hp11 : p0 ≥ 0 ∧ p0 < vi V x 4 := h3.1
    have rwp2 := h3.2
    have hq12 : o1 = vq V (vq V x 3) (p0).toNat := h3.2
    refine GO.astore_n (ls1 := [some (.ref x), some (ti p0), some (ti p1), some (.ref o1), none, none]) dX11_visit_5 rfl rfl rfl ?_
    refine GO.aload_n dX11_visit_6 rfl rfl ?_
    refine GO.iload_n dX11_visit_7 rfl rfl ?_
    refine GO.callV (ci := 10) (N := mX11_standingStation) dX11_visit_8 (RX11, TX11, 20) rfl gV_RX11_195 h_x (t_X11_standingStation h_x r_p1) rfl [] rfl rfl (Nat.le_of_ble_eq_true rfl) rfl (k_rp (fun h15 => ?_) (fun o13 h14 h15 => ?_))
    ·
      have rwn8 := h15.2
      have hn16 : NN 6 5 V x → ¬ STN V x p1 := h15.2
      refine GO.astoreN (ls1 := [some (.ref x), some (ti p0), some (ti p1), some (.ref o1), some (.null), none]) dX11_visit_11 rfl rfl ?_
      refine GO.aload_n dX11_visit_13 rfl rfl ?_
      refine GO.ifnull dX11_visit_14 ?_
      refine GO.aloadN dX11_visit_17 rfl ?_
      refine GO.ifnullN (tgt := 45) dX11_visit_19 (by decide) ?_
      refine GO.iconst dX11_visit_45 ?_
      exact GO.reti rfl rfl dX11_visit_46 ⟨rfl, _, rfl, (ir_c rfl), trivial⟩
    ·
      have hp17 : p1 ≥ 0 ∧ p1 < vi V x 6 := h15.1
      have rwp8 := h15.2
      have hq18 : o13 = plO V x (p1).toNat ∧ STN V x p1 := h15.2
      refine GO.astore (ls1 := [some (.ref x), some (ti p0), some (ti p1), some (.ref o1), some (.ref o13), none]) dX11_visit_11 rfl rfl ?_
      refine GO.aload_n dX11_visit_13 rfl rfl ?_
      refine GO.ifnull dX11_visit_14 ?_
      refine GO.aload dX11_visit_17 rfl ?_
      refine GO.ifnull dX11_visit_19 ?_
      refine GO.aload dX11_visit_22 rfl ?_
      refine GO.getI h14 fl_RX11_173 rfl rfl dX11_visit_24 (fun _ _ => ?_)
      refine GO.iload_n dX11_visit_27 rfl rfl ?_
      refine GO.icmp_eq (tgt := 45) dX11_visit_28 (by decide) vi_ir r_p0 (fun c19 => ?_) (fun c19 => ?_)
      ·
        refine GO.iconst dX11_visit_45 ?_
        exact GO.reti rfl rfl dX11_visit_46 ⟨rfl, _, rfl, (ir_c rfl), trivial⟩
      ·
        refine GO.aload_n dX11_visit_31 rfl rfl ?_
        refine GO.aload_n dX11_visit_32 rfl rfl ?_
        refine GO.getR h_x fl_RX11_12 rfl rfl dX11_visit_33 (fun hv21 h20 => ?_)
        refine GO.getI h20 fl_RX11_145 rfl rfl dX11_visit_36 (fun l22 u23 => ?_)
        refine GO.callV (ci := 2) (N := mX2_decidesOn) dX11_visit_39 (RX2, TX2, 5) rfl gV_RX11_301 h2 (t_X2_decidesOn h2 vi_ir) rfl [] rfl rfl (Nat.le_of_ble_eq_true rfl) rfl (k_ip fun X24 r25 h26 => ?_)
        refine GO.if_ne (tgt := 47) dX11_visit_42 (by decide) r25 (fun c27 => ?_) (fun c27 => ?_)
        ·
          refine GO.aload dX11_visit_47 rfl ?_
          refine GO.getI h14 fl_RX11_183 rfl rfl dX11_visit_49 (fun _ _ => ?_)
          refine GO.aload dX11_visit_52 rfl ?_
          refine GO.getI h14 fl_RX11_425 rfl rfl dX11_visit_54 (fun _ _ => ?_)
          refine GO.isub dX11_visit_57 ?_
          refine GO.norm (fun z28 r29 hn30 => ?_)
          refine GO.istore (ls1 := [some (.ref x), some (ti p0), some (ti p1), some (.ref o1), some (.ref o13), some (ti z28)]) dX11_visit_58 rfl rfl ?_
          refine GO.aload_n dX11_visit_60 rfl rfl ?_
          refine GO.getR h_x fl_RX11_76 rfl rfl dX11_visit_61 (fun hv32 h31 => ?_)
          refine GO.iload_n dX11_visit_64 rfl rfl ?_
          refine GO.iload_n dX11_visit_65 rfl rfl ?_
          refine GO.aload_n dX11_visit_66 rfl rfl ?_
          refine GO.getRaw h_x fl_RX11_12 hv21 dX11_visit_67 ?_
          refine GO.getI h20 fl_RX11_145 rfl rfl dX11_visit_70 (fun l35 u36 => ?_)
          refine GO.iload dX11_visit_73 rfl ?_
          refine GO.aload dX11_visit_75 rfl ?_
          refine GO.getI h14 fl_RX11_186 rfl rfl dX11_visit_77 (fun _ _ => ?_)
          refine GO.aload dX11_visit_80 rfl ?_
          refine GO.getI h14 fl_RX11_428 rfl rfl dX11_visit_82 (fun _ _ => ?_)
          refine GO.isub dX11_visit_85 ?_
          refine GO.norm (fun z37 r38 hn39 => ?_)
          refine GO.callV (ci := 28) (N := mX8_append_k28) dX11_visit_86 (RX8, TX8, 4) rfl gV_RX11_205 h31 (t_X8_append_k28 h31 r_p0 r_p1 vi_ir r29 r38) rfl [] rfl rfl (Nat.le_of_ble_eq_true rfl) rfl (k_is fun X40 V44 r41 h42 hF43 => ?_)
          have q45 : -2147483648 ≤ X40 ∧ X40 ≤ 2147483647 := r41
          exact GO.reti rfl rfl dX11_visit_89 ⟨rfl, _, rfl, r41, trivial⟩
        ·
          refine GO.iconst dX11_visit_45 ?_
          exact GO.reti rfl rfl dX11_visit_46 ⟨rfl, _, rfl, (ir_c rfl), trivial⟩

set_option maxHeartbeats 1000000 in
theorem t_X8_has_k28 {K : Kmap} {V : Vmap} {x : Nat} {p0 : Int} (h_x : K x = some (0, 28)) (r_p0 : ir p0) : MC mX8_has_k28 K V [.ref x, ti p0] (IP K V (fun X => (X = 0 ∨ X = 1) ∧ (X ≠ 0 → True) ∧ (X = 0 → True))) := by
  refine MC.start 0 (by decide +kernel) rfl rfl rfl (ls0 := [some (.ref x), some (ti p0)]) rfl ?_
  refine GO.iload_n dX8_has_0 rfl rfl ?_
  refine GO.if_lt (tgt := 16) dX8_has_1 (by decide) r_p0 (fun c1 => ?_) (fun c1 => ?_)
  ·
    refine GO.iconst dX8_has_16 ?_
    exact GO.retz rfl rfl dX8_has_17 (Or.inl rfl) ⟨rfl, rfl, _, rfl, (ir_c rfl), ⟨Or.inl rfl, fun _ => trivial, fun _ => trivial⟩⟩
  ·
    refine GO.iload_n dX8_has_4 rfl rfl ?_
    refine GO.aload_n dX8_has_5 rfl rfl ?_
    refine GO.getI h_x fl_RX8_9_k28 rfl rfl dX8_has_6 (fun l2 u3 => ?_)
    refine GO.icmp_ge (tgt := 16) dX8_has_9 (by decide) r_p0 vi_ir (fun c4 => ?_) (fun c4 => ?_)
    ·
      refine GO.iconst dX8_has_16 ?_
      exact GO.retz rfl rfl dX8_has_17 (Or.inl rfl) ⟨rfl, rfl, _, rfl, (ir_c rfl), ⟨Or.inl rfl, fun _ => trivial, fun _ => trivial⟩⟩
    ·
      refine GO.iconst dX8_has_12 ?_
      refine GO.goto (tgt := 17) dX8_has_13 (by decide) ?_
      exact GO.retz rfl rfl dX8_has_17 (Or.inr rfl) ⟨rfl, rfl, _, rfl, (ir_c rfl), ⟨Or.inr rfl, fun _ => trivial, fun _ => trivial⟩⟩

set_option maxHeartbeats 1000000 in
theorem t_X8_get_k28 {K : Kmap} {V : Vmap} {x : Nat} {p0 : Int} {p1 : Int} (h_x : K x = some (0, 28)) (r_p0 : ir p0) (r_p1 : ir p1) : MC mX8_get_k28 K V [.ref x, ti p0, ti p1] (IP K V (fun X => True)) := by
  refine MC.start 2 (by decide +kernel) rfl rfl rfl (ls0 := [some (.ref x), some (ti p0), some (ti p1), none, none]) rfl ?_
  refine GO.iload_n dX8_get_0 rfl rfl ?_
  refine GO.aload_n dX8_get_1 rfl rfl ?_
  refine GO.getI h_x fl_RX8_15_k28 rfl rfl dX8_get_2 (fun l1 u2 => ?_)
  refine GO.imul dX8_get_5 ?_
  refine GO.norm (fun z3 r4 hn5 => ?_)
  refine GO.iload_n dX8_get_6 rfl rfl ?_
  refine GO.iadd dX8_get_7 ?_
  refine GO.norm (fun z6 r7 hn8 => ?_)
  refine GO.istore_n (ls1 := [some (.ref x), some (ti p0), some (ti p1), some (ti z6), none]) dX8_get_8 rfl rfl rfl ?_
  refine GO.iload_n dX8_get_9 rfl rfl ?_
  have hj18 : ∀ (z17 : Int), ∀ (l19 : 0 ≤ z17), ∀ (u20 : z17 ≤ 1), GO mX8_get_k28 K V (IP K V (fun X => True)) K V 0 0 38 [some (.ref x), some (ti p0), some (ti p1), some (ti z6), none] [ti z17] := by
    intro z17 l19 u20
    have r21 : ir z17 := ⟨by omega, by omega⟩
    refine GO.istore (ls1 := [some (.ref x), some (ti p0), some (ti p1), some (ti z6), some (ti z17)]) dX8_get_38 rfl rfl ?_
    refine GO.iload dX8_get_40 rfl ?_
    refine GO.if_eq (tgt := 67) dX8_get_42 (by decide) r21 (fun c22 => ?_) (fun c22 => ?_)
    ·
      refine GO.iconst dX8_get_67 ?_
      exact GO.reti rfl rfl dX8_get_68 ⟨rfl, rfl, _, rfl, (ir_c rfl), trivial⟩
    ·
      refine GO.iload_n dX8_get_45 rfl rfl ?_
      refine GO.if_lt (tgt := 67) dX8_get_46 (by decide) r7 (fun c23 => ?_) (fun c23 => ?_)
      ·
        refine GO.iconst dX8_get_67 ?_
        exact GO.reti rfl rfl dX8_get_68 ⟨rfl, rfl, _, rfl, (ir_c rfl), trivial⟩
      ·
        refine GO.iload_n dX8_get_49 rfl rfl ?_
        refine GO.aload_n dX8_get_50 rfl rfl ?_
        refine GO.getA (n := 300) h_x fl_RX8_27_k28 rfl rfl rfl rfl dX8_get_51 (fun hv25 h24 => ?_)
        refine GO.alen h24 dX8_get_54 (fun h26 => ?_)
        refine GO.icmp_ge (tgt := 67) dX8_get_55 (by decide) r7 ⟨by omega, by omega⟩ (fun c27 => ?_) (fun c27 => ?_)
        ·
          refine GO.iconst dX8_get_67 ?_
          exact GO.reti rfl rfl dX8_get_68 ⟨rfl, rfl, _, rfl, (ir_c rfl), trivial⟩
        ·
          refine GO.aload_n dX8_get_58 rfl rfl ?_
          refine GO.getRaw h_x fl_RX8_27_k28 hv25 dX8_get_59 ?_
          refine GO.iload_n dX8_get_62 rfl rfl ?_
          have q30 : -2147483648 ≤ z6 ∧ z6 ≤ 2147483647 := r7
          refine GO.iald (t := 150) rfl rfl h24 r7 (by omega) (by omega) dX8_get_63 (fun _ _ => ?_)
          refine GO.goto (tgt := 68) dX8_get_64 (by decide) ?_
          have q31 : -2147483648 ≤ vi V (vq V x 2) (z6).toNat ∧ vi V (vq V x 2) (z6).toNat ≤ 2147483647 := vi_ir
          exact GO.reti rfl rfl dX8_get_68 ⟨rfl, rfl, _, rfl, vi_ir, trivial⟩
  have hj40 : GO mX8_get_k28 K V (IP K V (fun X => True)) K V 0 0 37 [some (.ref x), some (ti p0), some (ti p1), some (ti z6), none] [] := by
    skip
    refine GO.iconst dX8_get_37 ?_
    exact hj18 0 (by omega) (by omega)
  refine GO.if_lt (tgt := 37) dX8_get_10 (by decide) r_p0 (fun c41 => ?_) (fun c41 => ?_)
  ·
    exact hj40 
  ·
    refine GO.iload_n dX8_get_13 rfl rfl ?_
    refine GO.aload_n dX8_get_14 rfl rfl ?_
    refine GO.getI h_x fl_RX8_9_k28 rfl rfl dX8_get_15 (fun l42 u43 => ?_)
    refine GO.icmp_ge (tgt := 37) dX8_get_18 (by decide) r_p0 vi_ir (fun c44 => ?_) (fun c44 => ?_)
    ·
      exact hj40 
    ·
      refine GO.iload_n dX8_get_21 rfl rfl ?_
      refine GO.if_lt (tgt := 37) dX8_get_22 (by decide) r_p1 (fun c45 => ?_) (fun c45 => ?_)
      ·
        exact hj40 
      ·
        refine GO.iload_n dX8_get_25 rfl rfl ?_
        refine GO.aload_n dX8_get_26 rfl rfl ?_
        refine GO.getI h_x fl_RX8_15_k28 rfl rfl dX8_get_27 (fun l46 u47 => ?_)
        refine GO.icmp_ge (tgt := 37) dX8_get_30 (by decide) r_p1 vi_ir (fun c48 => ?_) (fun c48 => ?_)
        ·
          exact hj40 
        ·
          refine GO.iconst dX8_get_33 ?_
          refine GO.goto (tgt := 38) dX8_get_34 (by decide) ?_
          exact hj18 1 (by omega) (by omega)

set_option maxHeartbeats 1000000 in
theorem t_X11_seen {K : Kmap} {V : Vmap} {x : Nat} {p0 : Int} {p1 : Int} (h_x : K x = some (0, 10)) (r_p0 : ir p0) (r_p1 : ir p1) : MC mX11_seen K V [.ref x, ti p0, ti p1] (IP K V (fun X => True)) := by
  refine MC.start 0 (by decide +kernel) rfl rfl rfl (ls0 := [some (.ref x), some (ti p0), some (ti p1)]) rfl ?_
  refine GO.aload_n dX11_seen_0 rfl rfl ?_
  refine GO.getR h_x fl_RX11_76 rfl rfl dX11_seen_1 (fun hv2 h1 => ?_)
  refine GO.iload_n dX11_seen_4 rfl rfl ?_
  refine GO.callV (ci := 28) (N := mX8_has_k28) dX11_seen_5 (RX8, TX8, 4) rfl gV_RX11_431 h1 (t_X8_has_k28 h1 r_p0) rfl [] rfl rfl (Nat.le_of_ble_eq_true rfl) rfl (k_ip fun X3 r4 h5 => ?_)
  refine GO.if_eq (tgt := 20) dX11_seen_8 (by decide) r4 (fun c6 => ?_) (fun c6 => ?_)
  ·
    refine GO.ldcw (X := (-1000000)) dX11_seen_20 gw_1169 rfl ?_
    exact GO.reti rfl rfl dX11_seen_23 ⟨rfl, rfl, _, rfl, (ir_c rfl), trivial⟩
  ·
    refine GO.iload_n dX11_seen_11 rfl rfl ?_
    refine GO.iconst dX11_seen_12 ?_
    refine GO.iconst dX11_seen_13 ?_
    refine GO.callS (N := mX11_between) dX11_seen_14 gS_RX11_112 (t_X11_between r_p1 (ir_c rfl) (ir_c rfl)) rfl [] rfl rfl (Nat.le_of_ble_eq_true rfl) rfl (k_ip fun X7 r8 h9 => ?_)
    refine GO.if_ne (tgt := 24) dX11_seen_17 (by decide) r8 (fun c10 => ?_) (fun c10 => ?_)
    ·
      have q11 := h9.2.1 (by omega)
      refine GO.aload_n dX11_seen_24 rfl rfl ?_
      refine GO.getRaw h_x fl_RX11_76 hv2 dX11_seen_25 ?_
      refine GO.iload_n dX11_seen_28 rfl rfl ?_
      refine GO.iload_n dX11_seen_29 rfl rfl ?_
      refine GO.callV (ci := 28) (N := mX8_get_k28) dX11_seen_30 (RX8, TX8, 4) rfl gV_RX11_209 h1 (t_X8_get_k28 h1 r_p0 r_p1) rfl [] rfl rfl (Nat.le_of_ble_eq_true rfl) rfl (k_ip fun X14 r15 h16 => ?_)
      have q17 : -2147483648 ≤ X14 ∧ X14 ≤ 2147483647 := r15
      exact GO.reti rfl rfl dX11_seen_33 ⟨rfl, rfl, _, rfl, r15, trivial⟩
    ·
      have q18 := h9.2.2 (by omega)
      refine GO.ldcw (X := (-1000000)) dX11_seen_20 gw_1169 rfl ?_
      exact GO.reti rfl rfl dX11_seen_23 ⟨rfl, rfl, _, rfl, (ir_c rfl), trivial⟩

set_option maxHeartbeats 1000000 in
theorem t_X4_get_n {K : Kmap} {V : Vmap} {p1 : Int} (r_p1 : ir p1) : MC mX4_get_n K V [.null, ti p1] (IP K V (fun X => X = 0)) := by
  refine MC.start 0 (by decide +kernel) rfl rfl rfl (ls0 := [some (.null), some (ti p1)]) rfl ?_
  refine GO.aload_nN dX4_get_0 rfl rfl ?_
  refine GO.ifnullN (tgt := 20) dX4_get_1 (by decide) ?_
  refine GO.iconst dX4_get_20 ?_
  exact GO.reti rfl rfl dX4_get_21 ⟨rfl, rfl, _, rfl, (ir_c rfl), by omega⟩

set_option maxHeartbeats 1000000 in
theorem t_X4_put_n {K : Kmap} {V : Vmap} {p1 : Int} {p2 : Int} (r_p1 : ir p1) (r_p2 : ir p2) : MC mX4_put_n K V [.null, ti p1, ti p2] (VS K (fun V1 => (True))) := by
  refine MC.start 0 (by decide +kernel) rfl rfl rfl (ls0 := [some (.null), some (ti p1), some (ti p2)]) rfl ?_
  refine GO.aload_nN dX4_put_0 rfl rfl ?_
  refine GO.ifnullN (tgt := 18) dX4_put_1 (by decide) ?_
  exact GO.retv rfl rfl dX4_put_18 ⟨rfl, rfl, trivial⟩
