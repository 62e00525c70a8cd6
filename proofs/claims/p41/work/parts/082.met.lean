def mX0_nearestOpen : MRec := (RX0, cX0_nearestOpen, 5, (some .int), yX0_nearestOpen, 1, 21, 0, 0, 0)
def mX0_step : MRec := (RX0, cX0_step, 5, (none : Option Jvm.ClassFile.FieldType), yX0_step, 2, 43, 0, 0, 2582249878086908589655919172003011874329705792829223512830659356540647622016841194629645353280137831435903171972747493376)
def mX4_put_t130 : MRec := (RX4, cX4_put, 3, (none : Option Jvm.ClassFile.FieldType), yX4_put, 0, 0, 0, 0, 5164499756173817179311838344006023748659411585658447025661318713081295244033682389259290706560275662871806343945494986752)
def mX0_leastDays : MRec := (RX0, cX0_leastDays, 6, (some .int), yX0_leastDays, 3, 67, 0, 0, 7746749634260725768967757516009035622989117378487670538491978069621942866050523583888936059840413494307709515918242480128)
def mX1_textOf : MRec := (RX1, cX1_textOf, 2, (some (.object "IceTreaty$Text")), yX1_textOf, 0, 0, 0, 0, 0)
def mX1_forget : MRec := (RX1, cX1_forget, 1, (none : Option Jvm.ClassFile.FieldType), yX1_forget, 0, 0, 0, 0, 1048576)
def mX1_addText : MRec := (RX1, cX1_addText, 2, (some .int), yX1_addText, 1, 20, 0, 0, 971334446112864535459730953411759453321203419526069760625906204869452142602605314048)
def mX8_isFull_k32 : MRec := (RX8, cX8_isFull, 1, (some .boolean), yX8_isFull, 0, 0, 0, 0, 0)
def mX8_put_k32 : MRec := (RX8, cX8_put, 6, (none : Option Jvm.ClassFile.FieldType), yX8_put, 0, 0, 0, 0, 86645927941275464361825443254471365732388658605494267974077486894206915868925800719999200190754361815543475342543861619655442432)
def mX8_append_k32 : MRec := (RX8, cX8_append, 7, (some .int), yX8_append, 1, 25, 0, 0, 156764265941034957982331212844852467344711417043899710759469297619722251722216253787602453346246056153134554236936354135148784652093343873615573999974294678665995236455902423275551612505596501499576320000)
def mX1_addReading : MRec := (RX1, cX1_addReading, 6, (none : Option Jvm.ClassFile.FieldType), yX1_addReading, 2, 51, 0, 0, 156764265941034957982331212844852467344711417043899710759469297619722251722909421211132657061140659699170325162795463403992738795885963768769229326925701084425988837981937317799899415245947394456819859456)
def mX9_isInForce : MRec := (RX9, cX9_isInForce, 2, (some .boolean), yX9_isInForce, 0, 0, 0, 0, 0)
def mX4_fill_t133 : MRec := (RX4, cX4_fill, 3, (none : Option Jvm.ClassFile.FieldType), yX4_fill, 0, 0, 0, 0, 41315998049390537434494706752048189989275292685267576205290549704650361952269459114074325652482205302974450751563959894016)
def mX4_fill_t134 : MRec := (RX4, cX4_fill, 3, (none : Option Jvm.ClassFile.FieldType), yX4_fill, 0, 0, 0, 0, 82631996098781074868989413504096379978550585370535152410581099409300723904538918228148651304964410605948901503127919788032)
def mX8_get : MRec := (RX8, cX8_get, 5, (some .int), yX8_get, 0, 0, 0, 0, 0)
set_option maxHeartbeats 1000000 in
theorem t_X0_nearestOpen {K : Kmap} {V : Vmap} {x : Nat} (h_x : K x = some (0, 0)) : MC mX0_nearestOpen K V [.ref x] (IP K V (fun X => True)) := by
  refine MC.start 4 (by decide +kernel) rfl rfl rfl (ls0 := [some (.ref x), none, none, none, none]) rfl ?_
  refine GO.iconst dX0_nearestOpen_0 ?_
  refine GO.istore_n (ls1 := [some (.ref x), some (ti (-1)), none, none, none]) dX0_nearestOpen_1 rfl rfl rfl ?_
  refine GO.iconst dX0_nearestOpen_2 ?_
  refine GO.istore_n (ls1 := [some (.ref x), some (ti (-1)), some (ti 0), none, none]) dX0_nearestOpen_3 rfl rfl rfl ?_
  refine GO.loop2 (fun i1 i2 W => (-1) ≤ i1 ∧ i1 ≤ 143 ∧ 0 ≤ i2 ∧ i2 ≤ 144 ∧ V = W) (fun i1 i2 => [some (.ref x), some (ti i1), some (ti i2), none, none]) (fun i1 i2 W => (2147483647 - i2).toNat) (-1) 0 ⟨by omega, by omega, by omega, by omega, rfl⟩ rfl (fun i1 i2 V420 hp422 ih421 => ?_)
  obtain ⟨l_i1, u_i1, l_i2, u_i2, rfl⟩ := hp422
  have r_i1 : ir i1 := ⟨by omega, by omega⟩
  have r_i2 : ir i2 := ⟨by omega, by omega⟩
  show GO mX0_nearestOpen K V (IP K V (fun X => True)) K V 0 0 4 [some (.ref x), some (ti i1), some (ti i2), none, none] []
  refine GO.iload_n dX0_nearestOpen_4 rfl rfl ?_
  refine GO.aload_n dX0_nearestOpen_5 rfl rfl ?_
  refine GO.getI h_x fl_RX0_21 rfl rfl dX0_nearestOpen_6 (fun l423 u424 => ?_)
  refine GO.aload_n dX0_nearestOpen_9 rfl rfl ?_
  refine GO.getI h_x fl_RX0_24 rfl rfl dX0_nearestOpen_10 (fun l425 u426 => ?_)
  refine GO.imul dX0_nearestOpen_13 ?_
  have m427 := mul_rng (a := vi V x 3) (b := vi V x 4) (A := 12) (B := 12) (by omega) (by omega) (by omega) (by omega)
  have m428 := mul_low (a := vi V x 3) (b := vi V x 4) (m := 4) (n := 4) (by omega) (by omega) (by omega) (by omega)
  refine GO.icmp_ge (tgt := 79) dX0_nearestOpen_14 (by decide) r_i2 ⟨by omega, by omega⟩ (fun c429 => ?_) (fun c429 => ?_)
  ·
    refine GO.iload_n dX0_nearestOpen_79 rfl rfl ?_
    exact GO.reti rfl rfl dX0_nearestOpen_80 ⟨rfl, rfl, _, rfl, r_i1, trivial⟩
  ·
    refine GO.aload_n dX0_nearestOpen_17 rfl rfl ?_
    refine GO.getA (n := 144) h_x fl_RX0_46 rfl rfl rfl rfl dX0_nearestOpen_18 (fun hv431 h430 => ?_)
    refine GO.iload_n dX0_nearestOpen_21 rfl rfl ?_
    refine GO.callS (N := mX4_get) dX0_nearestOpen_22 gS_RX0_58 (t_X4_get rfl h430 r_i2) rfl [] rfl rfl (Nat.le_of_ble_eq_true rfl) rfl (k_ip fun X432 r433 h434 => ?_)
    have raw_get := h434.2
    have rw22 := h434.2
    refine GO.istore_n (ls1 := [some (.ref x), some (ti i1), some (ti i2), some (ti X432), none]) dX0_nearestOpen_25 rfl rfl rfl ?_
    refine GO.iload_n dX0_nearestOpen_26 rfl rfl ?_
    refine GO.iconst dX0_nearestOpen_27 ?_
    have hj443 : ∀ (z442 : Int), ∀ (l444 : 0 ≤ z442), ∀ (u445 : z442 ≤ 1), GO mX0_nearestOpen K V (IP K V (fun X => True)) K V 0 0 47 [some (.ref x), some (ti i1), some (ti i2), some (ti X432), none] [ti z442] := by
      intro z442 l444 u445
      have r446 : ir z442 := ⟨by omega, by omega⟩
      refine GO.istore (ls1 := [some (.ref x), some (ti i1), some (ti i2), some (ti X432), some (ti z442)]) dX0_nearestOpen_47 rfl rfl ?_
      refine GO.iload dX0_nearestOpen_49 rfl ?_
      refine GO.if_eq (tgt := 73) dX0_nearestOpen_51 (by decide) r446 (fun c447 => ?_) (fun c447 => ?_)
      ·
        refine GO.iinc (X := i2) (n := 1) (Y := i2 + 1) (ls1 := [some (.ref x), some (ti i1), some (ti (i2 + 1)), some (ti X432), some (ti z442)]) dX0_nearestOpen_73 rfl rfl rfl rfl ?_
        refine GO.goto (tgt := 4) dX0_nearestOpen_76 (by decide) ?_
        refine GO.drop [true, true, true, false, false] rfl ?_
        exact ih421 i1 (i2 + 1) V ⟨by omega, by omega, by omega, by omega, rfl⟩ (by show (2147483647 - (i2 + 1)).toNat < (2147483647 - i2).toNat; omega)
      ·
        refine GO.iload_n dX0_nearestOpen_54 rfl rfl ?_
        refine GO.iconst dX0_nearestOpen_55 ?_
        refine GO.icmp_eq (tgt := 71) dX0_nearestOpen_56 (by decide) r_i1 (ir_c rfl) (fun c448 => ?_) (fun c448 => ?_)
        ·
          refine GO.iload_n dX0_nearestOpen_71 rfl rfl ?_
          refine GO.istore_n (ls1 := [some (.ref x), some (ti i2), some (ti i2), some (ti X432), some (ti z442)]) dX0_nearestOpen_72 rfl rfl rfl ?_
          refine GO.iinc (X := i2) (n := 1) (Y := i2 + 1) (ls1 := [some (.ref x), some (ti i2), some (ti (i2 + 1)), some (ti X432), some (ti z442)]) dX0_nearestOpen_73 rfl rfl rfl rfl ?_
          refine GO.goto (tgt := 4) dX0_nearestOpen_76 (by decide) ?_
          refine GO.drop [true, true, true, false, false] rfl ?_
          exact ih421 i2 (i2 + 1) V ⟨by omega, by omega, by omega, by omega, rfl⟩ (by show (2147483647 - (i2 + 1)).toNat < (2147483647 - i2).toNat; omega)
        ·
          refine GO.iload_n dX0_nearestOpen_59 rfl rfl ?_
          refine GO.aload_n dX0_nearestOpen_60 rfl rfl ?_
          refine GO.getRaw h_x fl_RX0_46 hv431 dX0_nearestOpen_61 ?_
          refine GO.iload_n dX0_nearestOpen_64 rfl rfl ?_
          refine GO.callS (N := mX4_get) dX0_nearestOpen_65 gS_RX0_58 (t_X4_get rfl h430 r_i1) rfl [ti X432] rfl rfl (Nat.le_of_ble_eq_true rfl) rfl (k_ip fun X451 r452 h453 => ?_)
          have raw_get := h453.2
          have rw65 := h453.2
          refine GO.icmp_ge (tgt := 73) dX0_nearestOpen_68 (by decide) r433 r452 (fun c454 => ?_) (fun c454 => ?_)
          ·
            refine GO.iinc (X := i2) (n := 1) (Y := i2 + 1) (ls1 := [some (.ref x), some (ti i1), some (ti (i2 + 1)), some (ti X432), some (ti z442)]) dX0_nearestOpen_73 rfl rfl rfl rfl ?_
            refine GO.goto (tgt := 4) dX0_nearestOpen_76 (by decide) ?_
            refine GO.drop [true, true, true, false, false] rfl ?_
            exact ih421 i1 (i2 + 1) V ⟨by omega, by omega, by omega, by omega, rfl⟩ (by show (2147483647 - (i2 + 1)).toNat < (2147483647 - i2).toNat; omega)
          ·
            refine GO.iload_n dX0_nearestOpen_71 rfl rfl ?_
            refine GO.istore_n (ls1 := [some (.ref x), some (ti i2), some (ti i2), some (ti X432), some (ti z442)]) dX0_nearestOpen_72 rfl rfl rfl ?_
            refine GO.iinc (X := i2) (n := 1) (Y := i2 + 1) (ls1 := [some (.ref x), some (ti i2), some (ti (i2 + 1)), some (ti X432), some (ti z442)]) dX0_nearestOpen_73 rfl rfl rfl rfl ?_
            refine GO.goto (tgt := 4) dX0_nearestOpen_76 (by decide) ?_
            refine GO.drop [true, true, true, false, false] rfl ?_
            exact ih421 i2 (i2 + 1) V ⟨by omega, by omega, by omega, by omega, rfl⟩ (by show (2147483647 - (i2 + 1)).toNat < (2147483647 - i2).toNat; omega)
    have hj462 : GO mX0_nearestOpen K V (IP K V (fun X => True)) K V 0 0 46 [some (.ref x), some (ti i1), some (ti i2), some (ti X432), none] [] := by
      skip
      refine GO.iconst dX0_nearestOpen_46 ?_
      exact hj443 0 (by omega) (by omega)
    refine GO.icmp_eq (tgt := 46) dX0_nearestOpen_28 (by decide) r433 (ir_c rfl) (fun c463 => ?_) (fun c463 => ?_)
    ·
      exact hj462 
    ·
      refine GO.aload_n dX0_nearestOpen_31 rfl rfl ?_
      refine GO.getA (n := 144) h_x fl_RX0_49 rfl rfl rfl rfl dX0_nearestOpen_32 (fun hv465 h464 => ?_)
      refine GO.iload_n dX0_nearestOpen_35 rfl rfl ?_
      refine GO.callS (N := mX4_get) dX0_nearestOpen_36 gS_RX0_58 (t_X4_get rfl h464 r_i2) rfl [] rfl rfl (Nat.le_of_ble_eq_true rfl) rfl (k_ip fun X466 r467 h468 => ?_)
      have raw_get := h468.2
      have rw36 := h468.2
      refine GO.if_ne (tgt := 46) dX0_nearestOpen_39 (by decide) r467 (fun c469 => ?_) (fun c469 => ?_)
      ·
        exact hj462 
      ·
        refine GO.iconst dX0_nearestOpen_42 ?_
        refine GO.goto (tgt := 47) dX0_nearestOpen_43 (by decide) ?_
        exact hj443 1 (by omega) (by omega)

set_option maxHeartbeats 1000000 in
theorem t_X0_step {K : Kmap} {V : Vmap} {x : Nat} {p0 : Int} {p1 : Int} (h_x : K x = some (0, 0)) (r_p0 : ir p0) (r_p1 : ir p1) : MC mX0_step K V [.ref x, ti p0, ti p1] (VS K (fun V1 => (True))) := by
  refine MC.start 2 (by decide +kernel) rfl rfl rfl (ls0 := [some (.ref x), some (ti p0), some (ti p1), none, none]) rfl ?_
  refine GO.aload_n dX0_step_0 rfl rfl ?_
  refine GO.iload_n dX0_step_1 rfl rfl ?_
  refine GO.callV (ci := 0) (N := mX0_isFirm) dX0_step_2 (RX0, TX0, 13) rfl gV_RX0_107 h_x (t_X0_isFirm h_x r_p1) rfl [] rfl rfl (Nat.le_of_ble_eq_true rfl) rfl (k_ip fun X1 r2 h3 => ?_)
  have raw_isFirm := h3.2.2.2
  have rw2 := h3.2.2.2
  refine GO.if_ne (tgt := 9) dX0_step_5 (by decide) r2 (fun c4 => ?_) (fun c4 => ?_)
  ·
    refine GO.aload_n dX0_step_9 rfl rfl ?_
    refine GO.getA (n := 144) h_x fl_RX0_27 rfl rfl rfl rfl dX0_step_10 (fun hv6 h5 => ?_)
    refine GO.iload_n dX0_step_13 rfl rfl ?_
    refine GO.callS (N := mX4_get) dX0_step_14 gS_RX0_58 (t_X4_get rfl h5 r_p0) rfl [] rfl rfl (Nat.le_of_ble_eq_true rfl) rfl (k_ip fun X7 r8 h9 => ?_)
    have raw_get := h9.2
    have rw14 := h9.2
    refine GO.aload_n dX0_step_17 rfl rfl ?_
    refine GO.getRaw h_x fl_RX0_27 hv6 dX0_step_18 ?_
    refine GO.iload_n dX0_step_21 rfl rfl ?_
    refine GO.callS (N := mX4_get) dX0_step_22 gS_RX0_58 (t_X4_get rfl h5 r_p1) rfl [ti X7] rfl rfl (Nat.le_of_ble_eq_true rfl) rfl (k_ip fun X12 r13 h14 => ?_)
    have raw_get := h14.2
    have rw22 := h14.2
    refine GO.isub dX0_step_25 ?_
    refine GO.norm (fun z15 r16 hn17 => ?_)
    refine GO.callS (N := mJ9_abs_0f7a4) dX0_step_26 gS_RX0_70 (t_J9_abs_0f7a4 r16) rfl [] rfl rfl (Nat.le_of_ble_eq_true rfl) rfl (k_ip fun X18 r19 h20 => ?_)
    refine GO.istore_n (ls1 := [some (.ref x), some (ti p0), some (ti p1), some (ti X18), none]) dX0_step_29 rfl rfl rfl ?_
    refine GO.aload_n dX0_step_30 rfl rfl ?_
    refine GO.getA (n := 144) h_x fl_RX0_46 rfl rfl rfl rfl dX0_step_31 (fun hv22 h21 => ?_)
    refine GO.iload_n dX0_step_34 rfl rfl ?_
    refine GO.callS (N := mX4_get) dX0_step_35 gS_RX0_58 (t_X4_get rfl h21 r_p0) rfl [] rfl rfl (Nat.le_of_ble_eq_true rfl) rfl (k_ip fun X23 r24 h25 => ?_)
    have raw_get := h25.2
    have rw35 := h25.2
    refine GO.iconst dX0_step_38 ?_
    refine GO.iadd dX0_step_39 ?_
    refine GO.norm (fun z26 r27 hn28 => ?_)
    refine GO.iload_n dX0_step_40 rfl rfl ?_
    refine GO.iadd dX0_step_41 ?_
    refine GO.norm (fun z29 r30 hn31 => ?_)
    refine GO.istore (ls1 := [some (.ref x), some (ti p0), some (ti p1), some (ti X18), some (ti z29)]) dX0_step_42 rfl rfl ?_
    refine GO.aload_n dX0_step_44 rfl rfl ?_
    refine GO.getRaw h_x fl_RX0_46 hv22 dX0_step_45 ?_
    refine GO.iload_n dX0_step_48 rfl rfl ?_
    refine GO.callS (N := mX4_get) dX0_step_49 gS_RX0_58 (t_X4_get rfl h21 r_p1) rfl [] rfl rfl (Nat.le_of_ble_eq_true rfl) rfl (k_ip fun X34 r35 h36 => ?_)
    have raw_get := h36.2
    have rw49 := h36.2
    refine GO.iconst dX0_step_52 ?_
    refine GO.icmp_eq (tgt := 69) dX0_step_53 (by decide) r35 (ir_c rfl) (fun c37 => ?_) (fun c37 => ?_)
    ·
      refine GO.aload_n dX0_step_69 rfl rfl ?_
      refine GO.getRaw h_x fl_RX0_46 hv22 dX0_step_70 ?_
      refine GO.iload_n dX0_step_73 rfl rfl ?_
      refine GO.iload dX0_step_74 rfl ?_
      refine GO.callS (N := mX4_put_t129) dX0_step_76 gS_RX0_95 (t_X4_put_t129 h21 r_p1 r30) rfl [] rfl rfl (Nat.le_of_ble_eq_true rfl) rfl (k_vs fun V42 h41 hF40 => ?_)
      have raw_put := h41.2
      have rw76 := h41.2
      exact GO.retv rfl rfl dX0_step_79 ⟨rfl, rfl, trivial⟩
    ·
      refine GO.iload dX0_step_56 rfl ?_
      refine GO.aload_n dX0_step_58 rfl rfl ?_
      refine GO.getRaw h_x fl_RX0_46 hv22 dX0_step_59 ?_
      refine GO.iload_n dX0_step_62 rfl rfl ?_
      refine GO.callS (N := mX4_get) dX0_step_63 gS_RX0_58 (t_X4_get rfl h21 r_p1) rfl [ti z29] rfl rfl (Nat.le_of_ble_eq_true rfl) rfl (k_ip fun X45 r46 h47 => ?_)
      have raw_get := h47.2
      have rw63 := h47.2
      refine GO.icmp_ge (tgt := 79) dX0_step_66 (by decide) r30 r46 (fun c48 => ?_) (fun c48 => ?_)
      ·
        exact GO.retv rfl rfl dX0_step_79 ⟨rfl, rfl, trivial⟩
      ·
        refine GO.aload_n dX0_step_69 rfl rfl ?_
        refine GO.getRaw h_x fl_RX0_46 hv22 dX0_step_70 ?_
        refine GO.iload_n dX0_step_73 rfl rfl ?_
        refine GO.iload dX0_step_74 rfl ?_
        refine GO.callS (N := mX4_put_t129) dX0_step_76 gS_RX0_95 (t_X4_put_t129 h21 r_p1 r30) rfl [] rfl rfl (Nat.le_of_ble_eq_true rfl) rfl (k_vs fun V53 h52 hF51 => ?_)
        have raw_put := h52.2
        have rw76 := h52.2
        exact GO.retv rfl rfl dX0_step_79 ⟨rfl, rfl, trivial⟩
  ·
    exact GO.retv rfl rfl dX0_step_8 ⟨rfl, rfl, trivial⟩

set_option maxHeartbeats 1000000 in
theorem t_X4_put_t130 {K : Kmap} {V : Vmap} {p0 n_p0 : Nat} {p1 : Int} {p2 : Int} (h_p0 : K p0 = some (131, n_p0)) (r_p1 : ir p1) (r_p2 : ir p2) : MC mX4_put_t130 K V [.ref p0, ti p1, ti p2] (VS K (fun V1 => (True) ∧ (V1 = rpv V p0 n_p0 p1 p2))) := by
  refine MC.start 0 (by decide +kernel) rfl rfl rfl (ls0 := [some (.ref p0), some (ti p1), some (ti p2)]) rfl ?_
  refine GO.aload_n dX4_put_0 rfl rfl ?_
  refine GO.ifnull dX4_put_1 ?_
  refine GO.iload_n dX4_put_4 rfl rfl ?_
  refine GO.if_lt (tgt := 18) dX4_put_5 (by decide) r_p1 (fun c1 => ?_) (fun c1 => ?_)
  ·
    exact GO.retv rfl rfl dX4_put_18 ⟨rfl, rfl, ⟨trivial, (by first | exact rpv_in (by assumption) (by omega) (by omega) | exact rpv_out (by omega))⟩⟩
  ·
    refine GO.iload_n dX4_put_8 rfl rfl ?_
    refine GO.aload_n dX4_put_9 rfl rfl ?_
    refine GO.alen h_p0 dX4_put_10 (fun h2 => ?_)
    refine GO.icmp_ge (tgt := 18) dX4_put_11 (by decide) r_p1 ⟨by omega, by omega⟩ (fun c3 => ?_) (fun c3 => ?_)
    ·
      exact GO.retv rfl rfl dX4_put_18 ⟨rfl, rfl, ⟨trivial, (by first | exact rpv_in (by assumption) (by omega) (by omega) | exact rpv_out (by omega))⟩⟩
    ·
      refine GO.aload_n dX4_put_14 rfl rfl ?_
      refine GO.iload_n dX4_put_15 rfl rfl ?_
      refine GO.iload_n dX4_put_16 rfl rfl ?_
      have q4 : -2147483648 ≤ p1 ∧ p1 ≤ 2147483647 := r_p1
      refine GO.iast (t := 130) rfl rfl (by decide +kernel) h_p0 r_p1 (by omega) (by omega) r_p2 (r_p2).1 (r_p2).2 dX4_put_17 (fun V6 e5 => ?_)
      exact GO.retv rfl rfl dX4_put_18 ⟨rfl, rfl, ⟨trivial, (by first | exact rpv_in (by assumption) (by omega) (by omega) | exact rpv_out (by omega))⟩⟩

set_option maxHeartbeats 1000000 in
theorem t_X0_leastDays {K : Kmap} {V : Vmap} {x : Nat} {p0 : Int} {p1 : Int} (h_x : K x = some (0, 0)) (r_p0 : ir p0) (r_p1 : ir p1) : MC mX0_leastDays K V [.ref x, ti p0, ti p1] (IS K (fun X V1 => True)) := by
  refine MC.start 3 (by decide +kernel) rfl rfl rfl (ls0 := [some (.ref x), some (ti p0), some (ti p1), none, none, none]) rfl ?_
  refine GO.aload_n dX0_leastDays_0 rfl rfl ?_
  refine GO.getA (n := 144) h_x fl_RX0_46 rfl rfl rfl rfl dX0_leastDays_1 (fun hv2 h1 => ?_)
  refine GO.iconst dX0_leastDays_4 ?_
  refine GO.callS (N := mX4_fill_t129) dX0_leastDays_5 gS_RX0_52 (t_X4_fill_t129 h1 (ir_c rfl)) rfl [] rfl rfl (Nat.le_of_ble_eq_true rfl) rfl (k_vs fun V5 h4 hF3 => ?_)
  have raw_fill := h4.2
  have rw5 := h4.2
  refine GO.aload_n dX0_leastDays_8 rfl rfl ?_
  refine GO.getA (n := 144) h_x fl_RX0_49 rfl rfl rfl rfl dX0_leastDays_9 (fun hv7 h6 => ?_)
  refine GO.iconst dX0_leastDays_12 ?_
  refine GO.callS (N := mX4_fill_t130) dX0_leastDays_13 gS_RX0_52 (t_X4_fill_t130 h6 (ir_c rfl)) rfl [] rfl rfl (Nat.le_of_ble_eq_true rfl) rfl (k_vs fun V10 h9 hF8 => ?_)
  have raw_fill := h9.2
  have rw13 := h9.2
  refine GO.aload_n dX0_leastDays_16 rfl rfl ?_
  refine GO.getRaw h_x fl_RX0_46 (Eq.trans (hF8 _ _ _ h_x h_x (by decide +kernel)) (Eq.trans (hF3 _ _ _ h_x h_x (by decide +kernel)) hv2)) dX0_leastDays_17 ?_
  refine GO.iload_n dX0_leastDays_20 rfl rfl ?_
  refine GO.iconst dX0_leastDays_21 ?_
  refine GO.callS (N := mX4_put_t129) dX0_leastDays_22 gS_RX0_95 (t_X4_put_t129 h1 r_p0 (ir_c rfl)) rfl [] rfl rfl (Nat.le_of_ble_eq_true rfl) rfl (k_vs fun V15 h14 hF13 => ?_)
  have raw_put := h14.2
  have rw22 := h14.2
  refine GO.iconst dX0_leastDays_25 ?_
  refine GO.istore_n (ls1 := [some (.ref x), some (ti p0), some (ti p1), some (ti 0), none, none]) dX0_leastDays_26 rfl rfl rfl ?_
  refine GO.loop1 (fun i16 W => 0 ≤ i16 ∧ i16 ≤ 144 ∧ True) (fun i16 => [some (.ref x), some (ti p0), some (ti p1), some (ti i16), none, none]) (fun i16 W => (2147483647 - i16).toNat) 0 ⟨by omega, by omega, trivial⟩ rfl (fun i16 Wi16 hp702 ih701 => ?_)
  obtain ⟨l_i16, u_i16, -⟩ := hp702
  have r_i16 : ir i16 := ⟨by omega, by omega⟩
  show GO mX0_leastDays K V (IS K (fun X V1 => True)) K Wi16 0 0 27 [some (.ref x), some (ti p0), some (ti p1), some (ti i16), none, none] []
  refine GO.iload_n dX0_leastDays_27 rfl rfl ?_
  refine GO.sipush dX0_leastDays_28 rfl ?_
  refine GO.icmp_ge (tgt := 101) dX0_leastDays_31 (by decide) r_i16 (ir_c rfl) (fun c703 => ?_) (fun c703 => ?_)
  ·
    refine GO.aload_n dX0_leastDays_101 rfl rfl ?_
    refine GO.iload_n dX0_leastDays_102 rfl rfl ?_
    refine GO.callV (ci := 0) (N := mX0_isCell) dX0_leastDays_103 (RX0, TX0, 13) rfl gV_RX0_62 h_x (t_X0_isCell h_x r_p1) rfl [] rfl rfl (Nat.le_of_ble_eq_true rfl) rfl (k_ip fun X704 r705 h706 => ?_)
    have raw_isCell := h706.2.2.2
    have rw103 := h706.2.2.2
    refine GO.if_eq (tgt := 120) dX0_leastDays_106 (by decide) r705 (fun c707 => ?_) (fun c707 => ?_)
    ·
      refine GO.iconst dX0_leastDays_120 ?_
      exact GO.reti rfl rfl dX0_leastDays_121 ⟨rfl, _, rfl, (ir_c rfl), trivial⟩
    ·
      refine GO.aload_n dX0_leastDays_109 rfl rfl ?_
      refine GO.getA (n := 144) h_x fl_RX0_46 rfl rfl rfl rfl dX0_leastDays_110 (fun hv709 h708 => ?_)
      refine GO.iload_n dX0_leastDays_113 rfl rfl ?_
      refine GO.callS (N := mX4_get) dX0_leastDays_114 gS_RX0_58 (t_X4_get rfl h708 r_p1) rfl [] rfl rfl (Nat.le_of_ble_eq_true rfl) rfl (k_ip fun X710 r711 h712 => ?_)
      have raw_get := h712.2
      have rw114 := h712.2
      refine GO.goto (tgt := 121) dX0_leastDays_117 (by decide) ?_
      exact GO.reti rfl rfl dX0_leastDays_121 ⟨rfl, _, rfl, r711, trivial⟩
  ·
    refine GO.aload_n dX0_leastDays_34 rfl rfl ?_
    refine GO.callV (ci := 0) (N := mX0_nearestOpen) dX0_leastDays_35 (RX0, TX0, 13) rfl gV_RX0_99 h_x (t_X0_nearestOpen h_x) rfl [] rfl rfl (Nat.le_of_ble_eq_true rfl) rfl (k_ip fun X713 r714 h715 => ?_)
    refine GO.istore (ls1 := [some (.ref x), some (ti p0), some (ti p1), some (ti i16), some (ti X713), none]) dX0_leastDays_38 rfl rfl ?_
    refine GO.iload dX0_leastDays_40 rfl ?_
    refine GO.iconst dX0_leastDays_42 ?_
    refine GO.icmp_eq (tgt := 101) dX0_leastDays_43 (by decide) r714 (ir_c rfl) (fun c716 => ?_) (fun c716 => ?_)
    ·
      refine GO.aload_n dX0_leastDays_101 rfl rfl ?_
      refine GO.iload_n dX0_leastDays_102 rfl rfl ?_
      refine GO.callV (ci := 0) (N := mX0_isCell) dX0_leastDays_103 (RX0, TX0, 13) rfl gV_RX0_62 h_x (t_X0_isCell h_x r_p1) rfl [] rfl rfl (Nat.le_of_ble_eq_true rfl) rfl (k_ip fun X717 r718 h719 => ?_)
      have raw_isCell := h719.2.2.2
      have rw103 := h719.2.2.2
      refine GO.if_eq (tgt := 120) dX0_leastDays_106 (by decide) r718 (fun c720 => ?_) (fun c720 => ?_)
      ·
        refine GO.iconst dX0_leastDays_120 ?_
        exact GO.reti rfl rfl dX0_leastDays_121 ⟨rfl, _, rfl, (ir_c rfl), trivial⟩
      ·
        refine GO.aload_n dX0_leastDays_109 rfl rfl ?_
        refine GO.getA (n := 144) h_x fl_RX0_46 rfl rfl rfl rfl dX0_leastDays_110 (fun hv722 h721 => ?_)
        refine GO.iload_n dX0_leastDays_113 rfl rfl ?_
        refine GO.callS (N := mX4_get) dX0_leastDays_114 gS_RX0_58 (t_X4_get rfl h721 r_p1) rfl [] rfl rfl (Nat.le_of_ble_eq_true rfl) rfl (k_ip fun X723 r724 h725 => ?_)
        have raw_get := h725.2
        have rw114 := h725.2
        refine GO.goto (tgt := 121) dX0_leastDays_117 (by decide) ?_
        exact GO.reti rfl rfl dX0_leastDays_121 ⟨rfl, _, rfl, r724, trivial⟩
    ·
      refine GO.iload dX0_leastDays_46 rfl ?_
      refine GO.iload_n dX0_leastDays_48 rfl rfl ?_
      refine GO.icmp_ne (tgt := 55) dX0_leastDays_49 (by decide) r714 r_p1 (fun c726 => ?_) (fun c726 => ?_)
      ·
        refine GO.aload_n dX0_leastDays_55 rfl rfl ?_
        refine GO.getA (n := 144) h_x fl_RX0_49 rfl rfl rfl rfl dX0_leastDays_56 (fun hv728 h727 => ?_)
        refine GO.iload dX0_leastDays_59 rfl ?_
        refine GO.iconst dX0_leastDays_61 ?_
        refine GO.callS (N := mX4_put_t130) dX0_leastDays_62 gS_RX0_95 (t_X4_put_t130 h727 r714 (ir_c rfl)) rfl [] rfl rfl (Nat.le_of_ble_eq_true rfl) rfl (k_vs fun V731 h730 hF729 => ?_)
        have raw_put := h730.2
        have rw62 := h730.2
        refine GO.iconst dX0_leastDays_65 ?_
        refine GO.istore (ls1 := [some (.ref x), some (ti p0), some (ti p1), some (ti i16), some (ti X713), some (ti 0)]) dX0_leastDays_66 rfl rfl ?_
        refine GO.loop1 (fun i732 W => 0 ≤ i732 ∧ i732 ≤ 8 ∧ True) (fun i732 => [some (.ref x), some (ti p0), some (ti p1), some (ti i16), some (ti X713), some (ti i732)]) (fun i732 W => (2147483647 - i732).toNat) 0 ⟨by omega, by omega, trivial⟩ rfl (fun i732 Wi732 hp769 ih768 => ?_)
        obtain ⟨l_i732, u_i732, -⟩ := hp769
        have r_i732 : ir i732 := ⟨by omega, by omega⟩
        show GO mX0_leastDays K V (IS K (fun X V1 => True)) K Wi732 0 0 68 [some (.ref x), some (ti p0), some (ti p1), some (ti i16), some (ti X713), some (ti i732)] []
        refine GO.iload dX0_leastDays_68 rfl ?_
        refine GO.bipush dX0_leastDays_70 rfl ?_
        refine GO.icmp_ge (tgt := 95) dX0_leastDays_72 (by decide) r_i732 (ir_c rfl) (fun c770 => ?_) (fun c770 => ?_)
        ·
          refine GO.iinc (X := i16) (n := 1) (Y := i16 + 1) (ls1 := [some (.ref x), some (ti p0), some (ti p1), some (ti (i16 + 1)), some (ti X713), some (ti i732)]) dX0_leastDays_95 rfl rfl rfl rfl ?_
          refine GO.goto (tgt := 27) dX0_leastDays_98 (by decide) ?_
          refine GO.drop [true, true, true, true, false, false] rfl ?_
          exact ih701 (i16 + 1) Wi732 ⟨by omega, by omega, trivial⟩ (by show (2147483647 - (i16 + 1)).toNat < (2147483647 - i16).toNat; omega)
        ·
          refine GO.aload_n dX0_leastDays_75 rfl rfl ?_
          refine GO.iload dX0_leastDays_76 rfl ?_
          refine GO.aload_n dX0_leastDays_78 rfl rfl ?_
          refine GO.iload dX0_leastDays_79 rfl ?_
          refine GO.iload dX0_leastDays_81 rfl ?_
          refine GO.callV (ci := 0) (N := mX0_beside) dX0_leastDays_83 (RX0, TX0, 13) rfl gV_RX0_92 h_x (t_X0_beside h_x r714 r_i732) rfl [ti X713, .ref x] rfl rfl (Nat.le_of_ble_eq_true rfl) rfl (k_ip fun X771 r772 h773 => ?_)
          have raw_beside := h773.2
          have rw83 := h773.2
          refine GO.callV (ci := 0) (N := mX0_step) dX0_leastDays_86 (RX0, TX0, 13) rfl gV_RX0_103 h_x (t_X0_step h_x r714 r772) rfl [] rfl rfl (Nat.le_of_ble_eq_true rfl) rfl (k_vs fun V776 h775 hF774 => ?_)
          refine GO.iinc (X := i732) (n := 1) (Y := i732 + 1) (ls1 := [some (.ref x), some (ti p0), some (ti p1), some (ti i16), some (ti X713), some (ti (i732 + 1))]) dX0_leastDays_89 rfl rfl rfl rfl ?_
          refine GO.goto (tgt := 68) dX0_leastDays_92 (by decide) ?_
          exact ih768 (i732 + 1) V776 ⟨by omega, by omega, trivial⟩ (by show (2147483647 - (i732 + 1)).toNat < (2147483647 - i732).toNat; omega)
      ·
        refine GO.goto (tgt := 101) dX0_leastDays_52 (by decide) ?_
        refine GO.aload_n dX0_leastDays_101 rfl rfl ?_
        refine GO.iload_n dX0_leastDays_102 rfl rfl ?_
        refine GO.callV (ci := 0) (N := mX0_isCell) dX0_leastDays_103 (RX0, TX0, 13) rfl gV_RX0_62 h_x (t_X0_isCell h_x r_p1) rfl [] rfl rfl (Nat.le_of_ble_eq_true rfl) rfl (k_ip fun X777 r778 h779 => ?_)
        have raw_isCell := h779.2.2.2
        have rw103 := h779.2.2.2
        refine GO.if_eq (tgt := 120) dX0_leastDays_106 (by decide) r778 (fun c780 => ?_) (fun c780 => ?_)
        ·
          refine GO.iconst dX0_leastDays_120 ?_
          exact GO.reti rfl rfl dX0_leastDays_121 ⟨rfl, _, rfl, (ir_c rfl), trivial⟩
        ·
          refine GO.aload_n dX0_leastDays_109 rfl rfl ?_
          refine GO.getA (n := 144) h_x fl_RX0_46 rfl rfl rfl rfl dX0_leastDays_110 (fun hv782 h781 => ?_)
          refine GO.iload_n dX0_leastDays_113 rfl rfl ?_
          refine GO.callS (N := mX4_get) dX0_leastDays_114 gS_RX0_58 (t_X4_get rfl h781 r_p1) rfl [] rfl rfl (Nat.le_of_ble_eq_true rfl) rfl (k_ip fun X783 r784 h785 => ?_)
          have raw_get := h785.2
          have rw114 := h785.2
          refine GO.goto (tgt := 121) dX0_leastDays_117 (by decide) ?_
          exact GO.reti rfl rfl dX0_leastDays_121 ⟨rfl, _, rfl, r784, trivial⟩

set_option maxHeartbeats 1000000 in
theorem t_X1_textOf {K : Kmap} {V : Vmap} {x : Nat} {p0 : Int} (h_x : K x = some (0, 1)) (r_p0 : ir p0) : MC mX1_textOf K V [.ref x, ti p0] (RP K V 8 ((True) ∧ (TNL V x → p0 < 0 ∨ vi V x 1 ≤ p0)) (fun q => (p0 ≥ 0 ∧ p0 < vi V x 1) ∧ (q = vq V (vq V x 0) (p0).toNat))) := by
  refine MC.start 0 (by decide +kernel) rfl rfl rfl (ls0 := [some (.ref x), some (ti p0)]) rfl ?_
  refine GO.iload_n dX1_textOf_0 rfl rfl ?_
  refine GO.if_lt (tgt := 30) dX1_textOf_1 (by decide) r_p0 (fun c1 => ?_) (fun c1 => ?_)
  ·
    refine GO.null dX1_textOf_30 ?_
    exact GO.reta rfl rfl (Or.inl ⟨_, rfl⟩) dX1_textOf_31 (Or.inl rfl) ⟨rfl, rfl, Or.inl ⟨rfl, ⟨trivial, (by first | exact fun _ => (by omega))⟩⟩⟩
  ·
    refine GO.iload_n dX1_textOf_4 rfl rfl ?_
    refine GO.aload_n dX1_textOf_5 rfl rfl ?_
    refine GO.getI h_x fl_RX1_17 rfl rfl dX1_textOf_6 (fun l2 u3 => ?_)
    refine GO.icmp_ge (tgt := 30) dX1_textOf_9 (by decide) r_p0 vi_ir (fun c4 => ?_) (fun c4 => ?_)
    ·
      refine GO.null dX1_textOf_30 ?_
      exact GO.reta rfl rfl (Or.inl ⟨_, rfl⟩) dX1_textOf_31 (Or.inl rfl) ⟨rfl, rfl, Or.inl ⟨rfl, ⟨trivial, (by first | exact fun _ => (by omega))⟩⟩⟩
    ·
      refine GO.iload_n dX1_textOf_12 rfl rfl ?_
      refine GO.aload_n dX1_textOf_13 rfl rfl ?_
      refine GO.getA (n := 20) h_x fl_RX1_11 rfl rfl rfl rfl dX1_textOf_14 (fun hv6 h5 => ?_)
      refine GO.alen h5 dX1_textOf_17 (fun h7 => ?_)
      have q9 : -2147483648 ≤ p0 ∧ p0 ≤ 2147483647 := r_p0
      refine GO.icmp_ge (tgt := 30) dX1_textOf_18 (by decide) r_p0 ⟨by omega, by omega⟩ (fun h => by exfalso; omega) (fun c8 => ?_)
      refine GO.aload_n dX1_textOf_21 rfl rfl ?_
      refine GO.getRaw h_x fl_RX1_11 hv6 dX1_textOf_22 ?_
      refine GO.iload_n dX1_textOf_25 rfl rfl ?_
      refine GO.aald (t := 8) rfl rfl h5 r_p0 (by omega) (by omega) dX1_textOf_26 (fun hnul => ?_) (fun _ h12 => ?_)
      ·
        refine GO.goto (tgt := 31) dX1_textOf_27 (by decide) ?_
        exact GO.reta rfl rfl (Or.inl ⟨_, rfl⟩) dX1_textOf_31 (Or.inl rfl) ⟨rfl, rfl, Or.inl ⟨rfl, ⟨trivial, (by first | exact fun _ => (by omega) | exact fun hpn => absurd hnul (hpn p0.toNat (by omega)))⟩⟩⟩
      ·
        refine GO.goto (tgt := 31) dX1_textOf_27 (by decide) ?_
        exact GO.reta rfl rfl (Or.inl ⟨_, rfl⟩) dX1_textOf_31 (Or.inr ⟨_, rfl⟩) ⟨rfl, rfl, Or.inr ⟨_, rfl, h12, ⟨by omega, rfl⟩⟩⟩

set_option maxHeartbeats 1000000 in
theorem t_X1_forget {K : Kmap} {V : Vmap} {x : Nat} (h_x : K x = some (0, 1)) : MC mX1_forget K V [.ref x] (VS K (fun V1 => (True) ∧ (V1 = upd2 V x 7 (ti (-1))))) := by
  refine MC.start 0 (by decide +kernel) rfl rfl rfl (ls0 := [some (.ref x)]) rfl ?_
  refine GO.aload_n dX1_forget_0 rfl rfl ?_
  refine GO.iconst dX1_forget_1 ?_
  refine GO.putI h_x fp_RX1_43 rfl (by decide +kernel) (ir_c rfl) (by decide) (by decide) dX1_forget_2 (fun V2 e1 => ?_)
  exact GO.retv rfl rfl dX1_forget_5 ⟨rfl, rfl, ⟨trivial, (by assumption)⟩⟩

set_option maxHeartbeats 1000000 in
theorem t_X1_addText {K : Kmap} {V : Vmap} {x : Nat} {p0 : Nat} (h_x : K x = some (0, 1)) (h_p0 : K p0 = some (0, 8)) : MC mX1_addText K V [.ref x, .ref p0] (IS K (fun X V1 => (X ≥ (-2147483648) ∧ X ≤ 2147483647) ∧ ((ADT V V1 x p0 X)) ∧ (vi V x 1 < 20 → vi V1 x 7 = -1))) := by
  refine MC.start 0 (by decide +kernel) rfl rfl rfl (ls0 := [some (.ref x), some (.ref p0)]) rfl ?_
  refine GO.useWT (fun hW_0 => ?_)
  refine GO.aload_n dX1_addText_0 rfl rfl ?_
  refine GO.getI h_x fl_RX1_17 rfl rfl dX1_addText_1 (fun l1 u2 => ?_)
  refine GO.aload_n dX1_addText_4 rfl rfl ?_
  refine GO.getA (n := 20) h_x fl_RX1_11 rfl rfl rfl rfl dX1_addText_5 (fun hv4 h3 => ?_)
  refine GO.alen h3 dX1_addText_8 (fun h5 => ?_)
  refine GO.icmp_lt (tgt := 14) dX1_addText_9 (by decide) vi_ir ⟨by omega, by omega⟩ (fun c6 => ?_) (fun c6 => ?_)
  ·
    refine GO.aload_n dX1_addText_14 rfl rfl ?_
    refine GO.getRaw h_x fl_RX1_11 hv4 dX1_addText_15 ?_
    refine GO.aload_n dX1_addText_18 rfl rfl ?_
    refine GO.getI h_x fl_RX1_17 rfl rfl dX1_addText_19 (fun l9 u10 => ?_)
    refine GO.aload_n dX1_addText_22 rfl rfl ?_
    refine GO.aast (t := 8) (by decide) (RX9, TX9, 5) rfl rfl rfl (by decide +kernel) h3 h_p0 vi_ir (by omega) (by omega) dX1_addText_23 (fun V12 e11 => ?_)
    refine GO.aload_n dX1_addText_24 rfl rfl ?_
    refine GO.callV (ci := 1) (N := mX1_forget) dX1_addText_25 (RX1, TX1, 13) rfl gV_RX1_61 h_x (t_X1_forget h_x) rfl [] rfl rfl (Nat.le_of_ble_eq_true rfl) rfl (k_vs fun V15 h14 hF13 => ?_)
    have raw_forget := h14.2
    have rw25 := h14.2
    refine GO.aload_n dX1_addText_28 rfl rfl ?_
    refine GO.dup dX1_addText_29 rfl ?_
    refine GO.getI h_x fl_RX1_17 rfl rfl dX1_addText_30 (fun l16 u17 => ?_)
    have e19 : vi V12 x 1 = vi V x 1 := vi_up e11 (Or.inl (K_ne h_x h3 (by decide)))
    have e18 : vi V15 x 1 = vi V12 x 1 := vi_fr hF13 h_x h_x (by decide +kernel)
    refine GO.dup_x1 dX1_addText_33 rfl rfl ?_
    refine GO.iconst dX1_addText_34 ?_
    refine GO.iadd dX1_addText_35 ?_
    refine GO.putI h_x fp_RX1_17 rfl (by decide +kernel) ⟨by omega, by omega⟩ (by omega) (by omega) dX1_addText_36 (fun V21 e20 => ?_)
    exact GO.reti rfl rfl dX1_addText_39 ⟨rfl, _, rfl, vi_ir, ⟨(by first | exact trivial | omega), (by first | exact ADT.mk h_x hW_0 e11 hF13 (by decide +kernel) e20 (by omega) ⟨by omega, by omega⟩ (by omega) | exact ADT.full (by omega)), (by first | exact fun hq => by rw [vi_up e20 (Or.inr (by decide))]; exact upd2_int rw25 (ir_c rfl) | exact fun hq => absurd hq (by omega))⟩⟩
  ·
    refine GO.iconst dX1_addText_12 ?_
    exact GO.reti rfl rfl dX1_addText_13 ⟨rfl, _, rfl, (ir_c rfl), ⟨(by first | exact trivial | omega), (by first | exact ADT.mk h_x hW_0 (by assumption) (by assumption) (by decide +kernel) (by assumption) (by omega) ⟨by omega, by omega⟩ (by omega) | exact ADT.full (by omega)), (by first | exact fun hq => absurd hq (by omega))⟩⟩

set_option maxHeartbeats 1000000 in
theorem t_X8_isFull_k32 {K : Kmap} {V : Vmap} {x : Nat} (h_x : K x = some (0, 32)) : MC mX8_isFull_k32 K V [.ref x] (IP K V (fun X => (X = 0 ∨ X = 1) ∧ (X ≠ 0 → vi V x 3 ≥ vi V x 1 ∧ vi V x 3 ≥ 20) ∧ (X = 0 → vi V x 3 < vi V x 1 ∧ vi V x 3 ≤ 19))) := by
  refine MC.start 0 (by decide +kernel) rfl rfl rfl (ls0 := [some (.ref x)]) rfl ?_
  refine GO.aload_n dX8_isFull_0 rfl rfl ?_
  refine GO.getI h_x fl_RX8_9_k32 rfl rfl dX8_isFull_1 (fun l1 u2 => ?_)
  refine GO.aload_n dX8_isFull_4 rfl rfl ?_
  refine GO.getI h_x fl_RX8_18_k32 rfl rfl dX8_isFull_5 (fun l3 u4 => ?_)
  refine GO.icmp_lt (tgt := 15) dX8_isFull_8 (by decide) vi_ir vi_ir (fun c5 => ?_) (fun c5 => ?_)
  ·
    refine GO.iconst dX8_isFull_15 ?_
    exact GO.retz rfl rfl dX8_isFull_16 (Or.inl rfl) ⟨rfl, rfl, _, rfl, (ir_c rfl), ⟨Or.inl rfl, fun h => absurd rfl h, fun h => by omega⟩⟩
  ·
    refine GO.iconst dX8_isFull_11 ?_
    refine GO.goto (tgt := 16) dX8_isFull_12 (by decide) ?_
    exact GO.retz rfl rfl dX8_isFull_16 (Or.inr rfl) ⟨rfl, rfl, _, rfl, (ir_c rfl), ⟨Or.inr rfl, fun h => by omega, fun h => absurd h (by decide)⟩⟩

set_option maxHeartbeats 1000000 in
theorem t_X8_put_k32 {K : Kmap} {V : Vmap} {x : Nat} {p0 : Int} {p1 : Int} {p2 : Int} (h_x : K x = some (0, 32)) (r_p0 : ir p0) (r_p1 : ir p1) (r_p2 : ir p2) : MC mX8_put_k32 K V [.ref x, ti p0, ti p1, ti p2] (VS K (fun V1 => (True) ∧ (TPU K V V1 x p0 p1 p2))) := by
  refine MC.start 2 (by decide +kernel) rfl rfl rfl (ls0 := [some (.ref x), some (ti p0), some (ti p1), some (ti p2), none, none]) rfl ?_
  refine GO.iload_n dX8_put_0 rfl rfl ?_
  refine GO.aload_n dX8_put_1 rfl rfl ?_
  refine GO.getI h_x fl_RX8_15_k32 rfl rfl dX8_put_2 (fun l1 u2 => ?_)
  refine GO.imul dX8_put_5 ?_
  refine GO.norm (fun z3 r4 hn5 => ?_)
  refine GO.iload_n dX8_put_6 rfl rfl ?_
  refine GO.iadd dX8_put_7 ?_
  refine GO.norm (fun z6 r7 hn8 => ?_)
  refine GO.istore (ls1 := [some (.ref x), some (ti p0), some (ti p1), some (ti p2), some (ti z6), none]) dX8_put_8 rfl rfl ?_
  refine GO.iload_n dX8_put_10 rfl rfl ?_
  refine GO.if_lt (tgt := 38) dX8_put_11 (by decide) r_p0 (fun c9 => ?_) (fun c9 => ?_)
  ·
    refine GO.iconst dX8_put_38 ?_
    refine GO.istore (ls1 := [some (.ref x), some (ti p0), some (ti p1), some (ti p2), some (ti z6), some (ti 0)]) dX8_put_39 rfl rfl ?_
    refine GO.iload dX8_put_41 rfl ?_
    refine GO.if_eq (tgt := 69) dX8_put_43 (by decide) (ir_c rfl) (fun c10 => ?_) (fun h => by exfalso; omega)
    exact GO.retv rfl rfl dX8_put_69 ⟨rfl, rfl, ⟨trivial, (by first | exact TPU.in (by assumption) (by assumption) ⟨by omega, by omega, by omega, by omega⟩ (by assumption) | exact TPU.out (by omega) | exact TPU.neg (by assumption) (by assumption) ⟨by omega, by omega, by omega, by omega⟩ (by omega) | exact TPU.bad (by assumption) (by assumption) ⟨by omega, by omega, by omega, by omega⟩ (by assumption) (by omega))⟩⟩
  ·
    refine GO.iload_n dX8_put_14 rfl rfl ?_
    refine GO.aload_n dX8_put_15 rfl rfl ?_
    refine GO.getI h_x fl_RX8_9_k32 rfl rfl dX8_put_16 (fun l11 u12 => ?_)
    refine GO.icmp_ge (tgt := 38) dX8_put_19 (by decide) r_p0 vi_ir (fun c13 => ?_) (fun c13 => ?_)
    ·
      refine GO.iconst dX8_put_38 ?_
      refine GO.istore (ls1 := [some (.ref x), some (ti p0), some (ti p1), some (ti p2), some (ti z6), some (ti 0)]) dX8_put_39 rfl rfl ?_
      refine GO.iload dX8_put_41 rfl ?_
      refine GO.if_eq (tgt := 69) dX8_put_43 (by decide) (ir_c rfl) (fun c14 => ?_) (fun h => by exfalso; omega)
      exact GO.retv rfl rfl dX8_put_69 ⟨rfl, rfl, ⟨trivial, (by first | exact TPU.in (by assumption) (by assumption) ⟨by omega, by omega, by omega, by omega⟩ (by assumption) | exact TPU.out (by omega) | exact TPU.neg (by assumption) (by assumption) ⟨by omega, by omega, by omega, by omega⟩ (by omega) | exact TPU.bad (by assumption) (by assumption) ⟨by omega, by omega, by omega, by omega⟩ (by assumption) (by omega))⟩⟩
    ·
      refine GO.iload_n dX8_put_22 rfl rfl ?_
      refine GO.if_lt (tgt := 38) dX8_put_23 (by decide) r_p1 (fun c15 => ?_) (fun c15 => ?_)
      ·
        refine GO.iconst dX8_put_38 ?_
        refine GO.istore (ls1 := [some (.ref x), some (ti p0), some (ti p1), some (ti p2), some (ti z6), some (ti 0)]) dX8_put_39 rfl rfl ?_
        refine GO.iload dX8_put_41 rfl ?_
        refine GO.if_eq (tgt := 69) dX8_put_43 (by decide) (ir_c rfl) (fun c16 => ?_) (fun h => by exfalso; omega)
        exact GO.retv rfl rfl dX8_put_69 ⟨rfl, rfl, ⟨trivial, (by first | exact TPU.in (by assumption) (by assumption) ⟨by omega, by omega, by omega, by omega⟩ (by assumption) | exact TPU.out (by omega) | exact TPU.neg (by assumption) (by assumption) ⟨by omega, by omega, by omega, by omega⟩ (by omega) | exact TPU.bad (by assumption) (by assumption) ⟨by omega, by omega, by omega, by omega⟩ (by assumption) (by omega))⟩⟩
      ·
        refine GO.iload_n dX8_put_26 rfl rfl ?_
        refine GO.aload_n dX8_put_27 rfl rfl ?_
        refine GO.getI h_x fl_RX8_15_k32 rfl rfl dX8_put_28 (fun l17 u18 => ?_)
        refine GO.icmp_ge (tgt := 38) dX8_put_31 (by decide) r_p1 vi_ir (fun c19 => ?_) (fun c19 => ?_)
        ·
          refine GO.iconst dX8_put_38 ?_
          refine GO.istore (ls1 := [some (.ref x), some (ti p0), some (ti p1), some (ti p2), some (ti z6), some (ti 0)]) dX8_put_39 rfl rfl ?_
          refine GO.iload dX8_put_41 rfl ?_
          refine GO.if_eq (tgt := 69) dX8_put_43 (by decide) (ir_c rfl) (fun c20 => ?_) (fun h => by exfalso; omega)
          exact GO.retv rfl rfl dX8_put_69 ⟨rfl, rfl, ⟨trivial, (by first | exact TPU.in (by assumption) (by assumption) ⟨by omega, by omega, by omega, by omega⟩ (by assumption) | exact TPU.out (by omega) | exact TPU.neg (by assumption) (by assumption) ⟨by omega, by omega, by omega, by omega⟩ (by omega) | exact TPU.bad (by assumption) (by assumption) ⟨by omega, by omega, by omega, by omega⟩ (by assumption) (by omega))⟩⟩
        ·
          refine GO.iconst dX8_put_34 ?_
          refine GO.goto (tgt := 39) dX8_put_35 (by decide) ?_
          refine GO.istore (ls1 := [some (.ref x), some (ti p0), some (ti p1), some (ti p2), some (ti z6), some (ti 1)]) dX8_put_39 rfl rfl ?_
          refine GO.iload dX8_put_41 rfl ?_
          refine GO.if_eq (tgt := 69) dX8_put_43 (by decide) (ir_c rfl) (fun h => by exfalso; omega) (fun c21 => ?_)
          refine GO.iload dX8_put_46 rfl ?_
          refine GO.if_lt (tgt := 69) dX8_put_48 (by decide) r7 (fun c22 => ?_) (fun c22 => ?_)
          ·
            exact GO.retv rfl rfl dX8_put_69 ⟨rfl, rfl, ⟨trivial, (by first | exact TPU.in (by assumption) (by assumption) ⟨by omega, by omega, by omega, by omega⟩ (by assumption) | exact TPU.out (by omega) | exact TPU.neg (by assumption) (by assumption) ⟨by omega, by omega, by omega, by omega⟩ (by omega) | exact TPU.bad (by assumption) (by assumption) ⟨by omega, by omega, by omega, by omega⟩ (by assumption) (by omega))⟩⟩
          ·
            refine GO.iload dX8_put_51 rfl ?_
            refine GO.aload_n dX8_put_53 rfl rfl ?_
            refine GO.getA (n := 60) h_x fl_RX8_27_k32 rfl rfl rfl rfl dX8_put_54 (fun hv24 h23 => ?_)
            refine GO.alen h23 dX8_put_57 (fun h25 => ?_)
            refine GO.icmp_ge (tgt := 69) dX8_put_58 (by decide) r7 ⟨by omega, by omega⟩ (fun c26 => ?_) (fun c26 => ?_)
            ·
              exact GO.retv rfl rfl dX8_put_69 ⟨rfl, rfl, ⟨trivial, (by first | exact TPU.in (by assumption) (by assumption) ⟨by omega, by omega, by omega, by omega⟩ (by assumption) | exact TPU.out (by omega) | exact TPU.neg (by assumption) (by assumption) ⟨by omega, by omega, by omega, by omega⟩ (by omega) | exact TPU.bad (by assumption) (by assumption) ⟨by omega, by omega, by omega, by omega⟩ (by assumption) (by omega))⟩⟩
            ·
              refine GO.aload_n dX8_put_61 rfl rfl ?_
              refine GO.getRaw h_x fl_RX8_27_k32 hv24 dX8_put_62 ?_
              refine GO.iload dX8_put_65 rfl ?_
              refine GO.iload_n dX8_put_67 rfl rfl ?_
              have q29 : -2147483648 ≤ z6 ∧ z6 ≤ 2147483647 := r7
              refine GO.iast (t := 154) rfl rfl (by decide +kernel) h23 r7 (by omega) (by omega) r_p2 (r_p2).1 (r_p2).2 dX8_put_68 (fun V31 e30 => ?_)
              exact GO.retv rfl rfl dX8_put_69 ⟨rfl, rfl, ⟨trivial, (by first | exact TPU.in (by assumption) (by assumption) ⟨by omega, by omega, by omega, by omega⟩ (by assumption) | exact TPU.out (by omega) | exact TPU.neg (by assumption) (by assumption) ⟨by omega, by omega, by omega, by omega⟩ (by omega) | exact TPU.bad (by assumption) (by assumption) ⟨by omega, by omega, by omega, by omega⟩ (by assumption) (by omega))⟩⟩

set_option maxHeartbeats 1000000 in
theorem t_X8_append_k32 {K : Kmap} {V : Vmap} {x : Nat} {p0 : Int} {p1 : Int} {p2 : Int} {p3 : Int} {p4 : Int} (h_x : K x = some (0, 32)) (r_p0 : ir p0) (r_p1 : ir p1) (r_p2 : ir p2) (r_p3 : ir p3) (r_p4 : ir p4) : MC mX8_append_k32 K V [.ref x, ti p0, ti p1, ti p2, ti p3, ti p4] (IS K (fun X V1 => (X ≥ (-2147483648) ∧ X ≤ 2147483647) ∧ (APP K V V1 x p0 p1 p2 p3 p4 X))) := by
  refine MC.start 1 (by decide +kernel) rfl rfl rfl (ls0 := [some (.ref x), some (ti p0), some (ti p1), some (ti p2), some (ti p3), some (ti p4), none]) rfl ?_
  refine GO.aload_n dX8_append_0 rfl rfl ?_
  refine GO.callV (ci := 32) (N := mX8_isFull_k32) dX8_append_1 (RX8, TX8, 4) rfl gV_RX8_31 h_x (t_X8_isFull_k32 h_x) rfl [] rfl rfl (Nat.le_of_ble_eq_true rfl) rfl (k_ip fun X1 r2 h3 => ?_)
  refine GO.if_eq (tgt := 9) dX8_append_4 (by decide) r2 (fun c4 => ?_) (fun c4 => ?_)
  ·
    have q5 := h3.2.2 (by omega)
    refine GO.aload_n dX8_append_9 rfl rfl ?_
    refine GO.getI h_x fl_RX8_9_k32 rfl rfl dX8_append_10 (fun l6 u7 => ?_)
    refine GO.name (fun z8 hz9 => ?_)
    have r10 : ir z8 := hz9 ▸ vi_ir
    refine GO.istore (ls1 := [some (.ref x), some (ti p0), some (ti p1), some (ti p2), some (ti p3), some (ti p4), some (ti z8)]) dX8_append_13 rfl rfl ?_
    refine GO.aload_n dX8_append_15 rfl rfl ?_
    refine GO.dup dX8_append_16 rfl ?_
    refine GO.getI h_x fl_RX8_9_k32 rfl rfl dX8_append_17 (fun l11 u12 => ?_)
    refine GO.iconst dX8_append_20 ?_
    refine GO.iadd dX8_append_21 ?_
    have q14 : -2147483648 ≤ vi V x 3 ∧ vi V x 3 ≤ 2147483647 := vi_ir
    have q15 : -2147483648 ≤ z8 ∧ z8 ≤ 2147483647 := r10
    have q16 : -2147483648 ≤ vi V x 1 ∧ vi V x 1 ≤ 2147483647 := vi_ir
    refine GO.putI h_x fp_RX8_9_k32 rfl (by decide +kernel) ⟨by omega, by omega⟩ (by omega) (by omega) dX8_append_22 (fun V17 e13 => ?_)
    refine GO.aload_n dX8_append_25 rfl rfl ?_
    refine GO.iload dX8_append_26 rfl ?_
    refine GO.iconst dX8_append_28 ?_
    refine GO.iload_n dX8_append_29 rfl rfl ?_
    refine GO.callV (ci := 32) (N := mX8_put_k32) dX8_append_30 (RX8, TX8, 4) rfl gV_RX8_35 h_x (t_X8_put_k32 h_x r10 (ir_c rfl) r_p0) rfl [] rfl rfl (Nat.le_of_ble_eq_true rfl) rfl (k_vs fun V20 h19 hF18 => ?_)
    have raw_put := h19.2
    have rw30 := h19.2
    refine GO.aload_n dX8_append_33 rfl rfl ?_
    refine GO.iload dX8_append_34 rfl ?_
    refine GO.iconst dX8_append_36 ?_
    refine GO.iload_n dX8_append_37 rfl rfl ?_
    refine GO.callV (ci := 32) (N := mX8_put_k32) dX8_append_38 (RX8, TX8, 4) rfl gV_RX8_35 h_x (t_X8_put_k32 h_x r10 (ir_c rfl) r_p1) rfl [] rfl rfl (Nat.le_of_ble_eq_true rfl) rfl (k_vs fun V23 h22 hF21 => ?_)
    have raw_put := h22.2
    have rw38 := h22.2
    refine GO.aload_n dX8_append_41 rfl rfl ?_
    refine GO.iload dX8_append_42 rfl ?_
    refine GO.iconst dX8_append_44 ?_
    refine GO.iload_n dX8_append_45 rfl rfl ?_
    refine GO.callV (ci := 32) (N := mX8_put_k32) dX8_append_46 (RX8, TX8, 4) rfl gV_RX8_35 h_x (t_X8_put_k32 h_x r10 (ir_c rfl) r_p2) rfl [] rfl rfl (Nat.le_of_ble_eq_true rfl) rfl (k_vs fun V26 h25 hF24 => ?_)
    have raw_put := h25.2
    have rw46 := h25.2
    refine GO.aload_n dX8_append_49 rfl rfl ?_
    refine GO.iload dX8_append_50 rfl ?_
    refine GO.iconst dX8_append_52 ?_
    refine GO.iload dX8_append_53 rfl ?_
    refine GO.callV (ci := 32) (N := mX8_put_k32) dX8_append_55 (RX8, TX8, 4) rfl gV_RX8_35 h_x (t_X8_put_k32 h_x r10 (ir_c rfl) r_p3) rfl [] rfl rfl (Nat.le_of_ble_eq_true rfl) rfl (k_vs fun V29 h28 hF27 => ?_)
    have raw_put := h28.2
    have rw55 := h28.2
    refine GO.aload_n dX8_append_58 rfl rfl ?_
    refine GO.iload dX8_append_59 rfl ?_
    refine GO.iconst dX8_append_61 ?_
    refine GO.iload dX8_append_62 rfl ?_
    refine GO.callV (ci := 32) (N := mX8_put_k32) dX8_append_64 (RX8, TX8, 4) rfl gV_RX8_35 h_x (t_X8_put_k32 h_x r10 (ir_c rfl) r_p4) rfl [] rfl rfl (Nat.le_of_ble_eq_true rfl) rfl (k_vs fun V32 h31 hF30 => ?_)
    have raw_put := h31.2
    have rw64 := h31.2
    refine GO.iload dX8_append_67 rfl ?_
    exact GO.reti rfl rfl dX8_append_69 ⟨rfl, _, rfl, r10, ⟨(by first | exact trivial | omega), (by first | exact APP.no (by omega) rfl | exact APP.yes h_x (by omega) (by omega) (by assumption) rfl ⟨by omega, by omega⟩ rw30 rw38 rw46 rw55 rw64)⟩⟩
  ·
    have q33 := h3.2.1 (by omega)
    refine GO.iconst dX8_append_7 ?_
    exact GO.reti rfl rfl dX8_append_8 ⟨rfl, _, rfl, (ir_c rfl), ⟨(by first | exact trivial | omega), (by first | exact APP.no (by omega) rfl)⟩⟩

set_option maxHeartbeats 1000000 in
theorem t_X1_addReading {K : Kmap} {V : Vmap} {x : Nat} {p0 : Int} {p1 : Int} {p2 : Int} {p3 : Nat} (h_x : K x = some (0, 1)) (r_p0 : ir p0) (r_p1 : ir p1) (r_p2 : ir p2) (h_p3 : K p3 = some (0, 8)) : MC mX1_addReading K V [.ref x, ti p0, ti p1, ti p2, .ref p3] (VS K (fun V1 => (True) ∧ (ADR V V1 x))) := by
  refine MC.start 1 (by decide +kernel) rfl rfl rfl (ls0 := [some (.ref x), some (ti p0), some (ti p1), some (ti p2), some (.ref p3), none]) rfl ?_
  refine GO.useWT (fun hW_0 => ?_)
  refine GO.aload_n dX1_addReading_0 rfl rfl ?_
  refine GO.getR h_x fl_RX1_26 rfl rfl dX1_addReading_1 (fun hv2 h1 => ?_)
  refine GO.iload_n dX1_addReading_4 rfl rfl ?_
  refine GO.iload_n dX1_addReading_5 rfl rfl ?_
  refine GO.iload_n dX1_addReading_6 rfl rfl ?_
  refine GO.iconst dX1_addReading_7 ?_
  refine GO.iconst dX1_addReading_8 ?_
  refine GO.callV (ci := 32) (N := mX8_append_k32) dX1_addReading_9 (RX8, TX8, 4) rfl gV_RX1_64 h1 (t_X8_append_k32 h1 r_p0 r_p1 r_p2 (ir_c rfl) (ir_c rfl)) rfl [] rfl rfl (Nat.le_of_ble_eq_true rfl) rfl (k_is fun X3 V7 r4 h5 hF6 => ?_)
  have raw_append := h5.2
  have rw9 := h5.2
  refine GO.istore (ls1 := [some (.ref x), some (ti p0), some (ti p1), some (ti p2), some (.ref p3), some (ti X3)]) dX1_addReading_12 rfl rfl ?_
  refine GO.iload dX1_addReading_14 rfl ?_
  refine GO.if_lt (tgt := 38) dX1_addReading_16 (by decide) r4 (fun c8 => ?_) (fun c8 => ?_)
  ·
    exact GO.retv rfl rfl dX1_addReading_38 ⟨rfl, rfl, ⟨trivial, (by first | exact ADR.mk rw9 h_x hW_0 r_p0 r_p1 r_p2 (Or.inl rfl) | exact ADR.mk rw9 h_x hW_0 r_p0 r_p1 r_p2 (Or.inr ⟨_, _, _, _, (by assumption), by assumption⟩))⟩⟩
  ·
    refine GO.iload dX1_addReading_19 rfl ?_
    refine GO.aload_n dX1_addReading_21 rfl rfl ?_
    refine GO.getA (n := 20) h_x fl_RX1_30 rfl rfl rfl rfl dX1_addReading_22 (fun hv10 h9 => ?_)
    refine GO.alen h9 dX1_addReading_25 (fun h11 => ?_)
    refine GO.icmp_ge (tgt := 38) dX1_addReading_26 (by decide) r4 ⟨by omega, by omega⟩ (fun c12 => ?_) (fun c12 => ?_)
    ·
      exact GO.retv rfl rfl dX1_addReading_38 ⟨rfl, rfl, ⟨trivial, (by first | exact ADR.mk rw9 h_x hW_0 r_p0 r_p1 r_p2 (Or.inl rfl) | exact ADR.mk rw9 h_x hW_0 r_p0 r_p1 r_p2 (Or.inr ⟨_, _, _, _, (by assumption), by assumption⟩))⟩⟩
    ·
      refine GO.aload_n dX1_addReading_29 rfl rfl ?_
      refine GO.getRaw h_x fl_RX1_30 hv10 dX1_addReading_30 ?_
      refine GO.iload dX1_addReading_33 rfl ?_
      refine GO.aload dX1_addReading_35 rfl ?_
      refine GO.aast (t := 157) (by decide) (RX9, TX9, 5) rfl rfl rfl (by decide +kernel) h9 h_p3 r4 (by omega) (by omega) dX1_addReading_37 (fun V16 e15 => ?_)
      exact GO.retv rfl rfl dX1_addReading_38 ⟨rfl, rfl, ⟨trivial, (by first | exact ADR.mk rw9 h_x hW_0 r_p0 r_p1 r_p2 (Or.inl rfl) | exact ADR.mk rw9 h_x hW_0 r_p0 r_p1 r_p2 (Or.inr ⟨_, _, _, _, e15, by assumption⟩))⟩⟩

set_option maxHeartbeats 1000000 in
theorem t_X9_isInForce {K : Kmap} {V : Vmap} {x : Nat} {p0 : Int} (h_x : K x = some (0, 8)) (r_p0 : ir p0) : MC mX9_isInForce K V [.ref x, ti p0] (IP K V (fun X => (X = 0 ∨ X = 1) ∧ (X ≠ 0 → p0 ≥ vi V x 0 ∧ p0 ≤ vi V x 1) ∧ (X = 0 → (p0 < vi V x 0 ∨ p0 > vi V x 1)))) := by
  refine MC.start 0 (by decide +kernel) rfl rfl rfl (ls0 := [some (.ref x), some (ti p0)]) rfl ?_
  refine GO.iload_n dX9_isInForce_0 rfl rfl ?_
  refine GO.aload_n dX9_isInForce_1 rfl rfl ?_
  refine GO.getI h_x fl_RX9_15 rfl rfl dX9_isInForce_2 (fun _ _ => ?_)
  refine GO.icmp_lt (tgt := 20) dX9_isInForce_5 (by decide) r_p0 vi_ir (fun c1 => ?_) (fun c1 => ?_)
  ·
    refine GO.iconst dX9_isInForce_20 ?_
    have q2 : -2147483648 ≤ vi V x 0 ∧ vi V x 0 ≤ 2147483647 := vi_ir
    have q3 : -2147483648 ≤ p0 ∧ p0 ≤ 2147483647 := r_p0
    have q4 : -2147483648 ≤ vi V x 1 ∧ vi V x 1 ≤ 2147483647 := vi_ir
    exact GO.retz rfl rfl dX9_isInForce_21 (Or.inl rfl) ⟨rfl, rfl, _, rfl, (ir_c rfl), ⟨Or.inl rfl, fun h => absurd rfl h, fun h => by omega⟩⟩
  ·
    refine GO.iload_n dX9_isInForce_8 rfl rfl ?_
    refine GO.aload_n dX9_isInForce_9 rfl rfl ?_
    refine GO.getI h_x fl_RX9_18 rfl rfl dX9_isInForce_10 (fun _ _ => ?_)
    refine GO.icmp_gt (tgt := 20) dX9_isInForce_13 (by decide) r_p0 vi_ir (fun c5 => ?_) (fun c5 => ?_)
    ·
      refine GO.iconst dX9_isInForce_20 ?_
      have q6 : -2147483648 ≤ vi V x 0 ∧ vi V x 0 ≤ 2147483647 := vi_ir
      have q7 : -2147483648 ≤ p0 ∧ p0 ≤ 2147483647 := r_p0
      have q8 : -2147483648 ≤ vi V x 1 ∧ vi V x 1 ≤ 2147483647 := vi_ir
      exact GO.retz rfl rfl dX9_isInForce_21 (Or.inl rfl) ⟨rfl, rfl, _, rfl, (ir_c rfl), ⟨Or.inl rfl, fun h => absurd rfl h, fun h => by omega⟩⟩
    ·
      refine GO.iconst dX9_isInForce_16 ?_
      refine GO.goto (tgt := 21) dX9_isInForce_17 (by decide) ?_
      have q9 : -2147483648 ≤ vi V x 0 ∧ vi V x 0 ≤ 2147483647 := vi_ir
      have q10 : -2147483648 ≤ p0 ∧ p0 ≤ 2147483647 := r_p0
      have q11 : -2147483648 ≤ vi V x 1 ∧ vi V x 1 ≤ 2147483647 := vi_ir
      exact GO.retz rfl rfl dX9_isInForce_21 (Or.inr rfl) ⟨rfl, rfl, _, rfl, (ir_c rfl), ⟨Or.inr rfl, fun h => by omega, fun h => absurd h (by decide)⟩⟩

set_option maxHeartbeats 1000000 in
theorem t_X4_fill_t133 {K : Kmap} {V : Vmap} {p0 n_p0 : Nat} {p1 : Int} (h_p0 : K p0 = some (134, n_p0)) (r_p1 : ir p1) : MC mX4_fill_t133 K V [.ref p0, ti p1] (VS K (fun V1 => (True) ∧ (FLL V V1 p0 n_p0 p1))) := by
  refine MC.start 1 (by decide +kernel) rfl rfl rfl (ls0 := [some (.ref p0), some (ti p1), none]) rfl ?_
  refine GO.aload_n dX4_fill_0 rfl rfl ?_
  refine GO.ifnonnull (tgt := 5) dX4_fill_1 (by decide) ?_
  refine GO.iconst dX4_fill_5 ?_
  refine GO.istore_n (ls1 := [some (.ref p0), some (ti p1), some (ti 0)]) dX4_fill_6 rfl rfl rfl ?_
  refine GO.loop1 (fun i1 W => 0 ≤ i1 ∧ i1 ≤ 5000 ∧ (FLI V W p0 p1 i1) ∧ True) (fun i1 => [some (.ref p0), some (ti p1), some (ti i1)]) (fun i1 W => (2147483647 - i1).toNat) 0 ⟨by omega, by omega, (by first | exact FLI.beg), trivial⟩ rfl (fun i1 Wi1 hp39 ih38 => ?_)
  obtain ⟨l_i1, u_i1, hfl, -⟩ := hp39
  have r_i1 : ir i1 := ⟨by omega, by omega⟩
  show GO mX4_fill_t133 K V (VS K (fun V1 => (True) ∧ (FLL V V1 p0 n_p0 p1))) K Wi1 0 0 7 [some (.ref p0), some (ti p1), some (ti i1)] []
  refine GO.iload_n dX4_fill_7 rfl rfl ?_
  refine GO.aload_n dX4_fill_8 rfl rfl ?_
  refine GO.alen h_p0 dX4_fill_9 (fun h40 => ?_)
  refine GO.icmp_ge (tgt := 23) dX4_fill_10 (by decide) r_i1 ⟨by omega, by omega⟩ (fun c41 => ?_) (fun c41 => ?_)
  ·
    exact GO.retv rfl rfl dX4_fill_23 ⟨rfl, rfl, ⟨trivial, FLI.end hfl (by omega)⟩⟩
  ·
    refine GO.aload_n dX4_fill_13 rfl rfl ?_
    refine GO.iload_n dX4_fill_14 rfl rfl ?_
    refine GO.iload_n dX4_fill_15 rfl rfl ?_
    refine GO.iast (t := 133) rfl rfl (by decide +kernel) h_p0 r_i1 (by omega) (by omega) r_p1 (r_p1).1 (r_p1).2 dX4_fill_16 (fun V43 e42 => ?_)
    refine GO.iinc (X := i1) (n := 1) (Y := i1 + 1) (ls1 := [some (.ref p0), some (ti p1), some (ti (i1 + 1))]) dX4_fill_17 rfl rfl rfl rfl ?_
    refine GO.goto (tgt := 7) dX4_fill_20 (by decide) ?_
    exact ih38 (i1 + 1) V43 ⟨by omega, by omega, (by first | exact FLI.beg | exact FLI.step hfl (by assumption) (by assumption) (by omega) (by omega)), trivial⟩ (by show (2147483647 - (i1 + 1)).toNat < (2147483647 - i1).toNat; omega)

set_option maxHeartbeats 1000000 in
theorem t_X4_fill_t134 {K : Kmap} {V : Vmap} {p0 n_p0 : Nat} {p1 : Int} (h_p0 : K p0 = some (135, n_p0)) (r_p1 : ir p1) : MC mX4_fill_t134 K V [.ref p0, ti p1] (VS K (fun V1 => (True) ∧ (FLL V V1 p0 n_p0 p1))) := by
  refine MC.start 1 (by decide +kernel) rfl rfl rfl (ls0 := [some (.ref p0), some (ti p1), none]) rfl ?_
  refine GO.aload_n dX4_fill_0 rfl rfl ?_
  refine GO.ifnonnull (tgt := 5) dX4_fill_1 (by decide) ?_
  refine GO.iconst dX4_fill_5 ?_
  refine GO.istore_n (ls1 := [some (.ref p0), some (ti p1), some (ti 0)]) dX4_fill_6 rfl rfl rfl ?_
  refine GO.loop1 (fun i1 W => 0 ≤ i1 ∧ i1 ≤ 5000 ∧ (FLI V W p0 p1 i1) ∧ True) (fun i1 => [some (.ref p0), some (ti p1), some (ti i1)]) (fun i1 W => (2147483647 - i1).toNat) 0 ⟨by omega, by omega, (by first | exact FLI.beg), trivial⟩ rfl (fun i1 Wi1 hp39 ih38 => ?_)
  obtain ⟨l_i1, u_i1, hfl, -⟩ := hp39
  have r_i1 : ir i1 := ⟨by omega, by omega⟩
  show GO mX4_fill_t134 K V (VS K (fun V1 => (True) ∧ (FLL V V1 p0 n_p0 p1))) K Wi1 0 0 7 [some (.ref p0), some (ti p1), some (ti i1)] []
  refine GO.iload_n dX4_fill_7 rfl rfl ?_
  refine GO.aload_n dX4_fill_8 rfl rfl ?_
  refine GO.alen h_p0 dX4_fill_9 (fun h40 => ?_)
  refine GO.icmp_ge (tgt := 23) dX4_fill_10 (by decide) r_i1 ⟨by omega, by omega⟩ (fun c41 => ?_) (fun c41 => ?_)
  ·
    exact GO.retv rfl rfl dX4_fill_23 ⟨rfl, rfl, ⟨trivial, FLI.end hfl (by omega)⟩⟩
  ·
    refine GO.aload_n dX4_fill_13 rfl rfl ?_
    refine GO.iload_n dX4_fill_14 rfl rfl ?_
    refine GO.iload_n dX4_fill_15 rfl rfl ?_
    refine GO.iast (t := 134) rfl rfl (by decide +kernel) h_p0 r_i1 (by omega) (by omega) r_p1 (r_p1).1 (r_p1).2 dX4_fill_16 (fun V43 e42 => ?_)
    refine GO.iinc (X := i1) (n := 1) (Y := i1 + 1) (ls1 := [some (.ref p0), some (ti p1), some (ti (i1 + 1))]) dX4_fill_17 rfl rfl rfl rfl ?_
    refine GO.goto (tgt := 7) dX4_fill_20 (by decide) ?_
    exact ih38 (i1 + 1) V43 ⟨by omega, by omega, (by first | exact FLI.beg | exact FLI.step hfl (by assumption) (by assumption) (by omega) (by omega)), trivial⟩ (by show (2147483647 - (i1 + 1)).toNat < (2147483647 - i1).toNat; omega)

set_option maxHeartbeats 1000000 in
theorem t_X8_get {K : Kmap} {V : Vmap} {x : Nat} {p0 : Int} {p1 : Int} (h_x : K x = some (0, 7)) (r_p0 : ir p0) (r_p1 : ir p1) : MC mX8_get K V [.ref x, ti p0, ti p1] (IP K V (fun X => True)) := by
  refine MC.start 2 (by decide +kernel) rfl rfl rfl (ls0 := [some (.ref x), some (ti p0), some (ti p1), none, none]) rfl ?_
  refine GO.iload_n dX8_get_0 rfl rfl ?_
  refine GO.aload_n dX8_get_1 rfl rfl ?_
  refine GO.getI h_x fl_RX8_15 rfl rfl dX8_get_2 (fun _ _ => ?_)
  refine GO.imul dX8_get_5 ?_
  refine GO.norm (fun z1 r2 hn3 => ?_)
  refine GO.iload_n dX8_get_6 rfl rfl ?_
  refine GO.iadd dX8_get_7 ?_
  refine GO.norm (fun z4 r5 hn6 => ?_)
  refine GO.istore_n (ls1 := [some (.ref x), some (ti p0), some (ti p1), some (ti z4), none]) dX8_get_8 rfl rfl rfl ?_
  refine GO.iload_n dX8_get_9 rfl rfl ?_
  have hj12 : ∀ (z11 : Int), ∀ (l13 : 0 ≤ z11), ∀ (u14 : z11 ≤ 1), GO mX8_get K V (IP K V (fun X => True)) K V 0 0 38 [some (.ref x), some (ti p0), some (ti p1), some (ti z4), none] [ti z11] := by
    intro z11 l13 u14
    have r15 : ir z11 := ⟨by omega, by omega⟩
    refine GO.istore (ls1 := [some (.ref x), some (ti p0), some (ti p1), some (ti z4), some (ti z11)]) dX8_get_38 rfl rfl ?_
    refine GO.iload dX8_get_40 rfl ?_
    refine GO.if_eq (tgt := 67) dX8_get_42 (by decide) r15 (fun c16 => ?_) (fun c16 => ?_)
    ·
      refine GO.iconst dX8_get_67 ?_
      exact GO.reti rfl rfl dX8_get_68 ⟨rfl, rfl, _, rfl, (ir_c rfl), trivial⟩
    ·
      refine GO.iload_n dX8_get_45 rfl rfl ?_
      refine GO.if_lt (tgt := 67) dX8_get_46 (by decide) r5 (fun c17 => ?_) (fun c17 => ?_)
      ·
        refine GO.iconst dX8_get_67 ?_
        exact GO.reti rfl rfl dX8_get_68 ⟨rfl, rfl, _, rfl, (ir_c rfl), trivial⟩
      ·
        refine GO.iload_n dX8_get_49 rfl rfl ?_
        refine GO.aload_n dX8_get_50 rfl rfl ?_
        refine GO.getB h_x fl_RX8_27 rfl rfl dX8_get_51 (fun n20 hv19 h18 b21 => ?_)
        refine GO.alen h18 dX8_get_54 (fun h22 => ?_)
        refine GO.icmp_ge (tgt := 67) dX8_get_55 (by decide) r5 ⟨by omega, by omega⟩ (fun c23 => ?_) (fun c23 => ?_)
        ·
          refine GO.iconst dX8_get_67 ?_
          exact GO.reti rfl rfl dX8_get_68 ⟨rfl, rfl, _, rfl, (ir_c rfl), trivial⟩
        ·
          refine GO.aload_n dX8_get_58 rfl rfl ?_
          refine GO.getRaw h_x fl_RX8_27 hv19 dX8_get_59 ?_
          refine GO.iload_n dX8_get_62 rfl rfl ?_
          have q26 : -2147483648 ≤ z4 ∧ z4 ≤ 2147483647 := r5
          refine GO.iald (t := 0) rfl rfl h18 r5 (by omega) (by omega) dX8_get_63 (fun _ _ => ?_)
          refine GO.goto (tgt := 68) dX8_get_64 (by decide) ?_
          have q27 : -2147483648 ≤ vi V (vq V x 2) (z4).toNat ∧ vi V (vq V x 2) (z4).toNat ≤ 2147483647 := vi_ir
          exact GO.reti rfl rfl dX8_get_68 ⟨rfl, rfl, _, rfl, vi_ir, trivial⟩
  have hj32 : GO mX8_get K V (IP K V (fun X => True)) K V 0 0 37 [some (.ref x), some (ti p0), some (ti p1), some (ti z4), none] [] := by
    skip
    refine GO.iconst dX8_get_37 ?_
    exact hj12 0 (by omega) (by omega)
  refine GO.if_lt (tgt := 37) dX8_get_10 (by decide) r_p0 (fun c33 => ?_) (fun c33 => ?_)
  ·
    exact hj32 
  ·
    refine GO.iload_n dX8_get_13 rfl rfl ?_
    refine GO.aload_n dX8_get_14 rfl rfl ?_
    refine GO.getI h_x fl_RX8_9 rfl rfl dX8_get_15 (fun _ _ => ?_)
    refine GO.icmp_ge (tgt := 37) dX8_get_18 (by decide) r_p0 vi_ir (fun c34 => ?_) (fun c34 => ?_)
    ·
      exact hj32 
    ·
      refine GO.iload_n dX8_get_21 rfl rfl ?_
      refine GO.if_lt (tgt := 37) dX8_get_22 (by decide) r_p1 (fun c35 => ?_) (fun c35 => ?_)
      ·
        exact hj32 
      ·
        refine GO.iload_n dX8_get_25 rfl rfl ?_
        refine GO.aload_n dX8_get_26 rfl rfl ?_
        refine GO.getI h_x fl_RX8_15 rfl rfl dX8_get_27 (fun _ _ => ?_)
        refine GO.icmp_ge (tgt := 37) dX8_get_30 (by decide) r_p1 vi_ir (fun c36 => ?_) (fun c36 => ?_)
        ·
          exact hj32 
        ·
          refine GO.iconst dX8_get_33 ?_
          refine GO.goto (tgt := 38) dX8_get_34 (by decide) ?_
          exact hj12 1 (by omega) (by omega)
