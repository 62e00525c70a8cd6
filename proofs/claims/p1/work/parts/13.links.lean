theorem gS_RX11_112 : GS RX11 112 yX11_between cX11_between 3 (some .boolean) 3 := ⟨gi_app (List.forall_mem_cons.mpr ⟨gw_299, List.forall_mem_cons.mpr ⟨gw_300, List.forall_mem_cons.mpr ⟨gw_1, fun _ h => absurd h List.not_mem_nil⟩⟩⟩) (gi_ws gw_301), by decide +kernel, by decide +kernel, by decide +kernel⟩
theorem fl_RX11_36 : FL RX11 36 10 4 := ⟨(RX11, TX11, 20), rfl, by decide, lays_10, gw_237⟩
theorem fl_RX11_46 : FL RX11 46 10 6 := ⟨(RX11, TX11, 20), rfl, by decide, lays_10, gw_239⟩
theorem sp_10 : Cond.selects RX11 yX11_anyPlace yX11_anyPlace ∈ gw := gw_mem (pv_in (y := yX11_anyPlace) (n := 20) (List.mem_of_getElem? (i := 10) (by decide +kernel))) (by decide +kernel)
theorem gV_RX11_384 : GV RX11 384 RX11 yX11_anyPlace cX11_anyPlace 2 (some (.object "IceTreaty$Place")) 1 := ⟨gi_app (List.forall_mem_cons.mpr ⟨gw_509, List.forall_mem_cons.mpr ⟨gw_511, List.forall_mem_cons.mpr ⟨sp_10, List.forall_mem_cons.mpr ⟨gw_1, fun _ h => absurd h List.not_mem_nil⟩⟩⟩⟩) (gi_ws gw_512), rfl, by decide +kernel, by decide +kernel, by decide +kernel⟩
theorem sp_9 : Cond.selects RX11 yX11_placeOf yX11_placeOf ∈ gw := gw_mem (pv_in (y := yX11_placeOf) (n := 20) (List.mem_of_getElem? (i := 9) (by decide +kernel))) (by decide +kernel)
theorem gV_RX11_169 : GV RX11 169 RX11 yX11_placeOf cX11_placeOf 4 (some (.object "IceTreaty$Place")) 2 := ⟨gi_app (List.forall_mem_cons.mpr ⟨gw_505, List.forall_mem_cons.mpr ⟨gw_507, List.forall_mem_cons.mpr ⟨sp_9, List.forall_mem_cons.mpr ⟨gw_1, fun _ h => absurd h List.not_mem_nil⟩⟩⟩⟩) (gi_ws gw_508), rfl, by decide +kernel, by decide +kernel, by decide +kernel⟩
theorem fl_RX11_55 : FL RX11 55 10 8 := ⟨(RX11, TX11, 20), rfl, by decide, lays_10, gw_241⟩
theorem fl_RX11_64 : FL RX11 64 10 10 := ⟨(RX11, TX11, 20), rfl, by decide, lays_10, gw_243⟩
theorem fl_RX1_17 : FL RX1 17 1 1 := ⟨(RX1, TX1, 13), rfl, by decide, lays_1, gw_127⟩
theorem fl_RX0_21 : FL RX0 21 0 3 := ⟨(RX0, TX0, 13), rfl, by decide, lays_0, gw_44⟩
theorem fl_RX0_24 : FL RX0 24 0 4 := ⟨(RX0, TX0, 13), rfl, by decide, lays_0, gw_46⟩
theorem gV_RX0_62 : GV RX0 62 RX0 yX0_isCell cX0_isCell 2 (some .boolean) 1 := ⟨gi_app (List.forall_mem_cons.mpr ⟨gw_365, List.forall_mem_cons.mpr ⟨gw_311, List.forall_mem_cons.mpr ⟨gw_312, List.forall_mem_cons.mpr ⟨gw_2, fun _ h => absurd h List.not_mem_nil⟩⟩⟩⟩) (gi_ws gw_313), rfl, by decide +kernel, by decide +kernel, by decide +kernel⟩
theorem sp_1 : Cond.selects RX0 yX0_rowOf yX0_rowOf ∈ gw := gw_mem (pv_in (y := yX0_rowOf) (n := 13) (List.mem_of_getElem? (i := 1) (by decide +kernel))) (by decide +kernel)
theorem gV_RX0_66 : GV RX0 66 RX0 yX0_rowOf cX0_rowOf 2 (some .int) 1 := ⟨gi_app (List.forall_mem_cons.mpr ⟨gw_366, List.forall_mem_cons.mpr ⟨gw_368, List.forall_mem_cons.mpr ⟨sp_1, List.forall_mem_cons.mpr ⟨gw_2, fun _ h => absurd h List.not_mem_nil⟩⟩⟩⟩) (gi_ws gw_369), rfl, by decide +kernel, by decide +kernel, by decide +kernel⟩
theorem sp_2 : Cond.selects RX0 yX0_columnOf yX0_columnOf ∈ gw := gw_mem (pv_in (y := yX0_columnOf) (n := 13) (List.mem_of_getElem? (i := 2) (by decide +kernel))) (by decide +kernel)
theorem gV_RX0_75 : GV RX0 75 RX0 yX0_columnOf cX0_columnOf 2 (some .int) 1 := ⟨gi_app (List.forall_mem_cons.mpr ⟨gw_370, List.forall_mem_cons.mpr ⟨gw_372, List.forall_mem_cons.mpr ⟨sp_2, List.forall_mem_cons.mpr ⟨gw_2, fun _ h => absurd h List.not_mem_nil⟩⟩⟩⟩) (gi_ws gw_373), rfl, by decide +kernel, by decide +kernel, by decide +kernel⟩
theorem fl_RX8_9 : FL RX8 9 7 3 := ⟨(RX8, TX8, 4), rfl, by decide, lays_7, gw_111⟩
theorem fl_RX8_18 : FL RX8 18 7 1 := ⟨(RX8, TX8, 4), rfl, by decide, lays_7, gw_108⟩
theorem fl_RX8_15 : FL RX8 15 7 0 := ⟨(RX8, TX8, 4), rfl, by decide, lays_7, gw_107⟩
theorem fl_RX8_27 : FL RX8 27 7 2 := ⟨(RX8, TX8, 4), rfl, by decide, lays_7, gw_109⟩
theorem gV_RX8_31 : GV RX8 31 RX8 yX8_isFull cX8_isFull 1 (some .boolean) 0 := ⟨gi_app (List.forall_mem_cons.mpr ⟨gw_555, List.forall_mem_cons.mpr ⟨gw_556, List.forall_mem_cons.mpr ⟨gw_557, List.forall_mem_cons.mpr ⟨gw_5, fun _ h => absurd h List.not_mem_nil⟩⟩⟩⟩) (gi_ws gw_558), rfl, by decide +kernel, by decide +kernel, by decide +kernel⟩
theorem fp_RX8_9 : FP RX8 9 7 3 .int false := ⟨(RX8, TX8, 4), tyX8, rfl, by decide, lays_7, gw_111, tyX8_ok, nmX8, rfl, by decide +kernel, fun h => by cases h⟩
theorem gV_RX8_35 : GV RX8 35 RX8 yX8_put cX8_put 6 (none : Option Jvm.ClassFile.FieldType) 3 := ⟨gi_app (List.forall_mem_cons.mpr ⟨gw_559, List.forall_mem_cons.mpr ⟨gw_560, List.forall_mem_cons.mpr ⟨gw_561, List.forall_mem_cons.mpr ⟨gw_5, fun _ h => absurd h List.not_mem_nil⟩⟩⟩⟩) (gi_ws gw_562), rfl, by decide +kernel, by decide +kernel, by decide +kernel⟩
theorem fp_RX8_15 : FP RX8 15 7 0 .int true := ⟨(RX8, TX8, 4), tyX8, rfl, by decide, lays_7, gw_107, tyX8_ok, nmX8, rfl, by decide +kernel, fun _ => rfl⟩
theorem fp_RX8_18 : FP RX8 18 7 1 .int true := ⟨(RX8, TX8, 4), tyX8, rfl, by decide, lays_7, gw_108, tyX8_ok, nmX8, rfl, by decide +kernel, fun _ => rfl⟩
theorem fp_RX8_27 : FP RX8 27 7 2 (.array .int) true := ⟨(RX8, TX8, 4), tyX8, rfl, by decide, lays_7, gw_109, tyX8_ok, nmX8, rfl, by decide +kernel, fun _ => rfl⟩
theorem fl_RX2_9 : FL RX2 9 2 1 := ⟨(RX2, TX2, 5), rfl, by decide, lays_2, gw_333⟩
theorem fp_RX2_9 : FP RX2 9 2 1 .int false := ⟨(RX2, TX2, 5), tyX2, rfl, by decide, lays_2, gw_333, tyX2_ok, nmX2, rfl, by decide +kernel, fun h => by cases h⟩
theorem fl_RX2_15 : FL RX2 15 2 2 := ⟨(RX2, TX2, 5), rfl, by decide, lays_2, gw_335⟩
theorem fp_RX2_15 : FP RX2 15 2 2 .int false := ⟨(RX2, TX2, 5), tyX2, rfl, by decide, lays_2, gw_335, tyX2_ok, nmX2, rfl, by decide +kernel, fun h => by cases h⟩
theorem fl_RX2_18 : FL RX2 18 2 3 := ⟨(RX2, TX2, 5), rfl, by decide, lays_2, gw_337⟩
theorem fp_RX2_18 : FP RX2 18 2 3 (.array .int) true := ⟨(RX2, TX2, 5), tyX2, rfl, by decide, lays_2, gw_337, tyX2_ok, nmX2, rfl, by decide +kernel, fun _ => rfl⟩
theorem fl_RX2_22 : FL RX2 22 2 4 := ⟨(RX2, TX2, 5), rfl, by decide, lays_2, gw_340⟩
theorem fp_RX2_22 : FP RX2 22 2 4 (.array .int) true := ⟨(RX2, TX2, 5), tyX2, rfl, by decide, lays_2, gw_340, tyX2_ok, nmX2, rfl, by decide +kernel, fun _ => rfl⟩
theorem fl_RX2_25 : FL RX2 25 2 0 := ⟨(RX2, TX2, 5), rfl, by decide, lays_2, gw_331⟩
theorem fp_RX2_25 : FP RX2 25 2 0 .int false := ⟨(RX2, TX2, 5), tyX2, rfl, by decide, lays_2, gw_331, tyX2_ok, nmX2, rfl, by decide +kernel, fun h => by cases h⟩
theorem gS_RX2_28 : GS RX2 28 yX4_fill cX4_fill 3 (none : Option Jvm.ClassFile.FieldType) 2 := ⟨gi_app (List.forall_mem_cons.mpr ⟨gw_330, List.forall_mem_cons.mpr ⟨gw_36, List.forall_mem_cons.mpr ⟨gw_3, fun _ h => absurd h List.not_mem_nil⟩⟩⟩) (gi_ws gw_37), by decide +kernel, by decide +kernel, by decide +kernel⟩
theorem fl_RX3_9 : FL RX3 9 3 5 := ⟨(RX3, TX3, 16), rfl, by decide, lays_3, gw_443⟩
theorem fp_RX3_9 : FP RX3 9 3 5 .boolean false := ⟨(RX3, TX3, 16), tyX3, rfl, by decide, lays_3, gw_443, tyX3_ok, nmX3, rfl, by decide +kernel, fun h => by cases h⟩
theorem fl_RX3_15 : FL RX3 15 3 6 := ⟨(RX3, TX3, 16), rfl, by decide, lays_3, gw_445⟩
theorem fp_RX3_15 : FP RX3 15 3 6 .int false := ⟨(RX3, TX3, 16), tyX3, rfl, by decide, lays_3, gw_445, tyX3_ok, nmX3, rfl, by decide +kernel, fun h => by cases h⟩
theorem fl_RX3_19 : FL RX3 19 3 7 := ⟨(RX3, TX3, 16), rfl, by decide, lays_3, gw_447⟩
theorem fp_RX3_19 : FP RX3 19 3 7 .int false := ⟨(RX3, TX3, 16), tyX3, rfl, by decide, lays_3, gw_447, tyX3_ok, nmX3, rfl, by decide +kernel, fun h => by cases h⟩
theorem fl_RX3_22 : FL RX3 22 3 8 := ⟨(RX3, TX3, 16), rfl, by decide, lays_3, gw_449⟩
theorem fp_RX3_22 : FP RX3 22 3 8 .int false := ⟨(RX3, TX3, 16), tyX3, rfl, by decide, lays_3, gw_449, tyX3_ok, nmX3, rfl, by decide +kernel, fun h => by cases h⟩
theorem fl_RX3_25 : FL RX3 25 3 9 := ⟨(RX3, TX3, 16), rfl, by decide, lays_3, gw_451⟩
theorem fp_RX3_25 : FP RX3 25 3 9 .int false := ⟨(RX3, TX3, 16), tyX3, rfl, by decide, lays_3, gw_451, tyX3_ok, nmX3, rfl, by decide +kernel, fun h => by cases h⟩
theorem fl_RX3_28 : FL RX3 28 3 10 := ⟨(RX3, TX3, 16), rfl, by decide, lays_3, gw_453⟩
theorem fp_RX3_28 : FP RX3 28 3 10 .int false := ⟨(RX3, TX3, 16), tyX3, rfl, by decide, lays_3, gw_453, tyX3_ok, nmX3, rfl, by decide +kernel, fun h => by cases h⟩
theorem fl_RX3_31 : FL RX3 31 3 11 := ⟨(RX3, TX3, 16), rfl, by decide, lays_3, gw_455⟩
theorem fp_RX3_31 : FP RX3 31 3 11 .int false := ⟨(RX3, TX3, 16), tyX3, rfl, by decide, lays_3, gw_455, tyX3_ok, nmX3, rfl, by decide +kernel, fun h => by cases h⟩
theorem fl_RX3_34 : FL RX3 34 3 12 := ⟨(RX3, TX3, 16), rfl, by decide, lays_3, gw_457⟩
theorem fp_RX3_34 : FP RX3 34 3 12 .int false := ⟨(RX3, TX3, 16), tyX3, rfl, by decide, lays_3, gw_457, tyX3_ok, nmX3, rfl, by decide +kernel, fun h => by cases h⟩
theorem fl_RX3_37 : FL RX3 37 3 0 := ⟨(RX3, TX3, 16), rfl, by decide, lays_3, gw_433⟩
theorem fp_RX3_37 : FP RX3 37 3 0 .int true := ⟨(RX3, TX3, 16), tyX3, rfl, by decide, lays_3, gw_433, tyX3_ok, nmX3, rfl, by decide +kernel, fun _ => rfl⟩
theorem fl_RX3_40 : FL RX3 40 3 1 := ⟨(RX3, TX3, 16), rfl, by decide, lays_3, gw_435⟩
theorem fp_RX3_40 : FP RX3 40 3 1 .int true := ⟨(RX3, TX3, 16), tyX3, rfl, by decide, lays_3, gw_435, tyX3_ok, nmX3, rfl, by decide +kernel, fun _ => rfl⟩
theorem fl_RX3_43 : FL RX3 43 3 2 := ⟨(RX3, TX3, 16), rfl, by decide, lays_3, gw_437⟩
theorem fp_RX3_43 : FP RX3 43 3 2 .int false := ⟨(RX3, TX3, 16), tyX3, rfl, by decide, lays_3, gw_437, tyX3_ok, nmX3, rfl, by decide +kernel, fun h => by cases h⟩
theorem fl_RX3_46 : FL RX3 46 3 3 := ⟨(RX3, TX3, 16), rfl, by decide, lays_3, gw_439⟩
theorem fp_RX3_46 : FP RX3 46 3 3 .int true := ⟨(RX3, TX3, 16), tyX3, rfl, by decide, lays_3, gw_439, tyX3_ok, nmX3, rfl, by decide +kernel, fun _ => rfl⟩
theorem fl_RX3_49 : FL RX3 49 3 4 := ⟨(RX3, TX3, 16), rfl, by decide, lays_3, gw_441⟩
theorem fp_RX3_49 : FP RX3 49 3 4 .int false := ⟨(RX3, TX3, 16), tyX3, rfl, by decide, lays_3, gw_441, tyX3_ok, nmX3, rfl, by decide +kernel, fun h => by cases h⟩
theorem fl_RX3_52 : FL RX3 52 3 13 := ⟨(RX3, TX3, 16), rfl, by decide, lays_3, gw_459⟩
theorem fp_RX3_52 : FP RX3 52 3 13 (.array .int) true := ⟨(RX3, TX3, 16), tyX3, rfl, by decide, lays_3, gw_459, tyX3_ok, nmX3, rfl, by decide +kernel, fun _ => rfl⟩
theorem fl_RX3_56 : FL RX3 56 3 14 := ⟨(RX3, TX3, 16), rfl, by decide, lays_3, gw_461⟩
theorem fp_RX3_56 : FP RX3 56 3 14 (.array .int) true := ⟨(RX3, TX3, 16), tyX3, rfl, by decide, lays_3, gw_461, tyX3_ok, nmX3, rfl, by decide +kernel, fun _ => rfl⟩
theorem fl_RX3_64 : FL RX3 64 3 15 := ⟨(RX3, TX3, 16), rfl, by decide, lays_3, gw_463⟩
theorem fp_RX3_64 : FP RX3 64 3 15 (.object RX8) true := ⟨(RX3, TX3, 16), tyX3, rfl, by decide, lays_3, gw_463, tyX3_ok, nmX3, rfl, by decide +kernel, fun _ => rfl⟩
theorem gI_RX3_61 : GI RX3 61 yX8_init cX8_init 3 2 := ⟨gi_ws gw_102, gw_5, gw_431, gw_101, rfl, by decide +kernel, by decide +kernel, by decide +kernel⟩
theorem gS_RX3_68 : GS RX3 68 yX4_fill cX4_fill 3 (none : Option Jvm.ClassFile.FieldType) 2 := ⟨gi_app (List.forall_mem_cons.mpr ⟨gw_432, List.forall_mem_cons.mpr ⟨gw_36, List.forall_mem_cons.mpr ⟨gw_3, fun _ h => absurd h List.not_mem_nil⟩⟩⟩) (gi_ws gw_37), by decide +kernel, by decide +kernel, by decide +kernel⟩
theorem fl_RX0_9 : FL RX0 9 0 0 := ⟨(RX0, TX0, 13), rfl, by decide, lays_0, gw_38⟩
theorem fp_RX0_9 : FP RX0 9 0 0 .int false := ⟨(RX0, TX0, 13), tyX0, rfl, by decide, lays_0, gw_38, tyX0_ok, nmX0, rfl, by decide +kernel, fun h => by cases h⟩
theorem fl_RX0_15 : FL RX0 15 0 1 := ⟨(RX0, TX0, 13), rfl, by decide, lays_0, gw_40⟩
theorem fp_RX0_15 : FP RX0 15 0 1 .int false := ⟨(RX0, TX0, 13), tyX0, rfl, by decide, lays_0, gw_40, tyX0_ok, nmX0, rfl, by decide +kernel, fun h => by cases h⟩
theorem fl_RX0_18 : FL RX0 18 0 2 := ⟨(RX0, TX0, 13), rfl, by decide, lays_0, gw_42⟩
theorem fp_RX0_18 : FP RX0 18 0 2 .int false := ⟨(RX0, TX0, 13), tyX0, rfl, by decide, lays_0, gw_42, tyX0_ok, nmX0, rfl, by decide +kernel, fun h => by cases h⟩
theorem fp_RX0_21 : FP RX0 21 0 3 .int false := ⟨(RX0, TX0, 13), tyX0, rfl, by decide, lays_0, gw_44, tyX0_ok, nmX0, rfl, by decide +kernel, fun h => by cases h⟩
theorem fp_RX0_24 : FP RX0 24 0 4 .int false := ⟨(RX0, TX0, 13), tyX0, rfl, by decide, lays_0, gw_46, tyX0_ok, nmX0, rfl, by decide +kernel, fun h => by cases h⟩
theorem fl_RX0_27 : FL RX0 27 0 5 := ⟨(RX0, TX0, 13), rfl, by decide, lays_0, gw_48⟩
theorem fp_RX0_27 : FP RX0 27 0 5 (.array .int) true := ⟨(RX0, TX0, 13), tyX0, rfl, by decide, lays_0, gw_48, tyX0_ok, nmX0, rfl, by decide +kernel, fun _ => rfl⟩
theorem fl_RX0_31 : FL RX0 31 0 6 := ⟨(RX0, TX0, 13), rfl, by decide, lays_0, gw_50⟩
theorem fp_RX0_31 : FP RX0 31 0 6 (.array .int) true := ⟨(RX0, TX0, 13), tyX0, rfl, by decide, lays_0, gw_50, tyX0_ok, nmX0, rfl, by decide +kernel, fun _ => rfl⟩
theorem fl_RX0_34 : FL RX0 34 0 7 := ⟨(RX0, TX0, 13), rfl, by decide, lays_0, gw_52⟩
theorem fp_RX0_34 : FP RX0 34 0 7 (.array .int) true := ⟨(RX0, TX0, 13), tyX0, rfl, by decide, lays_0, gw_52, tyX0_ok, nmX0, rfl, by decide +kernel, fun _ => rfl⟩
theorem fl_RX0_37 : FL RX0 37 0 8 := ⟨(RX0, TX0, 13), rfl, by decide, lays_0, gw_54⟩
theorem fp_RX0_37 : FP RX0 37 0 8 (.array .int) true := ⟨(RX0, TX0, 13), tyX0, rfl, by decide, lays_0, gw_54, tyX0_ok, nmX0, rfl, by decide +kernel, fun _ => rfl⟩
theorem fl_RX0_40 : FL RX0 40 0 9 := ⟨(RX0, TX0, 13), rfl, by decide, lays_0, gw_56⟩
theorem fp_RX0_40 : FP RX0 40 0 9 (.array .int) true := ⟨(RX0, TX0, 13), tyX0, rfl, by decide, lays_0, gw_56, tyX0_ok, nmX0, rfl, by decide +kernel, fun _ => rfl⟩
theorem fl_RX0_43 : FL RX0 43 0 10 := ⟨(RX0, TX0, 13), rfl, by decide, lays_0, gw_58⟩
theorem fp_RX0_43 : FP RX0 43 0 10 (.array .int) true := ⟨(RX0, TX0, 13), tyX0, rfl, by decide, lays_0, gw_58, tyX0_ok, nmX0, rfl, by decide +kernel, fun _ => rfl⟩
theorem fl_RX0_46 : FL RX0 46 0 11 := ⟨(RX0, TX0, 13), rfl, by decide, lays_0, gw_60⟩
theorem fp_RX0_46 : FP RX0 46 0 11 (.array .int) true := ⟨(RX0, TX0, 13), tyX0, rfl, by decide, lays_0, gw_60, tyX0_ok, nmX0, rfl, by decide +kernel, fun _ => rfl⟩
theorem fl_RX0_49 : FL RX0 49 0 12 := ⟨(RX0, TX0, 13), rfl, by decide, lays_0, gw_61⟩
theorem fp_RX0_49 : FP RX0 49 0 12 (.array .int) true := ⟨(RX0, TX0, 13), tyX0, rfl, by decide, lays_0, gw_61, tyX0_ok, nmX0, rfl, by decide +kernel, fun _ => rfl⟩
theorem gS_RX0_52 : GS RX0 52 yX4_fill cX4_fill 3 (none : Option Jvm.ClassFile.FieldType) 2 := ⟨gi_app (List.forall_mem_cons.mpr ⟨gw_35, List.forall_mem_cons.mpr ⟨gw_36, List.forall_mem_cons.mpr ⟨gw_3, fun _ h => absurd h List.not_mem_nil⟩⟩⟩) (gi_ws gw_37), by decide +kernel, by decide +kernel, by decide +kernel⟩
theorem fl_RX1_11 : FL RX1 11 1 0 := ⟨(RX1, TX1, 13), rfl, by decide, lays_1, gw_126⟩
theorem fp_RX1_11 : FP RX1 11 1 0 (.array (.object RX9)) true := ⟨(RX1, TX1, 13), tyX1, rfl, by decide, lays_1, gw_126, tyX1_ok, nmX1, rfl, by decide +kernel, fun _ => rfl⟩
theorem fp_RX1_17 : FP RX1 17 1 1 .int false := ⟨(RX1, TX1, 13), tyX1, rfl, by decide, lays_1, gw_127, tyX1_ok, nmX1, rfl, by decide +kernel, fun h => by cases h⟩
theorem gI_RX1_23 : GI RX1 23 yX8_init cX8_init 3 2 := ⟨gi_ws gw_102, gw_5, gw_100, gw_101, rfl, by decide +kernel, by decide +kernel, by decide +kernel⟩
theorem fl_RX1_26 : FL RX1 26 1 2 := ⟨(RX1, TX1, 13), rfl, by decide, lays_1, gw_129⟩
theorem fp_RX1_26 : FP RX1 26 1 2 (.object RX8) true := ⟨(RX1, TX1, 13), tyX1, rfl, by decide, lays_1, gw_129, tyX1_ok, nmX1, rfl, by decide +kernel, fun _ => rfl⟩
theorem fl_RX1_30 : FL RX1 30 1 3 := ⟨(RX1, TX1, 13), rfl, by decide, lays_1, gw_131⟩
theorem fp_RX1_30 : FP RX1 30 1 3 (.array (.object RX9)) true := ⟨(RX1, TX1, 13), tyX1, rfl, by decide, lays_1, gw_131, tyX1_ok, nmX1, rfl, by decide +kernel, fun _ => rfl⟩
theorem fl_RX1_33 : FL RX1 33 1 4 := ⟨(RX1, TX1, 13), rfl, by decide, lays_1, gw_132⟩
theorem fp_RX1_33 : FP RX1 33 1 4 (.array .int) true := ⟨(RX1, TX1, 13), tyX1, rfl, by decide, lays_1, gw_132, tyX1_ok, nmX1, rfl, by decide +kernel, fun _ => rfl⟩
theorem fl_RX1_37 : FL RX1 37 1 5 := ⟨(RX1, TX1, 13), rfl, by decide, lays_1, gw_134⟩
theorem fp_RX1_37 : FP RX1 37 1 5 (.array .int) true := ⟨(RX1, TX1, 13), tyX1, rfl, by decide, lays_1, gw_134, tyX1_ok, nmX1, rfl, by decide +kernel, fun _ => rfl⟩
theorem fl_RX1_40 : FL RX1 40 1 6 := ⟨(RX1, TX1, 13), rfl, by decide, lays_1, gw_135⟩
theorem fp_RX1_40 : FP RX1 40 1 6 .int false := ⟨(RX1, TX1, 13), tyX1, rfl, by decide, lays_1, gw_135, tyX1_ok, nmX1, rfl, by decide +kernel, fun h => by cases h⟩
theorem fl_RX1_43 : FL RX1 43 1 7 := ⟨(RX1, TX1, 13), rfl, by decide, lays_1, gw_136⟩
theorem fp_RX1_43 : FP RX1 43 1 7 .int false := ⟨(RX1, TX1, 13), tyX1, rfl, by decide, lays_1, gw_136, tyX1_ok, nmX1, rfl, by decide +kernel, fun h => by cases h⟩
theorem fl_RX1_46 : FL RX1 46 1 8 := ⟨(RX1, TX1, 13), rfl, by decide, lays_1, gw_137⟩
theorem fp_RX1_46 : FP RX1 46 1 8 (.array .int) true := ⟨(RX1, TX1, 13), tyX1, rfl, by decide, lays_1, gw_137, tyX1_ok, nmX1, rfl, by decide +kernel, fun _ => rfl⟩
theorem fl_RX1_49 : FL RX1 49 1 9 := ⟨(RX1, TX1, 13), rfl, by decide, lays_1, gw_139⟩
theorem fp_RX1_49 : FP RX1 49 1 9 (.array .int) true := ⟨(RX1, TX1, 13), tyX1, rfl, by decide, lays_1, gw_139, tyX1_ok, nmX1, rfl, by decide +kernel, fun _ => rfl⟩
theorem fl_RX1_52 : FL RX1 52 1 10 := ⟨(RX1, TX1, 13), rfl, by decide, lays_1, gw_140⟩
theorem fp_RX1_52 : FP RX1 52 1 10 .int false := ⟨(RX1, TX1, 13), tyX1, rfl, by decide, lays_1, gw_140, tyX1_ok, nmX1, rfl, by decide +kernel, fun h => by cases h⟩
theorem fl_RX1_55 : FL RX1 55 1 11 := ⟨(RX1, TX1, 13), rfl, by decide, lays_1, gw_141⟩
theorem fp_RX1_55 : FP RX1 55 1 11 .int false := ⟨(RX1, TX1, 13), tyX1, rfl, by decide, lays_1, gw_141, tyX1_ok, nmX1, rfl, by decide +kernel, fun h => by cases h⟩
theorem fl_RX1_58 : FL RX1 58 1 12 := ⟨(RX1, TX1, 13), rfl, by decide, lays_1, gw_143⟩
theorem fp_RX1_58 : FP RX1 58 1 12 .int false := ⟨(RX1, TX1, 13), tyX1, rfl, by decide, lays_1, gw_143, tyX1_ok, nmX1, rfl, by decide +kernel, fun h => by cases h⟩
theorem gI_RX6_11 : GI RX6 11 yX8_init cX8_init 3 2 := ⟨gi_ws gw_102, gw_5, gw_179, gw_101, rfl, by decide +kernel, by decide +kernel, by decide +kernel⟩
theorem fl_RX6_14 : FL RX6 14 5 0 := ⟨(RX6, TX6, 10), rfl, by decide, lays_5, gw_181⟩
theorem fp_RX6_14 : FP RX6 14 5 0 (.object RX8) true := ⟨(RX6, TX6, 10), tyX6, rfl, by decide, lays_5, gw_181, tyX6_ok, nmX6, rfl, by decide +kernel, fun _ => rfl⟩
theorem fl_RX6_20 : FL RX6 20 5 1 := ⟨(RX6, TX6, 10), rfl, by decide, lays_5, gw_183⟩
theorem fp_RX6_20 : FP RX6 20 5 1 (.array .int) true := ⟨(RX6, TX6, 10), tyX6, rfl, by decide, lays_5, gw_183, tyX6_ok, nmX6, rfl, by decide +kernel, fun _ => rfl⟩
theorem fl_RX6_24 : FL RX6 24 5 2 := ⟨(RX6, TX6, 10), rfl, by decide, lays_5, gw_185⟩
theorem fp_RX6_24 : FP RX6 24 5 2 (.array .int) true := ⟨(RX6, TX6, 10), tyX6, rfl, by decide, lays_5, gw_185, tyX6_ok, nmX6, rfl, by decide +kernel, fun _ => rfl⟩
theorem fl_RX6_27 : FL RX6 27 5 3 := ⟨(RX6, TX6, 10), rfl, by decide, lays_5, gw_187⟩
theorem fp_RX6_27 : FP RX6 27 5 3 (.array .int) true := ⟨(RX6, TX6, 10), tyX6, rfl, by decide, lays_5, gw_187, tyX6_ok, nmX6, rfl, by decide +kernel, fun _ => rfl⟩
theorem fl_RX6_30 : FL RX6 30 5 4 := ⟨(RX6, TX6, 10), rfl, by decide, lays_5, gw_189⟩
theorem fp_RX6_30 : FP RX6 30 5 4 (.array .int) true := ⟨(RX6, TX6, 10), tyX6, rfl, by decide, lays_5, gw_189, tyX6_ok, nmX6, rfl, by decide +kernel, fun _ => rfl⟩
theorem fl_RX6_33 : FL RX6 33 5 5 := ⟨(RX6, TX6, 10), rfl, by decide, lays_5, gw_190⟩
theorem fp_RX6_33 : FP RX6 33 5 5 (.array .int) true := ⟨(RX6, TX6, 10), tyX6, rfl, by decide, lays_5, gw_190, tyX6_ok, nmX6, rfl, by decide +kernel, fun _ => rfl⟩
theorem fl_RX6_36 : FL RX6 36 5 6 := ⟨(RX6, TX6, 10), rfl, by decide, lays_5, gw_191⟩
theorem fp_RX6_36 : FP RX6 36 5 6 (.array .int) true := ⟨(RX6, TX6, 10), tyX6, rfl, by decide, lays_5, gw_191, tyX6_ok, nmX6, rfl, by decide +kernel, fun _ => rfl⟩
theorem fl_RX6_39 : FL RX6 39 5 7 := ⟨(RX6, TX6, 10), rfl, by decide, lays_5, gw_192⟩
theorem fp_RX6_39 : FP RX6 39 5 7 (.array .int) true := ⟨(RX6, TX6, 10), tyX6, rfl, by decide, lays_5, gw_192, tyX6_ok, nmX6, rfl, by decide +kernel, fun _ => rfl⟩
theorem fl_RX6_42 : FL RX6 42 5 8 := ⟨(RX6, TX6, 10), rfl, by decide, lays_5, gw_194⟩
theorem fp_RX6_42 : FP RX6 42 5 8 .int false := ⟨(RX6, TX6, 10), tyX6, rfl, by decide, lays_5, gw_194, tyX6_ok, nmX6, rfl, by decide +kernel, fun h => by cases h⟩
theorem fl_RX6_46 : FL RX6 46 5 9 := ⟨(RX6, TX6, 10), rfl, by decide, lays_5, gw_196⟩
theorem fp_RX6_46 : FP RX6 46 5 9 .int false := ⟨(RX6, TX6, 10), tyX6, rfl, by decide, lays_5, gw_196, tyX6_ok, nmX6, rfl, by decide +kernel, fun h => by cases h⟩
theorem gS_RX6_49 : GS RX6 49 yX4_fill cX4_fill 3 (none : Option Jvm.ClassFile.FieldType) 2 := ⟨gi_app (List.forall_mem_cons.mpr ⟨gw_180, List.forall_mem_cons.mpr ⟨gw_36, List.forall_mem_cons.mpr ⟨gw_3, fun _ h => absurd h List.not_mem_nil⟩⟩⟩) (gi_ws gw_37), by decide +kernel, by decide +kernel, by decide +kernel⟩
theorem gI_RX11_11 : GI RX11 11 yX0_init cX0_init 1 0 := ⟨gi_ws gw_33, gw_2, gw_31, gw_32, rfl, by decide +kernel, by decide +kernel, by decide +kernel⟩
theorem fl_RX11_12 : FL RX11 12 10 0 := ⟨(RX11, TX11, 20), rfl, by decide, lays_10, gw_233⟩
theorem fp_RX11_12 : FP RX11 12 10 0 (.object RX0) true := ⟨(RX11, TX11, 20), tyX11, rfl, by decide, lays_10, gw_233, tyX11_ok, nmX11, rfl, by decide +kernel, fun _ => rfl⟩
theorem gn_nest : GN yX1_init cX1_init 1 0 := ⟨gi_ws gw_94, gw_4, gw_93, rfl, by decide +kernel, by decide +kernel, by decide +kernel⟩
theorem fl_RX11_19 : FL RX11 19 10 1 := ⟨(RX11, TX11, 20), rfl, by decide, lays_10, gw_234⟩
theorem fp_RX11_19 : FP RX11 19 10 1 (.object RX1) true := ⟨(RX11, TX11, 20), tyX11, rfl, by decide, lays_10, gw_234, tyX11_ok, nmX11, rfl, by decide +kernel, fun _ => rfl⟩
theorem gI_RX11_25 : GI RX11 25 yX6_init cX6_init 1 0 := ⟨gi_ws gw_176, gw_7, gw_174, gw_175, rfl, by decide +kernel, by decide +kernel, by decide +kernel⟩
theorem fl_RX11_26 : FL RX11 26 10 2 := ⟨(RX11, TX11, 20), rfl, by decide, lays_10, gw_235⟩
theorem fp_RX11_26 : FP RX11 26 10 2 (.object RX6) true := ⟨(RX11, TX11, 20), tyX11, rfl, by decide, lays_10, gw_235, tyX11_ok, nmX11, rfl, by decide +kernel, fun _ => rfl⟩
theorem fl_RX11_32 : FL RX11 32 10 3 := ⟨(RX11, TX11, 20), rfl, by decide, lays_10, gw_236⟩
theorem fp_RX11_32 : FP RX11 32 10 3 (.array (.object RX2)) true := ⟨(RX11, TX11, 20), tyX11, rfl, by decide, lays_10, gw_236, tyX11_ok, nmX11, rfl, by decide +kernel, fun _ => rfl⟩
theorem fp_RX11_36 : FP RX11 36 10 4 .int false := ⟨(RX11, TX11, 20), tyX11, rfl, by decide, lays_10, gw_237, tyX11_ok, nmX11, rfl, by decide +kernel, fun h => by cases h⟩
theorem fl_RX11_42 : FL RX11 42 10 5 := ⟨(RX11, TX11, 20), rfl, by decide, lays_10, gw_238⟩
theorem fp_RX11_42 : FP RX11 42 10 5 (.array (.object RX3)) true := ⟨(RX11, TX11, 20), tyX11, rfl, by decide, lays_10, gw_238, tyX11_ok, nmX11, rfl, by decide +kernel, fun _ => rfl⟩
theorem fp_RX11_46 : FP RX11 46 10 6 .int false := ⟨(RX11, TX11, 20), tyX11, rfl, by decide, lays_10, gw_239, tyX11_ok, nmX11, rfl, by decide +kernel, fun h => by cases h⟩
theorem fl_RX11_51 : FL RX11 51 10 7 := ⟨(RX11, TX11, 20), rfl, by decide, lays_10, gw_240⟩
theorem fp_RX11_51 : FP RX11 51 10 7 (.array (.object RX10)) true := ⟨(RX11, TX11, 20), tyX11, rfl, by decide, lays_10, gw_240, tyX11_ok, nmX11, rfl, by decide +kernel, fun _ => rfl⟩
theorem fp_RX11_55 : FP RX11 55 10 8 .int false := ⟨(RX11, TX11, 20), tyX11, rfl, by decide, lays_10, gw_241, tyX11_ok, nmX11, rfl, by decide +kernel, fun h => by cases h⟩
theorem fl_RX11_60 : FL RX11 60 10 9 := ⟨(RX11, TX11, 20), rfl, by decide, lays_10, gw_242⟩
theorem fp_RX11_60 : FP RX11 60 10 9 (.array (.object RX7)) true := ⟨(RX11, TX11, 20), tyX11, rfl, by decide, lays_10, gw_242, tyX11_ok, nmX11, rfl, by decide +kernel, fun _ => rfl⟩
theorem fp_RX11_64 : FP RX11 64 10 10 .int false := ⟨(RX11, TX11, 20), tyX11, rfl, by decide, lays_10, gw_243, tyX11_ok, nmX11, rfl, by decide +kernel, fun h => by cases h⟩
theorem gI_RX11_69 : GI RX11 69 yX8_init cX8_init 3 2 := ⟨gi_ws gw_102, gw_5, gw_228, gw_101, rfl, by decide +kernel, by decide +kernel, by decide +kernel⟩
theorem fl_RX11_72 : FL RX11 72 10 11 := ⟨(RX11, TX11, 20), rfl, by decide, lays_10, gw_244⟩
theorem fp_RX11_72 : FP RX11 72 10 11 (.object RX8) true := ⟨(RX11, TX11, 20), tyX11, rfl, by decide, lays_10, gw_244, tyX11_ok, nmX11, rfl, by decide +kernel, fun _ => rfl⟩
theorem fl_RX11_76 : FL RX11 76 10 12 := ⟨(RX11, TX11, 20), rfl, by decide, lays_10, gw_245⟩
theorem fp_RX11_76 : FP RX11 76 10 12 (.object RX8) true := ⟨(RX11, TX11, 20), tyX11, rfl, by decide, lays_10, gw_245, tyX11_ok, nmX11, rfl, by decide +kernel, fun _ => rfl⟩
theorem fl_RX11_79 : FL RX11 79 10 13 := ⟨(RX11, TX11, 20), rfl, by decide, lays_10, gw_246⟩
theorem fp_RX11_79 : FP RX11 79 10 13 (.object RX8) true := ⟨(RX11, TX11, 20), tyX11, rfl, by decide, lays_10, gw_246, tyX11_ok, nmX11, rfl, by decide +kernel, fun _ => rfl⟩
theorem fl_RX11_82 : FL RX11 82 10 14 := ⟨(RX11, TX11, 20), rfl, by decide, lays_10, gw_247⟩
theorem fp_RX11_82 : FP RX11 82 10 14 (.object RX8) true := ⟨(RX11, TX11, 20), tyX11, rfl, by decide, lays_10, gw_247, tyX11_ok, nmX11, rfl, by decide +kernel, fun _ => rfl⟩
theorem fl_RX11_85 : FL RX11 85 10 15 := ⟨(RX11, TX11, 20), rfl, by decide, lays_10, gw_248⟩
theorem fp_RX11_85 : FP RX11 85 10 15 (.object RX8) true := ⟨(RX11, TX11, 20), tyX11, rfl, by decide, lays_10, gw_248, tyX11_ok, nmX11, rfl, by decide +kernel, fun _ => rfl⟩
theorem fl_RX11_88 : FL RX11 88 10 16 := ⟨(RX11, TX11, 20), rfl, by decide, lays_10, gw_249⟩
theorem fp_RX11_88 : FP RX11 88 10 16 (.object RX8) true := ⟨(RX11, TX11, 20), tyX11, rfl, by decide, lays_10, gw_249, tyX11_ok, nmX11, rfl, by decide +kernel, fun _ => rfl⟩
theorem fl_RX11_91 : FL RX11 91 10 17 := ⟨(RX11, TX11, 20), rfl, by decide, lays_10, gw_250⟩
theorem fp_RX11_91 : FP RX11 91 10 17 (.object RX8) true := ⟨(RX11, TX11, 20), tyX11, rfl, by decide, lays_10, gw_250, tyX11_ok, nmX11, rfl, by decide +kernel, fun _ => rfl⟩
theorem fl_RX11_94 : FL RX11 94 10 18 := ⟨(RX11, TX11, 20), rfl, by decide, lays_10, gw_251⟩
theorem fp_RX11_94 : FP RX11 94 10 18 (.array .int) true := ⟨(RX11, TX11, 20), tyX11, rfl, by decide, lays_10, gw_251, tyX11_ok, nmX11, rfl, by decide +kernel, fun _ => rfl⟩
theorem fl_RX11_98 : FL RX11 98 10 19 := ⟨(RX11, TX11, 20), rfl, by decide, lays_10, gw_252⟩
theorem fp_RX11_98 : FP RX11 98 10 19 (.array .long) true := ⟨(RX11, TX11, 20), tyX11, rfl, by decide, lays_10, gw_252, tyX11_ok, nmX11, rfl, by decide +kernel, fun _ => rfl⟩
theorem gS_RX11_102 : GS RX11 102 yX4_fill cX4_fill 3 (none : Option Jvm.ClassFile.FieldType) 2 := ⟨gi_app (List.forall_mem_cons.mpr ⟨gw_229, List.forall_mem_cons.mpr ⟨gw_36, List.forall_mem_cons.mpr ⟨gw_3, fun _ h => absurd h List.not_mem_nil⟩⟩⟩) (gi_ws gw_37), by decide +kernel, by decide +kernel, by decide +kernel⟩
theorem gS_RX11_108 : GS RX11 108 yX4_put cX4_put 3 (none : Option Jvm.ClassFile.FieldType) 3 := ⟨gi_app (List.forall_mem_cons.mpr ⟨gw_230, List.forall_mem_cons.mpr ⟨gw_231, List.forall_mem_cons.mpr ⟨gw_3, fun _ h => absurd h List.not_mem_nil⟩⟩⟩) (gi_ws gw_232), by decide +kernel, by decide +kernel, by decide +kernel⟩
theorem sp_0 : Cond.selects RX11 yX11_partyOf yX11_partyOf ∈ gw := gw_mem (pv_in (y := yX11_partyOf) (n := 20) (List.mem_of_getElem? (i := 0) (by decide +kernel))) (by decide +kernel)
theorem gV_RX11_151 : GV RX11 151 RX11 yX11_partyOf cX11_partyOf 2 (some (.object "IceTreaty$Party")) 1 := ⟨gi_app (List.forall_mem_cons.mpr ⟨gw_357, List.forall_mem_cons.mpr ⟨gw_359, List.forall_mem_cons.mpr ⟨sp_0, List.forall_mem_cons.mpr ⟨gw_1, fun _ h => absurd h List.not_mem_nil⟩⟩⟩⟩) (gi_ws gw_360), rfl, by decide +kernel, by decide +kernel, by decide +kernel⟩
theorem fl_RX11_199 : FL RX11 199 7 3 := ⟨(RX8, TX8, 4), rfl, by decide, lays_7, gw_115⟩
theorem gV_RX11_205 : GV RX11 205 RX8 yX8_append cX8_append 7 (some .int) 5 := ⟨gi_app (List.forall_mem_cons.mpr ⟨gw_551, List.forall_mem_cons.mpr ⟨gw_552, List.forall_mem_cons.mpr ⟨gw_553, List.forall_mem_cons.mpr ⟨gw_5, fun _ h => absurd h List.not_mem_nil⟩⟩⟩⟩) (gi_ws gw_554), rfl, by decide +kernel, by decide +kernel, by decide +kernel⟩
theorem gV_RX11_116 : GV RX11 116 RX0 yX0_lay cX0_lay 3 (none : Option Jvm.ClassFile.FieldType) 2 := ⟨gi_app (List.forall_mem_cons.mpr ⟨gw_302, List.forall_mem_cons.mpr ⟨gw_303, List.forall_mem_cons.mpr ⟨gw_304, List.forall_mem_cons.mpr ⟨gw_2, fun _ h => absurd h List.not_mem_nil⟩⟩⟩⟩) (gi_ws gw_305), rfl, by decide +kernel, by decide +kernel, by decide +kernel⟩
theorem gV_RX11_119 : GV RX11 119 RX0 yX0_isCell cX0_isCell 2 (some .boolean) 1 := ⟨gi_app (List.forall_mem_cons.mpr ⟨gw_310, List.forall_mem_cons.mpr ⟨gw_311, List.forall_mem_cons.mpr ⟨gw_312, List.forall_mem_cons.mpr ⟨gw_2, fun _ h => absurd h List.not_mem_nil⟩⟩⟩⟩) (gi_ws gw_313), rfl, by decide +kernel, by decide +kernel, by decide +kernel⟩
theorem fl_RX11_123 : FL RX11 123 0 5 := ⟨(RX0, TX0, 13), rfl, by decide, lays_0, gw_49⟩
theorem fl_RX11_126 : FL RX11 126 0 6 := ⟨(RX0, TX0, 13), rfl, by decide, lays_0, gw_51⟩
theorem fl_RX11_129 : FL RX11 129 0 7 := ⟨(RX0, TX0, 13), rfl, by decide, lays_0, gw_53⟩
theorem fl_RX11_132 : FL RX11 132 0 8 := ⟨(RX0, TX0, 13), rfl, by decide, lays_0, gw_55⟩
theorem gS_RX11_135 : GS RX11 135 yX11_areYearDays cX11_areYearDays 2 (some .boolean) 2 := ⟨gi_app (List.forall_mem_cons.mpr ⟨gw_318, List.forall_mem_cons.mpr ⟨gw_319, List.forall_mem_cons.mpr ⟨gw_1, fun _ h => absurd h List.not_mem_nil⟩⟩⟩) (gi_ws gw_320), by decide +kernel, by decide +kernel, by decide +kernel⟩
theorem fl_RX11_139 : FL RX11 139 0 1 := ⟨(RX0, TX0, 13), rfl, by decide, lays_0, gw_41⟩
theorem fp_RX11_139 : FP RX11 139 0 1 .int false := ⟨(RX0, TX0, 13), tyX0, rfl, by decide, lays_0, gw_41, tyX0_ok, nmX0, rfl, by decide +kernel, fun h => by cases h⟩
theorem fl_RX11_142 : FL RX11 142 0 2 := ⟨(RX0, TX0, 13), rfl, by decide, lays_0, gw_43⟩
theorem fp_RX11_142 : FP RX11 142 0 2 .int false := ⟨(RX0, TX0, 13), tyX0, rfl, by decide, lays_0, gw_43, tyX0_ok, nmX0, rfl, by decide +kernel, fun h => by cases h⟩
theorem gI_RX11_148 : GI RX11 148 yX2_init cX2_init 2 1 := ⟨gi_ws gw_328, gw_9, gw_326, gw_327, rfl, by decide +kernel, by decide +kernel, by decide +kernel⟩
theorem fl_RX11_145 : FL RX11 145 0 0 := ⟨(RX0, TX0, 13), rfl, by decide, lays_0, gw_39⟩
theorem sp_12 : Cond.selects RX11 yX11_standingStation yX11_standingStation ∈ gw := gw_mem (pv_in (y := yX11_standingStation) (n := 20) (List.mem_of_getElem? (i := 12) (by decide +kernel))) (by decide +kernel)
theorem gV_RX11_195 : GV RX11 195 RX11 yX11_standingStation cX11_standingStation 3 (some (.object "IceTreaty$Place")) 1 := ⟨gi_app (List.forall_mem_cons.mpr ⟨gw_531, List.forall_mem_cons.mpr ⟨gw_533, List.forall_mem_cons.mpr ⟨sp_12, List.forall_mem_cons.mpr ⟨gw_1, fun _ h => absurd h List.not_mem_nil⟩⟩⟩⟩) (gi_ws gw_534), rfl, by decide +kernel, by decide +kernel, by decide +kernel⟩
theorem gV_RX11_155 : GV RX11 155 RX0 yX0_isRectangle cX0_isRectangle 3 (some .boolean) 2 := ⟨gi_app (List.forall_mem_cons.mpr ⟨gw_361, List.forall_mem_cons.mpr ⟨gw_362, List.forall_mem_cons.mpr ⟨gw_363, List.forall_mem_cons.mpr ⟨gw_2, fun _ h => absurd h List.not_mem_nil⟩⟩⟩⟩) (gi_ws gw_364), rfl, by decide +kernel, by decide +kernel, by decide +kernel⟩
theorem gI_RX11_162 : GI RX11 162 yX3_init cX3_init 6 5 := ⟨gi_ws gw_428, gw_10, gw_426, gw_427, rfl, by decide +kernel, by decide +kernel, by decide +kernel⟩
theorem sp_8 : Cond.selects RX11 yX11_settle yX11_settle ∈ gw := gw_mem (pv_in (y := yX11_settle) (n := 20) (List.mem_of_getElem? (i := 8) (by decide +kernel))) (by decide +kernel)
theorem gV_RX11_165 : GV RX11 165 RX11 yX11_settle cX11_settle 2 (some .int) 1 := ⟨gi_app (List.forall_mem_cons.mpr ⟨gw_497, List.forall_mem_cons.mpr ⟨gw_499, List.forall_mem_cons.mpr ⟨sp_8, List.forall_mem_cons.mpr ⟨gw_1, fun _ h => absurd h List.not_mem_nil⟩⟩⟩⟩) (gi_ws gw_500), rfl, by decide +kernel, by decide +kernel, by decide +kernel⟩
theorem sp_13 : Cond.selects RX11 yX11_feedNumber yX11_feedNumber ∈ gw := gw_mem (pv_in (y := yX11_feedNumber) (n := 20) (List.mem_of_getElem? (i := 13) (by decide +kernel))) (by decide +kernel)
theorem gV_RX11_202 : GV RX11 202 RX11 yX11_feedNumber cX11_feedNumber 3 (none : Option Jvm.ClassFile.FieldType) 1 := ⟨gi_app (List.forall_mem_cons.mpr ⟨gw_547, List.forall_mem_cons.mpr ⟨gw_549, List.forall_mem_cons.mpr ⟨sp_13, List.forall_mem_cons.mpr ⟨gw_1, fun _ h => absurd h List.not_mem_nil⟩⟩⟩⟩) (gi_ws gw_550), rfl, by decide +kernel, by decide +kernel, by decide +kernel⟩
theorem gS_RX11_213 : GS RX11 213 yX11_areDays cX11_areDays 2 (some .boolean) 2 := ⟨gi_app (List.forall_mem_cons.mpr ⟨gw_567, List.forall_mem_cons.mpr ⟨gw_568, List.forall_mem_cons.mpr ⟨gw_1, fun _ h => absurd h List.not_mem_nil⟩⟩⟩) (gi_ws gw_569), by decide +kernel, by decide +kernel, by decide +kernel⟩
theorem fl_RX11_216 : FL RX11 216 1 1 := ⟨(RX1, TX1, 13), rfl, by decide, lays_1, gw_128⟩
theorem gV_RX11_246 : GV RX11 246 RX1 yX1_textOf cX1_textOf 2 (some (.object "IceTreaty$Text")) 1 := ⟨gi_app (List.forall_mem_cons.mpr ⟨gw_820, List.forall_mem_cons.mpr ⟨gw_387, List.forall_mem_cons.mpr ⟨gw_388, List.forall_mem_cons.mpr ⟨gw_4, fun _ h => absurd h List.not_mem_nil⟩⟩⟩⟩) (gi_ws gw_389), rfl, by decide +kernel, by decide +kernel, by decide +kernel⟩
theorem sp_30 : Cond.selects RX11 yX11_workOf yX11_workOf ∈ gw := gw_mem (pv_in (y := yX11_workOf) (n := 20) (List.mem_of_getElem? (i := 30) (by decide +kernel))) (by decide +kernel)
theorem gV_RX11_309 : GV RX11 309 RX11 yX11_workOf cX11_workOf 2 (some (.object "IceTreaty$Work")) 1 := ⟨gi_app (List.forall_mem_cons.mpr ⟨gw_950, List.forall_mem_cons.mpr ⟨gw_952, List.forall_mem_cons.mpr ⟨sp_30, List.forall_mem_cons.mpr ⟨gw_1, fun _ h => absurd h List.not_mem_nil⟩⟩⟩⟩) (gi_ws gw_953), rfl, by decide +kernel, by decide +kernel, by decide +kernel⟩
theorem gS_RX11_394 : GS RX11 394 yX11_isSea cX11_isSea 1 (some .boolean) 1 := ⟨gi_app (List.forall_mem_cons.mpr ⟨gw_1098, List.forall_mem_cons.mpr ⟨gw_1099, List.forall_mem_cons.mpr ⟨gw_1, fun _ h => absurd h List.not_mem_nil⟩⟩⟩) (gi_ws gw_1100), by decide +kernel, by decide +kernel, by decide +kernel⟩
theorem fl_RX11_397 : FL RX11 397 0 9 := ⟨(RX0, TX0, 13), rfl, by decide, lays_0, gw_57⟩
theorem fl_RX11_400 : FL RX11 400 0 10 := ⟨(RX0, TX0, 13), rfl, by decide, lays_0, gw_59⟩
theorem sp_40 : Cond.selects RX11 yX11_shipOf yX11_shipOf ∈ gw := gw_mem (pv_in (y := yX11_shipOf) (n := 20) (List.mem_of_getElem? (i := 40) (by decide +kernel))) (by decide +kernel)
theorem gV_RX11_403 : GV RX11 403 RX11 yX11_shipOf cX11_shipOf 2 (some (.object "IceTreaty$Ship")) 1 := ⟨gi_app (List.forall_mem_cons.mpr ⟨gw_1109, List.forall_mem_cons.mpr ⟨gw_1111, List.forall_mem_cons.mpr ⟨sp_40, List.forall_mem_cons.mpr ⟨gw_1, fun _ h => absurd h List.not_mem_nil⟩⟩⟩⟩) (gi_ws gw_1112), rfl, by decide +kernel, by decide +kernel, by decide +kernel⟩
theorem gV_RX11_431 : GV RX11 431 RX8 yX8_has cX8_has 2 (some .boolean) 1 := ⟨gi_app (List.forall_mem_cons.mpr ⟨gw_1168, List.forall_mem_cons.mpr ⟨gw_832, List.forall_mem_cons.mpr ⟨gw_833, List.forall_mem_cons.mpr ⟨gw_5, fun _ h => absurd h List.not_mem_nil⟩⟩⟩⟩) (gi_ws gw_834), rfl, by decide +kernel, by decide +kernel, by decide +kernel⟩
theorem fp_RX11_145 : FP RX11 145 0 0 .int false := ⟨(RX0, TX0, 13), tyX0, rfl, by decide, lays_0, gw_39, tyX0_ok, nmX0, rfl, by decide +kernel, fun h => by cases h⟩
theorem gV_RX11_435 : GV RX11 435 RX6 yX6_forget cX6_forget 1 (none : Option Jvm.ClassFile.FieldType) 0 := ⟨gi_app (List.forall_mem_cons.mpr ⟨gw_1175, List.forall_mem_cons.mpr ⟨gw_1176, List.forall_mem_cons.mpr ⟨gw_1177, List.forall_mem_cons.mpr ⟨gw_7, fun _ h => absurd h List.not_mem_nil⟩⟩⟩⟩) (gi_ws gw_1178), rfl, by decide +kernel, by decide +kernel, by decide +kernel⟩
theorem sp_46 : Cond.selects RX11 yX11_admitParties yX11_admitParties ∈ gw := gw_mem (pv_in (y := yX11_admitParties) (n := 20) (List.mem_of_getElem? (i := 46) (by decide +kernel))) (by decide +kernel)
theorem gV_RX11_439 : GV RX11 439 RX11 yX11_admitParties cX11_admitParties 4 (none : Option Jvm.ClassFile.FieldType) 0 := ⟨gi_app (List.forall_mem_cons.mpr ⟨gw_1205, List.forall_mem_cons.mpr ⟨gw_1207, List.forall_mem_cons.mpr ⟨sp_46, List.forall_mem_cons.mpr ⟨gw_1, fun _ h => absurd h List.not_mem_nil⟩⟩⟩⟩) (gi_ws gw_1208), rfl, by decide +kernel, by decide +kernel, by decide +kernel⟩
theorem sp_61 : Cond.selects RX11 yX11_blockers yX11_blockers ∈ gw := gw_mem (pv_in (y := yX11_blockers) (n := 20) (List.mem_of_getElem? (i := 61) (by decide +kernel))) (by decide +kernel)
theorem gV_RX11_581 : GV RX11 581 RX11 yX11_blockers cX11_blockers 5 (some .int) 1 := ⟨gi_app (List.forall_mem_cons.mpr ⟨gw_1339, List.forall_mem_cons.mpr ⟨gw_1341, List.forall_mem_cons.mpr ⟨sp_61, List.forall_mem_cons.mpr ⟨gw_1, fun _ h => absurd h List.not_mem_nil⟩⟩⟩⟩) (gi_ws gw_1342), rfl, by decide +kernel, by decide +kernel, by decide +kernel⟩
theorem sp_35 : Cond.selects RX11 yX11_decidingOn yX11_decidingOn ∈ gw := gw_mem (pv_in (y := yX11_decidingOn) (n := 20) (List.mem_of_getElem? (i := 35) (by decide +kernel))) (by decide +kernel)
theorem gV_RX11_369 : GV RX11 369 RX11 yX11_decidingOn cX11_decidingOn 5 (some .int) 1 := ⟨gi_app (List.forall_mem_cons.mpr ⟨gw_999, List.forall_mem_cons.mpr ⟨gw_1001, List.forall_mem_cons.mpr ⟨sp_35, List.forall_mem_cons.mpr ⟨gw_1, fun _ h => absurd h List.not_mem_nil⟩⟩⟩⟩) (gi_ws gw_1002), rfl, by decide +kernel, by decide +kernel, by decide +kernel⟩
theorem fl_RX11_593 : FL RX11 593 5 0 := ⟨(RX6, TX6, 10), rfl, by decide, lays_5, gw_182⟩
theorem gV_RX11_617 : GV RX11 617 RX11 yX11_plan cX11_plan 6 (some .int) 3 := ⟨gi_app (List.forall_mem_cons.mpr ⟨gw_1417, List.forall_mem_cons.mpr ⟨gw_1370, List.forall_mem_cons.mpr ⟨gw_1371, List.forall_mem_cons.mpr ⟨gw_1, fun _ h => absurd h List.not_mem_nil⟩⟩⟩⟩) (gi_ws gw_1372), rfl, by decide +kernel, by decide +kernel, by decide +kernel⟩
theorem sp_70 : Cond.selects RX11 yX11_firstWrong yX11_firstWrong ∈ gw := gw_mem (pv_in (y := yX11_firstWrong) (n := 20) (List.mem_of_getElem? (i := 70) (by decide +kernel))) (by decide +kernel)
theorem gV_RX11_627 : GV RX11 627 RX11 yX11_firstWrong cX11_firstWrong 5 (some .int) 1 := ⟨gi_app (List.forall_mem_cons.mpr ⟨gw_1431, List.forall_mem_cons.mpr ⟨gw_1433, List.forall_mem_cons.mpr ⟨sp_70, List.forall_mem_cons.mpr ⟨gw_1, fun _ h => absurd h List.not_mem_nil⟩⟩⟩⟩) (gi_ws gw_1434), rfl, by decide +kernel, by decide +kernel, by decide +kernel⟩
theorem fp_RX11_199 : FP RX11 199 7 3 .int false := ⟨(RX8, TX8, 4), tyX8, rfl, by decide, lays_7, gw_115, tyX8_ok, nmX8, rfl, by decide +kernel, fun h => by cases h⟩
theorem fl_RX11_639 : FL RX11 639 0 3 := ⟨(RX0, TX0, 13), rfl, by decide, lays_0, gw_45⟩
theorem fl_RX11_642 : FL RX11 642 0 4 := ⟨(RX0, TX0, 13), rfl, by decide, lays_0, gw_47⟩
theorem fl_RX11_262 : FL RX11 262 1 2 := ⟨(RX1, TX1, 13), rfl, by decide, lays_1, gw_130⟩
theorem sp_73 : Cond.selects RX11 yX11_sledgesOnWay yX11_sledgesOnWay ∈ gw := gw_mem (pv_in (y := yX11_sledgesOnWay) (n := 20) (List.mem_of_getElem? (i := 73) (by decide +kernel))) (by decide +kernel)
theorem gV_RX11_644 : GV RX11 644 RX11 yX11_sledgesOnWay cX11_sledgesOnWay 3 (some .int) 0 := ⟨gi_app (List.forall_mem_cons.mpr ⟨gw_1464, List.forall_mem_cons.mpr ⟨gw_1466, List.forall_mem_cons.mpr ⟨sp_73, List.forall_mem_cons.mpr ⟨gw_1, fun _ h => absurd h List.not_mem_nil⟩⟩⟩⟩) (gi_ws gw_1467), rfl, by decide +kernel, by decide +kernel, by decide +kernel⟩
theorem sp_74 : Cond.selects RX11 yX11_decidesFrom yX11_decidesFrom ∈ gw := gw_mem (pv_in (y := yX11_decidesFrom) (n := 20) (List.mem_of_getElem? (i := 74) (by decide +kernel))) (by decide +kernel)
theorem gV_RX11_647 : GV RX11 647 RX11 yX11_decidesFrom cX11_decidesFrom 3 (some .int) 1 := ⟨gi_app (List.forall_mem_cons.mpr ⟨gw_1468, List.forall_mem_cons.mpr ⟨gw_1470, List.forall_mem_cons.mpr ⟨sp_74, List.forall_mem_cons.mpr ⟨gw_1, fun _ h => absurd h List.not_mem_nil⟩⟩⟩⟩) (gi_ws gw_1471), rfl, by decide +kernel, by decide +kernel, by decide +kernel⟩
theorem fl_RX12_365 : FL RX12 365 11 0 := ⟨(RX12, TX12, 151), rfl, by decide, lays_11, gw_1482⟩
theorem fl_RX12_368 : FL RX12 368 11 1 := ⟨(RX12, TX12, 151), rfl, by decide, lays_11, gw_1483⟩
theorem sp_76 : Cond.selects RX12 yX12_isCell yX12_isCell ∈ gw := gw_mem (pv_in (y := yX12_isCell) (n := 151) (List.mem_of_getElem? (i := 76) (by decide +kernel))) (by decide +kernel)
theorem gV_RX12_381 : GV RX12 381 RX12 yX12_isCell cX12_isCell 2 (some .boolean) 1 := ⟨gi_app (List.forall_mem_cons.mpr ⟨gw_1948, List.forall_mem_cons.mpr ⟨gw_1950, List.forall_mem_cons.mpr ⟨sp_76, List.forall_mem_cons.mpr ⟨gw_8, fun _ h => absurd h List.not_mem_nil⟩⟩⟩⟩) (gi_ws gw_1951), rfl, by decide +kernel, by decide +kernel, by decide +kernel⟩
theorem fl_RX12_393 : FL RX12 393 11 9 := ⟨(RX12, TX12, 151), rfl, by decide, lays_11, gw_1491⟩
theorem fl_RX12_375 : FL RX12 375 11 10 := ⟨(RX12, TX12, 151), rfl, by decide, lays_11, gw_1492⟩
theorem sp_85 : Cond.selects RX12 yX12_isPlace yX12_isPlace ∈ gw := gw_mem (pv_in (y := yX12_isPlace) (n := 151) (List.mem_of_getElem? (i := 85) (by decide +kernel))) (by decide +kernel)
theorem gV_RX12_399 : GV RX12 399 RX12 yX12_isPlace cX12_isPlace 3 (some .boolean) 2 := ⟨gi_app (List.forall_mem_cons.mpr ⟨gw_2007, List.forall_mem_cons.mpr ⟨gw_2009, List.forall_mem_cons.mpr ⟨sp_85, List.forall_mem_cons.mpr ⟨gw_8, fun _ h => absurd h List.not_mem_nil⟩⟩⟩⟩) (gi_ws gw_2010), rfl, by decide +kernel, by decide +kernel, by decide +kernel⟩
theorem sp_88 : Cond.selects RX12 yX12_isStation yX12_isStation ∈ gw := gw_mem (pv_in (y := yX12_isStation) (n := 151) (List.mem_of_getElem? (i := 88) (by decide +kernel))) (by decide +kernel)
theorem gV_RX12_403 : GV RX12 403 RX12 yX12_isStation cX12_isStation 2 (some .boolean) 1 := ⟨gi_app (List.forall_mem_cons.mpr ⟨gw_2028, List.forall_mem_cons.mpr ⟨gw_2030, List.forall_mem_cons.mpr ⟨sp_88, List.forall_mem_cons.mpr ⟨gw_8, fun _ h => absurd h List.not_mem_nil⟩⟩⟩⟩) (gi_ws gw_2031), rfl, by decide +kernel, by decide +kernel, by decide +kernel⟩
theorem fl_RX12_535 : FL RX12 535 11 47 := ⟨(RX12, TX12, 151), rfl, by decide, lays_11, gw_1529⟩
theorem fl_RX12_378 : FL RX12 378 11 66 := ⟨(RX12, TX12, 151), rfl, by decide, lays_11, gw_1548⟩
theorem fl_RX12_612 : FL RX12 612 11 91 := ⟨(RX12, TX12, 151), rfl, by decide, lays_11, gw_1573⟩
theorem fl_RX12_718 : FL RX12 718 11 133 := ⟨(RX12, TX12, 151), rfl, by decide, lays_11, gw_1615⟩
theorem sp_108 : Cond.selects RX12 yX12_isText yX12_isText ∈ gw := gw_mem (pv_in (y := yX12_isText) (n := 151) (List.mem_of_getElem? (i := 108) (by decide +kernel))) (by decide +kernel)
theorem gV_RX12_541 : GV RX12 541 RX12 yX12_isText cX12_isText 2 (some .boolean) 1 := ⟨gi_app (List.forall_mem_cons.mpr ⟨gw_2142, List.forall_mem_cons.mpr ⟨gw_2144, List.forall_mem_cons.mpr ⟨sp_108, List.forall_mem_cons.mpr ⟨gw_8, fun _ h => absurd h List.not_mem_nil⟩⟩⟩⟩) (gi_ws gw_2145), rfl, by decide +kernel, by decide +kernel, by decide +kernel⟩
theorem fp_RX12_365 : FP RX12 365 11 0 .int false := ⟨(RX12, TX12, 151), tyX12, rfl, by decide, lays_11, gw_1482, tyX12_ok, nmX12, rfl, by decide +kernel, fun h => by cases h⟩
theorem fp_RX12_368 : FP RX12 368 11 1 .int false := ⟨(RX12, TX12, 151), tyX12, rfl, by decide, lays_11, gw_1483, tyX12_ok, nmX12, rfl, by decide +kernel, fun h => by cases h⟩
theorem fl_RX12_16 : FL RX12 16 11 5 := ⟨(RX12, TX12, 151), rfl, by decide, lays_11, gw_1487⟩
theorem fl_RX12_20 : FL RX12 20 11 6 := ⟨(RX12, TX12, 151), rfl, by decide, lays_11, gw_1488⟩
theorem fl_RX12_23 : FL RX12 23 11 7 := ⟨(RX12, TX12, 151), rfl, by decide, lays_11, gw_1489⟩
theorem fl_RX12_26 : FL RX12 26 11 8 := ⟨(RX12, TX12, 151), rfl, by decide, lays_11, gw_1490⟩
theorem fl_RX12_35 : FL RX12 35 11 13 := ⟨(RX12, TX12, 151), rfl, by decide, lays_11, gw_1495⟩
theorem fl_RX12_38 : FL RX12 38 11 14 := ⟨(RX12, TX12, 151), rfl, by decide, lays_11, gw_1496⟩
theorem fl_RX12_41 : FL RX12 41 11 15 := ⟨(RX12, TX12, 151), rfl, by decide, lays_11, gw_1497⟩
theorem fl_RX12_44 : FL RX12 44 11 16 := ⟨(RX12, TX12, 151), rfl, by decide, lays_11, gw_1498⟩
theorem fl_RX12_47 : FL RX12 47 11 17 := ⟨(RX12, TX12, 151), rfl, by decide, lays_11, gw_1499⟩
theorem fl_RX12_50 : FL RX12 50 11 18 := ⟨(RX12, TX12, 151), rfl, by decide, lays_11, gw_1500⟩
theorem fl_RX12_396 : FL RX12 396 11 2 := ⟨(RX12, TX12, 151), rfl, by decide, lays_11, gw_1484⟩
theorem fp_RX12_375 : FP RX12 375 11 10 .int false := ⟨(RX12, TX12, 151), tyX12, rfl, by decide, lays_11, gw_1492, tyX12_ok, nmX12, rfl, by decide +kernel, fun h => by cases h⟩
theorem fl_RX12_84 : FL RX12 84 11 29 := ⟨(RX12, TX12, 151), rfl, by decide, lays_11, gw_1511⟩
theorem fl_RX12_436 : FL RX12 436 11 30 := ⟨(RX12, TX12, 151), rfl, by decide, lays_11, gw_1512⟩
theorem fp_RX12_436 : FP RX12 436 11 30 .int false := ⟨(RX12, TX12, 151), tyX12, rfl, by decide, lays_11, gw_1512, tyX12_ok, nmX12, rfl, by decide +kernel, fun h => by cases h⟩
theorem gS_RX12_371 : GS RX12 371 yX12_in cX12_in 3 (some .boolean) 3 := ⟨gi_app (List.forall_mem_cons.mpr ⟨gw_1941, List.forall_mem_cons.mpr ⟨gw_1942, List.forall_mem_cons.mpr ⟨gw_8, fun _ h => absurd h List.not_mem_nil⟩⟩⟩) (gi_ws gw_1943), by decide +kernel, by decide +kernel, by decide +kernel⟩
theorem sp_75 : Cond.selects RX12 yX12_begins yX12_begins ∈ gw := gw_mem (pv_in (y := yX12_begins) (n := 151) (List.mem_of_getElem? (i := 75) (by decide +kernel))) (by decide +kernel)
theorem gV_RX12_361 : GV RX12 361 RX12 yX12_begins cX12_begins 4 (none : Option Jvm.ClassFile.FieldType) 2 := ⟨gi_app (List.forall_mem_cons.mpr ⟨gw_1478, List.forall_mem_cons.mpr ⟨gw_1480, List.forall_mem_cons.mpr ⟨sp_75, List.forall_mem_cons.mpr ⟨gw_8, fun _ h => absurd h List.not_mem_nil⟩⟩⟩⟩) (gi_ws gw_1481), rfl, by decide +kernel, by decide +kernel, by decide +kernel⟩
theorem fl_RX12_7 : FL RX12 7 11 3 := ⟨(RX12, TX12, 151), rfl, by decide, lays_11, gw_1485⟩
theorem fp_RX12_7 : FP RX12 7 11 3 .int false := ⟨(RX12, TX12, 151), tyX12, rfl, by decide, lays_11, gw_1485, tyX12_ok, nmX12, rfl, by decide +kernel, fun h => by cases h⟩
theorem fl_RX12_13 : FL RX12 13 11 4 := ⟨(RX12, TX12, 151), rfl, by decide, lays_11, gw_1486⟩
theorem fp_RX12_13 : FP RX12 13 11 4 .int false := ⟨(RX12, TX12, 151), tyX12, rfl, by decide, lays_11, gw_1486, tyX12_ok, nmX12, rfl, by decide +kernel, fun h => by cases h⟩
theorem fl_RX12_29 : FL RX12 29 11 11 := ⟨(RX12, TX12, 151), rfl, by decide, lays_11, gw_1493⟩
theorem fp_RX12_393 : FP RX12 393 11 9 .int false := ⟨(RX12, TX12, 151), tyX12, rfl, by decide, lays_11, gw_1491, tyX12_ok, nmX12, rfl, by decide +kernel, fun h => by cases h⟩
theorem sp_77 : Cond.selects RX12 yX12_isParty yX12_isParty ∈ gw := gw_mem (pv_in (y := yX12_isParty) (n := 151) (List.mem_of_getElem? (i := 77) (by decide +kernel))) (by decide +kernel)
theorem gV_RX12_406 : GV RX12 406 RX12 yX12_isParty cX12_isParty 2 (some .boolean) 1 := ⟨gi_app (List.forall_mem_cons.mpr ⟨gw_1964, List.forall_mem_cons.mpr ⟨gw_1966, List.forall_mem_cons.mpr ⟨sp_77, List.forall_mem_cons.mpr ⟨gw_8, fun _ h => absurd h List.not_mem_nil⟩⟩⟩⟩) (gi_ws gw_1967), rfl, by decide +kernel, by decide +kernel, by decide +kernel⟩
theorem sp_87 : Cond.selects RX12 yX12_stands yX12_stands ∈ gw := gw_mem (pv_in (y := yX12_stands) (n := 151) (List.mem_of_getElem? (i := 87) (by decide +kernel))) (by decide +kernel)
theorem gV_RX12_433 : GV RX12 433 RX12 yX12_stands cX12_stands 2 (some .boolean) 1 := ⟨gi_app (List.forall_mem_cons.mpr ⟨gw_2024, List.forall_mem_cons.mpr ⟨gw_2026, List.forall_mem_cons.mpr ⟨sp_87, List.forall_mem_cons.mpr ⟨gw_8, fun _ h => absurd h List.not_mem_nil⟩⟩⟩⟩) (gi_ws gw_2027), rfl, by decide +kernel, by decide +kernel, by decide +kernel⟩
theorem sp_79 : Cond.selects RX12 yX12_isRectangle yX12_isRectangle ∈ gw := gw_mem (pv_in (y := yX12_isRectangle) (n := 151) (List.mem_of_getElem? (i := 79) (by decide +kernel))) (by decide +kernel)
theorem gV_RX12_415 : GV RX12 415 RX12 yX12_isRectangle cX12_isRectangle 3 (some .boolean) 2 := ⟨gi_app (List.forall_mem_cons.mpr ⟨gw_1979, List.forall_mem_cons.mpr ⟨gw_1981, List.forall_mem_cons.mpr ⟨sp_79, List.forall_mem_cons.mpr ⟨gw_8, fun _ h => absurd h List.not_mem_nil⟩⟩⟩⟩) (gi_ws gw_1982), rfl, by decide +kernel, by decide +kernel, by decide +kernel⟩
theorem sp_84 : Cond.selects RX12 yX12_place yX12_place ∈ gw := gw_mem (pv_in (y := yX12_place) (n := 151) (List.mem_of_getElem? (i := 84) (by decide +kernel))) (by decide +kernel)
theorem gV_RX12_421 : GV RX12 421 RX12 yX12_place cX12_place 6 (some .int) 5 := ⟨gi_app (List.forall_mem_cons.mpr ⟨gw_1999, List.forall_mem_cons.mpr ⟨gw_2001, List.forall_mem_cons.mpr ⟨sp_84, List.forall_mem_cons.mpr ⟨gw_8, fun _ h => absurd h List.not_mem_nil⟩⟩⟩⟩) (gi_ws gw_2002), rfl, by decide +kernel, by decide +kernel, by decide +kernel⟩
theorem sp_89 : Cond.selects RX12 yX12_types yX12_types ∈ gw := gw_mem (pv_in (y := yX12_types) (n := 151) (List.mem_of_getElem? (i := 89) (by decide +kernel))) (by decide +kernel)
theorem gV_RX12_439 : GV RX12 439 RX12 yX12_types cX12_types 3 (none : Option Jvm.ClassFile.FieldType) 1 := ⟨gi_app (List.forall_mem_cons.mpr ⟨gw_2044, List.forall_mem_cons.mpr ⟨gw_2046, List.forall_mem_cons.mpr ⟨sp_89, List.forall_mem_cons.mpr ⟨gw_8, fun _ h => absurd h List.not_mem_nil⟩⟩⟩⟩) (gi_ws gw_2047), rfl, by decide +kernel, by decide +kernel, by decide +kernel⟩
theorem gS_RX12_409 : GS RX12 409 yX12_isDay cX12_isDay 1 (some .boolean) 1 := ⟨gi_app (List.forall_mem_cons.mpr ⟨gw_1968, List.forall_mem_cons.mpr ⟨gw_1969, List.forall_mem_cons.mpr ⟨gw_8, fun _ h => absurd h List.not_mem_nil⟩⟩⟩) (gi_ws gw_1970), by decide +kernel, by decide +kernel, by decide +kernel⟩
theorem sp_112 : Cond.selects RX12 yX12_isWork yX12_isWork ∈ gw := gw_mem (pv_in (y := yX12_isWork) (n := 151) (List.mem_of_getElem? (i := 112) (by decide +kernel))) (by decide +kernel)
theorem gV_RX12_566 : GV RX12 566 RX12 yX12_isWork cX12_isWork 2 (some .boolean) 1 := ⟨gi_app (List.forall_mem_cons.mpr ⟨gw_2178, List.forall_mem_cons.mpr ⟨gw_2180, List.forall_mem_cons.mpr ⟨sp_112, List.forall_mem_cons.mpr ⟨gw_8, fun _ h => absurd h List.not_mem_nil⟩⟩⟩⟩) (gi_ws gw_2181), rfl, by decide +kernel, by decide +kernel, by decide +kernel⟩
theorem gS_RX12_615 : GS RX12 615 yX12_isSea cX12_isSea 1 (some .boolean) 1 := ⟨gi_app (List.forall_mem_cons.mpr ⟨gw_2264, List.forall_mem_cons.mpr ⟨gw_2265, List.forall_mem_cons.mpr ⟨gw_8, fun _ h => absurd h List.not_mem_nil⟩⟩⟩) (gi_ws gw_2266), by decide +kernel, by decide +kernel, by decide +kernel⟩
theorem fl_RX12_241 : FL RX12 241 11 105 := ⟨(RX12, TX12, 151), rfl, by decide, lays_11, gw_1587⟩
theorem fl_RX12_244 : FL RX12 244 11 106 := ⟨(RX12, TX12, 151), rfl, by decide, lays_11, gw_1588⟩
theorem sp_125 : Cond.selects RX12 yX12_isShip yX12_isShip ∈ gw := gw_mem (pv_in (y := yX12_isShip) (n := 151) (List.mem_of_getElem? (i := 125) (by decide +kernel))) (by decide +kernel)
theorem gV_RX12_618 : GV RX12 618 RX12 yX12_isShip cX12_isShip 2 (some .boolean) 1 := ⟨gi_app (List.forall_mem_cons.mpr ⟨gw_2275, List.forall_mem_cons.mpr ⟨gw_2277, List.forall_mem_cons.mpr ⟨sp_125, List.forall_mem_cons.mpr ⟨gw_8, fun _ h => absurd h List.not_mem_nil⟩⟩⟩⟩) (gi_ws gw_2278), rfl, by decide +kernel, by decide +kernel, by decide +kernel⟩
theorem fl_RX12_660 : FL RX12 660 11 93 := ⟨(RX12, TX12, 151), rfl, by decide, lays_11, gw_1575⟩
theorem fp_RX12_396 : FP RX12 396 11 2 .int false := ⟨(RX12, TX12, 151), tyX12, rfl, by decide, lays_11, gw_1484, tyX12_ok, nmX12, rfl, by decide +kernel, fun h => by cases h⟩
theorem sp_129 : Cond.selects RX12 yX12_worksGo yX12_worksGo ∈ gw := gw_mem (pv_in (y := yX12_worksGo) (n := 151) (List.mem_of_getElem? (i := 129) (by decide +kernel))) (by decide +kernel)
theorem gV_RX12_688 : GV RX12 688 RX12 yX12_worksGo cX12_worksGo 3 (none : Option Jvm.ClassFile.FieldType) 0 := ⟨gi_app (List.forall_mem_cons.mpr ⟨gw_2327, List.forall_mem_cons.mpr ⟨gw_2329, List.forall_mem_cons.mpr ⟨sp_129, List.forall_mem_cons.mpr ⟨gw_8, fun _ h => absurd h List.not_mem_nil⟩⟩⟩⟩) (gi_ws gw_2330), rfl, by decide +kernel, by decide +kernel, by decide +kernel⟩
theorem fl_RX12_648 : FL RX12 648 11 92 := ⟨(RX12, TX12, 151), rfl, by decide, lays_11, gw_1574⟩
theorem fl_RX12_301 : FL RX12 301 11 127 := ⟨(RX12, TX12, 151), rfl, by decide, lays_11, gw_1609⟩
theorem fl_RX12_280 : FL RX12 280 11 119 := ⟨(RX12, TX12, 151), rfl, by decide, lays_11, gw_1601⟩
theorem fp_RX12_280 : FP RX12 280 11 119 .int false := ⟨(RX12, TX12, 151), tyX12, rfl, by decide, lays_11, gw_1601, tyX12_ok, nmX12, rfl, by decide +kernel, fun h => by cases h⟩
theorem fl_RX12_709 : FL RX12 709 11 120 := ⟨(RX12, TX12, 151), rfl, by decide, lays_11, gw_1602⟩
theorem fl_RX12_319 : FL RX12 319 11 134 := ⟨(RX12, TX12, 151), rfl, by decide, lays_11, gw_1616⟩
theorem fp_RX12_718 : FP RX12 718 11 133 .int false := ⟨(RX12, TX12, 151), tyX12, rfl, by decide, lays_11, gw_1615, tyX12_ok, nmX12, rfl, by decide +kernel, fun h => by cases h⟩
theorem fl_RX12_736 : FL RX12 736 11 137 := ⟨(RX12, TX12, 151), rfl, by decide, lays_11, gw_1619⟩
theorem gV_RX12_758 : GV RX12 758 RX12 yX12_plan cX12_plan 4 (some .int) 3 := ⟨gi_app (List.forall_mem_cons.mpr ⟨gw_2498, List.forall_mem_cons.mpr ⟨gw_2471, List.forall_mem_cons.mpr ⟨gw_2472, List.forall_mem_cons.mpr ⟨gw_8, fun _ h => absurd h List.not_mem_nil⟩⟩⟩⟩) (gi_ws gw_2473), rfl, by decide +kernel, by decide +kernel, by decide +kernel⟩
theorem fl_RX12_429 : FL RX12 429 11 83 := ⟨(RX12, TX12, 151), rfl, by decide, lays_11, gw_1565⟩
theorem fl_RX12_654 : FL RX12 654 11 84 := ⟨(RX12, TX12, 151), rfl, by decide, lays_11, gw_1566⟩
theorem fl_RX12_657 : FL RX12 657 11 85 := ⟨(RX12, TX12, 151), rfl, by decide, lays_11, gw_1567⟩
theorem fl_RX12_632 : FL RX12 632 11 86 := ⟨(RX12, TX12, 151), rfl, by decide, lays_11, gw_1568⟩
theorem fl_RX12_679 : FL RX12 679 11 87 := ⟨(RX12, TX12, 151), rfl, by decide, lays_11, gw_1569⟩
theorem fl_RX12_682 : FL RX12 682 11 88 := ⟨(RX12, TX12, 151), rfl, by decide, lays_11, gw_1570⟩
theorem fl_RX12_635 : FL RX12 635 11 89 := ⟨(RX12, TX12, 151), rfl, by decide, lays_11, gw_1571⟩
theorem fl_RX12_673 : FL RX12 673 11 90 := ⟨(RX12, TX12, 151), rfl, by decide, lays_11, gw_1572⟩
theorem fl_RX12_667 : FL RX12 667 11 118 := ⟨(RX12, TX12, 151), rfl, by decide, lays_11, gw_1600⟩
theorem fl_RX12_547 : FL RX12 547 11 48 := ⟨(RX12, TX12, 151), rfl, by decide, lays_11, gw_1530⟩
theorem fl_RX12_761 : FL RX12 761 11 145 := ⟨(RX12, TX12, 151), rfl, by decide, lays_11, gw_1627⟩
theorem fp_RX12_16 : FP RX12 16 11 5 (.array .int) true := ⟨(RX12, TX12, 151), tyX12, rfl, by decide, lays_11, gw_1487, tyX12_ok, nmX12, rfl, by decide +kernel, fun _ => rfl⟩
theorem fp_RX12_20 : FP RX12 20 11 6 (.array .int) true := ⟨(RX12, TX12, 151), tyX12, rfl, by decide, lays_11, gw_1488, tyX12_ok, nmX12, rfl, by decide +kernel, fun _ => rfl⟩
theorem fp_RX12_23 : FP RX12 23 11 7 (.array .int) true := ⟨(RX12, TX12, 151), tyX12, rfl, by decide, lays_11, gw_1489, tyX12_ok, nmX12, rfl, by decide +kernel, fun _ => rfl⟩
theorem fp_RX12_26 : FP RX12 26 11 8 (.array .int) true := ⟨(RX12, TX12, 151), tyX12, rfl, by decide, lays_11, gw_1490, tyX12_ok, nmX12, rfl, by decide +kernel, fun _ => rfl⟩
theorem fp_RX12_29 : FP RX12 29 11 11 (.array .int) true := ⟨(RX12, TX12, 151), tyX12, rfl, by decide, lays_11, gw_1493, tyX12_ok, nmX12, rfl, by decide +kernel, fun _ => rfl⟩
theorem fl_RX12_32 : FL RX12 32 11 12 := ⟨(RX12, TX12, 151), rfl, by decide, lays_11, gw_1494⟩
theorem fp_RX12_32 : FP RX12 32 11 12 (.array .int) true := ⟨(RX12, TX12, 151), tyX12, rfl, by decide, lays_11, gw_1494, tyX12_ok, nmX12, rfl, by decide +kernel, fun _ => rfl⟩
theorem fp_RX12_35 : FP RX12 35 11 13 (.array .int) true := ⟨(RX12, TX12, 151), tyX12, rfl, by decide, lays_11, gw_1495, tyX12_ok, nmX12, rfl, by decide +kernel, fun _ => rfl⟩
theorem fp_RX12_38 : FP RX12 38 11 14 (.array .int) true := ⟨(RX12, TX12, 151), tyX12, rfl, by decide, lays_11, gw_1496, tyX12_ok, nmX12, rfl, by decide +kernel, fun _ => rfl⟩
theorem fp_RX12_41 : FP RX12 41 11 15 (.array .int) true := ⟨(RX12, TX12, 151), tyX12, rfl, by decide, lays_11, gw_1497, tyX12_ok, nmX12, rfl, by decide +kernel, fun _ => rfl⟩
theorem fp_RX12_44 : FP RX12 44 11 16 (.array .int) true := ⟨(RX12, TX12, 151), tyX12, rfl, by decide, lays_11, gw_1498, tyX12_ok, nmX12, rfl, by decide +kernel, fun _ => rfl⟩
theorem fp_RX12_47 : FP RX12 47 11 17 (.array .int) true := ⟨(RX12, TX12, 151), tyX12, rfl, by decide, lays_11, gw_1499, tyX12_ok, nmX12, rfl, by decide +kernel, fun _ => rfl⟩
theorem fp_RX12_50 : FP RX12 50 11 18 (.array .int) true := ⟨(RX12, TX12, 151), tyX12, rfl, by decide, lays_11, gw_1500, tyX12_ok, nmX12, rfl, by decide +kernel, fun _ => rfl⟩
theorem fl_RX12_53 : FL RX12 53 11 19 := ⟨(RX12, TX12, 151), rfl, by decide, lays_11, gw_1501⟩
theorem fp_RX12_53 : FP RX12 53 11 19 (.array .int) true := ⟨(RX12, TX12, 151), tyX12, rfl, by decide, lays_11, gw_1501, tyX12_ok, nmX12, rfl, by decide +kernel, fun _ => rfl⟩
theorem fl_RX12_56 : FL RX12 56 11 20 := ⟨(RX12, TX12, 151), rfl, by decide, lays_11, gw_1502⟩
theorem fp_RX12_56 : FP RX12 56 11 20 (.array .int) true := ⟨(RX12, TX12, 151), tyX12, rfl, by decide, lays_11, gw_1502, tyX12_ok, nmX12, rfl, by decide +kernel, fun _ => rfl⟩
theorem fl_RX12_59 : FL RX12 59 11 21 := ⟨(RX12, TX12, 151), rfl, by decide, lays_11, gw_1503⟩
theorem fp_RX12_59 : FP RX12 59 11 21 (.array .int) true := ⟨(RX12, TX12, 151), tyX12, rfl, by decide, lays_11, gw_1503, tyX12_ok, nmX12, rfl, by decide +kernel, fun _ => rfl⟩
theorem fl_RX12_62 : FL RX12 62 11 22 := ⟨(RX12, TX12, 151), rfl, by decide, lays_11, gw_1504⟩
theorem fp_RX12_62 : FP RX12 62 11 22 (.array .int) true := ⟨(RX12, TX12, 151), tyX12, rfl, by decide, lays_11, gw_1504, tyX12_ok, nmX12, rfl, by decide +kernel, fun _ => rfl⟩
theorem fl_RX12_65 : FL RX12 65 11 23 := ⟨(RX12, TX12, 151), rfl, by decide, lays_11, gw_1505⟩
theorem fp_RX12_65 : FP RX12 65 11 23 (.array .int) true := ⟨(RX12, TX12, 151), tyX12, rfl, by decide, lays_11, gw_1505, tyX12_ok, nmX12, rfl, by decide +kernel, fun _ => rfl⟩
theorem fl_RX12_68 : FL RX12 68 11 24 := ⟨(RX12, TX12, 151), rfl, by decide, lays_11, gw_1506⟩
theorem fp_RX12_68 : FP RX12 68 11 24 (.array .int) true := ⟨(RX12, TX12, 151), tyX12, rfl, by decide, lays_11, gw_1506, tyX12_ok, nmX12, rfl, by decide +kernel, fun _ => rfl⟩
theorem fl_RX12_71 : FL RX12 71 11 25 := ⟨(RX12, TX12, 151), rfl, by decide, lays_11, gw_1507⟩
theorem fp_RX12_71 : FP RX12 71 11 25 (.array .int) true := ⟨(RX12, TX12, 151), tyX12, rfl, by decide, lays_11, gw_1507, tyX12_ok, nmX12, rfl, by decide +kernel, fun _ => rfl⟩
theorem fl_RX12_74 : FL RX12 74 11 26 := ⟨(RX12, TX12, 151), rfl, by decide, lays_11, gw_1508⟩
theorem fp_RX12_74 : FP RX12 74 11 26 (.array .int) true := ⟨(RX12, TX12, 151), tyX12, rfl, by decide, lays_11, gw_1508, tyX12_ok, nmX12, rfl, by decide +kernel, fun _ => rfl⟩
theorem fl_RX12_77 : FL RX12 77 11 27 := ⟨(RX12, TX12, 151), rfl, by decide, lays_11, gw_1509⟩
theorem fp_RX12_77 : FP RX12 77 11 27 (.array .int) true := ⟨(RX12, TX12, 151), tyX12, rfl, by decide, lays_11, gw_1509, tyX12_ok, nmX12, rfl, by decide +kernel, fun _ => rfl⟩
theorem fl_RX12_80 : FL RX12 80 11 28 := ⟨(RX12, TX12, 151), rfl, by decide, lays_11, gw_1510⟩
theorem fp_RX12_80 : FP RX12 80 11 28 (.array .boolean) true := ⟨(RX12, TX12, 151), tyX12, rfl, by decide, lays_11, gw_1510, tyX12_ok, nmX12, rfl, by decide +kernel, fun _ => rfl⟩
theorem fp_RX12_84 : FP RX12 84 11 29 (.array .byte) true := ⟨(RX12, TX12, 151), tyX12, rfl, by decide, lays_11, gw_1511, tyX12_ok, nmX12, rfl, by decide +kernel, fun _ => rfl⟩
theorem fl_RX12_88 : FL RX12 88 11 39 := ⟨(RX12, TX12, 151), rfl, by decide, lays_11, gw_1521⟩
theorem fp_RX12_88 : FP RX12 88 11 39 (.array .int) true := ⟨(RX12, TX12, 151), tyX12, rfl, by decide, lays_11, gw_1521, tyX12_ok, nmX12, rfl, by decide +kernel, fun _ => rfl⟩
theorem fl_RX12_91 : FL RX12 91 11 40 := ⟨(RX12, TX12, 151), rfl, by decide, lays_11, gw_1522⟩
theorem fp_RX12_91 : FP RX12 91 11 40 (.array .int) true := ⟨(RX12, TX12, 151), tyX12, rfl, by decide, lays_11, gw_1522, tyX12_ok, nmX12, rfl, by decide +kernel, fun _ => rfl⟩
theorem fl_RX12_94 : FL RX12 94 11 41 := ⟨(RX12, TX12, 151), rfl, by decide, lays_11, gw_1523⟩
theorem fp_RX12_94 : FP RX12 94 11 41 (.array .int) true := ⟨(RX12, TX12, 151), tyX12, rfl, by decide, lays_11, gw_1523, tyX12_ok, nmX12, rfl, by decide +kernel, fun _ => rfl⟩
theorem fl_RX12_97 : FL RX12 97 11 42 := ⟨(RX12, TX12, 151), rfl, by decide, lays_11, gw_1524⟩
theorem fp_RX12_97 : FP RX12 97 11 42 (.array .int) true := ⟨(RX12, TX12, 151), tyX12, rfl, by decide, lays_11, gw_1524, tyX12_ok, nmX12, rfl, by decide +kernel, fun _ => rfl⟩
theorem fl_RX12_100 : FL RX12 100 11 43 := ⟨(RX12, TX12, 151), rfl, by decide, lays_11, gw_1525⟩
theorem fp_RX12_100 : FP RX12 100 11 43 (.array .int) true := ⟨(RX12, TX12, 151), tyX12, rfl, by decide, lays_11, gw_1525, tyX12_ok, nmX12, rfl, by decide +kernel, fun _ => rfl⟩
theorem fl_RX12_103 : FL RX12 103 11 44 := ⟨(RX12, TX12, 151), rfl, by decide, lays_11, gw_1526⟩
theorem fp_RX12_103 : FP RX12 103 11 44 (.array .int) true := ⟨(RX12, TX12, 151), tyX12, rfl, by decide, lays_11, gw_1526, tyX12_ok, nmX12, rfl, by decide +kernel, fun _ => rfl⟩
theorem fl_RX12_106 : FL RX12 106 11 45 := ⟨(RX12, TX12, 151), rfl, by decide, lays_11, gw_1527⟩
theorem fp_RX12_106 : FP RX12 106 11 45 (.array .int) true := ⟨(RX12, TX12, 151), tyX12, rfl, by decide, lays_11, gw_1527, tyX12_ok, nmX12, rfl, by decide +kernel, fun _ => rfl⟩
theorem fl_RX12_109 : FL RX12 109 11 46 := ⟨(RX12, TX12, 151), rfl, by decide, lays_11, gw_1528⟩
theorem fp_RX12_109 : FP RX12 109 11 46 (.array .int) true := ⟨(RX12, TX12, 151), tyX12, rfl, by decide, lays_11, gw_1528, tyX12_ok, nmX12, rfl, by decide +kernel, fun _ => rfl⟩
theorem fl_RX12_112 : FL RX12 112 11 49 := ⟨(RX12, TX12, 151), rfl, by decide, lays_11, gw_1531⟩
theorem fp_RX12_112 : FP RX12 112 11 49 (.array .int) true := ⟨(RX12, TX12, 151), tyX12, rfl, by decide, lays_11, gw_1531, tyX12_ok, nmX12, rfl, by decide +kernel, fun _ => rfl⟩
theorem fl_RX12_115 : FL RX12 115 11 50 := ⟨(RX12, TX12, 151), rfl, by decide, lays_11, gw_1532⟩
theorem fp_RX12_115 : FP RX12 115 11 50 (.array .int) true := ⟨(RX12, TX12, 151), tyX12, rfl, by decide, lays_11, gw_1532, tyX12_ok, nmX12, rfl, by decide +kernel, fun _ => rfl⟩
theorem fl_RX12_118 : FL RX12 118 11 51 := ⟨(RX12, TX12, 151), rfl, by decide, lays_11, gw_1533⟩
theorem fp_RX12_118 : FP RX12 118 11 51 (.array .int) true := ⟨(RX12, TX12, 151), tyX12, rfl, by decide, lays_11, gw_1533, tyX12_ok, nmX12, rfl, by decide +kernel, fun _ => rfl⟩
theorem fl_RX12_121 : FL RX12 121 11 52 := ⟨(RX12, TX12, 151), rfl, by decide, lays_11, gw_1534⟩
theorem fp_RX12_121 : FP RX12 121 11 52 (.array .int) true := ⟨(RX12, TX12, 151), tyX12, rfl, by decide, lays_11, gw_1534, tyX12_ok, nmX12, rfl, by decide +kernel, fun _ => rfl⟩
theorem fl_RX12_124 : FL RX12 124 11 53 := ⟨(RX12, TX12, 151), rfl, by decide, lays_11, gw_1535⟩
theorem fp_RX12_124 : FP RX12 124 11 53 (.array .int) true := ⟨(RX12, TX12, 151), tyX12, rfl, by decide, lays_11, gw_1535, tyX12_ok, nmX12, rfl, by decide +kernel, fun _ => rfl⟩
theorem fl_RX12_127 : FL RX12 127 11 54 := ⟨(RX12, TX12, 151), rfl, by decide, lays_11, gw_1536⟩
theorem fp_RX12_127 : FP RX12 127 11 54 (.array .int) true := ⟨(RX12, TX12, 151), tyX12, rfl, by decide, lays_11, gw_1536, tyX12_ok, nmX12, rfl, by decide +kernel, fun _ => rfl⟩
theorem fl_RX12_130 : FL RX12 130 11 55 := ⟨(RX12, TX12, 151), rfl, by decide, lays_11, gw_1537⟩
theorem fp_RX12_130 : FP RX12 130 11 55 (.array .int) true := ⟨(RX12, TX12, 151), tyX12, rfl, by decide, lays_11, gw_1537, tyX12_ok, nmX12, rfl, by decide +kernel, fun _ => rfl⟩
theorem fl_RX12_133 : FL RX12 133 11 56 := ⟨(RX12, TX12, 151), rfl, by decide, lays_11, gw_1538⟩
theorem fp_RX12_133 : FP RX12 133 11 56 (.array .int) true := ⟨(RX12, TX12, 151), tyX12, rfl, by decide, lays_11, gw_1538, tyX12_ok, nmX12, rfl, by decide +kernel, fun _ => rfl⟩
theorem fl_RX12_136 : FL RX12 136 11 57 := ⟨(RX12, TX12, 151), rfl, by decide, lays_11, gw_1539⟩
theorem fp_RX12_136 : FP RX12 136 11 57 (.array .int) true := ⟨(RX12, TX12, 151), tyX12, rfl, by decide, lays_11, gw_1539, tyX12_ok, nmX12, rfl, by decide +kernel, fun _ => rfl⟩
theorem fl_RX12_139 : FL RX12 139 11 58 := ⟨(RX12, TX12, 151), rfl, by decide, lays_11, gw_1540⟩
theorem fp_RX12_139 : FP RX12 139 11 58 (.array .int) true := ⟨(RX12, TX12, 151), tyX12, rfl, by decide, lays_11, gw_1540, tyX12_ok, nmX12, rfl, by decide +kernel, fun _ => rfl⟩
theorem fl_RX12_142 : FL RX12 142 11 59 := ⟨(RX12, TX12, 151), rfl, by decide, lays_11, gw_1541⟩
theorem fp_RX12_142 : FP RX12 142 11 59 (.array .int) true := ⟨(RX12, TX12, 151), tyX12, rfl, by decide, lays_11, gw_1541, tyX12_ok, nmX12, rfl, by decide +kernel, fun _ => rfl⟩
theorem fl_RX12_145 : FL RX12 145 11 60 := ⟨(RX12, TX12, 151), rfl, by decide, lays_11, gw_1542⟩
theorem fp_RX12_145 : FP RX12 145 11 60 (.array .int) true := ⟨(RX12, TX12, 151), tyX12, rfl, by decide, lays_11, gw_1542, tyX12_ok, nmX12, rfl, by decide +kernel, fun _ => rfl⟩
theorem fl_RX12_148 : FL RX12 148 11 61 := ⟨(RX12, TX12, 151), rfl, by decide, lays_11, gw_1543⟩
theorem fp_RX12_148 : FP RX12 148 11 61 (.array .int) true := ⟨(RX12, TX12, 151), tyX12, rfl, by decide, lays_11, gw_1543, tyX12_ok, nmX12, rfl, by decide +kernel, fun _ => rfl⟩
theorem fl_RX12_151 : FL RX12 151 11 62 := ⟨(RX12, TX12, 151), rfl, by decide, lays_11, gw_1544⟩
theorem fp_RX12_151 : FP RX12 151 11 62 (.array .int) true := ⟨(RX12, TX12, 151), tyX12, rfl, by decide, lays_11, gw_1544, tyX12_ok, nmX12, rfl, by decide +kernel, fun _ => rfl⟩
theorem fl_RX12_154 : FL RX12 154 11 63 := ⟨(RX12, TX12, 151), rfl, by decide, lays_11, gw_1545⟩
theorem fp_RX12_154 : FP RX12 154 11 63 (.array .int) true := ⟨(RX12, TX12, 151), tyX12, rfl, by decide, lays_11, gw_1545, tyX12_ok, nmX12, rfl, by decide +kernel, fun _ => rfl⟩
theorem fl_RX12_157 : FL RX12 157 11 64 := ⟨(RX12, TX12, 151), rfl, by decide, lays_11, gw_1546⟩
theorem fp_RX12_157 : FP RX12 157 11 64 (.array .boolean) true := ⟨(RX12, TX12, 151), tyX12, rfl, by decide, lays_11, gw_1546, tyX12_ok, nmX12, rfl, by decide +kernel, fun _ => rfl⟩
theorem fl_RX12_160 : FL RX12 160 11 65 := ⟨(RX12, TX12, 151), rfl, by decide, lays_11, gw_1547⟩
theorem fp_RX12_160 : FP RX12 160 11 65 (.array .boolean) true := ⟨(RX12, TX12, 151), tyX12, rfl, by decide, lays_11, gw_1547, tyX12_ok, nmX12, rfl, by decide +kernel, fun _ => rfl⟩
theorem fl_RX12_163 : FL RX12 163 11 67 := ⟨(RX12, TX12, 151), rfl, by decide, lays_11, gw_1549⟩
theorem fp_RX12_163 : FP RX12 163 11 67 (.array .int) true := ⟨(RX12, TX12, 151), tyX12, rfl, by decide, lays_11, gw_1549, tyX12_ok, nmX12, rfl, by decide +kernel, fun _ => rfl⟩
theorem fl_RX12_166 : FL RX12 166 11 68 := ⟨(RX12, TX12, 151), rfl, by decide, lays_11, gw_1550⟩
theorem fp_RX12_166 : FP RX12 166 11 68 (.array .int) true := ⟨(RX12, TX12, 151), tyX12, rfl, by decide, lays_11, gw_1550, tyX12_ok, nmX12, rfl, by decide +kernel, fun _ => rfl⟩
theorem fl_RX12_169 : FL RX12 169 11 69 := ⟨(RX12, TX12, 151), rfl, by decide, lays_11, gw_1551⟩
theorem fp_RX12_169 : FP RX12 169 11 69 (.array .int) true := ⟨(RX12, TX12, 151), tyX12, rfl, by decide, lays_11, gw_1551, tyX12_ok, nmX12, rfl, by decide +kernel, fun _ => rfl⟩
theorem fl_RX12_172 : FL RX12 172 11 70 := ⟨(RX12, TX12, 151), rfl, by decide, lays_11, gw_1552⟩
theorem fp_RX12_172 : FP RX12 172 11 70 (.array .int) true := ⟨(RX12, TX12, 151), tyX12, rfl, by decide, lays_11, gw_1552, tyX12_ok, nmX12, rfl, by decide +kernel, fun _ => rfl⟩
theorem fl_RX12_175 : FL RX12 175 11 71 := ⟨(RX12, TX12, 151), rfl, by decide, lays_11, gw_1553⟩
theorem fp_RX12_175 : FP RX12 175 11 71 (.array .int) true := ⟨(RX12, TX12, 151), tyX12, rfl, by decide, lays_11, gw_1553, tyX12_ok, nmX12, rfl, by decide +kernel, fun _ => rfl⟩
theorem fl_RX12_178 : FL RX12 178 11 72 := ⟨(RX12, TX12, 151), rfl, by decide, lays_11, gw_1554⟩
theorem fp_RX12_178 : FP RX12 178 11 72 (.array .int) true := ⟨(RX12, TX12, 151), tyX12, rfl, by decide, lays_11, gw_1554, tyX12_ok, nmX12, rfl, by decide +kernel, fun _ => rfl⟩
theorem fl_RX12_181 : FL RX12 181 11 73 := ⟨(RX12, TX12, 151), rfl, by decide, lays_11, gw_1555⟩
theorem fp_RX12_181 : FP RX12 181 11 73 (.array .int) true := ⟨(RX12, TX12, 151), tyX12, rfl, by decide, lays_11, gw_1555, tyX12_ok, nmX12, rfl, by decide +kernel, fun _ => rfl⟩
theorem fl_RX12_184 : FL RX12 184 11 74 := ⟨(RX12, TX12, 151), rfl, by decide, lays_11, gw_1556⟩
theorem fp_RX12_184 : FP RX12 184 11 74 (.array .int) true := ⟨(RX12, TX12, 151), tyX12, rfl, by decide, lays_11, gw_1556, tyX12_ok, nmX12, rfl, by decide +kernel, fun _ => rfl⟩
theorem fl_RX12_187 : FL RX12 187 11 75 := ⟨(RX12, TX12, 151), rfl, by decide, lays_11, gw_1557⟩
theorem fp_RX12_187 : FP RX12 187 11 75 (.array .int) true := ⟨(RX12, TX12, 151), tyX12, rfl, by decide, lays_11, gw_1557, tyX12_ok, nmX12, rfl, by decide +kernel, fun _ => rfl⟩
theorem fl_RX12_190 : FL RX12 190 11 76 := ⟨(RX12, TX12, 151), rfl, by decide, lays_11, gw_1558⟩
theorem fp_RX12_190 : FP RX12 190 11 76 (.array .int) true := ⟨(RX12, TX12, 151), tyX12, rfl, by decide, lays_11, gw_1558, tyX12_ok, nmX12, rfl, by decide +kernel, fun _ => rfl⟩
theorem fl_RX12_193 : FL RX12 193 11 77 := ⟨(RX12, TX12, 151), rfl, by decide, lays_11, gw_1559⟩
theorem fp_RX12_193 : FP RX12 193 11 77 (.array .int) true := ⟨(RX12, TX12, 151), tyX12, rfl, by decide, lays_11, gw_1559, tyX12_ok, nmX12, rfl, by decide +kernel, fun _ => rfl⟩
theorem fl_RX12_196 : FL RX12 196 11 78 := ⟨(RX12, TX12, 151), rfl, by decide, lays_11, gw_1560⟩
theorem fp_RX12_196 : FP RX12 196 11 78 (.array .int) true := ⟨(RX12, TX12, 151), tyX12, rfl, by decide, lays_11, gw_1560, tyX12_ok, nmX12, rfl, by decide +kernel, fun _ => rfl⟩
theorem fl_RX12_199 : FL RX12 199 11 79 := ⟨(RX12, TX12, 151), rfl, by decide, lays_11, gw_1561⟩
theorem fp_RX12_199 : FP RX12 199 11 79 (.array .int) true := ⟨(RX12, TX12, 151), tyX12, rfl, by decide, lays_11, gw_1561, tyX12_ok, nmX12, rfl, by decide +kernel, fun _ => rfl⟩
theorem fl_RX12_202 : FL RX12 202 11 80 := ⟨(RX12, TX12, 151), rfl, by decide, lays_11, gw_1562⟩
theorem fp_RX12_202 : FP RX12 202 11 80 (.array .int) true := ⟨(RX12, TX12, 151), tyX12, rfl, by decide, lays_11, gw_1562, tyX12_ok, nmX12, rfl, by decide +kernel, fun _ => rfl⟩
theorem fl_RX12_205 : FL RX12 205 11 81 := ⟨(RX12, TX12, 151), rfl, by decide, lays_11, gw_1563⟩
theorem fp_RX12_205 : FP RX12 205 11 81 (.array .int) true := ⟨(RX12, TX12, 151), tyX12, rfl, by decide, lays_11, gw_1563, tyX12_ok, nmX12, rfl, by decide +kernel, fun _ => rfl⟩
theorem fl_RX12_208 : FL RX12 208 11 94 := ⟨(RX12, TX12, 151), rfl, by decide, lays_11, gw_1576⟩
theorem fp_RX12_208 : FP RX12 208 11 94 (.array .int) true := ⟨(RX12, TX12, 151), tyX12, rfl, by decide, lays_11, gw_1576, tyX12_ok, nmX12, rfl, by decide +kernel, fun _ => rfl⟩
theorem fl_RX12_211 : FL RX12 211 11 95 := ⟨(RX12, TX12, 151), rfl, by decide, lays_11, gw_1577⟩
theorem fp_RX12_211 : FP RX12 211 11 95 (.array .int) true := ⟨(RX12, TX12, 151), tyX12, rfl, by decide, lays_11, gw_1577, tyX12_ok, nmX12, rfl, by decide +kernel, fun _ => rfl⟩
theorem fl_RX12_214 : FL RX12 214 11 96 := ⟨(RX12, TX12, 151), rfl, by decide, lays_11, gw_1578⟩
theorem fp_RX12_214 : FP RX12 214 11 96 (.array .int) true := ⟨(RX12, TX12, 151), tyX12, rfl, by decide, lays_11, gw_1578, tyX12_ok, nmX12, rfl, by decide +kernel, fun _ => rfl⟩
theorem fl_RX12_217 : FL RX12 217 11 97 := ⟨(RX12, TX12, 151), rfl, by decide, lays_11, gw_1579⟩
theorem fp_RX12_217 : FP RX12 217 11 97 (.array .int) true := ⟨(RX12, TX12, 151), tyX12, rfl, by decide, lays_11, gw_1579, tyX12_ok, nmX12, rfl, by decide +kernel, fun _ => rfl⟩
theorem fl_RX12_220 : FL RX12 220 11 98 := ⟨(RX12, TX12, 151), rfl, by decide, lays_11, gw_1580⟩
theorem fp_RX12_220 : FP RX12 220 11 98 (.array .int) true := ⟨(RX12, TX12, 151), tyX12, rfl, by decide, lays_11, gw_1580, tyX12_ok, nmX12, rfl, by decide +kernel, fun _ => rfl⟩
theorem fl_RX12_223 : FL RX12 223 11 99 := ⟨(RX12, TX12, 151), rfl, by decide, lays_11, gw_1581⟩
theorem fp_RX12_223 : FP RX12 223 11 99 (.array .int) true := ⟨(RX12, TX12, 151), tyX12, rfl, by decide, lays_11, gw_1581, tyX12_ok, nmX12, rfl, by decide +kernel, fun _ => rfl⟩
theorem fl_RX12_226 : FL RX12 226 11 100 := ⟨(RX12, TX12, 151), rfl, by decide, lays_11, gw_1582⟩
theorem fp_RX12_226 : FP RX12 226 11 100 (.array .int) true := ⟨(RX12, TX12, 151), tyX12, rfl, by decide, lays_11, gw_1582, tyX12_ok, nmX12, rfl, by decide +kernel, fun _ => rfl⟩
theorem fl_RX12_229 : FL RX12 229 11 101 := ⟨(RX12, TX12, 151), rfl, by decide, lays_11, gw_1583⟩
theorem fp_RX12_229 : FP RX12 229 11 101 (.array .int) true := ⟨(RX12, TX12, 151), tyX12, rfl, by decide, lays_11, gw_1583, tyX12_ok, nmX12, rfl, by decide +kernel, fun _ => rfl⟩
theorem fl_RX12_232 : FL RX12 232 11 102 := ⟨(RX12, TX12, 151), rfl, by decide, lays_11, gw_1584⟩
theorem fp_RX12_232 : FP RX12 232 11 102 (.array .int) true := ⟨(RX12, TX12, 151), tyX12, rfl, by decide, lays_11, gw_1584, tyX12_ok, nmX12, rfl, by decide +kernel, fun _ => rfl⟩
theorem fl_RX12_235 : FL RX12 235 11 103 := ⟨(RX12, TX12, 151), rfl, by decide, lays_11, gw_1585⟩
theorem fp_RX12_235 : FP RX12 235 11 103 (.array .int) true := ⟨(RX12, TX12, 151), tyX12, rfl, by decide, lays_11, gw_1585, tyX12_ok, nmX12, rfl, by decide +kernel, fun _ => rfl⟩
theorem fl_RX12_238 : FL RX12 238 11 104 := ⟨(RX12, TX12, 151), rfl, by decide, lays_11, gw_1586⟩
theorem fp_RX12_238 : FP RX12 238 11 104 (.array .int) true := ⟨(RX12, TX12, 151), tyX12, rfl, by decide, lays_11, gw_1586, tyX12_ok, nmX12, rfl, by decide +kernel, fun _ => rfl⟩
theorem fp_RX12_241 : FP RX12 241 11 105 (.array .int) true := ⟨(RX12, TX12, 151), tyX12, rfl, by decide, lays_11, gw_1587, tyX12_ok, nmX12, rfl, by decide +kernel, fun _ => rfl⟩
theorem fp_RX12_244 : FP RX12 244 11 106 (.array .int) true := ⟨(RX12, TX12, 151), tyX12, rfl, by decide, lays_11, gw_1588, tyX12_ok, nmX12, rfl, by decide +kernel, fun _ => rfl⟩
theorem fl_RX12_247 : FL RX12 247 11 107 := ⟨(RX12, TX12, 151), rfl, by decide, lays_11, gw_1589⟩
theorem fp_RX12_247 : FP RX12 247 11 107 (.array .int) true := ⟨(RX12, TX12, 151), tyX12, rfl, by decide, lays_11, gw_1589, tyX12_ok, nmX12, rfl, by decide +kernel, fun _ => rfl⟩
theorem fl_RX12_250 : FL RX12 250 11 108 := ⟨(RX12, TX12, 151), rfl, by decide, lays_11, gw_1590⟩
theorem fp_RX12_250 : FP RX12 250 11 108 (.array .int) true := ⟨(RX12, TX12, 151), tyX12, rfl, by decide, lays_11, gw_1590, tyX12_ok, nmX12, rfl, by decide +kernel, fun _ => rfl⟩
theorem fl_RX12_253 : FL RX12 253 11 109 := ⟨(RX12, TX12, 151), rfl, by decide, lays_11, gw_1591⟩
theorem fp_RX12_253 : FP RX12 253 11 109 (.array .int) true := ⟨(RX12, TX12, 151), tyX12, rfl, by decide, lays_11, gw_1591, tyX12_ok, nmX12, rfl, by decide +kernel, fun _ => rfl⟩
theorem fl_RX12_256 : FL RX12 256 11 110 := ⟨(RX12, TX12, 151), rfl, by decide, lays_11, gw_1592⟩
theorem fp_RX12_256 : FP RX12 256 11 110 (.array .int) true := ⟨(RX12, TX12, 151), tyX12, rfl, by decide, lays_11, gw_1592, tyX12_ok, nmX12, rfl, by decide +kernel, fun _ => rfl⟩
theorem fl_RX12_259 : FL RX12 259 11 111 := ⟨(RX12, TX12, 151), rfl, by decide, lays_11, gw_1593⟩
theorem fp_RX12_259 : FP RX12 259 11 111 (.array .boolean) true := ⟨(RX12, TX12, 151), tyX12, rfl, by decide, lays_11, gw_1593, tyX12_ok, nmX12, rfl, by decide +kernel, fun _ => rfl⟩
theorem fl_RX12_262 : FL RX12 262 11 112 := ⟨(RX12, TX12, 151), rfl, by decide, lays_11, gw_1594⟩
theorem fp_RX12_262 : FP RX12 262 11 112 (.array .int) true := ⟨(RX12, TX12, 151), tyX12, rfl, by decide, lays_11, gw_1594, tyX12_ok, nmX12, rfl, by decide +kernel, fun _ => rfl⟩
theorem fl_RX12_265 : FL RX12 265 11 113 := ⟨(RX12, TX12, 151), rfl, by decide, lays_11, gw_1595⟩
theorem fp_RX12_265 : FP RX12 265 11 113 (.array .int) true := ⟨(RX12, TX12, 151), tyX12, rfl, by decide, lays_11, gw_1595, tyX12_ok, nmX12, rfl, by decide +kernel, fun _ => rfl⟩
theorem fl_RX12_268 : FL RX12 268 11 114 := ⟨(RX12, TX12, 151), rfl, by decide, lays_11, gw_1596⟩
theorem fp_RX12_268 : FP RX12 268 11 114 (.array .int) true := ⟨(RX12, TX12, 151), tyX12, rfl, by decide, lays_11, gw_1596, tyX12_ok, nmX12, rfl, by decide +kernel, fun _ => rfl⟩
theorem fl_RX12_271 : FL RX12 271 11 115 := ⟨(RX12, TX12, 151), rfl, by decide, lays_11, gw_1597⟩
theorem fp_RX12_271 : FP RX12 271 11 115 (.array .int) true := ⟨(RX12, TX12, 151), tyX12, rfl, by decide, lays_11, gw_1597, tyX12_ok, nmX12, rfl, by decide +kernel, fun _ => rfl⟩
theorem fl_RX12_274 : FL RX12 274 11 116 := ⟨(RX12, TX12, 151), rfl, by decide, lays_11, gw_1598⟩
theorem fp_RX12_274 : FP RX12 274 11 116 (.array .int) true := ⟨(RX12, TX12, 151), tyX12, rfl, by decide, lays_11, gw_1598, tyX12_ok, nmX12, rfl, by decide +kernel, fun _ => rfl⟩
theorem fl_RX12_277 : FL RX12 277 11 117 := ⟨(RX12, TX12, 151), rfl, by decide, lays_11, gw_1599⟩
theorem fp_RX12_277 : FP RX12 277 11 117 (.array .int) true := ⟨(RX12, TX12, 151), tyX12, rfl, by decide, lays_11, gw_1599, tyX12_ok, nmX12, rfl, by decide +kernel, fun _ => rfl⟩
theorem fl_RX12_283 : FL RX12 283 11 121 := ⟨(RX12, TX12, 151), rfl, by decide, lays_11, gw_1603⟩
theorem fp_RX12_283 : FP RX12 283 11 121 (.array .int) true := ⟨(RX12, TX12, 151), tyX12, rfl, by decide, lays_11, gw_1603, tyX12_ok, nmX12, rfl, by decide +kernel, fun _ => rfl⟩
theorem fl_RX12_286 : FL RX12 286 11 122 := ⟨(RX12, TX12, 151), rfl, by decide, lays_11, gw_1604⟩
theorem fp_RX12_286 : FP RX12 286 11 122 (.array .int) true := ⟨(RX12, TX12, 151), tyX12, rfl, by decide, lays_11, gw_1604, tyX12_ok, nmX12, rfl, by decide +kernel, fun _ => rfl⟩
theorem fl_RX12_289 : FL RX12 289 11 123 := ⟨(RX12, TX12, 151), rfl, by decide, lays_11, gw_1605⟩
theorem fp_RX12_289 : FP RX12 289 11 123 (.array .int) true := ⟨(RX12, TX12, 151), tyX12, rfl, by decide, lays_11, gw_1605, tyX12_ok, nmX12, rfl, by decide +kernel, fun _ => rfl⟩
theorem fl_RX12_292 : FL RX12 292 11 124 := ⟨(RX12, TX12, 151), rfl, by decide, lays_11, gw_1606⟩
theorem fp_RX12_292 : FP RX12 292 11 124 (.array .int) true := ⟨(RX12, TX12, 151), tyX12, rfl, by decide, lays_11, gw_1606, tyX12_ok, nmX12, rfl, by decide +kernel, fun _ => rfl⟩
theorem fl_RX12_295 : FL RX12 295 11 125 := ⟨(RX12, TX12, 151), rfl, by decide, lays_11, gw_1607⟩
theorem fp_RX12_295 : FP RX12 295 11 125 (.array .int) true := ⟨(RX12, TX12, 151), tyX12, rfl, by decide, lays_11, gw_1607, tyX12_ok, nmX12, rfl, by decide +kernel, fun _ => rfl⟩
theorem fl_RX12_298 : FL RX12 298 11 126 := ⟨(RX12, TX12, 151), rfl, by decide, lays_11, gw_1608⟩
theorem fp_RX12_298 : FP RX12 298 11 126 (.array .int) true := ⟨(RX12, TX12, 151), tyX12, rfl, by decide, lays_11, gw_1608, tyX12_ok, nmX12, rfl, by decide +kernel, fun _ => rfl⟩
theorem fp_RX12_301 : FP RX12 301 11 127 (.array .int) true := ⟨(RX12, TX12, 151), tyX12, rfl, by decide, lays_11, gw_1609, tyX12_ok, nmX12, rfl, by decide +kernel, fun _ => rfl⟩
theorem fl_RX12_304 : FL RX12 304 11 128 := ⟨(RX12, TX12, 151), rfl, by decide, lays_11, gw_1610⟩
theorem fp_RX12_304 : FP RX12 304 11 128 (.array .int) true := ⟨(RX12, TX12, 151), tyX12, rfl, by decide, lays_11, gw_1610, tyX12_ok, nmX12, rfl, by decide +kernel, fun _ => rfl⟩
theorem fl_RX12_307 : FL RX12 307 11 129 := ⟨(RX12, TX12, 151), rfl, by decide, lays_11, gw_1611⟩
theorem fp_RX12_307 : FP RX12 307 11 129 (.array .int) true := ⟨(RX12, TX12, 151), tyX12, rfl, by decide, lays_11, gw_1611, tyX12_ok, nmX12, rfl, by decide +kernel, fun _ => rfl⟩
theorem fl_RX12_310 : FL RX12 310 11 130 := ⟨(RX12, TX12, 151), rfl, by decide, lays_11, gw_1612⟩
theorem fp_RX12_310 : FP RX12 310 11 130 (.array .int) true := ⟨(RX12, TX12, 151), tyX12, rfl, by decide, lays_11, gw_1612, tyX12_ok, nmX12, rfl, by decide +kernel, fun _ => rfl⟩
theorem fl_RX12_313 : FL RX12 313 11 131 := ⟨(RX12, TX12, 151), rfl, by decide, lays_11, gw_1613⟩
theorem fp_RX12_313 : FP RX12 313 11 131 (.array .int) true := ⟨(RX12, TX12, 151), tyX12, rfl, by decide, lays_11, gw_1613, tyX12_ok, nmX12, rfl, by decide +kernel, fun _ => rfl⟩
theorem fl_RX12_316 : FL RX12 316 11 132 := ⟨(RX12, TX12, 151), rfl, by decide, lays_11, gw_1614⟩
theorem fp_RX12_316 : FP RX12 316 11 132 (.array .int) true := ⟨(RX12, TX12, 151), tyX12, rfl, by decide, lays_11, gw_1614, tyX12_ok, nmX12, rfl, by decide +kernel, fun _ => rfl⟩
theorem fp_RX12_319 : FP RX12 319 11 134 (.array .int) true := ⟨(RX12, TX12, 151), tyX12, rfl, by decide, lays_11, gw_1616, tyX12_ok, nmX12, rfl, by decide +kernel, fun _ => rfl⟩
theorem fl_RX12_322 : FL RX12 322 11 135 := ⟨(RX12, TX12, 151), rfl, by decide, lays_11, gw_1617⟩
theorem fp_RX12_322 : FP RX12 322 11 135 (.array .boolean) true := ⟨(RX12, TX12, 151), tyX12, rfl, by decide, lays_11, gw_1617, tyX12_ok, nmX12, rfl, by decide +kernel, fun _ => rfl⟩
theorem fl_RX12_325 : FL RX12 325 11 136 := ⟨(RX12, TX12, 151), rfl, by decide, lays_11, gw_1618⟩
theorem fp_RX12_325 : FP RX12 325 11 136 (.array .boolean) true := ⟨(RX12, TX12, 151), tyX12, rfl, by decide, lays_11, gw_1618, tyX12_ok, nmX12, rfl, by decide +kernel, fun _ => rfl⟩
theorem fl_RX12_328 : FL RX12 328 11 139 := ⟨(RX12, TX12, 151), rfl, by decide, lays_11, gw_1621⟩
theorem fp_RX12_328 : FP RX12 328 11 139 (.array .int) true := ⟨(RX12, TX12, 151), tyX12, rfl, by decide, lays_11, gw_1621, tyX12_ok, nmX12, rfl, by decide +kernel, fun _ => rfl⟩
theorem fl_RX12_331 : FL RX12 331 11 140 := ⟨(RX12, TX12, 151), rfl, by decide, lays_11, gw_1622⟩
theorem fp_RX12_331 : FP RX12 331 11 140 (.array .int) true := ⟨(RX12, TX12, 151), tyX12, rfl, by decide, lays_11, gw_1622, tyX12_ok, nmX12, rfl, by decide +kernel, fun _ => rfl⟩
theorem fl_RX12_334 : FL RX12 334 11 141 := ⟨(RX12, TX12, 151), rfl, by decide, lays_11, gw_1623⟩
theorem fp_RX12_334 : FP RX12 334 11 141 (.array .int) true := ⟨(RX12, TX12, 151), tyX12, rfl, by decide, lays_11, gw_1623, tyX12_ok, nmX12, rfl, by decide +kernel, fun _ => rfl⟩
theorem fl_RX12_337 : FL RX12 337 11 142 := ⟨(RX12, TX12, 151), rfl, by decide, lays_11, gw_1624⟩
theorem fp_RX12_337 : FP RX12 337 11 142 (.array .int) true := ⟨(RX12, TX12, 151), tyX12, rfl, by decide, lays_11, gw_1624, tyX12_ok, nmX12, rfl, by decide +kernel, fun _ => rfl⟩
theorem fl_RX12_340 : FL RX12 340 11 143 := ⟨(RX12, TX12, 151), rfl, by decide, lays_11, gw_1625⟩
theorem fp_RX12_340 : FP RX12 340 11 143 (.array .int) true := ⟨(RX12, TX12, 151), tyX12, rfl, by decide, lays_11, gw_1625, tyX12_ok, nmX12, rfl, by decide +kernel, fun _ => rfl⟩
theorem fl_RX12_343 : FL RX12 343 11 144 := ⟨(RX12, TX12, 151), rfl, by decide, lays_11, gw_1626⟩
theorem fp_RX12_343 : FP RX12 343 11 144 (.array .int) true := ⟨(RX12, TX12, 151), tyX12, rfl, by decide, lays_11, gw_1626, tyX12_ok, nmX12, rfl, by decide +kernel, fun _ => rfl⟩
theorem fl_RX12_346 : FL RX12 346 11 146 := ⟨(RX12, TX12, 151), rfl, by decide, lays_11, gw_1628⟩
theorem fp_RX12_346 : FP RX12 346 11 146 (.array .int) true := ⟨(RX12, TX12, 151), tyX12, rfl, by decide, lays_11, gw_1628, tyX12_ok, nmX12, rfl, by decide +kernel, fun _ => rfl⟩
theorem fl_RX12_349 : FL RX12 349 11 147 := ⟨(RX12, TX12, 151), rfl, by decide, lays_11, gw_1629⟩
theorem fp_RX12_349 : FP RX12 349 11 147 (.array .int) true := ⟨(RX12, TX12, 151), tyX12, rfl, by decide, lays_11, gw_1629, tyX12_ok, nmX12, rfl, by decide +kernel, fun _ => rfl⟩
theorem fl_RX12_352 : FL RX12 352 11 148 := ⟨(RX12, TX12, 151), rfl, by decide, lays_11, gw_1630⟩
theorem fp_RX12_352 : FP RX12 352 11 148 (.array .int) true := ⟨(RX12, TX12, 151), tyX12, rfl, by decide, lays_11, gw_1630, tyX12_ok, nmX12, rfl, by decide +kernel, fun _ => rfl⟩
theorem fl_RX12_355 : FL RX12 355 11 149 := ⟨(RX12, TX12, 151), rfl, by decide, lays_11, gw_1631⟩
theorem fp_RX12_355 : FP RX12 355 11 149 (.array .int) true := ⟨(RX12, TX12, 151), tyX12, rfl, by decide, lays_11, gw_1631, tyX12_ok, nmX12, rfl, by decide +kernel, fun _ => rfl⟩
theorem fl_RX12_358 : FL RX12 358 11 150 := ⟨(RX12, TX12, 151), rfl, by decide, lays_11, gw_1632⟩
theorem fp_RX12_358 : FP RX12 358 11 150 (.array .boolean) true := ⟨(RX12, TX12, 151), tyX12, rfl, by decide, lays_11, gw_1632, tyX12_ok, nmX12, rfl, by decide +kernel, fun _ => rfl⟩
theorem gI_RL_9 : GI RL 9 yX11_init cX11_init 1 0 := ⟨gi_ws gw_25, gw_1, gw_23, gw_24, rfl, by decide +kernel, by decide +kernel, by decide +kernel⟩
theorem gI_RL_12 : GI RL 12 yX12_init cX12_init 2 0 := ⟨gi_ws gw_1476, gw_8, gw_1474, gw_1475, rfl, by decide +kernel, by decide +kernel, by decide +kernel⟩
theorem gV_RL_13 : GV RL 13 RX11 yX11_ice cX11_ice 3 (some .boolean) 2 := ⟨gi_app (List.forall_mem_cons.mpr ⟨gw_295, List.forall_mem_cons.mpr ⟨gw_296, List.forall_mem_cons.mpr ⟨gw_297, List.forall_mem_cons.mpr ⟨gw_1, fun _ h => absurd h List.not_mem_nil⟩⟩⟩⟩) (gi_ws gw_298), rfl, by decide +kernel, by decide +kernel, by decide +kernel⟩
theorem gV_RL_17 : GV RL 17 RX12 yX12_ice cX12_ice 3 (some .boolean) 2 := ⟨gi_app (List.forall_mem_cons.mpr ⟨gw_1937, List.forall_mem_cons.mpr ⟨gw_1938, List.forall_mem_cons.mpr ⟨gw_1939, List.forall_mem_cons.mpr ⟨gw_8, fun _ h => absurd h List.not_mem_nil⟩⟩⟩⟩) (gi_ws gw_1940), rfl, by decide +kernel, by decide +kernel, by decide +kernel⟩
theorem gV_RL_18 : GV RL 18 RX11 yX11_cell cX11_cell 8 (some .boolean) 5 := ⟨gi_app (List.forall_mem_cons.mpr ⟨gw_306, List.forall_mem_cons.mpr ⟨gw_307, List.forall_mem_cons.mpr ⟨gw_308, List.forall_mem_cons.mpr ⟨gw_1, fun _ h => absurd h List.not_mem_nil⟩⟩⟩⟩) (gi_ws gw_309), rfl, by decide +kernel, by decide +kernel, by decide +kernel⟩
theorem gV_RL_22 : GV RL 22 RX12 yX12_cell cX12_cell 6 (some .boolean) 5 := ⟨gi_app (List.forall_mem_cons.mpr ⟨gw_1944, List.forall_mem_cons.mpr ⟨gw_1945, List.forall_mem_cons.mpr ⟨gw_1946, List.forall_mem_cons.mpr ⟨gw_8, fun _ h => absurd h List.not_mem_nil⟩⟩⟩⟩) (gi_ws gw_1947), rfl, by decide +kernel, by decide +kernel, by decide +kernel⟩
theorem gV_RL_23 : GV RL 23 RX11 yX11_dark cX11_dark 3 (some .boolean) 2 := ⟨gi_app (List.forall_mem_cons.mpr ⟨gw_314, List.forall_mem_cons.mpr ⟨gw_315, List.forall_mem_cons.mpr ⟨gw_316, List.forall_mem_cons.mpr ⟨gw_1, fun _ h => absurd h List.not_mem_nil⟩⟩⟩⟩) (gi_ws gw_317), rfl, by decide +kernel, by decide +kernel, by decide +kernel⟩
theorem gV_RL_26 : GV RL 26 RX12 yX12_dark cX12_dark 3 (some .boolean) 2 := ⟨gi_app (List.forall_mem_cons.mpr ⟨gw_1952, List.forall_mem_cons.mpr ⟨gw_1953, List.forall_mem_cons.mpr ⟨gw_1954, List.forall_mem_cons.mpr ⟨gw_8, fun _ h => absurd h List.not_mem_nil⟩⟩⟩⟩) (gi_ws gw_1955), rfl, by decide +kernel, by decide +kernel, by decide +kernel⟩
theorem gV_RL_27 : GV RL 27 RX11 yX11_party cX11_party 2 (some .int) 1 := ⟨gi_app (List.forall_mem_cons.mpr ⟨gw_321, List.forall_mem_cons.mpr ⟨gw_322, List.forall_mem_cons.mpr ⟨gw_323, List.forall_mem_cons.mpr ⟨gw_1, fun _ h => absurd h List.not_mem_nil⟩⟩⟩⟩) (gi_ws gw_324), rfl, by decide +kernel, by decide +kernel, by decide +kernel⟩
theorem gV_RL_31 : GV RL 31 RX12 yX12_party cX12_party 2 (some .int) 1 := ⟨gi_app (List.forall_mem_cons.mpr ⟨gw_1956, List.forall_mem_cons.mpr ⟨gw_1957, List.forall_mem_cons.mpr ⟨gw_1958, List.forall_mem_cons.mpr ⟨gw_8, fun _ h => absurd h List.not_mem_nil⟩⟩⟩⟩) (gi_ws gw_1959), rfl, by decide +kernel, by decide +kernel, by decide +kernel⟩
theorem gV_RL_32 : GV RL 32 RX11 yX11_claim cX11_claim 6 (some .int) 4 := ⟨gi_app (List.forall_mem_cons.mpr ⟨gw_353, List.forall_mem_cons.mpr ⟨gw_354, List.forall_mem_cons.mpr ⟨gw_355, List.forall_mem_cons.mpr ⟨gw_1, fun _ h => absurd h List.not_mem_nil⟩⟩⟩⟩) (gi_ws gw_356), rfl, by decide +kernel, by decide +kernel, by decide +kernel⟩
theorem gV_RL_36 : GV RL 36 RX12 yX12_claim cX12_claim 5 (some .int) 4 := ⟨gi_app (List.forall_mem_cons.mpr ⟨gw_1975, List.forall_mem_cons.mpr ⟨gw_1976, List.forall_mem_cons.mpr ⟨gw_1977, List.forall_mem_cons.mpr ⟨gw_8, fun _ h => absurd h List.not_mem_nil⟩⟩⟩⟩) (gi_ws gw_1978), rfl, by decide +kernel, by decide +kernel, by decide +kernel⟩
theorem gV_RL_37 : GV RL 37 RX11 yX11_title cX11_title 5 (some .boolean) 2 := ⟨gi_app (List.forall_mem_cons.mpr ⟨gw_501, List.forall_mem_cons.mpr ⟨gw_502, List.forall_mem_cons.mpr ⟨gw_503, List.forall_mem_cons.mpr ⟨gw_1, fun _ h => absurd h List.not_mem_nil⟩⟩⟩⟩) (gi_ws gw_504), rfl, by decide +kernel, by decide +kernel, by decide +kernel⟩
theorem gV_RL_40 : GV RL 40 RX12 yX12_title cX12_title 3 (some .boolean) 2 := ⟨gi_app (List.forall_mem_cons.mpr ⟨gw_2003, List.forall_mem_cons.mpr ⟨gw_2004, List.forall_mem_cons.mpr ⟨gw_2005, List.forall_mem_cons.mpr ⟨gw_8, fun _ h => absurd h List.not_mem_nil⟩⟩⟩⟩) (gi_ws gw_2006), rfl, by decide +kernel, by decide +kernel, by decide +kernel⟩
theorem gV_RL_41 : GV RL 41 RX11 yX11_station cX11_station 7 (some .int) 4 := ⟨gi_app (List.forall_mem_cons.mpr ⟨gw_513, List.forall_mem_cons.mpr ⟨gw_514, List.forall_mem_cons.mpr ⟨gw_515, List.forall_mem_cons.mpr ⟨gw_1, fun _ h => absurd h List.not_mem_nil⟩⟩⟩⟩) (gi_ws gw_516), rfl, by decide +kernel, by decide +kernel, by decide +kernel⟩
theorem gV_RL_44 : GV RL 44 RX12 yX12_station cX12_station 5 (some .int) 4 := ⟨gi_app (List.forall_mem_cons.mpr ⟨gw_2011, List.forall_mem_cons.mpr ⟨gw_2012, List.forall_mem_cons.mpr ⟨gw_2013, List.forall_mem_cons.mpr ⟨gw_8, fun _ h => absurd h List.not_mem_nil⟩⟩⟩⟩) (gi_ws gw_2014), rfl, by decide +kernel, by decide +kernel, by decide +kernel⟩
theorem gV_RL_45 : GV RL 45 RX11 yX11_field cX11_field 4 (some .int) 2 := ⟨gi_app (List.forall_mem_cons.mpr ⟨gw_527, List.forall_mem_cons.mpr ⟨gw_528, List.forall_mem_cons.mpr ⟨gw_529, List.forall_mem_cons.mpr ⟨gw_1, fun _ h => absurd h List.not_mem_nil⟩⟩⟩⟩) (gi_ws gw_530), rfl, by decide +kernel, by decide +kernel, by decide +kernel⟩
theorem gV_RL_49 : GV RL 49 RX12 yX12_field cX12_field 3 (some .int) 2 := ⟨gi_app (List.forall_mem_cons.mpr ⟨gw_2020, List.forall_mem_cons.mpr ⟨gw_2021, List.forall_mem_cons.mpr ⟨gw_2022, List.forall_mem_cons.mpr ⟨gw_8, fun _ h => absurd h List.not_mem_nil⟩⟩⟩⟩) (gi_ws gw_2023), rfl, by decide +kernel, by decide +kernel, by decide +kernel⟩
theorem gV_RL_50 : GV RL 50 RX11 yX11_reserve cX11_reserve 4 (some .int) 3 := ⟨gi_app (List.forall_mem_cons.mpr ⟨gw_535, List.forall_mem_cons.mpr ⟨gw_536, List.forall_mem_cons.mpr ⟨gw_537, List.forall_mem_cons.mpr ⟨gw_1, fun _ h => absurd h List.not_mem_nil⟩⟩⟩⟩) (gi_ws gw_538), rfl, by decide +kernel, by decide +kernel, by decide +kernel⟩
theorem gV_RL_54 : GV RL 54 RX12 yX12_reserve cX12_reserve 4 (some .int) 3 := ⟨gi_app (List.forall_mem_cons.mpr ⟨gw_2032, List.forall_mem_cons.mpr ⟨gw_2033, List.forall_mem_cons.mpr ⟨gw_2034, List.forall_mem_cons.mpr ⟨gw_8, fun _ h => absurd h List.not_mem_nil⟩⟩⟩⟩) (gi_ws gw_2035), rfl, by decide +kernel, by decide +kernel, by decide +kernel⟩
theorem gV_RL_55 : GV RL 55 RX11 yX11_site cX11_site 3 (some .int) 2 := ⟨gi_app (List.forall_mem_cons.mpr ⟨gw_539, List.forall_mem_cons.mpr ⟨gw_540, List.forall_mem_cons.mpr ⟨gw_541, List.forall_mem_cons.mpr ⟨gw_1, fun _ h => absurd h List.not_mem_nil⟩⟩⟩⟩) (gi_ws gw_542), rfl, by decide +kernel, by decide +kernel, by decide +kernel⟩
theorem gV_RL_59 : GV RL 59 RX12 yX12_site cX12_site 3 (some .int) 2 := ⟨gi_app (List.forall_mem_cons.mpr ⟨gw_2036, List.forall_mem_cons.mpr ⟨gw_2037, List.forall_mem_cons.mpr ⟨gw_2038, List.forall_mem_cons.mpr ⟨gw_8, fun _ h => absurd h List.not_mem_nil⟩⟩⟩⟩) (gi_ws gw_2039), rfl, by decide +kernel, by decide +kernel, by decide +kernel⟩
theorem gV_RL_60 : GV RL 60 RX11 yX11_feed cX11_feed 6 (some .int) 5 := ⟨gi_app (List.forall_mem_cons.mpr ⟨gw_543, List.forall_mem_cons.mpr ⟨gw_544, List.forall_mem_cons.mpr ⟨gw_545, List.forall_mem_cons.mpr ⟨gw_1, fun _ h => absurd h List.not_mem_nil⟩⟩⟩⟩) (gi_ws gw_546), rfl, by decide +kernel, by decide +kernel, by decide +kernel⟩
theorem gV_RL_64 : GV RL 64 RX12 yX12_feed cX12_feed 6 (some .int) 5 := ⟨gi_app (List.forall_mem_cons.mpr ⟨gw_2040, List.forall_mem_cons.mpr ⟨gw_2041, List.forall_mem_cons.mpr ⟨gw_2042, List.forall_mem_cons.mpr ⟨gw_8, fun _ h => absurd h List.not_mem_nil⟩⟩⟩⟩) (gi_ws gw_2043), rfl, by decide +kernel, by decide +kernel, by decide +kernel⟩
theorem gV_RL_65 : GV RL 65 RX11 yX11_text cX11_text 6 (some .int) 3 := ⟨gi_app (List.forall_mem_cons.mpr ⟨gw_563, List.forall_mem_cons.mpr ⟨gw_564, List.forall_mem_cons.mpr ⟨gw_565, List.forall_mem_cons.mpr ⟨gw_1, fun _ h => absurd h List.not_mem_nil⟩⟩⟩⟩) (gi_ws gw_566), rfl, by decide +kernel, by decide +kernel, by decide +kernel⟩
theorem gV_RL_68 : GV RL 68 RX12 yX12_text cX12_text 7 (some .int) 3 := ⟨gi_app (List.forall_mem_cons.mpr ⟨gw_2048, List.forall_mem_cons.mpr ⟨gw_2049, List.forall_mem_cons.mpr ⟨gw_2050, List.forall_mem_cons.mpr ⟨gw_8, fun _ h => absurd h List.not_mem_nil⟩⟩⟩⟩) (gi_ws gw_2051), rfl, by decide +kernel, by decide +kernel, by decide +kernel⟩
theorem gV_RL_69 : GV RL 69 RX11 yX11_yes cX11_yes 4 (some .boolean) 2 := ⟨gi_app (List.forall_mem_cons.mpr ⟨gw_816, List.forall_mem_cons.mpr ⟨gw_817, List.forall_mem_cons.mpr ⟨gw_818, List.forall_mem_cons.mpr ⟨gw_1, fun _ h => absurd h List.not_mem_nil⟩⟩⟩⟩) (gi_ws gw_819), rfl, by decide +kernel, by decide +kernel, by decide +kernel⟩
theorem gV_RL_72 : GV RL 72 RX12 yX12_yes cX12_yes 3 (some .boolean) 2 := ⟨gi_app (List.forall_mem_cons.mpr ⟨gw_2138, List.forall_mem_cons.mpr ⟨gw_2139, List.forall_mem_cons.mpr ⟨gw_2140, List.forall_mem_cons.mpr ⟨gw_8, fun _ h => absurd h List.not_mem_nil⟩⟩⟩⟩) (gi_ws gw_2141), rfl, by decide +kernel, by decide +kernel, by decide +kernel⟩
theorem gV_RL_73 : GV RL 73 RX11 yX11_reading cX11_reading 8 (some .int) 4 := ⟨gi_app (List.forall_mem_cons.mpr ⟨gw_823, List.forall_mem_cons.mpr ⟨gw_824, List.forall_mem_cons.mpr ⟨gw_825, List.forall_mem_cons.mpr ⟨gw_1, fun _ h => absurd h List.not_mem_nil⟩⟩⟩⟩) (gi_ws gw_826), rfl, by decide +kernel, by decide +kernel, by decide +kernel⟩
theorem gV_RL_76 : GV RL 76 RX12 yX12_reading cX12_reading 7 (some .int) 4 := ⟨gi_app (List.forall_mem_cons.mpr ⟨gw_2146, List.forall_mem_cons.mpr ⟨gw_2147, List.forall_mem_cons.mpr ⟨gw_2148, List.forall_mem_cons.mpr ⟨gw_8, fun _ h => absurd h List.not_mem_nil⟩⟩⟩⟩) (gi_ws gw_2149), rfl, by decide +kernel, by decide +kernel, by decide +kernel⟩
theorem gV_RL_77 : GV RL 77 RX11 yX11_counts cX11_counts 5 (some .int) 3 := ⟨gi_app (List.forall_mem_cons.mpr ⟨gw_845, List.forall_mem_cons.mpr ⟨gw_846, List.forall_mem_cons.mpr ⟨gw_847, List.forall_mem_cons.mpr ⟨gw_1, fun _ h => absurd h List.not_mem_nil⟩⟩⟩⟩) (gi_ws gw_848), rfl, by decide +kernel, by decide +kernel, by decide +kernel⟩
theorem gV_RL_80 : GV RL 80 RX12 yX12_counts cX12_counts 6 (some .int) 3 := ⟨gi_app (List.forall_mem_cons.mpr ⟨gw_2154, List.forall_mem_cons.mpr ⟨gw_2155, List.forall_mem_cons.mpr ⟨gw_2156, List.forall_mem_cons.mpr ⟨gw_8, fun _ h => absurd h List.not_mem_nil⟩⟩⟩⟩) (gi_ws gw_2157), rfl, by decide +kernel, by decide +kernel, by decide +kernel⟩
theorem gV_RL_81 : GV RL 81 RX11 yX11_number cX11_number 6 (some .int) 3 := ⟨gi_app (List.forall_mem_cons.mpr ⟨gw_858, List.forall_mem_cons.mpr ⟨gw_859, List.forall_mem_cons.mpr ⟨gw_860, List.forall_mem_cons.mpr ⟨gw_1, fun _ h => absurd h List.not_mem_nil⟩⟩⟩⟩) (gi_ws gw_861), rfl, by decide +kernel, by decide +kernel, by decide +kernel⟩
theorem gV_RL_84 : GV RL 84 RX12 yX12_number cX12_number 4 (some .int) 3 := ⟨gi_app (List.forall_mem_cons.mpr ⟨gw_2158, List.forall_mem_cons.mpr ⟨gw_2159, List.forall_mem_cons.mpr ⟨gw_2160, List.forall_mem_cons.mpr ⟨gw_8, fun _ h => absurd h List.not_mem_nil⟩⟩⟩⟩) (gi_ws gw_2161), rfl, by decide +kernel, by decide +kernel, by decide +kernel⟩
theorem gV_RL_85 : GV RL 85 RX11 yX11_decides cX11_decides 4 (some .int) 2 := ⟨gi_app (List.forall_mem_cons.mpr ⟨gw_863, List.forall_mem_cons.mpr ⟨gw_864, List.forall_mem_cons.mpr ⟨gw_865, List.forall_mem_cons.mpr ⟨gw_1, fun _ h => absurd h List.not_mem_nil⟩⟩⟩⟩) (gi_ws gw_866), rfl, by decide +kernel, by decide +kernel, by decide +kernel⟩
theorem gV_RL_88 : GV RL 88 RX12 yX12_decides cX12_decides 3 (some .int) 2 := ⟨gi_app (List.forall_mem_cons.mpr ⟨gw_1960, List.forall_mem_cons.mpr ⟨gw_1961, List.forall_mem_cons.mpr ⟨gw_1962, List.forall_mem_cons.mpr ⟨gw_8, fun _ h => absurd h List.not_mem_nil⟩⟩⟩⟩) (gi_ws gw_1963), rfl, by decide +kernel, by decide +kernel, by decide +kernel⟩
theorem gV_RL_89 : GV RL 89 RX11 yX11_work cX11_work 9 (some .int) 7 := ⟨gi_app (List.forall_mem_cons.mpr ⟨gw_871, List.forall_mem_cons.mpr ⟨gw_872, List.forall_mem_cons.mpr ⟨gw_873, List.forall_mem_cons.mpr ⟨gw_1, fun _ h => absurd h List.not_mem_nil⟩⟩⟩⟩) (gi_ws gw_874), rfl, by decide +kernel, by decide +kernel, by decide +kernel⟩
theorem gV_RL_93 : GV RL 93 RX12 yX12_work cX12_work 9 (some .int) 7 := ⟨gi_app (List.forall_mem_cons.mpr ⟨gw_2170, List.forall_mem_cons.mpr ⟨gw_2171, List.forall_mem_cons.mpr ⟨gw_2172, List.forall_mem_cons.mpr ⟨gw_8, fun _ h => absurd h List.not_mem_nil⟩⟩⟩⟩) (gi_ws gw_2173), rfl, by decide +kernel, by decide +kernel, by decide +kernel⟩
theorem gV_RL_94 : GV RL 94 RX11 yX11_tell cX11_tell 4 (some .boolean) 2 := ⟨gi_app (List.forall_mem_cons.mpr ⟨gw_946, List.forall_mem_cons.mpr ⟨gw_947, List.forall_mem_cons.mpr ⟨gw_948, List.forall_mem_cons.mpr ⟨gw_1, fun _ h => absurd h List.not_mem_nil⟩⟩⟩⟩) (gi_ws gw_949), rfl, by decide +kernel, by decide +kernel, by decide +kernel⟩
theorem gV_RL_97 : GV RL 97 RX12 yX12_tell cX12_tell 3 (some .boolean) 2 := ⟨gi_app (List.forall_mem_cons.mpr ⟨gw_2174, List.forall_mem_cons.mpr ⟨gw_2175, List.forall_mem_cons.mpr ⟨gw_2176, List.forall_mem_cons.mpr ⟨gw_8, fun _ h => absurd h List.not_mem_nil⟩⟩⟩⟩) (gi_ws gw_2177), rfl, by decide +kernel, by decide +kernel, by decide +kernel⟩
theorem gV_RL_98 : GV RL 98 RX11 yX11_study cX11_study 4 (some .boolean) 2 := ⟨gi_app (List.forall_mem_cons.mpr ⟨gw_954, List.forall_mem_cons.mpr ⟨gw_955, List.forall_mem_cons.mpr ⟨gw_956, List.forall_mem_cons.mpr ⟨gw_1, fun _ h => absurd h List.not_mem_nil⟩⟩⟩⟩) (gi_ws gw_957), rfl, by decide +kernel, by decide +kernel, by decide +kernel⟩
theorem gV_RL_101 : GV RL 101 RX12 yX12_study cX12_study 3 (some .boolean) 2 := ⟨gi_app (List.forall_mem_cons.mpr ⟨gw_2182, List.forall_mem_cons.mpr ⟨gw_2183, List.forall_mem_cons.mpr ⟨gw_2184, List.forall_mem_cons.mpr ⟨gw_8, fun _ h => absurd h List.not_mem_nil⟩⟩⟩⟩) (gi_ws gw_2185), rfl, by decide +kernel, by decide +kernel, by decide +kernel⟩
theorem gV_RL_102 : GV RL 102 RX11 yX11_say cX11_say 6 (some .boolean) 3 := ⟨gi_app (List.forall_mem_cons.mpr ⟨gw_958, List.forall_mem_cons.mpr ⟨gw_959, List.forall_mem_cons.mpr ⟨gw_960, List.forall_mem_cons.mpr ⟨gw_1, fun _ h => absurd h List.not_mem_nil⟩⟩⟩⟩) (gi_ws gw_961), rfl, by decide +kernel, by decide +kernel, by decide +kernel⟩
theorem gV_RL_106 : GV RL 106 RX12 yX12_say cX12_say 4 (some .boolean) 3 := ⟨gi_app (List.forall_mem_cons.mpr ⟨gw_2186, List.forall_mem_cons.mpr ⟨gw_2187, List.forall_mem_cons.mpr ⟨gw_2188, List.forall_mem_cons.mpr ⟨gw_8, fun _ h => absurd h List.not_mem_nil⟩⟩⟩⟩) (gi_ws gw_2189), rfl, by decide +kernel, by decide +kernel, by decide +kernel⟩
theorem gV_RL_107 : GV RL 107 RX11 yX11_may cX11_may 5 (some .int) 3 := ⟨gi_app (List.forall_mem_cons.mpr ⟨gw_962, List.forall_mem_cons.mpr ⟨gw_963, List.forall_mem_cons.mpr ⟨gw_964, List.forall_mem_cons.mpr ⟨gw_1, fun _ h => absurd h List.not_mem_nil⟩⟩⟩⟩) (gi_ws gw_965), rfl, by decide +kernel, by decide +kernel, by decide +kernel⟩
theorem gV_RL_111 : GV RL 111 RX12 yX12_may cX12_may 4 (some .int) 3 := ⟨gi_app (List.forall_mem_cons.mpr ⟨gw_2190, List.forall_mem_cons.mpr ⟨gw_2191, List.forall_mem_cons.mpr ⟨gw_2192, List.forall_mem_cons.mpr ⟨gw_8, fun _ h => absurd h List.not_mem_nil⟩⟩⟩⟩) (gi_ws gw_2193), rfl, by decide +kernel, by decide +kernel, by decide +kernel⟩
theorem gV_RL_112 : GV RL 112 RX11 yX11_why cX11_why 6 (some .int) 4 := ⟨gi_app (List.forall_mem_cons.mpr ⟨gw_1033, List.forall_mem_cons.mpr ⟨gw_1034, List.forall_mem_cons.mpr ⟨gw_1035, List.forall_mem_cons.mpr ⟨gw_1, fun _ h => absurd h List.not_mem_nil⟩⟩⟩⟩) (gi_ws gw_1036), rfl, by decide +kernel, by decide +kernel, by decide +kernel⟩
theorem gV_RL_116 : GV RL 116 RX12 yX12_why cX12_why 5 (some .int) 4 := ⟨gi_app (List.forall_mem_cons.mpr ⟨gw_2248, List.forall_mem_cons.mpr ⟨gw_2249, List.forall_mem_cons.mpr ⟨gw_2250, List.forall_mem_cons.mpr ⟨gw_8, fun _ h => absurd h List.not_mem_nil⟩⟩⟩⟩) (gi_ws gw_2251), rfl, by decide +kernel, by decide +kernel, by decide +kernel⟩
theorem gV_RL_117 : GV RL 117 RX11 yX11_whose cX11_whose 9 (some .int) 2 := ⟨gi_app (List.forall_mem_cons.mpr ⟨gw_1037, List.forall_mem_cons.mpr ⟨gw_1038, List.forall_mem_cons.mpr ⟨gw_1039, List.forall_mem_cons.mpr ⟨gw_1, fun _ h => absurd h List.not_mem_nil⟩⟩⟩⟩) (gi_ws gw_1040), rfl, by decide +kernel, by decide +kernel, by decide +kernel⟩
theorem gV_RL_120 : GV RL 120 RX12 yX12_whose cX12_whose 5 (some .int) 2 := ⟨gi_app (List.forall_mem_cons.mpr ⟨gw_2252, List.forall_mem_cons.mpr ⟨gw_2253, List.forall_mem_cons.mpr ⟨gw_2254, List.forall_mem_cons.mpr ⟨gw_8, fun _ h => absurd h List.not_mem_nil⟩⟩⟩⟩) (gi_ws gw_2255), rfl, by decide +kernel, by decide +kernel, by decide +kernel⟩
theorem gV_RL_121 : GV RL 121 RX11 yX11_ship cX11_ship 4 (some .int) 3 := ⟨gi_app (List.forall_mem_cons.mpr ⟨gw_1041, List.forall_mem_cons.mpr ⟨gw_1042, List.forall_mem_cons.mpr ⟨gw_1043, List.forall_mem_cons.mpr ⟨gw_1, fun _ h => absurd h List.not_mem_nil⟩⟩⟩⟩) (gi_ws gw_1044), rfl, by decide +kernel, by decide +kernel, by decide +kernel⟩
theorem gV_RL_124 : GV RL 124 RX12 yX12_ship cX12_ship 4 (some .int) 3 := ⟨gi_app (List.forall_mem_cons.mpr ⟨gw_2256, List.forall_mem_cons.mpr ⟨gw_2257, List.forall_mem_cons.mpr ⟨gw_2258, List.forall_mem_cons.mpr ⟨gw_8, fun _ h => absurd h List.not_mem_nil⟩⟩⟩⟩) (gi_ws gw_2259), rfl, by decide +kernel, by decide +kernel, by decide +kernel⟩
theorem gV_RL_125 : GV RL 125 RX11 yX11_cover cX11_cover 4 (some .boolean) 3 := ⟨gi_app (List.forall_mem_cons.mpr ⟨gw_1094, List.forall_mem_cons.mpr ⟨gw_1095, List.forall_mem_cons.mpr ⟨gw_1096, List.forall_mem_cons.mpr ⟨gw_1, fun _ h => absurd h List.not_mem_nil⟩⟩⟩⟩) (gi_ws gw_1097), rfl, by decide +kernel, by decide +kernel, by decide +kernel⟩
theorem gV_RL_129 : GV RL 129 RX12 yX12_cover cX12_cover 4 (some .boolean) 3 := ⟨gi_app (List.forall_mem_cons.mpr ⟨gw_2260, List.forall_mem_cons.mpr ⟨gw_2261, List.forall_mem_cons.mpr ⟨gw_2262, List.forall_mem_cons.mpr ⟨gw_8, fun _ h => absurd h List.not_mem_nil⟩⟩⟩⟩) (gi_ws gw_2263), rfl, by decide +kernel, by decide +kernel, by decide +kernel⟩
theorem gV_RL_130 : GV RL 130 RX11 yX11_sea cX11_sea 3 (some .boolean) 2 := ⟨gi_app (List.forall_mem_cons.mpr ⟨gw_1101, List.forall_mem_cons.mpr ⟨gw_1102, List.forall_mem_cons.mpr ⟨gw_1103, List.forall_mem_cons.mpr ⟨gw_1, fun _ h => absurd h List.not_mem_nil⟩⟩⟩⟩) (gi_ws gw_1104), rfl, by decide +kernel, by decide +kernel, by decide +kernel⟩
theorem gV_RL_133 : GV RL 133 RX12 yX12_sea cX12_sea 3 (some .boolean) 2 := ⟨gi_app (List.forall_mem_cons.mpr ⟨gw_2267, List.forall_mem_cons.mpr ⟨gw_2268, List.forall_mem_cons.mpr ⟨gw_2269, List.forall_mem_cons.mpr ⟨gw_8, fun _ h => absurd h List.not_mem_nil⟩⟩⟩⟩) (gi_ws gw_2270), rfl, by decide +kernel, by decide +kernel, by decide +kernel⟩
theorem gV_RL_134 : GV RL 134 RX11 yX11_voyage cX11_voyage 7 (some .boolean) 4 := ⟨gi_app (List.forall_mem_cons.mpr ⟨gw_1105, List.forall_mem_cons.mpr ⟨gw_1106, List.forall_mem_cons.mpr ⟨gw_1107, List.forall_mem_cons.mpr ⟨gw_1, fun _ h => absurd h List.not_mem_nil⟩⟩⟩⟩) (gi_ws gw_1108), rfl, by decide +kernel, by decide +kernel, by decide +kernel⟩
theorem gV_RL_138 : GV RL 138 RX12 yX12_voyage cX12_voyage 5 (some .boolean) 4 := ⟨gi_app (List.forall_mem_cons.mpr ⟨gw_2271, List.forall_mem_cons.mpr ⟨gw_2272, List.forall_mem_cons.mpr ⟨gw_2273, List.forall_mem_cons.mpr ⟨gw_8, fun _ h => absurd h List.not_mem_nil⟩⟩⟩⟩) (gi_ws gw_2274), rfl, by decide +kernel, by decide +kernel, by decide +kernel⟩
theorem gV_RL_139 : GV RL 139 RX11 yX11_sledge cX11_sledge 8 (some .int) 3 := ⟨gi_app (List.forall_mem_cons.mpr ⟨gw_1129, List.forall_mem_cons.mpr ⟨gw_1130, List.forall_mem_cons.mpr ⟨gw_1131, List.forall_mem_cons.mpr ⟨gw_1, fun _ h => absurd h List.not_mem_nil⟩⟩⟩⟩) (gi_ws gw_1132), rfl, by decide +kernel, by decide +kernel, by decide +kernel⟩
theorem gV_RL_142 : GV RL 142 RX12 yX12_sledge cX12_sledge 5 (some .int) 3 := ⟨gi_app (List.forall_mem_cons.mpr ⟨gw_2283, List.forall_mem_cons.mpr ⟨gw_2284, List.forall_mem_cons.mpr ⟨gw_2285, List.forall_mem_cons.mpr ⟨gw_8, fun _ h => absurd h List.not_mem_nil⟩⟩⟩⟩) (gi_ws gw_2286), rfl, by decide +kernel, by decide +kernel, by decide +kernel⟩
theorem gV_RL_143 : GV RL 143 RX11 yX11_people cX11_people 4 (some .boolean) 2 := ⟨gi_app (List.forall_mem_cons.mpr ⟨gw_1147, List.forall_mem_cons.mpr ⟨gw_1148, List.forall_mem_cons.mpr ⟨gw_1149, List.forall_mem_cons.mpr ⟨gw_1, fun _ h => absurd h List.not_mem_nil⟩⟩⟩⟩) (gi_ws gw_1150), rfl, by decide +kernel, by decide +kernel, by decide +kernel⟩
theorem gV_RL_146 : GV RL 146 RX12 yX12_people cX12_people 3 (some .boolean) 2 := ⟨gi_app (List.forall_mem_cons.mpr ⟨gw_2302, List.forall_mem_cons.mpr ⟨gw_2303, List.forall_mem_cons.mpr ⟨gw_2304, List.forall_mem_cons.mpr ⟨gw_8, fun _ h => absurd h List.not_mem_nil⟩⟩⟩⟩) (gi_ws gw_2305), rfl, by decide +kernel, by decide +kernel, by decide +kernel⟩
theorem gV_RL_147 : GV RL 147 RX11 yX11_hide cX11_hide 4 (some .boolean) 2 := ⟨gi_app (List.forall_mem_cons.mpr ⟨gw_1151, List.forall_mem_cons.mpr ⟨gw_1152, List.forall_mem_cons.mpr ⟨gw_1153, List.forall_mem_cons.mpr ⟨gw_1, fun _ h => absurd h List.not_mem_nil⟩⟩⟩⟩) (gi_ws gw_1154), rfl, by decide +kernel, by decide +kernel, by decide +kernel⟩
theorem gV_RL_150 : GV RL 150 RX12 yX12_hide cX12_hide 3 (some .boolean) 2 := ⟨gi_app (List.forall_mem_cons.mpr ⟨gw_2306, List.forall_mem_cons.mpr ⟨gw_2307, List.forall_mem_cons.mpr ⟨gw_2308, List.forall_mem_cons.mpr ⟨gw_8, fun _ h => absurd h List.not_mem_nil⟩⟩⟩⟩) (gi_ws gw_2309), rfl, by decide +kernel, by decide +kernel, by decide +kernel⟩
theorem gV_RL_151 : GV RL 151 RX11 yX11_declare cX11_declare 5 (some .boolean) 3 := ⟨gi_app (List.forall_mem_cons.mpr ⟨gw_1155, List.forall_mem_cons.mpr ⟨gw_1156, List.forall_mem_cons.mpr ⟨gw_1157, List.forall_mem_cons.mpr ⟨gw_1, fun _ h => absurd h List.not_mem_nil⟩⟩⟩⟩) (gi_ws gw_1158), rfl, by decide +kernel, by decide +kernel, by decide +kernel⟩
theorem gV_RL_154 : GV RL 154 RX12 yX12_declare cX12_declare 4 (some .boolean) 3 := ⟨gi_app (List.forall_mem_cons.mpr ⟨gw_2310, List.forall_mem_cons.mpr ⟨gw_2311, List.forall_mem_cons.mpr ⟨gw_2312, List.forall_mem_cons.mpr ⟨gw_8, fun _ h => absurd h List.not_mem_nil⟩⟩⟩⟩) (gi_ws gw_2313), rfl, by decide +kernel, by decide +kernel, by decide +kernel⟩
theorem gV_RL_155 : GV RL 155 RX11 yX11_visit cX11_visit 6 (some .int) 2 := ⟨gi_app (List.forall_mem_cons.mpr ⟨gw_1160, List.forall_mem_cons.mpr ⟨gw_1161, List.forall_mem_cons.mpr ⟨gw_1162, List.forall_mem_cons.mpr ⟨gw_1, fun _ h => absurd h List.not_mem_nil⟩⟩⟩⟩) (gi_ws gw_1163), rfl, by decide +kernel, by decide +kernel, by decide +kernel⟩
theorem gV_RL_158 : GV RL 158 RX12 yX12_visit cX12_visit 3 (some .int) 2 := ⟨gi_app (List.forall_mem_cons.mpr ⟨gw_2314, List.forall_mem_cons.mpr ⟨gw_2315, List.forall_mem_cons.mpr ⟨gw_2316, List.forall_mem_cons.mpr ⟨gw_8, fun _ h => absurd h List.not_mem_nil⟩⟩⟩⟩) (gi_ws gw_2317), rfl, by decide +kernel, by decide +kernel, by decide +kernel⟩
theorem gV_RL_159 : GV RL 159 RX11 yX11_seen cX11_seen 3 (some .int) 2 := ⟨gi_app (List.forall_mem_cons.mpr ⟨gw_1164, List.forall_mem_cons.mpr ⟨gw_1165, List.forall_mem_cons.mpr ⟨gw_1166, List.forall_mem_cons.mpr ⟨gw_1, fun _ h => absurd h List.not_mem_nil⟩⟩⟩⟩) (gi_ws gw_1167), rfl, by decide +kernel, by decide +kernel, by decide +kernel⟩
theorem gV_RL_162 : GV RL 162 RX12 yX12_seen cX12_seen 3 (some .int) 2 := ⟨gi_app (List.forall_mem_cons.mpr ⟨gw_2318, List.forall_mem_cons.mpr ⟨gw_2319, List.forall_mem_cons.mpr ⟨gw_2320, List.forall_mem_cons.mpr ⟨gw_8, fun _ h => absurd h List.not_mem_nil⟩⟩⟩⟩) (gi_ws gw_2321), rfl, by decide +kernel, by decide +kernel, by decide +kernel⟩
theorem gV_RL_163 : GV RL 163 RX11 yX11_day cX11_day 2 (some .int) 0 := ⟨gi_app (List.forall_mem_cons.mpr ⟨gw_1171, List.forall_mem_cons.mpr ⟨gw_1172, List.forall_mem_cons.mpr ⟨gw_1173, List.forall_mem_cons.mpr ⟨gw_1, fun _ h => absurd h List.not_mem_nil⟩⟩⟩⟩) (gi_ws gw_1174), rfl, by decide +kernel, by decide +kernel, by decide +kernel⟩
theorem gV_RL_167 : GV RL 167 RX12 yX12_day cX12_day 2 (some .int) 0 := ⟨gi_app (List.forall_mem_cons.mpr ⟨gw_2323, List.forall_mem_cons.mpr ⟨gw_2324, List.forall_mem_cons.mpr ⟨gw_2325, List.forall_mem_cons.mpr ⟨gw_8, fun _ h => absurd h List.not_mem_nil⟩⟩⟩⟩) (gi_ws gw_2326), rfl, by decide +kernel, by decide +kernel, by decide +kernel⟩
theorem gV_RL_168 : GV RL 168 RX11 yX11_sound cX11_sound 5 (some .boolean) 3 := ⟨gi_app (List.forall_mem_cons.mpr ⟨gw_1266, List.forall_mem_cons.mpr ⟨gw_1267, List.forall_mem_cons.mpr ⟨gw_1268, List.forall_mem_cons.mpr ⟨gw_1, fun _ h => absurd h List.not_mem_nil⟩⟩⟩⟩) (gi_ws gw_1269), rfl, by decide +kernel, by decide +kernel, by decide +kernel⟩
theorem gV_RL_171 : GV RL 171 RX12 yX12_sound cX12_sound 4 (some .boolean) 3 := ⟨gi_app (List.forall_mem_cons.mpr ⟨gw_2379, List.forall_mem_cons.mpr ⟨gw_2380, List.forall_mem_cons.mpr ⟨gw_2381, List.forall_mem_cons.mpr ⟨gw_8, fun _ h => absurd h List.not_mem_nil⟩⟩⟩⟩) (gi_ws gw_2382), rfl, by decide +kernel, by decide +kernel, by decide +kernel⟩
theorem gV_RL_172 : GV RL 172 RX11 yX11_sure cX11_sure 3 (some .int) 1 := ⟨gi_app (List.forall_mem_cons.mpr ⟨gw_1275, List.forall_mem_cons.mpr ⟨gw_1276, List.forall_mem_cons.mpr ⟨gw_1277, List.forall_mem_cons.mpr ⟨gw_1, fun _ h => absurd h List.not_mem_nil⟩⟩⟩⟩) (gi_ws gw_1278), rfl, by decide +kernel, by decide +kernel, by decide +kernel⟩
theorem gV_RL_176 : GV RL 176 RX12 yX12_sure cX12_sure 2 (some .int) 1 := ⟨gi_app (List.forall_mem_cons.mpr ⟨gw_2383, List.forall_mem_cons.mpr ⟨gw_2384, List.forall_mem_cons.mpr ⟨gw_2385, List.forall_mem_cons.mpr ⟨gw_8, fun _ h => absurd h List.not_mem_nil⟩⟩⟩⟩) (gi_ws gw_2386), rfl, by decide +kernel, by decide +kernel, by decide +kernel⟩
theorem gV_RL_177 : GV RL 177 RX11 yX11_drill cX11_drill 5 (some .int) 2 := ⟨gi_app (List.forall_mem_cons.mpr ⟨gw_1279, List.forall_mem_cons.mpr ⟨gw_1280, List.forall_mem_cons.mpr ⟨gw_1281, List.forall_mem_cons.mpr ⟨gw_1, fun _ h => absurd h List.not_mem_nil⟩⟩⟩⟩) (gi_ws gw_1282), rfl, by decide +kernel, by decide +kernel, by decide +kernel⟩
theorem gV_RL_180 : GV RL 180 RX12 yX12_drill cX12_drill 3 (some .int) 2 := ⟨gi_app (List.forall_mem_cons.mpr ⟨gw_2387, List.forall_mem_cons.mpr ⟨gw_2388, List.forall_mem_cons.mpr ⟨gw_2389, List.forall_mem_cons.mpr ⟨gw_8, fun _ h => absurd h List.not_mem_nil⟩⟩⟩⟩) (gi_ws gw_2390), rfl, by decide +kernel, by decide +kernel, by decide +kernel⟩
theorem gV_RL_181 : GV RL 181 RX11 yX11_speed cX11_speed 3 (some .boolean) 2 := ⟨gi_app (List.forall_mem_cons.mpr ⟨gw_1283, List.forall_mem_cons.mpr ⟨gw_1284, List.forall_mem_cons.mpr ⟨gw_1285, List.forall_mem_cons.mpr ⟨gw_1, fun _ h => absurd h List.not_mem_nil⟩⟩⟩⟩) (gi_ws gw_1286), rfl, by decide +kernel, by decide +kernel, by decide +kernel⟩
theorem gV_RL_184 : GV RL 184 RX12 yX12_speed cX12_speed 3 (some .boolean) 2 := ⟨gi_app (List.forall_mem_cons.mpr ⟨gw_2391, List.forall_mem_cons.mpr ⟨gw_2392, List.forall_mem_cons.mpr ⟨gw_2393, List.forall_mem_cons.mpr ⟨gw_8, fun _ h => absurd h List.not_mem_nil⟩⟩⟩⟩) (gi_ws gw_2394), rfl, by decide +kernel, by decide +kernel, by decide +kernel⟩
theorem gV_RL_185 : GV RL 185 RX11 yX11_birds cX11_birds 5 (some .boolean) 3 := ⟨gi_app (List.forall_mem_cons.mpr ⟨gw_1287, List.forall_mem_cons.mpr ⟨gw_1288, List.forall_mem_cons.mpr ⟨gw_1289, List.forall_mem_cons.mpr ⟨gw_1, fun _ h => absurd h List.not_mem_nil⟩⟩⟩⟩) (gi_ws gw_1290), rfl, by decide +kernel, by decide +kernel, by decide +kernel⟩
theorem gV_RL_188 : GV RL 188 RX12 yX12_birds cX12_birds 4 (some .boolean) 3 := ⟨gi_app (List.forall_mem_cons.mpr ⟨gw_2395, List.forall_mem_cons.mpr ⟨gw_2396, List.forall_mem_cons.mpr ⟨gw_2397, List.forall_mem_cons.mpr ⟨gw_8, fun _ h => absurd h List.not_mem_nil⟩⟩⟩⟩) (gi_ws gw_2398), rfl, by decide +kernel, by decide +kernel, by decide +kernel⟩
theorem gV_RL_189 : GV RL 189 RX11 yX11_loss cX11_loss 10 (some .int) 5 := ⟨gi_app (List.forall_mem_cons.mpr ⟨gw_1294, List.forall_mem_cons.mpr ⟨gw_1295, List.forall_mem_cons.mpr ⟨gw_1296, List.forall_mem_cons.mpr ⟨gw_1, fun _ h => absurd h List.not_mem_nil⟩⟩⟩⟩) (gi_ws gw_1297), rfl, by decide +kernel, by decide +kernel, by decide +kernel⟩
theorem gV_RL_192 : GV RL 192 RX12 yX12_loss cX12_loss 9 (some .int) 5 := ⟨gi_app (List.forall_mem_cons.mpr ⟨gw_2399, List.forall_mem_cons.mpr ⟨gw_2400, List.forall_mem_cons.mpr ⟨gw_2401, List.forall_mem_cons.mpr ⟨gw_8, fun _ h => absurd h List.not_mem_nil⟩⟩⟩⟩) (gi_ws gw_2402), rfl, by decide +kernel, by decide +kernel, by decide +kernel⟩
theorem gV_RL_193 : GV RL 193 RX11 yX11_noise cX11_noise 4 (some .int) 2 := ⟨gi_app (List.forall_mem_cons.mpr ⟨gw_1298, List.forall_mem_cons.mpr ⟨gw_1299, List.forall_mem_cons.mpr ⟨gw_1300, List.forall_mem_cons.mpr ⟨gw_1, fun _ h => absurd h List.not_mem_nil⟩⟩⟩⟩) (gi_ws gw_1301), rfl, by decide +kernel, by decide +kernel, by decide +kernel⟩
theorem gV_RL_196 : GV RL 196 RX12 yX12_noise cX12_noise 3 (some .int) 2 := ⟨gi_app (List.forall_mem_cons.mpr ⟨gw_2406, List.forall_mem_cons.mpr ⟨gw_2407, List.forall_mem_cons.mpr ⟨gw_2408, List.forall_mem_cons.mpr ⟨gw_8, fun _ h => absurd h List.not_mem_nil⟩⟩⟩⟩) (gi_ws gw_2409), rfl, by decide +kernel, by decide +kernel, by decide +kernel⟩
theorem gV_RL_197 : GV RL 197 RX11 yX11_caught cX11_caught 6 (some .int) 5 := ⟨gi_app (List.forall_mem_cons.mpr ⟨gw_1302, List.forall_mem_cons.mpr ⟨gw_1303, List.forall_mem_cons.mpr ⟨gw_1304, List.forall_mem_cons.mpr ⟨gw_1, fun _ h => absurd h List.not_mem_nil⟩⟩⟩⟩) (gi_ws gw_1305), rfl, by decide +kernel, by decide +kernel, by decide +kernel⟩
theorem gV_RL_200 : GV RL 200 RX12 yX12_caught cX12_caught 6 (some .int) 5 := ⟨gi_app (List.forall_mem_cons.mpr ⟨gw_2410, List.forall_mem_cons.mpr ⟨gw_2411, List.forall_mem_cons.mpr ⟨gw_2412, List.forall_mem_cons.mpr ⟨gw_8, fun _ h => absurd h List.not_mem_nil⟩⟩⟩⟩) (gi_ws gw_2413), rfl, by decide +kernel, by decide +kernel, by decide +kernel⟩
theorem gV_RL_201 : GV RL 201 RX11 yX11_over cX11_over 4 (some .int) 0 := ⟨gi_app (List.forall_mem_cons.mpr ⟨gw_1306, List.forall_mem_cons.mpr ⟨gw_1307, List.forall_mem_cons.mpr ⟨gw_1308, List.forall_mem_cons.mpr ⟨gw_1, fun _ h => absurd h List.not_mem_nil⟩⟩⟩⟩) (gi_ws gw_1309), rfl, by decide +kernel, by decide +kernel, by decide +kernel⟩
theorem gV_RL_204 : GV RL 204 RX12 yX12_over cX12_over 7 (some .int) 0 := ⟨gi_app (List.forall_mem_cons.mpr ⟨gw_2414, List.forall_mem_cons.mpr ⟨gw_2415, List.forall_mem_cons.mpr ⟨gw_2416, List.forall_mem_cons.mpr ⟨gw_8, fun _ h => absurd h List.not_mem_nil⟩⟩⟩⟩) (gi_ws gw_2417), rfl, by decide +kernel, by decide +kernel, by decide +kernel⟩
theorem gV_RL_205 : GV RL 205 RX11 yX11_doubt cX11_doubt 4 (some .int) 1 := ⟨gi_app (List.forall_mem_cons.mpr ⟨gw_1318, List.forall_mem_cons.mpr ⟨gw_1319, List.forall_mem_cons.mpr ⟨gw_1320, List.forall_mem_cons.mpr ⟨gw_1, fun _ h => absurd h List.not_mem_nil⟩⟩⟩⟩) (gi_ws gw_1321), rfl, by decide +kernel, by decide +kernel, by decide +kernel⟩
theorem gV_RL_208 : GV RL 208 RX12 yX12_doubt cX12_doubt 4 (some .int) 1 := ⟨gi_app (List.forall_mem_cons.mpr ⟨gw_2422, List.forall_mem_cons.mpr ⟨gw_2423, List.forall_mem_cons.mpr ⟨gw_2424, List.forall_mem_cons.mpr ⟨gw_8, fun _ h => absurd h List.not_mem_nil⟩⟩⟩⟩) (gi_ws gw_2425), rfl, by decide +kernel, by decide +kernel, by decide +kernel⟩
theorem gV_RL_209 : GV RL 209 RX11 yX11_word cX11_word 2 (some .int) 1 := ⟨gi_app (List.forall_mem_cons.mpr ⟨gw_1327, List.forall_mem_cons.mpr ⟨gw_1328, List.forall_mem_cons.mpr ⟨gw_1329, List.forall_mem_cons.mpr ⟨gw_1, fun _ h => absurd h List.not_mem_nil⟩⟩⟩⟩) (gi_ws gw_1330), rfl, by decide +kernel, by decide +kernel, by decide +kernel⟩
theorem gV_RL_212 : GV RL 212 RX12 yX12_word cX12_word 2 (some .int) 1 := ⟨gi_app (List.forall_mem_cons.mpr ⟨gw_2430, List.forall_mem_cons.mpr ⟨gw_2431, List.forall_mem_cons.mpr ⟨gw_2432, List.forall_mem_cons.mpr ⟨gw_8, fun _ h => absurd h List.not_mem_nil⟩⟩⟩⟩) (gi_ws gw_2433), rfl, by decide +kernel, by decide +kernel, by decide +kernel⟩
theorem gV_RL_213 : GV RL 213 RX11 yX11_asks cX11_asks 7 (some .boolean) 3 := ⟨gi_app (List.forall_mem_cons.mpr ⟨gw_1331, List.forall_mem_cons.mpr ⟨gw_1332, List.forall_mem_cons.mpr ⟨gw_1333, List.forall_mem_cons.mpr ⟨gw_1, fun _ h => absurd h List.not_mem_nil⟩⟩⟩⟩) (gi_ws gw_1334), rfl, by decide +kernel, by decide +kernel, by decide +kernel⟩
theorem gV_RL_216 : GV RL 216 RX12 yX12_asks cX12_asks 5 (some .boolean) 3 := ⟨gi_app (List.forall_mem_cons.mpr ⟨gw_2434, List.forall_mem_cons.mpr ⟨gw_2435, List.forall_mem_cons.mpr ⟨gw_2436, List.forall_mem_cons.mpr ⟨gw_8, fun _ h => absurd h List.not_mem_nil⟩⟩⟩⟩) (gi_ws gw_2437), rfl, by decide +kernel, by decide +kernel, by decide +kernel⟩
theorem gV_RL_217 : GV RL 217 RX11 yX11_blocks cX11_blocks 2 (some .int) 1 := ⟨gi_app (List.forall_mem_cons.mpr ⟨gw_1335, List.forall_mem_cons.mpr ⟨gw_1336, List.forall_mem_cons.mpr ⟨gw_1337, List.forall_mem_cons.mpr ⟨gw_1, fun _ h => absurd h List.not_mem_nil⟩⟩⟩⟩) (gi_ws gw_1338), rfl, by decide +kernel, by decide +kernel, by decide +kernel⟩
theorem gV_RL_220 : GV RL 220 RX12 yX12_blocks cX12_blocks 4 (some .int) 1 := ⟨gi_app (List.forall_mem_cons.mpr ⟨gw_2442, List.forall_mem_cons.mpr ⟨gw_2443, List.forall_mem_cons.mpr ⟨gw_2444, List.forall_mem_cons.mpr ⟨gw_8, fun _ h => absurd h List.not_mem_nil⟩⟩⟩⟩) (gi_ws gw_2445), rfl, by decide +kernel, by decide +kernel, by decide +kernel⟩
theorem gV_RL_221 : GV RL 221 RX11 yX11_best cX11_best 7 (some .int) 0 := ⟨gi_app (List.forall_mem_cons.mpr ⟨gw_1348, List.forall_mem_cons.mpr ⟨gw_1349, List.forall_mem_cons.mpr ⟨gw_1350, List.forall_mem_cons.mpr ⟨gw_1, fun _ h => absurd h List.not_mem_nil⟩⟩⟩⟩) (gi_ws gw_1351), rfl, by decide +kernel, by decide +kernel, by decide +kernel⟩
theorem gV_RL_224 : GV RL 224 RX12 yX12_best cX12_best 5 (some .int) 0 := ⟨gi_app (List.forall_mem_cons.mpr ⟨gw_2450, List.forall_mem_cons.mpr ⟨gw_2451, List.forall_mem_cons.mpr ⟨gw_2452, List.forall_mem_cons.mpr ⟨gw_8, fun _ h => absurd h List.not_mem_nil⟩⟩⟩⟩) (gi_ws gw_2453), rfl, by decide +kernel, by decide +kernel, by decide +kernel⟩
theorem gV_RL_225 : GV RL 225 RX11 yX11_stop cX11_stop 3 (some .int) 2 := ⟨gi_app (List.forall_mem_cons.mpr ⟨gw_1356, List.forall_mem_cons.mpr ⟨gw_1357, List.forall_mem_cons.mpr ⟨gw_1358, List.forall_mem_cons.mpr ⟨gw_1, fun _ h => absurd h List.not_mem_nil⟩⟩⟩⟩) (gi_ws gw_1359), rfl, by decide +kernel, by decide +kernel, by decide +kernel⟩
theorem gV_RL_228 : GV RL 228 RX12 yX12_stop cX12_stop 4 (some .int) 2 := ⟨gi_app (List.forall_mem_cons.mpr ⟨gw_2462, List.forall_mem_cons.mpr ⟨gw_2463, List.forall_mem_cons.mpr ⟨gw_2464, List.forall_mem_cons.mpr ⟨gw_8, fun _ h => absurd h List.not_mem_nil⟩⟩⟩⟩) (gi_ws gw_2465), rfl, by decide +kernel, by decide +kernel, by decide +kernel⟩
theorem gV_RL_229 : GV RL 229 RX11 yX11_open cX11_open 5 (some .boolean) 4 := ⟨gi_app (List.forall_mem_cons.mpr ⟨gw_1365, List.forall_mem_cons.mpr ⟨gw_1366, List.forall_mem_cons.mpr ⟨gw_1367, List.forall_mem_cons.mpr ⟨gw_1, fun _ h => absurd h List.not_mem_nil⟩⟩⟩⟩) (gi_ws gw_1368), rfl, by decide +kernel, by decide +kernel, by decide +kernel⟩
theorem gV_RL_232 : GV RL 232 RX12 yX12_open cX12_open 5 (some .boolean) 4 := ⟨gi_app (List.forall_mem_cons.mpr ⟨gw_2466, List.forall_mem_cons.mpr ⟨gw_2467, List.forall_mem_cons.mpr ⟨gw_2468, List.forall_mem_cons.mpr ⟨gw_8, fun _ h => absurd h List.not_mem_nil⟩⟩⟩⟩) (gi_ws gw_2469), rfl, by decide +kernel, by decide +kernel, by decide +kernel⟩
theorem gV_RL_233 : GV RL 233 RX11 yX11_plan cX11_plan 6 (some .int) 3 := ⟨gi_app (List.forall_mem_cons.mpr ⟨gw_1369, List.forall_mem_cons.mpr ⟨gw_1370, List.forall_mem_cons.mpr ⟨gw_1371, List.forall_mem_cons.mpr ⟨gw_1, fun _ h => absurd h List.not_mem_nil⟩⟩⟩⟩) (gi_ws gw_1372), rfl, by decide +kernel, by decide +kernel, by decide +kernel⟩
theorem gV_RL_236 : GV RL 236 RX12 yX12_plan cX12_plan 4 (some .int) 3 := ⟨gi_app (List.forall_mem_cons.mpr ⟨gw_2470, List.forall_mem_cons.mpr ⟨gw_2471, List.forall_mem_cons.mpr ⟨gw_2472, List.forall_mem_cons.mpr ⟨gw_8, fun _ h => absurd h List.not_mem_nil⟩⟩⟩⟩) (gi_ws gw_2473), rfl, by decide +kernel, by decide +kernel, by decide +kernel⟩
theorem gV_RL_237 : GV RL 237 RX11 yX11_planned cX11_planned 5 (some .int) 4 := ⟨gi_app (List.forall_mem_cons.mpr ⟨gw_1413, List.forall_mem_cons.mpr ⟨gw_1414, List.forall_mem_cons.mpr ⟨gw_1415, List.forall_mem_cons.mpr ⟨gw_1, fun _ h => absurd h List.not_mem_nil⟩⟩⟩⟩) (gi_ws gw_1416), rfl, by decide +kernel, by decide +kernel, by decide +kernel⟩
theorem gV_RL_240 : GV RL 240 RX12 yX12_planned cX12_planned 5 (some .int) 4 := ⟨gi_app (List.forall_mem_cons.mpr ⟨gw_2494, List.forall_mem_cons.mpr ⟨gw_2495, List.forall_mem_cons.mpr ⟨gw_2496, List.forall_mem_cons.mpr ⟨gw_8, fun _ h => absurd h List.not_mem_nil⟩⟩⟩⟩) (gi_ws gw_2497), rfl, by decide +kernel, by decide +kernel, by decide +kernel⟩
theorem gV_RL_241 : GV RL 241 RX11 yX11_report cX11_report 5 (some .boolean) 4 := ⟨gi_app (List.forall_mem_cons.mpr ⟨gw_1418, List.forall_mem_cons.mpr ⟨gw_1419, List.forall_mem_cons.mpr ⟨gw_1420, List.forall_mem_cons.mpr ⟨gw_1, fun _ h => absurd h List.not_mem_nil⟩⟩⟩⟩) (gi_ws gw_1421), rfl, by decide +kernel, by decide +kernel, by decide +kernel⟩
theorem gV_RL_245 : GV RL 245 RX12 yX12_report cX12_report 5 (some .boolean) 4 := ⟨gi_app (List.forall_mem_cons.mpr ⟨gw_2499, List.forall_mem_cons.mpr ⟨gw_2500, List.forall_mem_cons.mpr ⟨gw_2501, List.forall_mem_cons.mpr ⟨gw_8, fun _ h => absurd h List.not_mem_nil⟩⟩⟩⟩) (gi_ws gw_2502), rfl, by decide +kernel, by decide +kernel, by decide +kernel⟩
theorem gV_RL_246 : GV RL 246 RX11 yX11_known cX11_known 9 (some .int) 3 := ⟨gi_app (List.forall_mem_cons.mpr ⟨gw_1422, List.forall_mem_cons.mpr ⟨gw_1423, List.forall_mem_cons.mpr ⟨gw_1424, List.forall_mem_cons.mpr ⟨gw_1, fun _ h => absurd h List.not_mem_nil⟩⟩⟩⟩) (gi_ws gw_1425), rfl, by decide +kernel, by decide +kernel, by decide +kernel⟩
theorem gV_RL_249 : GV RL 249 RX12 yX12_known cX12_known 7 (some .int) 3 := ⟨gi_app (List.forall_mem_cons.mpr ⟨gw_2503, List.forall_mem_cons.mpr ⟨gw_2504, List.forall_mem_cons.mpr ⟨gw_2505, List.forall_mem_cons.mpr ⟨gw_8, fun _ h => absurd h List.not_mem_nil⟩⟩⟩⟩) (gi_ws gw_2506), rfl, by decide +kernel, by decide +kernel, by decide +kernel⟩
theorem gV_RL_250 : GV RL 250 RX11 yX11_check cX11_check 3 (some .int) 1 := ⟨gi_app (List.forall_mem_cons.mpr ⟨gw_1427, List.forall_mem_cons.mpr ⟨gw_1428, List.forall_mem_cons.mpr ⟨gw_1429, List.forall_mem_cons.mpr ⟨gw_1, fun _ h => absurd h List.not_mem_nil⟩⟩⟩⟩) (gi_ws gw_1430), rfl, by decide +kernel, by decide +kernel, by decide +kernel⟩
theorem gV_RL_253 : GV RL 253 RX12 yX12_check cX12_check 4 (some .int) 1 := ⟨gi_app (List.forall_mem_cons.mpr ⟨gw_2508, List.forall_mem_cons.mpr ⟨gw_2509, List.forall_mem_cons.mpr ⟨gw_2510, List.forall_mem_cons.mpr ⟨gw_8, fun _ h => absurd h List.not_mem_nil⟩⟩⟩⟩) (gi_ws gw_2511), rfl, by decide +kernel, by decide +kernel, by decide +kernel⟩
theorem gV_RL_254 : GV RL 254 RX11 yX11_look cX11_look 4 (some .int) 2 := ⟨gi_app (List.forall_mem_cons.mpr ⟨gw_1439, List.forall_mem_cons.mpr ⟨gw_1440, List.forall_mem_cons.mpr ⟨gw_1441, List.forall_mem_cons.mpr ⟨gw_1, fun _ h => absurd h List.not_mem_nil⟩⟩⟩⟩) (gi_ws gw_1442), rfl, by decide +kernel, by decide +kernel, by decide +kernel⟩
theorem gV_RL_257 : GV RL 257 RX12 yX12_look cX12_look 3 (some .int) 2 := ⟨gi_app (List.forall_mem_cons.mpr ⟨gw_2516, List.forall_mem_cons.mpr ⟨gw_2517, List.forall_mem_cons.mpr ⟨gw_2518, List.forall_mem_cons.mpr ⟨gw_8, fun _ h => absurd h List.not_mem_nil⟩⟩⟩⟩) (gi_ws gw_2519), rfl, by decide +kernel, by decide +kernel, by decide +kernel⟩
theorem gV_RL_258 : GV RL 258 RX11 yX11_at cX11_at 4 (some .int) 2 := ⟨gi_app (List.forall_mem_cons.mpr ⟨gw_1447, List.forall_mem_cons.mpr ⟨gw_1448, List.forall_mem_cons.mpr ⟨gw_1449, List.forall_mem_cons.mpr ⟨gw_1, fun _ h => absurd h List.not_mem_nil⟩⟩⟩⟩) (gi_ws gw_1450), rfl, by decide +kernel, by decide +kernel, by decide +kernel⟩
theorem gV_RL_261 : GV RL 261 RX12 yX12_at cX12_at 3 (some .int) 2 := ⟨gi_app (List.forall_mem_cons.mpr ⟨gw_2524, List.forall_mem_cons.mpr ⟨gw_2525, List.forall_mem_cons.mpr ⟨gw_2526, List.forall_mem_cons.mpr ⟨gw_8, fun _ h => absurd h List.not_mem_nil⟩⟩⟩⟩) (gi_ws gw_2527), rfl, by decide +kernel, by decide +kernel, by decide +kernel⟩
theorem gV_RL_262 : GV RL 262 RX11 yX11_about cX11_about 4 (some .int) 2 := ⟨gi_app (List.forall_mem_cons.mpr ⟨gw_1451, List.forall_mem_cons.mpr ⟨gw_1452, List.forall_mem_cons.mpr ⟨gw_1453, List.forall_mem_cons.mpr ⟨gw_1, fun _ h => absurd h List.not_mem_nil⟩⟩⟩⟩) (gi_ws gw_1454), rfl, by decide +kernel, by decide +kernel, by decide +kernel⟩
theorem gV_RL_265 : GV RL 265 RX12 yX12_about cX12_about 3 (some .int) 2 := ⟨gi_app (List.forall_mem_cons.mpr ⟨gw_2528, List.forall_mem_cons.mpr ⟨gw_2529, List.forall_mem_cons.mpr ⟨gw_2530, List.forall_mem_cons.mpr ⟨gw_8, fun _ h => absurd h List.not_mem_nil⟩⟩⟩⟩) (gi_ws gw_2531), rfl, by decide +kernel, by decide +kernel, by decide +kernel⟩
theorem gV_RL_266 : GV RL 266 RX11 yX11_sum cX11_sum 3 (some .long) 1 := ⟨gi_app (List.forall_mem_cons.mpr ⟨gw_1455, List.forall_mem_cons.mpr ⟨gw_1456, List.forall_mem_cons.mpr ⟨gw_1457, List.forall_mem_cons.mpr ⟨gw_1, fun _ h => absurd h List.not_mem_nil⟩⟩⟩⟩) (gi_ws gw_1458), rfl, by decide +kernel, by decide +kernel, by decide +kernel⟩
theorem gV_RL_270 : GV RL 270 RX12 yX12_sum cX12_sum 2 (some .long) 1 := ⟨gi_app (List.forall_mem_cons.mpr ⟨gw_2532, List.forall_mem_cons.mpr ⟨gw_2533, List.forall_mem_cons.mpr ⟨gw_2534, List.forall_mem_cons.mpr ⟨gw_8, fun _ h => absurd h List.not_mem_nil⟩⟩⟩⟩) (gi_ws gw_2535), rfl, by decide +kernel, by decide +kernel, by decide +kernel⟩
theorem gV_RL_271 : GV RL 271 RX11 yX11_count cX11_count 2 (some .int) 1 := ⟨gi_app (List.forall_mem_cons.mpr ⟨gw_1460, List.forall_mem_cons.mpr ⟨gw_1461, List.forall_mem_cons.mpr ⟨gw_1462, List.forall_mem_cons.mpr ⟨gw_1, fun _ h => absurd h List.not_mem_nil⟩⟩⟩⟩) (gi_ws gw_1463), rfl, by decide +kernel, by decide +kernel, by decide +kernel⟩
theorem gV_RL_274 : GV RL 274 RX12 yX12_count cX12_count 4 (some .int) 1 := ⟨gi_app (List.forall_mem_cons.mpr ⟨gw_2537, List.forall_mem_cons.mpr ⟨gw_2538, List.forall_mem_cons.mpr ⟨gw_2539, List.forall_mem_cons.mpr ⟨gw_8, fun _ h => absurd h List.not_mem_nil⟩⟩⟩⟩) (gi_ws gw_2540), rfl, by decide +kernel, by decide +kernel, by decide +kernel⟩
