theorem fl_RX0_9 : FL RX0 9 0 0 := ⟨(RX0, TX0, 13), rfl, by decide, lays_0, gw_38⟩
theorem fp_RX0_9 : FP RX0 9 0 0 .int false := ⟨(RX0, TX0, 13), tyX0, rfl, by decide, lays_0, gw_38, tyX0_ok, nmX0, rfl, by decide +kernel, fun h => by cases h⟩
theorem fl_RX0_15 : FL RX0 15 0 1 := ⟨(RX0, TX0, 13), rfl, by decide, lays_0, gw_40⟩
theorem fp_RX0_15 : FP RX0 15 0 1 .int false := ⟨(RX0, TX0, 13), tyX0, rfl, by decide, lays_0, gw_40, tyX0_ok, nmX0, rfl, by decide +kernel, fun h => by cases h⟩
theorem fl_RX0_18 : FL RX0 18 0 2 := ⟨(RX0, TX0, 13), rfl, by decide, lays_0, gw_42⟩
theorem fp_RX0_18 : FP RX0 18 0 2 .int false := ⟨(RX0, TX0, 13), tyX0, rfl, by decide, lays_0, gw_42, tyX0_ok, nmX0, rfl, by decide +kernel, fun h => by cases h⟩
theorem fl_RX0_21 : FL RX0 21 0 3 := ⟨(RX0, TX0, 13), rfl, by decide, lays_0, gw_44⟩
theorem fp_RX0_21 : FP RX0 21 0 3 .int false := ⟨(RX0, TX0, 13), tyX0, rfl, by decide, lays_0, gw_44, tyX0_ok, nmX0, rfl, by decide +kernel, fun h => by cases h⟩
theorem fl_RX0_24 : FL RX0 24 0 4 := ⟨(RX0, TX0, 13), rfl, by decide, lays_0, gw_46⟩
theorem fp_RX0_24 : FP RX0 24 0 4 .int false := ⟨(RX0, TX0, 13), tyX0, rfl, by decide, lays_0, gw_46, tyX0_ok, nmX0, rfl, by decide +kernel, fun h => by cases h⟩
theorem fl_RX0_27 : FL RX0 27 0 5 := ⟨(RX0, TX0, 13), rfl, by decide, lays_0, gw_48⟩
theorem fp_RX0_27 : FP RX0 27 0 5 (.array .int) true := ⟨(RX0, TX0, 13), tyX0, rfl, by decide, lays_0, gw_48, tyX0_ok, nmX0, rfl, by decide +kernel, fun _ => rfl⟩
theorem fl_RX0_31 : FL RX0 31 0 6 := ⟨(RX0, TX0, 13), rfl, by decide, lays_0, gw_50⟩
theorem fp_RX0_31 : FP RX0 31 0 6 (.array .int) true := ⟨(RX0, TX0, 13), tyX0, rfl, by decide, lays_0, gw_50, tyX0_ok, nmX0, rfl, by decide +kernel, fun _ => rfl⟩
theorem fl_RX0_34 : FL RX0 34 0 7 := ⟨(RX0, TX0, 13), rfl, by decide, lays_0, gw_52⟩
theorem fp_RX0_34 : FP RX0 34 0 7 (.array .int) true := ⟨(RX0, TX0, 13), tyX0, rfl, by decide, lays_0, gw_52, tyX0_ok, nmX0, rfl, by decide +kernel, fun _ => rfl⟩
theorem fl_RX0_37 : FL RX0 37 0 8 := ⟨(RX0, TX0, 13), rfl, by decide, lays_0, gw_54⟩
theorem fp_RX0_37 : FP RX0 37 0 8 (.array .int) true := ⟨(RX0, TX0, 13), tyX0, rfl, by decide, lays_0, gw_54, tyX0_ok, nmX0, rfl, by decide +kernel, fun _ => rfl⟩
theorem fl_RX0_40 : FL RX0 40 0 9 := ⟨(RX0, TX0, 13), rfl, by decide, lays_0, gw_56⟩
theorem fp_RX0_40 : FP RX0 40 0 9 (.array .int) true := ⟨(RX0, TX0, 13), tyX0, rfl, by decide, lays_0, gw_56, tyX0_ok, nmX0, rfl, by decide +kernel, fun _ => rfl⟩
theorem fl_RX0_43 : FL RX0 43 0 10 := ⟨(RX0, TX0, 13), rfl, by decide, lays_0, gw_58⟩
theorem fp_RX0_43 : FP RX0 43 0 10 (.array .int) true := ⟨(RX0, TX0, 13), tyX0, rfl, by decide, lays_0, gw_58, tyX0_ok, nmX0, rfl, by decide +kernel, fun _ => rfl⟩
theorem fl_RX0_46 : FL RX0 46 0 11 := ⟨(RX0, TX0, 13), rfl, by decide, lays_0, gw_60⟩
theorem fp_RX0_46 : FP RX0 46 0 11 (.array .int) true := ⟨(RX0, TX0, 13), tyX0, rfl, by decide, lays_0, gw_60, tyX0_ok, nmX0, rfl, by decide +kernel, fun _ => rfl⟩
theorem fl_RX0_49 : FL RX0 49 0 12 := ⟨(RX0, TX0, 13), rfl, by decide, lays_0, gw_61⟩
theorem fp_RX0_49 : FP RX0 49 0 12 (.array .int) true := ⟨(RX0, TX0, 13), tyX0, rfl, by decide, lays_0, gw_61, tyX0_ok, nmX0, rfl, by decide +kernel, fun _ => rfl⟩
theorem gS_RX0_52 : GS RX0 52 yX4_fill cX4_fill 3 (none : Option Jvm.ClassFile.FieldType) 2 := ⟨gi_app (List.forall_mem_cons.mpr ⟨gw_35, List.forall_mem_cons.mpr ⟨gw_36, List.forall_mem_cons.mpr ⟨gw_3, fun _ h => absurd h List.not_mem_nil⟩⟩⟩) (gi_ws gw_37), by decide +kernel, by decide +kernel, by decide +kernel⟩
theorem gS_RX0_58 : GS RX0 58 yX4_get cX4_get 2 (some .int) 2 := ⟨gi_app (List.forall_mem_cons.mpr ⟨gw_521, List.forall_mem_cons.mpr ⟨gw_395, List.forall_mem_cons.mpr ⟨gw_3, fun _ h => absurd h List.not_mem_nil⟩⟩⟩) (gi_ws gw_396), by decide +kernel, by decide +kernel, by decide +kernel⟩
theorem gV_RX0_62 : GV RX0 62 RX0 yX0_isCell cX0_isCell 2 (some .boolean) 1 := ⟨gi_app (List.forall_mem_cons.mpr ⟨gw_365, List.forall_mem_cons.mpr ⟨gw_311, List.forall_mem_cons.mpr ⟨gw_312, List.forall_mem_cons.mpr ⟨gw_2, fun _ h => absurd h List.not_mem_nil⟩⟩⟩⟩) (gi_ws gw_313), rfl, by decide +kernel, by decide +kernel, by decide +kernel⟩
theorem sp_1 : Cond.selects RX0 yX0_rowOf yX0_rowOf ∈ gw := gw_mem (pv_in (y := yX0_rowOf) (n := 13) (List.mem_of_getElem? (i := 1) (by decide +kernel))) (by decide +kernel)
theorem gV_RX0_66 : GV RX0 66 RX0 yX0_rowOf cX0_rowOf 2 (some .int) 1 := ⟨gi_app (List.forall_mem_cons.mpr ⟨gw_366, List.forall_mem_cons.mpr ⟨gw_368, List.forall_mem_cons.mpr ⟨sp_1, List.forall_mem_cons.mpr ⟨gw_2, fun _ h => absurd h List.not_mem_nil⟩⟩⟩⟩) (gi_ws gw_369), rfl, by decide +kernel, by decide +kernel, by decide +kernel⟩
theorem gS_RX0_70 : GS RX0 70 yJ9_abs_0f7a4 cJ9_abs_0f7a4 1 (some .int) 1 := ⟨gi_app (List.forall_mem_cons.mpr ⟨gw_991, List.forall_mem_cons.mpr ⟨gw_992, List.forall_mem_cons.mpr ⟨gw_6, fun _ h => absurd h List.not_mem_nil⟩⟩⟩) (gi_ws gw_993), by decide +kernel, by decide +kernel, by decide +kernel⟩
theorem sp_2 : Cond.selects RX0 yX0_columnOf yX0_columnOf ∈ gw := gw_mem (pv_in (y := yX0_columnOf) (n := 13) (List.mem_of_getElem? (i := 2) (by decide +kernel))) (by decide +kernel)
theorem gV_RX0_75 : GV RX0 75 RX0 yX0_columnOf cX0_columnOf 2 (some .int) 1 := ⟨gi_app (List.forall_mem_cons.mpr ⟨gw_370, List.forall_mem_cons.mpr ⟨gw_372, List.forall_mem_cons.mpr ⟨sp_2, List.forall_mem_cons.mpr ⟨gw_2, fun _ h => absurd h List.not_mem_nil⟩⟩⟩⟩) (gi_ws gw_373), rfl, by decide +kernel, by decide +kernel, by decide +kernel⟩
theorem gS_RX0_78 : GS RX0 78 yJ9_max_7cf53 cJ9_max_7cf53 2 (some .int) 2 := ⟨gi_app (List.forall_mem_cons.mpr ⟨gw_994, List.forall_mem_cons.mpr ⟨gw_105, List.forall_mem_cons.mpr ⟨gw_6, fun _ h => absurd h List.not_mem_nil⟩⟩⟩) (gi_ws gw_106), by decide +kernel, by decide +kernel, by decide +kernel⟩
theorem gV_RX0_82 : GV RX0 82 RX0 yX0_isRectangle cX0_isRectangle 3 (some .boolean) 2 := ⟨gi_app (List.forall_mem_cons.mpr ⟨gw_986, List.forall_mem_cons.mpr ⟨gw_362, List.forall_mem_cons.mpr ⟨gw_363, List.forall_mem_cons.mpr ⟨gw_2, fun _ h => absurd h List.not_mem_nil⟩⟩⟩⟩) (gi_ws gw_364), rfl, by decide +kernel, by decide +kernel, by decide +kernel⟩
theorem gV_RX0_92 : GV RX0 92 RX0 yX0_beside cX0_beside 6 (some .int) 2 := ⟨gi_app (List.forall_mem_cons.mpr ⟨gw_1117, List.forall_mem_cons.mpr ⟨gw_1118, List.forall_mem_cons.mpr ⟨gw_1119, List.forall_mem_cons.mpr ⟨gw_2, fun _ h => absurd h List.not_mem_nil⟩⟩⟩⟩) (gi_ws gw_1120), rfl, by decide +kernel, by decide +kernel, by decide +kernel⟩
theorem gS_RX0_95 : GS RX0 95 yX4_put cX4_put 3 (none : Option Jvm.ClassFile.FieldType) 3 := ⟨gi_app (List.forall_mem_cons.mpr ⟨gw_1137, List.forall_mem_cons.mpr ⟨gw_231, List.forall_mem_cons.mpr ⟨gw_3, fun _ h => absurd h List.not_mem_nil⟩⟩⟩) (gi_ws gw_232), by decide +kernel, by decide +kernel, by decide +kernel⟩
theorem sp_41 : Cond.selects RX0 yX0_nearestOpen yX0_nearestOpen ∈ gw := gw_mem (pv_in (y := yX0_nearestOpen) (n := 13) (List.mem_of_getElem? (i := 41) (by decide +kernel))) (by decide +kernel)
theorem gV_RX0_99 : GV RX0 99 RX0 yX0_nearestOpen cX0_nearestOpen 5 (some .int) 0 := ⟨gi_app (List.forall_mem_cons.mpr ⟨gw_1138, List.forall_mem_cons.mpr ⟨gw_1140, List.forall_mem_cons.mpr ⟨sp_41, List.forall_mem_cons.mpr ⟨gw_2, fun _ h => absurd h List.not_mem_nil⟩⟩⟩⟩) (gi_ws gw_1141), rfl, by decide +kernel, by decide +kernel, by decide +kernel⟩
theorem sp_42 : Cond.selects RX0 yX0_step yX0_step ∈ gw := gw_mem (pv_in (y := yX0_step) (n := 13) (List.mem_of_getElem? (i := 42) (by decide +kernel))) (by decide +kernel)
theorem gV_RX0_103 : GV RX0 103 RX0 yX0_step cX0_step 5 (none : Option Jvm.ClassFile.FieldType) 2 := ⟨gi_app (List.forall_mem_cons.mpr ⟨gw_1142, List.forall_mem_cons.mpr ⟨gw_1144, List.forall_mem_cons.mpr ⟨sp_42, List.forall_mem_cons.mpr ⟨gw_2, fun _ h => absurd h List.not_mem_nil⟩⟩⟩⟩) (gi_ws gw_1145), rfl, by decide +kernel, by decide +kernel, by decide +kernel⟩
theorem gV_RX0_107 : GV RX0 107 RX0 yX0_isFirm cX0_isFirm 3 (some .boolean) 1 := ⟨gi_app (List.forall_mem_cons.mpr ⟨gw_1146, List.forall_mem_cons.mpr ⟨gw_518, List.forall_mem_cons.mpr ⟨gw_519, List.forall_mem_cons.mpr ⟨gw_2, fun _ h => absurd h List.not_mem_nil⟩⟩⟩⟩) (gi_ws gw_520), rfl, by decide +kernel, by decide +kernel, by decide +kernel⟩
theorem fl_RX1_11 : FL RX1 11 1 0 := ⟨(RX1, TX1, 13), rfl, by decide, lays_1, gw_126⟩
theorem fp_RX1_11 : FP RX1 11 1 0 (.array (.object RX9)) true := ⟨(RX1, TX1, 13), tyX1, rfl, by decide, lays_1, gw_126, tyX1_ok, nmX1, rfl, by decide +kernel, fun _ => rfl⟩
theorem fl_RX1_17 : FL RX1 17 1 1 := ⟨(RX1, TX1, 13), rfl, by decide, lays_1, gw_127⟩
theorem fp_RX1_17 : FP RX1 17 1 1 .int false := ⟨(RX1, TX1, 13), tyX1, rfl, by decide, lays_1, gw_127, tyX1_ok, nmX1, rfl, by decide +kernel, fun h => by cases h⟩
theorem gI_RX1_23 : GI RX1 23 yX8_init cX8_init 3 2 := ⟨gi_ws gw_102, gw_5, gw_100, gw_101, rfl, by decide +kernel, by decide +kernel, by decide +kernel⟩
theorem fl_RX1_26 : FL RX1 26 1 2 := ⟨(RX1, TX1, 13), rfl, by decide, lays_1, gw_129⟩
theorem fp_RX1_26 : FP RX1 26 1 2 (.object RX8) true := ⟨(RX1, TX1, 13), tyX1, rfl, by decide, lays_1, gw_129, tyX1_ok, nmX1, rfl, by decide +kernel, fun _ => rfl⟩
theorem fl_RX1_30 : FL RX1 30 1 3 := ⟨(RX1, TX1, 13), rfl, by decide, lays_1, gw_131⟩
theorem fp_RX1_30 : FP RX1 30 1 3 (.array (.object RX9)) true := ⟨(RX1, TX1, 13), tyX1, rfl, by decide, lays_1, gw_131, tyX1_ok, nmX1, rfl, by decide +kernel, fun _ => rfl⟩
theorem fl_RX1_33 : FL RX1 33 1 4 := ⟨(RX1, TX1, 13), rfl, by decide, lays_1, gw_132⟩
theorem fp_RX1_33 : FP RX1 33 1 4 (.array .int) true := ⟨(RX1, TX1, 13), tyX1, rfl, by decide, lays_1, gw_132, tyX1_ok, nmX1, rfl, by decide +kernel, fun _ => rfl⟩
theorem fl_RX1_37 : FL RX1 37 1 5 := ⟨(RX1, TX1, 13), rfl, by decide, lays_1, gw_134⟩
theorem fp_RX1_37 : FP RX1 37 1 5 (.array .int) true := ⟨(RX1, TX1, 13), tyX1, rfl, by decide, lays_1, gw_134, tyX1_ok, nmX1, rfl, by decide +kernel, fun _ => rfl⟩
theorem fl_RX1_40 : FL RX1 40 1 6 := ⟨(RX1, TX1, 13), rfl, by decide, lays_1, gw_135⟩
theorem fp_RX1_40 : FP RX1 40 1 6 .int false := ⟨(RX1, TX1, 13), tyX1, rfl, by decide, lays_1, gw_135, tyX1_ok, nmX1, rfl, by decide +kernel, fun h => by cases h⟩
theorem fl_RX1_43 : FL RX1 43 1 7 := ⟨(RX1, TX1, 13), rfl, by decide, lays_1, gw_136⟩
theorem fp_RX1_43 : FP RX1 43 1 7 .int false := ⟨(RX1, TX1, 13), tyX1, rfl, by decide, lays_1, gw_136, tyX1_ok, nmX1, rfl, by decide +kernel, fun h => by cases h⟩
theorem fl_RX1_46 : FL RX1 46 1 8 := ⟨(RX1, TX1, 13), rfl, by decide, lays_1, gw_137⟩
theorem fp_RX1_46 : FP RX1 46 1 8 (.array .int) true := ⟨(RX1, TX1, 13), tyX1, rfl, by decide, lays_1, gw_137, tyX1_ok, nmX1, rfl, by decide +kernel, fun _ => rfl⟩
theorem fl_RX1_49 : FL RX1 49 1 9 := ⟨(RX1, TX1, 13), rfl, by decide, lays_1, gw_139⟩
theorem fp_RX1_49 : FP RX1 49 1 9 (.array .int) true := ⟨(RX1, TX1, 13), tyX1, rfl, by decide, lays_1, gw_139, tyX1_ok, nmX1, rfl, by decide +kernel, fun _ => rfl⟩
theorem fl_RX1_52 : FL RX1 52 1 10 := ⟨(RX1, TX1, 13), rfl, by decide, lays_1, gw_140⟩
theorem fp_RX1_52 : FP RX1 52 1 10 .int false := ⟨(RX1, TX1, 13), tyX1, rfl, by decide, lays_1, gw_140, tyX1_ok, nmX1, rfl, by decide +kernel, fun h => by cases h⟩
theorem fl_RX1_55 : FL RX1 55 1 11 := ⟨(RX1, TX1, 13), rfl, by decide, lays_1, gw_141⟩
theorem fp_RX1_55 : FP RX1 55 1 11 .int false := ⟨(RX1, TX1, 13), tyX1, rfl, by decide, lays_1, gw_141, tyX1_ok, nmX1, rfl, by decide +kernel, fun h => by cases h⟩
theorem fl_RX1_58 : FL RX1 58 1 12 := ⟨(RX1, TX1, 13), rfl, by decide, lays_1, gw_143⟩
theorem fp_RX1_58 : FP RX1 58 1 12 .int false := ⟨(RX1, TX1, 13), tyX1, rfl, by decide, lays_1, gw_143, tyX1_ok, nmX1, rfl, by decide +kernel, fun h => by cases h⟩
theorem gV_RX1_61 : GV RX1 61 RX1 yX1_forget cX1_forget 1 (none : Option Jvm.ClassFile.FieldType) 0 := ⟨gi_app (List.forall_mem_cons.mpr ⟨gw_811, List.forall_mem_cons.mpr ⟨gw_812, List.forall_mem_cons.mpr ⟨gw_813, List.forall_mem_cons.mpr ⟨gw_4, fun _ h => absurd h List.not_mem_nil⟩⟩⟩⟩) (gi_ws gw_814), rfl, by decide +kernel, by decide +kernel, by decide +kernel⟩
theorem gV_RX1_64 : GV RX1 64 RX8 yX8_append cX8_append 7 (some .int) 5 := ⟨gi_app (List.forall_mem_cons.mpr ⟨gw_844, List.forall_mem_cons.mpr ⟨gw_552, List.forall_mem_cons.mpr ⟨gw_553, List.forall_mem_cons.mpr ⟨gw_5, fun _ h => absurd h List.not_mem_nil⟩⟩⟩⟩) (gi_ws gw_554), rfl, by decide +kernel, by decide +kernel, by decide +kernel⟩
theorem sp_4 : Cond.selects RX1 yX1_binds yX1_binds ∈ gw := gw_mem (pv_in (y := yX1_binds) (n := 13) (List.mem_of_getElem? (i := 4) (by decide +kernel))) (by decide +kernel)
theorem gV_RX1_68 : GV RX1 68 RX1 yX1_binds cX1_binds 7 (some .boolean) 4 := ⟨gi_app (List.forall_mem_cons.mpr ⟨gw_382, List.forall_mem_cons.mpr ⟨gw_384, List.forall_mem_cons.mpr ⟨sp_4, List.forall_mem_cons.mpr ⟨gw_4, fun _ h => absurd h List.not_mem_nil⟩⟩⟩⟩) (gi_ws gw_385), rfl, by decide +kernel, by decide +kernel, by decide +kernel⟩
theorem sp_5 : Cond.selects RX1 yX1_weighTexts yX1_weighTexts ∈ gw := gw_mem (pv_in (y := yX1_weighTexts) (n := 13) (List.mem_of_getElem? (i := 5) (by decide +kernel))) (by decide +kernel)
theorem gV_RX1_72 : GV RX1 72 RX1 yX1_weighTexts cX1_weighTexts 7 (none : Option Jvm.ClassFile.FieldType) 2 := ⟨gi_app (List.forall_mem_cons.mpr ⟨gw_397, List.forall_mem_cons.mpr ⟨gw_399, List.forall_mem_cons.mpr ⟨sp_5, List.forall_mem_cons.mpr ⟨gw_4, fun _ h => absurd h List.not_mem_nil⟩⟩⟩⟩) (gi_ws gw_400), rfl, by decide +kernel, by decide +kernel, by decide +kernel⟩
theorem gV_RX1_75 : GV RX1 75 RX1 yX1_textOf cX1_textOf 2 (some (.object "IceTreaty$Text")) 1 := ⟨gi_app (List.forall_mem_cons.mpr ⟨gw_386, List.forall_mem_cons.mpr ⟨gw_387, List.forall_mem_cons.mpr ⟨gw_388, List.forall_mem_cons.mpr ⟨gw_4, fun _ h => absurd h List.not_mem_nil⟩⟩⟩⟩) (gi_ws gw_389), rfl, by decide +kernel, by decide +kernel, by decide +kernel⟩
theorem gV_RX1_79 : GV RX1 79 RX9 yX9_isInForce cX9_isInForce 2 (some .boolean) 1 := ⟨gi_app (List.forall_mem_cons.mpr ⟨gw_390, List.forall_mem_cons.mpr ⟨gw_391, List.forall_mem_cons.mpr ⟨gw_392, List.forall_mem_cons.mpr ⟨gw_11, fun _ h => absurd h List.not_mem_nil⟩⟩⟩⟩) (gi_ws gw_393), rfl, by decide +kernel, by decide +kernel, by decide +kernel⟩
theorem fl_RX1_83 : FL RX1 83 2 3 := ⟨(RX2, TX2, 5), rfl, by decide, lays_2, gw_338⟩
theorem gS_RX1_88 : GS RX1 88 yX4_get cX4_get 2 (some .int) 2 := ⟨gi_app (List.forall_mem_cons.mpr ⟨gw_394, List.forall_mem_cons.mpr ⟨gw_395, List.forall_mem_cons.mpr ⟨gw_3, fun _ h => absurd h List.not_mem_nil⟩⟩⟩) (gi_ws gw_396), by decide +kernel, by decide +kernel, by decide +kernel⟩
theorem gV_RX1_94 : GV RX1 94 RX1 yX1_numberOf cX1_numberOf 8 (some .int) 3 := ⟨gi_app (List.forall_mem_cons.mpr ⟨gw_411, List.forall_mem_cons.mpr ⟨gw_412, List.forall_mem_cons.mpr ⟨gw_413, List.forall_mem_cons.mpr ⟨gw_4, fun _ h => absurd h List.not_mem_nil⟩⟩⟩⟩) (gi_ws gw_414), rfl, by decide +kernel, by decide +kernel, by decide +kernel⟩
theorem gS_RX1_98 : GS RX1 98 yX4_fill cX4_fill 3 (none : Option Jvm.ClassFile.FieldType) 2 := ⟨gi_app (List.forall_mem_cons.mpr ⟨gw_401, List.forall_mem_cons.mpr ⟨gw_36, List.forall_mem_cons.mpr ⟨gw_3, fun _ h => absurd h List.not_mem_nil⟩⟩⟩) (gi_ws gw_37), by decide +kernel, by decide +kernel, by decide +kernel⟩
theorem fl_RX1_102 : FL RX1 102 8 2 := ⟨(RX9, TX9, 5), rfl, by decide, lays_8, gw_583⟩
theorem fl_RX1_105 : FL RX1 105 7 3 := ⟨(RX8, TX8, 4), rfl, by decide, lays_7, gw_114⟩
theorem gS_RX1_108 : GS RX1 108 yX4_put cX4_put 3 (none : Option Jvm.ClassFile.FieldType) 3 := ⟨gi_app (List.forall_mem_cons.mpr ⟨gw_402, List.forall_mem_cons.mpr ⟨gw_231, List.forall_mem_cons.mpr ⟨gw_3, fun _ h => absurd h List.not_mem_nil⟩⟩⟩) (gi_ws gw_232), by decide +kernel, by decide +kernel, by decide +kernel⟩
theorem sp_6 : Cond.selects RX1 yX1_strike yX1_strike ∈ gw := gw_mem (pv_in (y := yX1_strike) (n := 13) (List.mem_of_getElem? (i := 6) (by decide +kernel))) (by decide +kernel)
theorem gV_RX1_112 : GV RX1 112 RX1 yX1_strike cX1_strike 7 (none : Option Jvm.ClassFile.FieldType) 3 := ⟨gi_app (List.forall_mem_cons.mpr ⟨gw_403, List.forall_mem_cons.mpr ⟨gw_405, List.forall_mem_cons.mpr ⟨sp_6, List.forall_mem_cons.mpr ⟨gw_4, fun _ h => absurd h List.not_mem_nil⟩⟩⟩⟩) (gi_ws gw_406), rfl, by decide +kernel, by decide +kernel, by decide +kernel⟩
theorem gV_RX1_116 : GV RX1 116 RX8 yX8_get cX8_get 5 (some .int) 2 := ⟨gi_app (List.forall_mem_cons.mpr ⟨gw_407, List.forall_mem_cons.mpr ⟨gw_408, List.forall_mem_cons.mpr ⟨gw_409, List.forall_mem_cons.mpr ⟨gw_5, fun _ h => absurd h List.not_mem_nil⟩⟩⟩⟩) (gi_ws gw_410), rfl, by decide +kernel, by decide +kernel, by decide +kernel⟩
theorem gV_RX1_119 : GV RX1 119 RX9 yX9_letterOf cX9_letterOf 2 (some .int) 1 := ⟨gi_app (List.forall_mem_cons.mpr ⟨gw_415, List.forall_mem_cons.mpr ⟨gw_416, List.forall_mem_cons.mpr ⟨gw_417, List.forall_mem_cons.mpr ⟨gw_11, fun _ h => absurd h List.not_mem_nil⟩⟩⟩⟩) (gi_ws gw_418), rfl, by decide +kernel, by decide +kernel, by decide +kernel⟩
theorem sp_7 : Cond.selects RX1 yX1_isCounting yX1_isCounting ∈ gw := gw_mem (pv_in (y := yX1_isCounting) (n := 13) (List.mem_of_getElem? (i := 7) (by decide +kernel))) (by decide +kernel)
theorem gV_RX1_123 : GV RX1 123 RX1 yX1_isCounting cX1_isCounting 3 (some .boolean) 2 := ⟨gi_app (List.forall_mem_cons.mpr ⟨gw_420, List.forall_mem_cons.mpr ⟨gw_422, List.forall_mem_cons.mpr ⟨sp_7, List.forall_mem_cons.mpr ⟨gw_4, fun _ h => absurd h List.not_mem_nil⟩⟩⟩⟩) (gi_ws gw_423), rfl, by decide +kernel, by decide +kernel, by decide +kernel⟩
theorem gV_RX1_127 : GV RX1 127 RX9 yX9_hasCondition cX9_hasCondition 2 (some .boolean) 1 := ⟨gi_app (List.forall_mem_cons.mpr ⟨gw_1007, List.forall_mem_cons.mpr ⟨gw_828, List.forall_mem_cons.mpr ⟨gw_829, List.forall_mem_cons.mpr ⟨gw_11, fun _ h => absurd h List.not_mem_nil⟩⟩⟩⟩) (gi_ws gw_830), rfl, by decide +kernel, by decide +kernel, by decide +kernel⟩
theorem fl_RX1_130 : FL RX1 130 9 1 := ⟨(RX10, TX10, 15), rfl, by decide, lays_9, gw_883⟩
theorem sp_36 : Cond.selects RX1 yX1_readingOf yX1_readingOf ∈ gw := gw_mem (pv_in (y := yX1_readingOf) (n := 13) (List.mem_of_getElem? (i := 36) (by decide +kernel))) (by decide +kernel)
theorem gV_RX1_135 : GV RX1 135 RX1 yX1_readingOf cX1_readingOf 6 (some (.object "IceTreaty$Text")) 3 := ⟨gi_app (List.forall_mem_cons.mpr ⟨gw_1008, List.forall_mem_cons.mpr ⟨gw_1010, List.forall_mem_cons.mpr ⟨sp_36, List.forall_mem_cons.mpr ⟨gw_4, fun _ h => absurd h List.not_mem_nil⟩⟩⟩⟩) (gi_ws gw_1011), rfl, by decide +kernel, by decide +kernel, by decide +kernel⟩
theorem sp_37 : Cond.selects RX1 yX1_holds yX1_holds ∈ gw := gw_mem (pv_in (y := yX1_holds) (n := 13) (List.mem_of_getElem? (i := 37) (by decide +kernel))) (by decide +kernel)
theorem gV_RX1_139 : GV RX1 139 RX1 yX1_holds cX1_holds 10 (some .int) 2 := ⟨gi_app (List.forall_mem_cons.mpr ⟨gw_1012, List.forall_mem_cons.mpr ⟨gw_1014, List.forall_mem_cons.mpr ⟨sp_37, List.forall_mem_cons.mpr ⟨gw_4, fun _ h => absurd h List.not_mem_nil⟩⟩⟩⟩) (gi_ws gw_1015), rfl, by decide +kernel, by decide +kernel, by decide +kernel⟩
theorem gS_RX1_143 : GS RX1 143 yX1_bar cX1_bar 6 (some .int) 5 := ⟨gi_app (List.forall_mem_cons.mpr ⟨gw_1027, List.forall_mem_cons.mpr ⟨gw_1028, List.forall_mem_cons.mpr ⟨gw_4, fun _ h => absurd h List.not_mem_nil⟩⟩⟩) (gi_ws gw_1029), by decide +kernel, by decide +kernel, by decide +kernel⟩
theorem fl_RX1_147 : FL RX1 147 9 3 := ⟨(RX10, TX10, 15), rfl, by decide, lays_9, gw_888⟩
theorem fl_RX1_150 : FL RX1 150 9 10 := ⟨(RX10, TX10, 15), rfl, by decide, lays_9, gw_904⟩
theorem gS_RX1_153 : GS RX1 153 yX1_wasTold cX1_wasTold 2 (some .boolean) 2 := ⟨gi_app (List.forall_mem_cons.mpr ⟨gw_1030, List.forall_mem_cons.mpr ⟨gw_1031, List.forall_mem_cons.mpr ⟨gw_4, fun _ h => absurd h List.not_mem_nil⟩⟩⟩) (gi_ws gw_1032), by decide +kernel, by decide +kernel, by decide +kernel⟩
theorem fl_RX1_156 : FL RX1 156 9 9 := ⟨(RX10, TX10, 15), rfl, by decide, lays_9, gw_901⟩
theorem fl_RX1_159 : FL RX1 159 9 11 := ⟨(RX10, TX10, 15), rfl, by decide, lays_9, gw_907⟩
theorem fl_RX1_162 : FL RX1 162 8 3 := ⟨(RX9, TX9, 5), rfl, by decide, lays_8, gw_585⟩
theorem sp_38 : Cond.selects RX1 yX1_push yX1_push ∈ gw := gw_mem (pv_in (y := yX1_push) (n := 13) (List.mem_of_getElem? (i := 38) (by decide +kernel))) (by decide +kernel)
theorem gV_RX1_165 : GV RX1 165 RX1 yX1_push cX1_push 2 (none : Option Jvm.ClassFile.FieldType) 1 := ⟨gi_app (List.forall_mem_cons.mpr ⟨gw_1016, List.forall_mem_cons.mpr ⟨gw_1018, List.forall_mem_cons.mpr ⟨sp_38, List.forall_mem_cons.mpr ⟨gw_4, fun _ h => absurd h List.not_mem_nil⟩⟩⟩⟩) (gi_ws gw_1019), rfl, by decide +kernel, by decide +kernel, by decide +kernel⟩
theorem sp_39 : Cond.selects RX1 yX1_pop yX1_pop ∈ gw := gw_mem (pv_in (y := yX1_pop) (n := 13) (List.mem_of_getElem? (i := 39) (by decide +kernel))) (by decide +kernel)
theorem gV_RX1_169 : GV RX1 169 RX1 yX1_pop cX1_pop 1 (some .int) 0 := ⟨gi_app (List.forall_mem_cons.mpr ⟨gw_1020, List.forall_mem_cons.mpr ⟨gw_1022, List.forall_mem_cons.mpr ⟨sp_39, List.forall_mem_cons.mpr ⟨gw_4, fun _ h => absurd h List.not_mem_nil⟩⟩⟩⟩) (gi_ws gw_1023), rfl, by decide +kernel, by decide +kernel, by decide +kernel⟩
theorem gS_RX1_173 : GS RX1 173 yX1_reckon cX1_reckon 3 (some .int) 3 := ⟨gi_app (List.forall_mem_cons.mpr ⟨gw_1024, List.forall_mem_cons.mpr ⟨gw_1025, List.forall_mem_cons.mpr ⟨gw_4, fun _ h => absurd h List.not_mem_nil⟩⟩⟩) (gi_ws gw_1026), by decide +kernel, by decide +kernel, by decide +kernel⟩
theorem fl_RX2_9 : FL RX2 9 2 1 := ⟨(RX2, TX2, 5), rfl, by decide, lays_2, gw_333⟩
theorem fp_RX2_9 : FP RX2 9 2 1 .int false := ⟨(RX2, TX2, 5), tyX2, rfl, by decide, lays_2, gw_333, tyX2_ok, nmX2, rfl, by decide +kernel, fun h => by cases h⟩
theorem fl_RX2_15 : FL RX2 15 2 2 := ⟨(RX2, TX2, 5), rfl, by decide, lays_2, gw_335⟩
theorem fp_RX2_15 : FP RX2 15 2 2 .int false := ⟨(RX2, TX2, 5), tyX2, rfl, by decide, lays_2, gw_335, tyX2_ok, nmX2, rfl, by decide +kernel, fun h => by cases h⟩
theorem fl_RX2_18 : FL RX2 18 2 3 := ⟨(RX2, TX2, 5), rfl, by decide, lays_2, gw_337⟩
theorem fp_RX2_18 : FP RX2 18 2 3 (.array .int) true := ⟨(RX2, TX2, 5), tyX2, rfl, by decide, lays_2, gw_337, tyX2_ok, nmX2, rfl, by decide +kernel, fun _ => rfl⟩
theorem fl_RX2_22 : FL RX2 22 2 4 := ⟨(RX2, TX2, 5), rfl, by decide, lays_2, gw_340⟩
theorem fp_RX2_22 : FP RX2 22 2 4 (.array .int) true := ⟨(RX2, TX2, 5), tyX2, rfl, by decide, lays_2, gw_340, tyX2_ok, nmX2, rfl, by decide +kernel, fun _ => rfl⟩
theorem fl_RX2_25 : FL RX2 25 2 0 := ⟨(RX2, TX2, 5), rfl, by decide, lays_2, gw_331⟩
theorem fp_RX2_25 : FP RX2 25 2 0 .int false := ⟨(RX2, TX2, 5), tyX2, rfl, by decide, lays_2, gw_331, tyX2_ok, nmX2, rfl, by decide +kernel, fun h => by cases h⟩
theorem gS_RX2_28 : GS RX2 28 yX4_fill cX4_fill 3 (none : Option Jvm.ClassFile.FieldType) 2 := ⟨gi_app (List.forall_mem_cons.mpr ⟨gw_330, List.forall_mem_cons.mpr ⟨gw_36, List.forall_mem_cons.mpr ⟨gw_3, fun _ h => absurd h List.not_mem_nil⟩⟩⟩) (gi_ws gw_37), by decide +kernel, by decide +kernel, by decide +kernel⟩
theorem gS_RX2_34 : GS RX2 34 yX4_get cX4_get 2 (some .int) 2 := ⟨gi_app (List.forall_mem_cons.mpr ⟨gw_1347, List.forall_mem_cons.mpr ⟨gw_395, List.forall_mem_cons.mpr ⟨gw_3, fun _ h => absurd h List.not_mem_nil⟩⟩⟩) (gi_ws gw_396), by decide +kernel, by decide +kernel, by decide +kernel⟩
theorem fl_RX3_9 : FL RX3 9 3 5 := ⟨(RX3, TX3, 16), rfl, by decide, lays_3, gw_443⟩
theorem fp_RX3_9 : FP RX3 9 3 5 .boolean false := ⟨(RX3, TX3, 16), tyX3, rfl, by decide, lays_3, gw_443, tyX3_ok, nmX3, rfl, by decide +kernel, fun h => by cases h⟩
theorem fl_RX3_15 : FL RX3 15 3 6 := ⟨(RX3, TX3, 16), rfl, by decide, lays_3, gw_445⟩
theorem fp_RX3_15 : FP RX3 15 3 6 .int false := ⟨(RX3, TX3, 16), tyX3, rfl, by decide, lays_3, gw_445, tyX3_ok, nmX3, rfl, by decide +kernel, fun h => by cases h⟩
theorem fl_RX3_19 : FL RX3 19 3 7 := ⟨(RX3, TX3, 16), rfl, by decide, lays_3, gw_447⟩
theorem fp_RX3_19 : FP RX3 19 3 7 .int false := ⟨(RX3, TX3, 16), tyX3, rfl, by decide, lays_3, gw_447, tyX3_ok, nmX3, rfl, by decide +kernel, fun h => by cases h⟩
theorem fl_RX3_22 : FL RX3 22 3 8 := ⟨(RX3, TX3, 16), rfl, by decide, lays_3, gw_449⟩
theorem fp_RX3_22 : FP RX3 22 3 8 .int false := ⟨(RX3, TX3, 16), tyX3, rfl, by decide, lays_3, gw_449, tyX3_ok, nmX3, rfl, by decide +kernel, fun h => by cases h⟩
theorem fl_RX3_25 : FL RX3 25 3 9 := ⟨(RX3, TX3, 16), rfl, by decide, lays_3, gw_451⟩
theorem fp_RX3_25 : FP RX3 25 3 9 .int false := ⟨(RX3, TX3, 16), tyX3, rfl, by decide, lays_3, gw_451, tyX3_ok, nmX3, rfl, by decide +kernel, fun h => by cases h⟩
theorem fl_RX3_28 : FL RX3 28 3 10 := ⟨(RX3, TX3, 16), rfl, by decide, lays_3, gw_453⟩
theorem fp_RX3_28 : FP RX3 28 3 10 .int false := ⟨(RX3, TX3, 16), tyX3, rfl, by decide, lays_3, gw_453, tyX3_ok, nmX3, rfl, by decide +kernel, fun h => by cases h⟩
theorem fl_RX3_31 : FL RX3 31 3 11 := ⟨(RX3, TX3, 16), rfl, by decide, lays_3, gw_455⟩
theorem fp_RX3_31 : FP RX3 31 3 11 .int false := ⟨(RX3, TX3, 16), tyX3, rfl, by decide, lays_3, gw_455, tyX3_ok, nmX3, rfl, by decide +kernel, fun h => by cases h⟩
theorem fl_RX3_34 : FL RX3 34 3 12 := ⟨(RX3, TX3, 16), rfl, by decide, lays_3, gw_457⟩
theorem fp_RX3_34 : FP RX3 34 3 12 .int false := ⟨(RX3, TX3, 16), tyX3, rfl, by decide, lays_3, gw_457, tyX3_ok, nmX3, rfl, by decide +kernel, fun h => by cases h⟩
theorem fl_RX3_37 : FL RX3 37 3 0 := ⟨(RX3, TX3, 16), rfl, by decide, lays_3, gw_433⟩
theorem fp_RX3_37 : FP RX3 37 3 0 .int true := ⟨(RX3, TX3, 16), tyX3, rfl, by decide, lays_3, gw_433, tyX3_ok, nmX3, rfl, by decide +kernel, fun _ => rfl⟩
theorem fl_RX3_40 : FL RX3 40 3 1 := ⟨(RX3, TX3, 16), rfl, by decide, lays_3, gw_435⟩
theorem fp_RX3_40 : FP RX3 40 3 1 .int true := ⟨(RX3, TX3, 16), tyX3, rfl, by decide, lays_3, gw_435, tyX3_ok, nmX3, rfl, by decide +kernel, fun _ => rfl⟩
theorem fl_RX3_43 : FL RX3 43 3 2 := ⟨(RX3, TX3, 16), rfl, by decide, lays_3, gw_437⟩
theorem fp_RX3_43 : FP RX3 43 3 2 .int false := ⟨(RX3, TX3, 16), tyX3, rfl, by decide, lays_3, gw_437, tyX3_ok, nmX3, rfl, by decide +kernel, fun h => by cases h⟩
theorem fl_RX3_46 : FL RX3 46 3 3 := ⟨(RX3, TX3, 16), rfl, by decide, lays_3, gw_439⟩
theorem fp_RX3_46 : FP RX3 46 3 3 .int true := ⟨(RX3, TX3, 16), tyX3, rfl, by decide, lays_3, gw_439, tyX3_ok, nmX3, rfl, by decide +kernel, fun _ => rfl⟩
theorem fl_RX3_49 : FL RX3 49 3 4 := ⟨(RX3, TX3, 16), rfl, by decide, lays_3, gw_441⟩
theorem fp_RX3_49 : FP RX3 49 3 4 .int false := ⟨(RX3, TX3, 16), tyX3, rfl, by decide, lays_3, gw_441, tyX3_ok, nmX3, rfl, by decide +kernel, fun h => by cases h⟩
theorem fl_RX3_52 : FL RX3 52 3 13 := ⟨(RX3, TX3, 16), rfl, by decide, lays_3, gw_459⟩
theorem fp_RX3_52 : FP RX3 52 3 13 (.array .int) true := ⟨(RX3, TX3, 16), tyX3, rfl, by decide, lays_3, gw_459, tyX3_ok, nmX3, rfl, by decide +kernel, fun _ => rfl⟩
theorem fl_RX3_56 : FL RX3 56 3 14 := ⟨(RX3, TX3, 16), rfl, by decide, lays_3, gw_461⟩
theorem fp_RX3_56 : FP RX3 56 3 14 (.array .int) true := ⟨(RX3, TX3, 16), tyX3, rfl, by decide, lays_3, gw_461, tyX3_ok, nmX3, rfl, by decide +kernel, fun _ => rfl⟩
theorem gI_RX3_61 : GI RX3 61 yX8_init cX8_init 3 2 := ⟨gi_ws gw_102, gw_5, gw_431, gw_101, rfl, by decide +kernel, by decide +kernel, by decide +kernel⟩
theorem fl_RX3_64 : FL RX3 64 3 15 := ⟨(RX3, TX3, 16), rfl, by decide, lays_3, gw_463⟩
theorem fp_RX3_64 : FP RX3 64 3 15 (.object RX8) true := ⟨(RX3, TX3, 16), tyX3, rfl, by decide, lays_3, gw_463, tyX3_ok, nmX3, rfl, by decide +kernel, fun _ => rfl⟩
theorem gS_RX3_68 : GS RX3 68 yX4_fill cX4_fill 3 (none : Option Jvm.ClassFile.FieldType) 2 := ⟨gi_app (List.forall_mem_cons.mpr ⟨gw_432, List.forall_mem_cons.mpr ⟨gw_36, List.forall_mem_cons.mpr ⟨gw_3, fun _ h => absurd h List.not_mem_nil⟩⟩⟩) (gi_ws gw_37), by decide +kernel, by decide +kernel, by decide +kernel⟩
theorem gV_RX3_74 : GV RX3 74 RX8 yX8_append cX8_append 7 (some .int) 5 := ⟨gi_app (List.forall_mem_cons.mpr ⟨gw_1274, List.forall_mem_cons.mpr ⟨gw_552, List.forall_mem_cons.mpr ⟨gw_553, List.forall_mem_cons.mpr ⟨gw_5, fun _ h => absurd h List.not_mem_nil⟩⟩⟩⟩) (gi_ws gw_554), rfl, by decide +kernel, by decide +kernel, by decide +kernel⟩
theorem fl_RX3_78 : FL RX3 78 7 3 := ⟨(RX8, TX8, 4), rfl, by decide, lays_7, gw_113⟩
theorem gV_RX3_81 : GV RX3 81 RX8 yX8_get cX8_get 5 (some .int) 2 := ⟨gi_app (List.forall_mem_cons.mpr ⟨gw_1201, List.forall_mem_cons.mpr ⟨gw_408, List.forall_mem_cons.mpr ⟨gw_409, List.forall_mem_cons.mpr ⟨gw_5, fun _ h => absurd h List.not_mem_nil⟩⟩⟩⟩) (gi_ws gw_410), rfl, by decide +kernel, by decide +kernel, by decide +kernel⟩
theorem gS_RX3_85 : GS RX3 85 yJ9_min_7cf53 cJ9_min_7cf53 2 (some .int) 2 := ⟨gi_app (List.forall_mem_cons.mpr ⟨gw_1202, List.forall_mem_cons.mpr ⟨gw_736, List.forall_mem_cons.mpr ⟨gw_6, fun _ h => absurd h List.not_mem_nil⟩⟩⟩) (gi_ws gw_737), by decide +kernel, by decide +kernel, by decide +kernel⟩
theorem gS_RX3_90 : GS RX3 90 yJ9_max_7cf53 cJ9_max_7cf53 2 (some .int) 2 := ⟨gi_app (List.forall_mem_cons.mpr ⟨gw_1203, List.forall_mem_cons.mpr ⟨gw_105, List.forall_mem_cons.mpr ⟨gw_6, fun _ h => absurd h List.not_mem_nil⟩⟩⟩) (gi_ws gw_106), by decide +kernel, by decide +kernel, by decide +kernel⟩
theorem gS_RX4_7 : GS RX4 7 yX4_get cX4_get 2 (some .int) 2 := ⟨gi_app (List.forall_mem_cons.mpr ⟨gw_1190, List.forall_mem_cons.mpr ⟨gw_395, List.forall_mem_cons.mpr ⟨gw_3, fun _ h => absurd h List.not_mem_nil⟩⟩⟩) (gi_ws gw_396), by decide +kernel, by decide +kernel, by decide +kernel⟩
theorem gS_RX4_13 : GS RX4 13 yX4_put cX4_put 3 (none : Option Jvm.ClassFile.FieldType) 3 := ⟨gi_app (List.forall_mem_cons.mpr ⟨gw_1191, List.forall_mem_cons.mpr ⟨gw_231, List.forall_mem_cons.mpr ⟨gw_3, fun _ h => absurd h List.not_mem_nil⟩⟩⟩) (gi_ws gw_232), by decide +kernel, by decide +kernel, by decide +kernel⟩
theorem fl_RX5_9 : FL RX5 9 4 3 := ⟨(RX5, TX5, 7), rfl, by decide, lays_4, gw_608⟩
theorem fp_RX5_9 : FP RX5 9 4 3 .int false := ⟨(RX5, TX5, 7), tyX5, rfl, by decide, lays_4, gw_608, tyX5_ok, nmX5, rfl, by decide +kernel, fun h => by cases h⟩
theorem fl_RX5_15 : FL RX5 15 4 4 := ⟨(RX5, TX5, 7), rfl, by decide, lays_4, gw_609⟩
theorem fp_RX5_15 : FP RX5 15 4 4 .int false := ⟨(RX5, TX5, 7), tyX5, rfl, by decide, lays_4, gw_609, tyX5_ok, nmX5, rfl, by decide +kernel, fun h => by cases h⟩
theorem fl_RX5_18 : FL RX5 18 4 5 := ⟨(RX5, TX5, 7), rfl, by decide, lays_4, gw_610⟩
theorem fp_RX5_18 : FP RX5 18 4 5 .int false := ⟨(RX5, TX5, 7), tyX5, rfl, by decide, lays_4, gw_610, tyX5_ok, nmX5, rfl, by decide +kernel, fun h => by cases h⟩
theorem fl_RX5_21 : FL RX5 21 4 6 := ⟨(RX5, TX5, 7), rfl, by decide, lays_4, gw_612⟩
theorem fp_RX5_21 : FP RX5 21 4 6 .int false := ⟨(RX5, TX5, 7), tyX5, rfl, by decide, lays_4, gw_612, tyX5_ok, nmX5, rfl, by decide +kernel, fun h => by cases h⟩
theorem fl_RX5_24 : FL RX5 24 4 0 := ⟨(RX5, TX5, 7), rfl, by decide, lays_4, gw_605⟩
theorem fp_RX5_24 : FP RX5 24 4 0 (.array .int) true := ⟨(RX5, TX5, 7), tyX5, rfl, by decide, lays_4, gw_605, tyX5_ok, nmX5, rfl, by decide +kernel, fun _ => rfl⟩
theorem fl_RX5_28 : FL RX5 28 4 1 := ⟨(RX5, TX5, 7), rfl, by decide, lays_4, gw_606⟩
theorem fp_RX5_28 : FP RX5 28 4 1 .int true := ⟨(RX5, TX5, 7), tyX5, rfl, by decide, lays_4, gw_606, tyX5_ok, nmX5, rfl, by decide +kernel, fun _ => rfl⟩
theorem fl_RX5_31 : FL RX5 31 4 2 := ⟨(RX5, TX5, 7), rfl, by decide, lays_4, gw_607⟩
theorem fp_RX5_31 : FP RX5 31 4 2 (.object RX9) true := ⟨(RX5, TX5, 7), tyX5, rfl, by decide, lays_4, gw_607, tyX5_ok, nmX5, rfl, by decide +kernel, fun _ => rfl⟩
theorem sp_14 : Cond.selects RX5 yX5_clause yX5_clause ∈ gw := gw_mem (pv_in (y := yX5_clause) (n := 7) (List.mem_of_getElem? (i := 14) (by decide +kernel))) (by decide +kernel)
theorem gV_RX5_35 : GV RX5 35 RX5 yX5_clause cX5_clause 2 (none : Option Jvm.ClassFile.FieldType) 0 := ⟨gi_app (List.forall_mem_cons.mpr ⟨gw_632, List.forall_mem_cons.mpr ⟨gw_634, List.forall_mem_cons.mpr ⟨sp_14, List.forall_mem_cons.mpr ⟨gw_12, fun _ h => absurd h List.not_mem_nil⟩⟩⟩⟩) (gi_ws gw_635), rfl, by decide +kernel, by decide +kernel, by decide +kernel⟩
theorem sp_19 : Cond.selects RX5 yX5_take yX5_take ∈ gw := gw_mem (pv_in (y := yX5_take) (n := 7) (List.mem_of_getElem? (i := 19) (by decide +kernel))) (by decide +kernel)
theorem gV_RX5_38 : GV RX5 38 RX5 yX5_take cX5_take 2 (none : Option Jvm.ClassFile.FieldType) 1 := ⟨gi_app (List.forall_mem_cons.mpr ⟨gw_660, List.forall_mem_cons.mpr ⟨gw_662, List.forall_mem_cons.mpr ⟨sp_19, List.forall_mem_cons.mpr ⟨gw_12, fun _ h => absurd h List.not_mem_nil⟩⟩⟩⟩) (gi_ws gw_663), rfl, by decide +kernel, by decide +kernel, by decide +kernel⟩
theorem fl_RX5_42 : FL RX5 42 8 2 := ⟨(RX9, TX9, 5), rfl, by decide, lays_8, gw_582⟩
theorem gV_RX5_48 : GV RX5 48 RX8 yX8_append cX8_append 7 (some .int) 5 := ⟨gi_app (List.forall_mem_cons.mpr ⟨gw_647, List.forall_mem_cons.mpr ⟨gw_552, List.forall_mem_cons.mpr ⟨gw_553, List.forall_mem_cons.mpr ⟨gw_5, fun _ h => absurd h List.not_mem_nil⟩⟩⟩⟩) (gi_ws gw_554), rfl, by decide +kernel, by decide +kernel, by decide +kernel⟩
theorem sp_20 : Cond.selects RX5 yX5_condition yX5_condition ∈ gw := gw_mem (pv_in (y := yX5_condition) (n := 7) (List.mem_of_getElem? (i := 20) (by decide +kernel))) (by decide +kernel)
theorem gV_RX5_54 : GV RX5 54 RX5 yX5_condition cX5_condition 1 (none : Option Jvm.ClassFile.FieldType) 0 := ⟨gi_app (List.forall_mem_cons.mpr ⟨gw_664, List.forall_mem_cons.mpr ⟨gw_666, List.forall_mem_cons.mpr ⟨sp_20, List.forall_mem_cons.mpr ⟨gw_12, fun _ h => absurd h List.not_mem_nil⟩⟩⟩⟩) (gi_ws gw_667), rfl, by decide +kernel, by decide +kernel, by decide +kernel⟩
theorem sp_16 : Cond.selects RX5 yX5_refuse yX5_refuse ∈ gw := gw_mem (pv_in (y := yX5_refuse) (n := 7) (List.mem_of_getElem? (i := 16) (by decide +kernel))) (by decide +kernel)
theorem gV_RX5_57 : GV RX5 57 RX5 yX5_refuse cX5_refuse 3 (none : Option Jvm.ClassFile.FieldType) 2 := ⟨gi_app (List.forall_mem_cons.mpr ⟨gw_643, List.forall_mem_cons.mpr ⟨gw_645, List.forall_mem_cons.mpr ⟨sp_16, List.forall_mem_cons.mpr ⟨gw_12, fun _ h => absurd h List.not_mem_nil⟩⟩⟩⟩) (gi_ws gw_646), rfl, by decide +kernel, by decide +kernel, by decide +kernel⟩
theorem sp_15 : Cond.selects RX5 yX5_next yX5_next ∈ gw := gw_mem (pv_in (y := yX5_next) (n := 7) (List.mem_of_getElem? (i := 15) (by decide +kernel))) (by decide +kernel)
theorem gV_RX5_61 : GV RX5 61 RX5 yX5_next cX5_next 2 (some .int) 0 := ⟨gi_app (List.forall_mem_cons.mpr ⟨gw_636, List.forall_mem_cons.mpr ⟨gw_638, List.forall_mem_cons.mpr ⟨sp_15, List.forall_mem_cons.mpr ⟨gw_12, fun _ h => absurd h List.not_mem_nil⟩⟩⟩⟩) (gi_ws gw_639), rfl, by decide +kernel, by decide +kernel, by decide +kernel⟩
theorem gS_RX5_65 : GS RX5 65 yX5_isClauseLetter cX5_isClauseLetter 1 (some .boolean) 1 := ⟨gi_app (List.forall_mem_cons.mpr ⟨gw_640, List.forall_mem_cons.mpr ⟨gw_641, List.forall_mem_cons.mpr ⟨gw_12, fun _ h => absurd h List.not_mem_nil⟩⟩⟩) (gi_ws gw_642), by decide +kernel, by decide +kernel, by decide +kernel⟩
theorem sp_17 : Cond.selects RX5 yX5_digits yX5_digits ∈ gw := gw_mem (pv_in (y := yX5_digits) (n := 7) (List.mem_of_getElem? (i := 17) (by decide +kernel))) (by decide +kernel)
theorem gV_RX5_69 : GV RX5 69 RX5 yX5_digits cX5_digits 5 (some .int) 1 := ⟨gi_app (List.forall_mem_cons.mpr ⟨gw_648, List.forall_mem_cons.mpr ⟨gw_650, List.forall_mem_cons.mpr ⟨sp_17, List.forall_mem_cons.mpr ⟨gw_12, fun _ h => absurd h List.not_mem_nil⟩⟩⟩⟩) (gi_ws gw_651), rfl, by decide +kernel, by decide +kernel, by decide +kernel⟩
theorem sp_18 : Cond.selects RX5 yX5_set yX5_set ∈ gw := gw_mem (pv_in (y := yX5_set) (n := 7) (List.mem_of_getElem? (i := 18) (by decide +kernel))) (by decide +kernel)
theorem gV_RX5_73 : GV RX5 73 RX5 yX5_set cX5_set 3 (none : Option Jvm.ClassFile.FieldType) 2 := ⟨gi_app (List.forall_mem_cons.mpr ⟨gw_655, List.forall_mem_cons.mpr ⟨gw_657, List.forall_mem_cons.mpr ⟨sp_18, List.forall_mem_cons.mpr ⟨gw_12, fun _ h => absurd h List.not_mem_nil⟩⟩⟩⟩) (gi_ws gw_658), rfl, by decide +kernel, by decide +kernel, by decide +kernel⟩
theorem fl_RX5_77 : FL RX5 77 8 4 := ⟨(RX9, TX9, 5), rfl, by decide, lays_8, gw_587⟩
theorem sp_21 : Cond.selects RX5 yX5_deepen yX5_deepen ∈ gw := gw_mem (pv_in (y := yX5_deepen) (n := 7) (List.mem_of_getElem? (i := 21) (by decide +kernel))) (by decide +kernel)
theorem gV_RX5_80 : GV RX5 80 RX5 yX5_deepen cX5_deepen 2 (none : Option Jvm.ClassFile.FieldType) 1 := ⟨gi_app (List.forall_mem_cons.mpr ⟨gw_668, List.forall_mem_cons.mpr ⟨gw_670, List.forall_mem_cons.mpr ⟨sp_21, List.forall_mem_cons.mpr ⟨gw_12, fun _ h => absurd h List.not_mem_nil⟩⟩⟩⟩) (gi_ws gw_671), rfl, by decide +kernel, by decide +kernel, by decide +kernel⟩
theorem sp_22 : Cond.selects RX5 yX5_parts yX5_parts ∈ gw := gw_mem (pv_in (y := yX5_parts) (n := 7) (List.mem_of_getElem? (i := 22) (by decide +kernel))) (by decide +kernel)
theorem gV_RX5_83 : GV RX5 83 RX5 yX5_parts cX5_parts 3 (none : Option Jvm.ClassFile.FieldType) 0 := ⟨gi_app (List.forall_mem_cons.mpr ⟨gw_672, List.forall_mem_cons.mpr ⟨gw_674, List.forall_mem_cons.mpr ⟨sp_22, List.forall_mem_cons.mpr ⟨gw_12, fun _ h => absurd h List.not_mem_nil⟩⟩⟩⟩) (gi_ws gw_675), rfl, by decide +kernel, by decide +kernel, by decide +kernel⟩
theorem sp_23 : Cond.selects RX5 yX5_part yX5_part ∈ gw := gw_mem (pv_in (y := yX5_part) (n := 7) (List.mem_of_getElem? (i := 23) (by decide +kernel))) (by decide +kernel)
theorem gV_RX5_86 : GV RX5 86 RX5 yX5_part cX5_part 3 (none : Option Jvm.ClassFile.FieldType) 0 := ⟨gi_app (List.forall_mem_cons.mpr ⟨gw_676, List.forall_mem_cons.mpr ⟨gw_678, List.forall_mem_cons.mpr ⟨sp_23, List.forall_mem_cons.mpr ⟨gw_12, fun _ h => absurd h List.not_mem_nil⟩⟩⟩⟩) (gi_ws gw_679), rfl, by decide +kernel, by decide +kernel, by decide +kernel⟩
theorem gV_RX5_89 : GV RX5 89 RX9 yX9_lead cX9_lead 2 (none : Option Jvm.ClassFile.FieldType) 1 := ⟨gi_app (List.forall_mem_cons.mpr ⟨gw_798, List.forall_mem_cons.mpr ⟨gw_799, List.forall_mem_cons.mpr ⟨gw_800, List.forall_mem_cons.mpr ⟨gw_11, fun _ h => absurd h List.not_mem_nil⟩⟩⟩⟩) (gi_ws gw_801), rfl, by decide +kernel, by decide +kernel, by decide +kernel⟩
theorem gV_RX5_92 : GV RX5 92 RX9 yX9_addStep cX9_addStep 4 (some .int) 2 := ⟨gi_app (List.forall_mem_cons.mpr ⟨gw_688, List.forall_mem_cons.mpr ⟨gw_689, List.forall_mem_cons.mpr ⟨gw_690, List.forall_mem_cons.mpr ⟨gw_11, fun _ h => absurd h List.not_mem_nil⟩⟩⟩⟩) (gi_ws gw_691), rfl, by decide +kernel, by decide +kernel, by decide +kernel⟩
theorem sp_24 : Cond.selects RX5 yX5_piece yX5_piece ∈ gw := gw_mem (pv_in (y := yX5_piece) (n := 7) (List.mem_of_getElem? (i := 24) (by decide +kernel))) (by decide +kernel)
theorem gV_RX5_96 : GV RX5 96 RX5 yX5_piece cX5_piece 3 (none : Option Jvm.ClassFile.FieldType) 0 := ⟨gi_app (List.forall_mem_cons.mpr ⟨gw_680, List.forall_mem_cons.mpr ⟨gw_682, List.forall_mem_cons.mpr ⟨sp_24, List.forall_mem_cons.mpr ⟨gw_12, fun _ h => absurd h List.not_mem_nil⟩⟩⟩⟩) (gi_ws gw_683), rfl, by decide +kernel, by decide +kernel, by decide +kernel⟩
theorem sp_25 : Cond.selects RX5 yX5_negation yX5_negation ∈ gw := gw_mem (pv_in (y := yX5_negation) (n := 7) (List.mem_of_getElem? (i := 25) (by decide +kernel))) (by decide +kernel)
theorem gV_RX5_99 : GV RX5 99 RX5 yX5_negation cX5_negation 1 (none : Option Jvm.ClassFile.FieldType) 0 := ⟨gi_app (List.forall_mem_cons.mpr ⟨gw_684, List.forall_mem_cons.mpr ⟨gw_686, List.forall_mem_cons.mpr ⟨sp_25, List.forall_mem_cons.mpr ⟨gw_12, fun _ h => absurd h List.not_mem_nil⟩⟩⟩⟩) (gi_ws gw_687), rfl, by decide +kernel, by decide +kernel, by decide +kernel⟩
theorem sp_26 : Cond.selects RX5 yX5_terms yX5_terms ∈ gw := gw_mem (pv_in (y := yX5_terms) (n := 7) (List.mem_of_getElem? (i := 26) (by decide +kernel))) (by decide +kernel)
theorem gV_RX5_102 : GV RX5 102 RX5 yX5_terms cX5_terms 3 (none : Option Jvm.ClassFile.FieldType) 0 := ⟨gi_app (List.forall_mem_cons.mpr ⟨gw_693, List.forall_mem_cons.mpr ⟨gw_695, List.forall_mem_cons.mpr ⟨sp_26, List.forall_mem_cons.mpr ⟨gw_12, fun _ h => absurd h List.not_mem_nil⟩⟩⟩⟩) (gi_ws gw_696), rfl, by decide +kernel, by decide +kernel, by decide +kernel⟩
theorem sp_29 : Cond.selects RX5 yX5_comparison yX5_comparison ∈ gw := gw_mem (pv_in (y := yX5_comparison) (n := 7) (List.mem_of_getElem? (i := 29) (by decide +kernel))) (by decide +kernel)
theorem gV_RX5_105 : GV RX5 105 RX5 yX5_comparison cX5_comparison 2 (some .int) 1 := ⟨gi_app (List.forall_mem_cons.mpr ⟨gw_794, List.forall_mem_cons.mpr ⟨gw_796, List.forall_mem_cons.mpr ⟨sp_29, List.forall_mem_cons.mpr ⟨gw_12, fun _ h => absurd h List.not_mem_nil⟩⟩⟩⟩) (gi_ws gw_797), rfl, by decide +kernel, by decide +kernel, by decide +kernel⟩
theorem sp_27 : Cond.selects RX5 yX5_factors yX5_factors ∈ gw := gw_mem (pv_in (y := yX5_factors) (n := 7) (List.mem_of_getElem? (i := 27) (by decide +kernel))) (by decide +kernel)
theorem gV_RX5_108 : GV RX5 108 RX5 yX5_factors cX5_factors 3 (none : Option Jvm.ClassFile.FieldType) 0 := ⟨gi_app (List.forall_mem_cons.mpr ⟨gw_697, List.forall_mem_cons.mpr ⟨gw_699, List.forall_mem_cons.mpr ⟨sp_27, List.forall_mem_cons.mpr ⟨gw_12, fun _ h => absurd h List.not_mem_nil⟩⟩⟩⟩) (gi_ws gw_700), rfl, by decide +kernel, by decide +kernel, by decide +kernel⟩
theorem sp_28 : Cond.selects RX5 yX5_factor yX5_factor ∈ gw := gw_mem (pv_in (y := yX5_factor) (n := 7) (List.mem_of_getElem? (i := 28) (by decide +kernel))) (by decide +kernel)
theorem gV_RX5_111 : GV RX5 111 RX5 yX5_factor cX5_factor 3 (none : Option Jvm.ClassFile.FieldType) 0 := ⟨gi_app (List.forall_mem_cons.mpr ⟨gw_701, List.forall_mem_cons.mpr ⟨gw_703, List.forall_mem_cons.mpr ⟨sp_28, List.forall_mem_cons.mpr ⟨gw_12, fun _ h => absurd h List.not_mem_nil⟩⟩⟩⟩) (gi_ws gw_704), rfl, by decide +kernel, by decide +kernel, by decide +kernel⟩
theorem gS_RX5_114 : GS RX5 114 yX5_isFactorSign cX5_isFactorSign 1 (some .boolean) 1 := ⟨gi_app (List.forall_mem_cons.mpr ⟨gw_791, List.forall_mem_cons.mpr ⟨gw_792, List.forall_mem_cons.mpr ⟨gw_12, fun _ h => absurd h List.not_mem_nil⟩⟩⟩) (gi_ws gw_793), by decide +kernel, by decide +kernel, by decide +kernel⟩
theorem gV_RX5_119 : GV RX5 119 RJ0 yJ0_indexOf_0f7a4 cJ0_indexOf_0f7a4 2 (some .int) 1 := ⟨gi_app (List.forall_mem_cons.mpr ⟨gw_706, List.forall_mem_cons.mpr ⟨gw_707, List.forall_mem_cons.mpr ⟨gw_708, List.forall_mem_cons.mpr ⟨gw_13, fun _ h => absurd h List.not_mem_nil⟩⟩⟩⟩) (gi_ws gw_709), rfl, by decide +kernel, by decide +kernel, by decide +kernel⟩
theorem gS_RX5_124 : GS RX5 124 yX5_isDigit cX5_isDigit 1 (some .boolean) 1 := ⟨gi_app (List.forall_mem_cons.mpr ⟨gw_652, List.forall_mem_cons.mpr ⟨gw_653, List.forall_mem_cons.mpr ⟨gw_12, fun _ h => absurd h List.not_mem_nil⟩⟩⟩) (gi_ws gw_654), by decide +kernel, by decide +kernel, by decide +kernel⟩
theorem fl_RX5_127 : FL RX5 127 7 3 := ⟨(RX8, TX8, 4), rfl, by decide, lays_7, gw_116⟩
theorem gV_RX5_130 : GV RX5 130 RX8 yX8_put cX8_put 6 (none : Option Jvm.ClassFile.FieldType) 3 := ⟨gi_app (List.forall_mem_cons.mpr ⟨gw_659, List.forall_mem_cons.mpr ⟨gw_560, List.forall_mem_cons.mpr ⟨gw_561, List.forall_mem_cons.mpr ⟨gw_5, fun _ h => absurd h List.not_mem_nil⟩⟩⟩⟩) (gi_ws gw_562), rfl, by decide +kernel, by decide +kernel, by decide +kernel⟩
theorem gI_RX6_11 : GI RX6 11 yX8_init cX8_init 3 2 := ⟨gi_ws gw_102, gw_5, gw_179, gw_101, rfl, by decide +kernel, by decide +kernel, by decide +kernel⟩
theorem fl_RX6_14 : FL RX6 14 5 0 := ⟨(RX6, TX6, 10), rfl, by decide, lays_5, gw_181⟩
theorem fp_RX6_14 : FP RX6 14 5 0 (.object RX8) true := ⟨(RX6, TX6, 10), tyX6, rfl, by decide, lays_5, gw_181, tyX6_ok, nmX6, rfl, by decide +kernel, fun _ => rfl⟩
theorem fl_RX6_20 : FL RX6 20 5 1 := ⟨(RX6, TX6, 10), rfl, by decide, lays_5, gw_183⟩
theorem fp_RX6_20 : FP RX6 20 5 1 (.array .int) true := ⟨(RX6, TX6, 10), tyX6, rfl, by decide, lays_5, gw_183, tyX6_ok, nmX6, rfl, by decide +kernel, fun _ => rfl⟩
theorem fl_RX6_24 : FL RX6 24 5 2 := ⟨(RX6, TX6, 10), rfl, by decide, lays_5, gw_185⟩
theorem fp_RX6_24 : FP RX6 24 5 2 (.array .int) true := ⟨(RX6, TX6, 10), tyX6, rfl, by decide, lays_5, gw_185, tyX6_ok, nmX6, rfl, by decide +kernel, fun _ => rfl⟩
theorem fl_RX6_27 : FL RX6 27 5 3 := ⟨(RX6, TX6, 10), rfl, by decide, lays_5, gw_187⟩
theorem fp_RX6_27 : FP RX6 27 5 3 (.array .int) true := ⟨(RX6, TX6, 10), tyX6, rfl, by decide, lays_5, gw_187, tyX6_ok, nmX6, rfl, by decide +kernel, fun _ => rfl⟩
theorem fl_RX6_30 : FL RX6 30 5 4 := ⟨(RX6, TX6, 10), rfl, by decide, lays_5, gw_189⟩
theorem fp_RX6_30 : FP RX6 30 5 4 (.array .int) true := ⟨(RX6, TX6, 10), tyX6, rfl, by decide, lays_5, gw_189, tyX6_ok, nmX6, rfl, by decide +kernel, fun _ => rfl⟩
theorem fl_RX6_33 : FL RX6 33 5 5 := ⟨(RX6, TX6, 10), rfl, by decide, lays_5, gw_190⟩
theorem fp_RX6_33 : FP RX6 33 5 5 (.array .int) true := ⟨(RX6, TX6, 10), tyX6, rfl, by decide, lays_5, gw_190, tyX6_ok, nmX6, rfl, by decide +kernel, fun _ => rfl⟩
theorem fl_RX6_36 : FL RX6 36 5 6 := ⟨(RX6, TX6, 10), rfl, by decide, lays_5, gw_191⟩
theorem fp_RX6_36 : FP RX6 36 5 6 (.array .int) true := ⟨(RX6, TX6, 10), tyX6, rfl, by decide, lays_5, gw_191, tyX6_ok, nmX6, rfl, by decide +kernel, fun _ => rfl⟩
theorem fl_RX6_39 : FL RX6 39 5 7 := ⟨(RX6, TX6, 10), rfl, by decide, lays_5, gw_192⟩
theorem fp_RX6_39 : FP RX6 39 5 7 (.array .int) true := ⟨(RX6, TX6, 10), tyX6, rfl, by decide, lays_5, gw_192, tyX6_ok, nmX6, rfl, by decide +kernel, fun _ => rfl⟩
theorem fl_RX6_42 : FL RX6 42 5 8 := ⟨(RX6, TX6, 10), rfl, by decide, lays_5, gw_194⟩
theorem fp_RX6_42 : FP RX6 42 5 8 .int false := ⟨(RX6, TX6, 10), tyX6, rfl, by decide, lays_5, gw_194, tyX6_ok, nmX6, rfl, by decide +kernel, fun h => by cases h⟩
theorem fl_RX6_46 : FL RX6 46 5 9 := ⟨(RX6, TX6, 10), rfl, by decide, lays_5, gw_196⟩
theorem fp_RX6_46 : FP RX6 46 5 9 .int false := ⟨(RX6, TX6, 10), tyX6, rfl, by decide, lays_5, gw_196, tyX6_ok, nmX6, rfl, by decide +kernel, fun h => by cases h⟩
theorem gS_RX6_49 : GS RX6 49 yX4_fill cX4_fill 3 (none : Option Jvm.ClassFile.FieldType) 2 := ⟨gi_app (List.forall_mem_cons.mpr ⟨gw_180, List.forall_mem_cons.mpr ⟨gw_36, List.forall_mem_cons.mpr ⟨gw_3, fun _ h => absurd h List.not_mem_nil⟩⟩⟩) (gi_ws gw_37), by decide +kernel, by decide +kernel, by decide +kernel⟩
theorem fl_RX6_55 : FL RX6 55 7 3 := ⟨(RX8, TX8, 4), rfl, by decide, lays_7, gw_112⟩
theorem gV_RX6_58 : GV RX6 58 RX8 yX8_get cX8_get 5 (some .int) 2 := ⟨gi_app (List.forall_mem_cons.mpr ⟨gw_1364, List.forall_mem_cons.mpr ⟨gw_408, List.forall_mem_cons.mpr ⟨gw_409, List.forall_mem_cons.mpr ⟨gw_5, fun _ h => absurd h List.not_mem_nil⟩⟩⟩⟩) (gi_ws gw_410), rfl, by decide +kernel, by decide +kernel, by decide +kernel⟩
theorem sp_64 : Cond.selects RX6 yX6_lookAhead yX6_lookAhead ∈ gw := gw_mem (pv_in (y := yX6_lookAhead) (n := 10) (List.mem_of_getElem? (i := 64) (by decide +kernel))) (by decide +kernel)
theorem gV_RX6_62 : GV RX6 62 RX6 yX6_lookAhead cX6_lookAhead 3 (none : Option Jvm.ClassFile.FieldType) 0 := ⟨gi_app (List.forall_mem_cons.mpr ⟨gw_1385, List.forall_mem_cons.mpr ⟨gw_1387, List.forall_mem_cons.mpr ⟨sp_64, List.forall_mem_cons.mpr ⟨gw_7, fun _ h => absurd h List.not_mem_nil⟩⟩⟩⟩) (gi_ws gw_1388), rfl, by decide +kernel, by decide +kernel, by decide +kernel⟩
theorem sp_66 : Cond.selects RX6 yX6_extend yX6_extend ∈ gw := gw_mem (pv_in (y := yX6_extend) (n := 10) (List.mem_of_getElem? (i := 66) (by decide +kernel))) (by decide +kernel)
theorem gV_RX6_65 : GV RX6 65 RX6 yX6_extend cX6_extend 4 (none : Option Jvm.ClassFile.FieldType) 2 := ⟨gi_app (List.forall_mem_cons.mpr ⟨gw_1397, List.forall_mem_cons.mpr ⟨gw_1399, List.forall_mem_cons.mpr ⟨sp_66, List.forall_mem_cons.mpr ⟨gw_7, fun _ h => absurd h List.not_mem_nil⟩⟩⟩⟩) (gi_ws gw_1400), rfl, by decide +kernel, by decide +kernel, by decide +kernel⟩
theorem sp_65 : Cond.selects RX6 yX6_leastAhead yX6_leastAhead ∈ gw := gw_mem (pv_in (y := yX6_leastAhead) (n := 10) (List.mem_of_getElem? (i := 65) (by decide +kernel))) (by decide +kernel)
theorem gV_RX6_68 : GV RX6 68 RX6 yX6_leastAhead cX6_leastAhead 6 (some .int) 2 := ⟨gi_app (List.forall_mem_cons.mpr ⟨gw_1389, List.forall_mem_cons.mpr ⟨gw_1391, List.forall_mem_cons.mpr ⟨sp_65, List.forall_mem_cons.mpr ⟨gw_7, fun _ h => absurd h List.not_mem_nil⟩⟩⟩⟩) (gi_ws gw_1392), rfl, by decide +kernel, by decide +kernel, by decide +kernel⟩
theorem gS_RX6_71 : GS RX6 71 yX4_put cX4_put 3 (none : Option Jvm.ClassFile.FieldType) 3 := ⟨gi_app (List.forall_mem_cons.mpr ⟨gw_1396, List.forall_mem_cons.mpr ⟨gw_231, List.forall_mem_cons.mpr ⟨gw_3, fun _ h => absurd h List.not_mem_nil⟩⟩⟩) (gi_ws gw_232), by decide +kernel, by decide +kernel, by decide +kernel⟩
theorem gS_RX6_75 : GS RX6 75 yX4_get cX4_get 2 (some .int) 2 := ⟨gi_app (List.forall_mem_cons.mpr ⟨gw_1393, List.forall_mem_cons.mpr ⟨gw_395, List.forall_mem_cons.mpr ⟨gw_3, fun _ h => absurd h List.not_mem_nil⟩⟩⟩) (gi_ws gw_396), by decide +kernel, by decide +kernel, by decide +kernel⟩
theorem gS_RX6_78 : GS RX6 78 yJ9_min_7cf53 cJ9_min_7cf53 2 (some .int) 2 := ⟨gi_app (List.forall_mem_cons.mpr ⟨gw_1394, List.forall_mem_cons.mpr ⟨gw_736, List.forall_mem_cons.mpr ⟨gw_6, fun _ h => absurd h List.not_mem_nil⟩⟩⟩) (gi_ws gw_737), by decide +kernel, by decide +kernel, by decide +kernel⟩
theorem gS_RX6_83 : GS RX6 83 yJ9_max_7cf53 cJ9_max_7cf53 2 (some .int) 2 := ⟨gi_app (List.forall_mem_cons.mpr ⟨gw_1395, List.forall_mem_cons.mpr ⟨gw_105, List.forall_mem_cons.mpr ⟨gw_6, fun _ h => absurd h List.not_mem_nil⟩⟩⟩) (gi_ws gw_106), by decide +kernel, by decide +kernel, by decide +kernel⟩
theorem sp_67 : Cond.selects RX6 yX6_comes yX6_comes ∈ gw := gw_mem (pv_in (y := yX6_comes) (n := 10) (List.mem_of_getElem? (i := 67) (by decide +kernel))) (by decide +kernel)
theorem gV_RX6_86 : GV RX6 86 RX6 yX6_comes cX6_comes 10 (some .boolean) 3 := ⟨gi_app (List.forall_mem_cons.mpr ⟨gw_1401, List.forall_mem_cons.mpr ⟨gw_1403, List.forall_mem_cons.mpr ⟨sp_67, List.forall_mem_cons.mpr ⟨gw_7, fun _ h => absurd h List.not_mem_nil⟩⟩⟩⟩) (gi_ws gw_1404), rfl, by decide +kernel, by decide +kernel, by decide +kernel⟩
theorem sp_68 : Cond.selects RX6 yX6_goOn yX6_goOn ∈ gw := gw_mem (pv_in (y := yX6_goOn) (n := 10) (List.mem_of_getElem? (i := 68) (by decide +kernel))) (by decide +kernel)
theorem gV_RX6_90 : GV RX6 90 RX6 yX6_goOn cX6_goOn 3 (none : Option Jvm.ClassFile.FieldType) 2 := ⟨gi_app (List.forall_mem_cons.mpr ⟨gw_1405, List.forall_mem_cons.mpr ⟨gw_1407, List.forall_mem_cons.mpr ⟨sp_68, List.forall_mem_cons.mpr ⟨gw_7, fun _ h => absurd h List.not_mem_nil⟩⟩⟩⟩) (gi_ws gw_1408), rfl, by decide +kernel, by decide +kernel, by decide +kernel⟩
theorem sp_69 : Cond.selects RX6 yX6_keep yX6_keep ∈ gw := gw_mem (pv_in (y := yX6_keep) (n := 10) (List.mem_of_getElem? (i := 69) (by decide +kernel))) (by decide +kernel)
theorem gV_RX6_93 : GV RX6 93 RX6 yX6_keep cX6_keep 3 (none : Option Jvm.ClassFile.FieldType) 0 := ⟨gi_app (List.forall_mem_cons.mpr ⟨gw_1409, List.forall_mem_cons.mpr ⟨gw_1411, List.forall_mem_cons.mpr ⟨sp_69, List.forall_mem_cons.mpr ⟨gw_7, fun _ h => absurd h List.not_mem_nil⟩⟩⟩⟩) (gi_ws gw_1412), rfl, by decide +kernel, by decide +kernel, by decide +kernel⟩
theorem fl_RX7_9 : FL RX7 9 6 3 := ⟨(RX7, TX7, 11), rfl, by decide, lays_6, gw_1056⟩
theorem fp_RX7_9 : FP RX7 9 6 3 .int false := ⟨(RX7, TX7, 11), tyX7, rfl, by decide, lays_6, gw_1056, tyX7_ok, nmX7, rfl, by decide +kernel, fun h => by cases h⟩
theorem fl_RX7_15 : FL RX7 15 6 4 := ⟨(RX7, TX7, 11), rfl, by decide, lays_6, gw_1058⟩
theorem fp_RX7_15 : FP RX7 15 6 4 .int false := ⟨(RX7, TX7, 11), tyX7, rfl, by decide, lays_6, gw_1058, tyX7_ok, nmX7, rfl, by decide +kernel, fun h => by cases h⟩
theorem fl_RX7_18 : FL RX7 18 6 5 := ⟨(RX7, TX7, 11), rfl, by decide, lays_6, gw_1060⟩
theorem fp_RX7_18 : FP RX7 18 6 5 .int false := ⟨(RX7, TX7, 11), tyX7, rfl, by decide, lays_6, gw_1060, tyX7_ok, nmX7, rfl, by decide +kernel, fun h => by cases h⟩
theorem fl_RX7_21 : FL RX7 21 6 6 := ⟨(RX7, TX7, 11), rfl, by decide, lays_6, gw_1062⟩
theorem fp_RX7_21 : FP RX7 21 6 6 .int false := ⟨(RX7, TX7, 11), tyX7, rfl, by decide, lays_6, gw_1062, tyX7_ok, nmX7, rfl, by decide +kernel, fun h => by cases h⟩
theorem fl_RX7_24 : FL RX7 24 6 7 := ⟨(RX7, TX7, 11), rfl, by decide, lays_6, gw_1064⟩
theorem fp_RX7_24 : FP RX7 24 6 7 .int false := ⟨(RX7, TX7, 11), tyX7, rfl, by decide, lays_6, gw_1064, tyX7_ok, nmX7, rfl, by decide +kernel, fun h => by cases h⟩
theorem fl_RX7_27 : FL RX7 27 6 8 := ⟨(RX7, TX7, 11), rfl, by decide, lays_6, gw_1066⟩
theorem fp_RX7_27 : FP RX7 27 6 8 .int false := ⟨(RX7, TX7, 11), tyX7, rfl, by decide, lays_6, gw_1066, tyX7_ok, nmX7, rfl, by decide +kernel, fun h => by cases h⟩
theorem fl_RX7_30 : FL RX7 30 6 9 := ⟨(RX7, TX7, 11), rfl, by decide, lays_6, gw_1068⟩
theorem fp_RX7_30 : FP RX7 30 6 9 .int false := ⟨(RX7, TX7, 11), tyX7, rfl, by decide, lays_6, gw_1068, tyX7_ok, nmX7, rfl, by decide +kernel, fun h => by cases h⟩
theorem fl_RX7_33 : FL RX7 33 6 10 := ⟨(RX7, TX7, 11), rfl, by decide, lays_6, gw_1070⟩
theorem fp_RX7_33 : FP RX7 33 6 10 .int false := ⟨(RX7, TX7, 11), tyX7, rfl, by decide, lays_6, gw_1070, tyX7_ok, nmX7, rfl, by decide +kernel, fun h => by cases h⟩
theorem fl_RX7_36 : FL RX7 36 6 0 := ⟨(RX7, TX7, 11), rfl, by decide, lays_6, gw_1050⟩
theorem fp_RX7_36 : FP RX7 36 6 0 .int true := ⟨(RX7, TX7, 11), tyX7, rfl, by decide, lays_6, gw_1050, tyX7_ok, nmX7, rfl, by decide +kernel, fun _ => rfl⟩
theorem fl_RX7_39 : FL RX7 39 6 1 := ⟨(RX7, TX7, 11), rfl, by decide, lays_6, gw_1052⟩
theorem fp_RX7_39 : FP RX7 39 6 1 .int true := ⟨(RX7, TX7, 11), tyX7, rfl, by decide, lays_6, gw_1052, tyX7_ok, nmX7, rfl, by decide +kernel, fun _ => rfl⟩
theorem fl_RX7_42 : FL RX7 42 6 2 := ⟨(RX7, TX7, 11), rfl, by decide, lays_6, gw_1054⟩
theorem fp_RX7_42 : FP RX7 42 6 2 .int true := ⟨(RX7, TX7, 11), tyX7, rfl, by decide, lays_6, gw_1054, tyX7_ok, nmX7, rfl, by decide +kernel, fun _ => rfl⟩
theorem fl_RX8_9 : FL RX8 9 7 3 := ⟨(RX8, TX8, 4), rfl, by decide, lays_7, gw_111⟩
theorem fp_RX8_9 : FP RX8 9 7 3 .int false := ⟨(RX8, TX8, 4), tyX8, rfl, by decide, lays_7, gw_111, tyX8_ok, nmX8, rfl, by decide +kernel, fun h => by cases h⟩
theorem fl_RX8_15 : FL RX8 15 7 0 := ⟨(RX8, TX8, 4), rfl, by decide, lays_7, gw_107⟩
theorem fp_RX8_15 : FP RX8 15 7 0 .int true := ⟨(RX8, TX8, 4), tyX8, rfl, by decide, lays_7, gw_107, tyX8_ok, nmX8, rfl, by decide +kernel, fun _ => rfl⟩
theorem fl_RX8_18 : FL RX8 18 7 1 := ⟨(RX8, TX8, 4), rfl, by decide, lays_7, gw_108⟩
theorem fp_RX8_18 : FP RX8 18 7 1 .int true := ⟨(RX8, TX8, 4), tyX8, rfl, by decide, lays_7, gw_108, tyX8_ok, nmX8, rfl, by decide +kernel, fun _ => rfl⟩
theorem gS_RX8_21 : GS RX8 21 yJ9_max_7cf53 cJ9_max_7cf53 2 (some .int) 2 := ⟨gi_app (List.forall_mem_cons.mpr ⟨gw_104, List.forall_mem_cons.mpr ⟨gw_105, List.forall_mem_cons.mpr ⟨gw_6, fun _ h => absurd h List.not_mem_nil⟩⟩⟩) (gi_ws gw_106), by decide +kernel, by decide +kernel, by decide +kernel⟩
theorem fl_RX8_27 : FL RX8 27 7 2 := ⟨(RX8, TX8, 4), rfl, by decide, lays_7, gw_109⟩
theorem fp_RX8_27 : FP RX8 27 7 2 (.array .int) true := ⟨(RX8, TX8, 4), tyX8, rfl, by decide, lays_7, gw_109, tyX8_ok, nmX8, rfl, by decide +kernel, fun _ => rfl⟩
theorem gV_RX8_31 : GV RX8 31 RX8 yX8_isFull cX8_isFull 1 (some .boolean) 0 := ⟨gi_app (List.forall_mem_cons.mpr ⟨gw_555, List.forall_mem_cons.mpr ⟨gw_556, List.forall_mem_cons.mpr ⟨gw_557, List.forall_mem_cons.mpr ⟨gw_5, fun _ h => absurd h List.not_mem_nil⟩⟩⟩⟩) (gi_ws gw_558), rfl, by decide +kernel, by decide +kernel, by decide +kernel⟩
theorem gV_RX8_35 : GV RX8 35 RX8 yX8_put cX8_put 6 (none : Option Jvm.ClassFile.FieldType) 3 := ⟨gi_app (List.forall_mem_cons.mpr ⟨gw_559, List.forall_mem_cons.mpr ⟨gw_560, List.forall_mem_cons.mpr ⟨gw_561, List.forall_mem_cons.mpr ⟨gw_5, fun _ h => absurd h List.not_mem_nil⟩⟩⟩⟩) (gi_ws gw_562), rfl, by decide +kernel, by decide +kernel, by decide +kernel⟩
theorem fl_RX9_9 : FL RX9 9 8 4 := ⟨(RX9, TX9, 5), rfl, by decide, lays_8, gw_586⟩
theorem fp_RX9_9 : FP RX9 9 8 4 .int false := ⟨(RX9, TX9, 5), tyX9, rfl, by decide, lays_8, gw_586, tyX9_ok, nmX9, rfl, by decide +kernel, fun h => by cases h⟩
theorem fl_RX9_15 : FL RX9 15 8 0 := ⟨(RX9, TX9, 5), rfl, by decide, lays_8, gw_579⟩
theorem fp_RX9_15 : FP RX9 15 8 0 .int true := ⟨(RX9, TX9, 5), tyX9, rfl, by decide, lays_8, gw_579, tyX9_ok, nmX9, rfl, by decide +kernel, fun _ => rfl⟩
theorem fl_RX9_18 : FL RX9 18 8 1 := ⟨(RX9, TX9, 5), rfl, by decide, lays_8, gw_580⟩
theorem fp_RX9_18 : FP RX9 18 8 1 .int true := ⟨(RX9, TX9, 5), tyX9, rfl, by decide, lays_8, gw_580, tyX9_ok, nmX9, rfl, by decide +kernel, fun _ => rfl⟩
theorem gI_RX9_23 : GI RX9 23 yX8_init cX8_init 3 2 := ⟨gi_ws gw_102, gw_5, gw_577, gw_101, rfl, by decide +kernel, by decide +kernel, by decide +kernel⟩
theorem fl_RX9_26 : FL RX9 26 8 2 := ⟨(RX9, TX9, 5), rfl, by decide, lays_8, gw_581⟩
theorem fp_RX9_26 : FP RX9 26 8 2 (.object RX8) true := ⟨(RX9, TX9, 5), tyX9, rfl, by decide, lays_8, gw_581, tyX9_ok, nmX9, rfl, by decide +kernel, fun _ => rfl⟩
theorem gS_RX9_30 : GS RX9 30 yJ9_max_7cf53 cJ9_max_7cf53 2 (some .int) 2 := ⟨gi_app (List.forall_mem_cons.mpr ⟨gw_578, List.forall_mem_cons.mpr ⟨gw_105, List.forall_mem_cons.mpr ⟨gw_6, fun _ h => absurd h List.not_mem_nil⟩⟩⟩) (gi_ws gw_106), by decide +kernel, by decide +kernel, by decide +kernel⟩
theorem fl_RX9_36 : FL RX9 36 8 3 := ⟨(RX9, TX9, 5), rfl, by decide, lays_8, gw_584⟩
theorem fp_RX9_36 : FP RX9 36 8 3 (.array .int) true := ⟨(RX9, TX9, 5), tyX9, rfl, by decide, lays_8, gw_584, tyX9_ok, nmX9, rfl, by decide +kernel, fun _ => rfl⟩
theorem gV_RX9_40 : GV RX9 40 RX8 yX8_get cX8_get 5 (some .int) 2 := ⟨gi_app (List.forall_mem_cons.mpr ⟨gw_419, List.forall_mem_cons.mpr ⟨gw_408, List.forall_mem_cons.mpr ⟨gw_409, List.forall_mem_cons.mpr ⟨gw_5, fun _ h => absurd h List.not_mem_nil⟩⟩⟩⟩) (gi_ws gw_410), rfl, by decide +kernel, by decide +kernel, by decide +kernel⟩
theorem gV_RX9_43 : GV RX9 43 RX8 yX8_has cX8_has 2 (some .boolean) 1 := ⟨gi_app (List.forall_mem_cons.mpr ⟨gw_831, List.forall_mem_cons.mpr ⟨gw_832, List.forall_mem_cons.mpr ⟨gw_833, List.forall_mem_cons.mpr ⟨gw_5, fun _ h => absurd h List.not_mem_nil⟩⟩⟩⟩) (gi_ws gw_834), rfl, by decide +kernel, by decide +kernel, by decide +kernel⟩
theorem gS_RX9_47 : GS RX9 47 yX4_put cX4_put 3 (none : Option Jvm.ClassFile.FieldType) 3 := ⟨gi_app (List.forall_mem_cons.mpr ⟨gw_692, List.forall_mem_cons.mpr ⟨gw_231, List.forall_mem_cons.mpr ⟨gw_3, fun _ h => absurd h List.not_mem_nil⟩⟩⟩) (gi_ws gw_232), by decide +kernel, by decide +kernel, by decide +kernel⟩
theorem gS_RX9_53 : GS RX9 53 yX4_get cX4_get 2 (some .int) 2 := ⟨gi_app (List.forall_mem_cons.mpr ⟨gw_802, List.forall_mem_cons.mpr ⟨gw_395, List.forall_mem_cons.mpr ⟨gw_3, fun _ h => absurd h List.not_mem_nil⟩⟩⟩) (gi_ws gw_396), by decide +kernel, by decide +kernel, by decide +kernel⟩
theorem fl_RX10_9 : FL RX10 9 9 5 := ⟨(RX10, TX10, 15), rfl, by decide, lays_9, gw_892⟩
theorem fp_RX10_9 : FP RX10 9 9 5 .int false := ⟨(RX10, TX10, 15), tyX10, rfl, by decide, lays_9, gw_892, tyX10_ok, nmX10, rfl, by decide +kernel, fun h => by cases h⟩
theorem fl_RX10_15 : FL RX10 15 9 6 := ⟨(RX10, TX10, 15), rfl, by decide, lays_9, gw_894⟩
theorem fp_RX10_15 : FP RX10 15 9 6 .int false := ⟨(RX10, TX10, 15), tyX10, rfl, by decide, lays_9, gw_894, tyX10_ok, nmX10, rfl, by decide +kernel, fun h => by cases h⟩
theorem fl_RX10_18 : FL RX10 18 9 7 := ⟨(RX10, TX10, 15), rfl, by decide, lays_9, gw_896⟩
theorem fp_RX10_18 : FP RX10 18 9 7 .int false := ⟨(RX10, TX10, 15), tyX10, rfl, by decide, lays_9, gw_896, tyX10_ok, nmX10, rfl, by decide +kernel, fun h => by cases h⟩
theorem fl_RX10_21 : FL RX10 21 9 8 := ⟨(RX10, TX10, 15), rfl, by decide, lays_9, gw_898⟩
theorem fp_RX10_21 : FP RX10 21 9 8 .int false := ⟨(RX10, TX10, 15), tyX10, rfl, by decide, lays_9, gw_898, tyX10_ok, nmX10, rfl, by decide +kernel, fun h => by cases h⟩
theorem fl_RX10_24 : FL RX10 24 9 9 := ⟨(RX10, TX10, 15), rfl, by decide, lays_9, gw_900⟩
theorem fp_RX10_24 : FP RX10 24 9 9 .int false := ⟨(RX10, TX10, 15), tyX10, rfl, by decide, lays_9, gw_900, tyX10_ok, nmX10, rfl, by decide +kernel, fun h => by cases h⟩
theorem fl_RX10_27 : FL RX10 27 9 10 := ⟨(RX10, TX10, 15), rfl, by decide, lays_9, gw_903⟩
theorem fp_RX10_27 : FP RX10 27 9 10 .int false := ⟨(RX10, TX10, 15), tyX10, rfl, by decide, lays_9, gw_903, tyX10_ok, nmX10, rfl, by decide +kernel, fun h => by cases h⟩
theorem fl_RX10_30 : FL RX10 30 9 11 := ⟨(RX10, TX10, 15), rfl, by decide, lays_9, gw_906⟩
theorem fp_RX10_30 : FP RX10 30 9 11 .int false := ⟨(RX10, TX10, 15), tyX10, rfl, by decide, lays_9, gw_906, tyX10_ok, nmX10, rfl, by decide +kernel, fun h => by cases h⟩
theorem fl_RX10_33 : FL RX10 33 9 12 := ⟨(RX10, TX10, 15), rfl, by decide, lays_9, gw_909⟩
theorem fp_RX10_33 : FP RX10 33 9 12 .int false := ⟨(RX10, TX10, 15), tyX10, rfl, by decide, lays_9, gw_909, tyX10_ok, nmX10, rfl, by decide +kernel, fun h => by cases h⟩
theorem fl_RX10_36 : FL RX10 36 9 13 := ⟨(RX10, TX10, 15), rfl, by decide, lays_9, gw_911⟩
theorem fp_RX10_36 : FP RX10 36 9 13 .int false := ⟨(RX10, TX10, 15), tyX10, rfl, by decide, lays_9, gw_911, tyX10_ok, nmX10, rfl, by decide +kernel, fun h => by cases h⟩
theorem fl_RX10_39 : FL RX10 39 9 14 := ⟨(RX10, TX10, 15), rfl, by decide, lays_9, gw_913⟩
theorem fp_RX10_39 : FP RX10 39 9 14 .int false := ⟨(RX10, TX10, 15), tyX10, rfl, by decide, lays_9, gw_913, tyX10_ok, nmX10, rfl, by decide +kernel, fun h => by cases h⟩
theorem fl_RX10_42 : FL RX10 42 9 0 := ⟨(RX10, TX10, 15), rfl, by decide, lays_9, gw_880⟩
theorem fp_RX10_42 : FP RX10 42 9 0 .int true := ⟨(RX10, TX10, 15), tyX10, rfl, by decide, lays_9, gw_880, tyX10_ok, nmX10, rfl, by decide +kernel, fun _ => rfl⟩
theorem fl_RX10_45 : FL RX10 45 9 1 := ⟨(RX10, TX10, 15), rfl, by decide, lays_9, gw_882⟩
theorem fp_RX10_45 : FP RX10 45 9 1 .int true := ⟨(RX10, TX10, 15), tyX10, rfl, by decide, lays_9, gw_882, tyX10_ok, nmX10, rfl, by decide +kernel, fun _ => rfl⟩
theorem fl_RX10_48 : FL RX10 48 9 2 := ⟨(RX10, TX10, 15), rfl, by decide, lays_9, gw_885⟩
theorem fp_RX10_48 : FP RX10 48 9 2 .int true := ⟨(RX10, TX10, 15), tyX10, rfl, by decide, lays_9, gw_885, tyX10_ok, nmX10, rfl, by decide +kernel, fun _ => rfl⟩
theorem fl_RX10_51 : FL RX10 51 9 3 := ⟨(RX10, TX10, 15), rfl, by decide, lays_9, gw_887⟩
theorem fp_RX10_51 : FP RX10 51 9 3 .int true := ⟨(RX10, TX10, 15), tyX10, rfl, by decide, lays_9, gw_887, tyX10_ok, nmX10, rfl, by decide +kernel, fun _ => rfl⟩
theorem fl_RX10_54 : FL RX10 54 9 4 := ⟨(RX10, TX10, 15), rfl, by decide, lays_9, gw_890⟩
theorem fp_RX10_54 : FP RX10 54 9 4 .int true := ⟨(RX10, TX10, 15), tyX10, rfl, by decide, lays_9, gw_890, tyX10_ok, nmX10, rfl, by decide +kernel, fun _ => rfl⟩
theorem gI_RX11_11 : GI RX11 11 yX0_init cX0_init 1 0 := ⟨gi_ws gw_33, gw_2, gw_31, gw_32, rfl, by decide +kernel, by decide +kernel, by decide +kernel⟩
theorem fl_RX11_12 : FL RX11 12 10 0 := ⟨(RX11, TX11, 20), rfl, by decide, lays_10, gw_233⟩
theorem fp_RX11_12 : FP RX11 12 10 0 (.object RX0) true := ⟨(RX11, TX11, 20), tyX11, rfl, by decide, lays_10, gw_233, tyX11_ok, nmX11, rfl, by decide +kernel, fun _ => rfl⟩
theorem fl_RX11_19 : FL RX11 19 10 1 := ⟨(RX11, TX11, 20), rfl, by decide, lays_10, gw_234⟩
theorem fp_RX11_19 : FP RX11 19 10 1 (.object RX1) true := ⟨(RX11, TX11, 20), tyX11, rfl, by decide, lays_10, gw_234, tyX11_ok, nmX11, rfl, by decide +kernel, fun _ => rfl⟩
theorem gI_RX11_25 : GI RX11 25 yX6_init cX6_init 1 0 := ⟨gi_ws gw_176, gw_7, gw_174, gw_175, rfl, by decide +kernel, by decide +kernel, by decide +kernel⟩
theorem fl_RX11_26 : FL RX11 26 10 2 := ⟨(RX11, TX11, 20), rfl, by decide, lays_10, gw_235⟩
theorem fp_RX11_26 : FP RX11 26 10 2 (.object RX6) true := ⟨(RX11, TX11, 20), tyX11, rfl, by decide, lays_10, gw_235, tyX11_ok, nmX11, rfl, by decide +kernel, fun _ => rfl⟩
theorem fl_RX11_32 : FL RX11 32 10 3 := ⟨(RX11, TX11, 20), rfl, by decide, lays_10, gw_236⟩
theorem fp_RX11_32 : FP RX11 32 10 3 (.array (.object RX2)) true := ⟨(RX11, TX11, 20), tyX11, rfl, by decide, lays_10, gw_236, tyX11_ok, nmX11, rfl, by decide +kernel, fun _ => rfl⟩
theorem fl_RX11_36 : FL RX11 36 10 4 := ⟨(RX11, TX11, 20), rfl, by decide, lays_10, gw_237⟩
theorem fp_RX11_36 : FP RX11 36 10 4 .int false := ⟨(RX11, TX11, 20), tyX11, rfl, by decide, lays_10, gw_237, tyX11_ok, nmX11, rfl, by decide +kernel, fun h => by cases h⟩
theorem fl_RX11_42 : FL RX11 42 10 5 := ⟨(RX11, TX11, 20), rfl, by decide, lays_10, gw_238⟩
theorem fp_RX11_42 : FP RX11 42 10 5 (.array (.object RX3)) true := ⟨(RX11, TX11, 20), tyX11, rfl, by decide, lays_10, gw_238, tyX11_ok, nmX11, rfl, by decide +kernel, fun _ => rfl⟩
theorem fl_RX11_46 : FL RX11 46 10 6 := ⟨(RX11, TX11, 20), rfl, by decide, lays_10, gw_239⟩
theorem fp_RX11_46 : FP RX11 46 10 6 .int false := ⟨(RX11, TX11, 20), tyX11, rfl, by decide, lays_10, gw_239, tyX11_ok, nmX11, rfl, by decide +kernel, fun h => by cases h⟩
theorem fl_RX11_51 : FL RX11 51 10 7 := ⟨(RX11, TX11, 20), rfl, by decide, lays_10, gw_240⟩
theorem fp_RX11_51 : FP RX11 51 10 7 (.array (.object RX10)) true := ⟨(RX11, TX11, 20), tyX11, rfl, by decide, lays_10, gw_240, tyX11_ok, nmX11, rfl, by decide +kernel, fun _ => rfl⟩
theorem fl_RX11_55 : FL RX11 55 10 8 := ⟨(RX11, TX11, 20), rfl, by decide, lays_10, gw_241⟩
theorem fp_RX11_55 : FP RX11 55 10 8 .int false := ⟨(RX11, TX11, 20), tyX11, rfl, by decide, lays_10, gw_241, tyX11_ok, nmX11, rfl, by decide +kernel, fun h => by cases h⟩
theorem fl_RX11_60 : FL RX11 60 10 9 := ⟨(RX11, TX11, 20), rfl, by decide, lays_10, gw_242⟩
theorem fp_RX11_60 : FP RX11 60 10 9 (.array (.object RX7)) true := ⟨(RX11, TX11, 20), tyX11, rfl, by decide, lays_10, gw_242, tyX11_ok, nmX11, rfl, by decide +kernel, fun _ => rfl⟩
theorem fl_RX11_64 : FL RX11 64 10 10 := ⟨(RX11, TX11, 20), rfl, by decide, lays_10, gw_243⟩
theorem fp_RX11_64 : FP RX11 64 10 10 .int false := ⟨(RX11, TX11, 20), tyX11, rfl, by decide, lays_10, gw_243, tyX11_ok, nmX11, rfl, by decide +kernel, fun h => by cases h⟩
theorem gI_RX11_69 : GI RX11 69 yX8_init cX8_init 3 2 := ⟨gi_ws gw_102, gw_5, gw_228, gw_101, rfl, by decide +kernel, by decide +kernel, by decide +kernel⟩
theorem fl_RX11_72 : FL RX11 72 10 11 := ⟨(RX11, TX11, 20), rfl, by decide, lays_10, gw_244⟩
theorem fp_RX11_72 : FP RX11 72 10 11 (.object RX8) true := ⟨(RX11, TX11, 20), tyX11, rfl, by decide, lays_10, gw_244, tyX11_ok, nmX11, rfl, by decide +kernel, fun _ => rfl⟩
theorem fl_RX11_76 : FL RX11 76 10 12 := ⟨(RX11, TX11, 20), rfl, by decide, lays_10, gw_245⟩
theorem fp_RX11_76 : FP RX11 76 10 12 (.object RX8) true := ⟨(RX11, TX11, 20), tyX11, rfl, by decide, lays_10, gw_245, tyX11_ok, nmX11, rfl, by decide +kernel, fun _ => rfl⟩
theorem fl_RX11_79 : FL RX11 79 10 13 := ⟨(RX11, TX11, 20), rfl, by decide, lays_10, gw_246⟩
theorem fp_RX11_79 : FP RX11 79 10 13 (.object RX8) true := ⟨(RX11, TX11, 20), tyX11, rfl, by decide, lays_10, gw_246, tyX11_ok, nmX11, rfl, by decide +kernel, fun _ => rfl⟩
theorem fl_RX11_82 : FL RX11 82 10 14 := ⟨(RX11, TX11, 20), rfl, by decide, lays_10, gw_247⟩
theorem fp_RX11_82 : FP RX11 82 10 14 (.object RX8) true := ⟨(RX11, TX11, 20), tyX11, rfl, by decide, lays_10, gw_247, tyX11_ok, nmX11, rfl, by decide +kernel, fun _ => rfl⟩
theorem fl_RX11_85 : FL RX11 85 10 15 := ⟨(RX11, TX11, 20), rfl, by decide, lays_10, gw_248⟩
theorem fp_RX11_85 : FP RX11 85 10 15 (.object RX8) true := ⟨(RX11, TX11, 20), tyX11, rfl, by decide, lays_10, gw_248, tyX11_ok, nmX11, rfl, by decide +kernel, fun _ => rfl⟩
theorem fl_RX11_88 : FL RX11 88 10 16 := ⟨(RX11, TX11, 20), rfl, by decide, lays_10, gw_249⟩
theorem fp_RX11_88 : FP RX11 88 10 16 (.object RX8) true := ⟨(RX11, TX11, 20), tyX11, rfl, by decide, lays_10, gw_249, tyX11_ok, nmX11, rfl, by decide +kernel, fun _ => rfl⟩
theorem fl_RX11_91 : FL RX11 91 10 17 := ⟨(RX11, TX11, 20), rfl, by decide, lays_10, gw_250⟩
theorem fp_RX11_91 : FP RX11 91 10 17 (.object RX8) true := ⟨(RX11, TX11, 20), tyX11, rfl, by decide, lays_10, gw_250, tyX11_ok, nmX11, rfl, by decide +kernel, fun _ => rfl⟩
theorem fl_RX11_94 : FL RX11 94 10 18 := ⟨(RX11, TX11, 20), rfl, by decide, lays_10, gw_251⟩
theorem fp_RX11_94 : FP RX11 94 10 18 (.array .int) true := ⟨(RX11, TX11, 20), tyX11, rfl, by decide, lays_10, gw_251, tyX11_ok, nmX11, rfl, by decide +kernel, fun _ => rfl⟩
theorem fl_RX11_98 : FL RX11 98 10 19 := ⟨(RX11, TX11, 20), rfl, by decide, lays_10, gw_252⟩
theorem fp_RX11_98 : FP RX11 98 10 19 (.array .long) true := ⟨(RX11, TX11, 20), tyX11, rfl, by decide, lays_10, gw_252, tyX11_ok, nmX11, rfl, by decide +kernel, fun _ => rfl⟩
theorem gS_RX11_102 : GS RX11 102 yX4_fill cX4_fill 3 (none : Option Jvm.ClassFile.FieldType) 2 := ⟨gi_app (List.forall_mem_cons.mpr ⟨gw_229, List.forall_mem_cons.mpr ⟨gw_36, List.forall_mem_cons.mpr ⟨gw_3, fun _ h => absurd h List.not_mem_nil⟩⟩⟩) (gi_ws gw_37), by decide +kernel, by decide +kernel, by decide +kernel⟩
theorem gS_RX11_108 : GS RX11 108 yX4_put cX4_put 3 (none : Option Jvm.ClassFile.FieldType) 3 := ⟨gi_app (List.forall_mem_cons.mpr ⟨gw_230, List.forall_mem_cons.mpr ⟨gw_231, List.forall_mem_cons.mpr ⟨gw_3, fun _ h => absurd h List.not_mem_nil⟩⟩⟩) (gi_ws gw_232), by decide +kernel, by decide +kernel, by decide +kernel⟩
theorem gS_RX11_112 : GS RX11 112 yX11_between cX11_between 3 (some .boolean) 3 := ⟨gi_app (List.forall_mem_cons.mpr ⟨gw_299, List.forall_mem_cons.mpr ⟨gw_300, List.forall_mem_cons.mpr ⟨gw_1, fun _ h => absurd h List.not_mem_nil⟩⟩⟩) (gi_ws gw_301), by decide +kernel, by decide +kernel, by decide +kernel⟩
theorem gV_RX11_116 : GV RX11 116 RX0 yX0_lay cX0_lay 3 (none : Option Jvm.ClassFile.FieldType) 2 := ⟨gi_app (List.forall_mem_cons.mpr ⟨gw_302, List.forall_mem_cons.mpr ⟨gw_303, List.forall_mem_cons.mpr ⟨gw_304, List.forall_mem_cons.mpr ⟨gw_2, fun _ h => absurd h List.not_mem_nil⟩⟩⟩⟩) (gi_ws gw_305), rfl, by decide +kernel, by decide +kernel, by decide +kernel⟩
theorem gV_RX11_119 : GV RX11 119 RX0 yX0_isCell cX0_isCell 2 (some .boolean) 1 := ⟨gi_app (List.forall_mem_cons.mpr ⟨gw_310, List.forall_mem_cons.mpr ⟨gw_311, List.forall_mem_cons.mpr ⟨gw_312, List.forall_mem_cons.mpr ⟨gw_2, fun _ h => absurd h List.not_mem_nil⟩⟩⟩⟩) (gi_ws gw_313), rfl, by decide +kernel, by decide +kernel, by decide +kernel⟩
theorem fl_RX11_123 : FL RX11 123 0 5 := ⟨(RX0, TX0, 13), rfl, by decide, lays_0, gw_49⟩
theorem fl_RX11_126 : FL RX11 126 0 6 := ⟨(RX0, TX0, 13), rfl, by decide, lays_0, gw_51⟩
theorem fl_RX11_129 : FL RX11 129 0 7 := ⟨(RX0, TX0, 13), rfl, by decide, lays_0, gw_53⟩
theorem fl_RX11_132 : FL RX11 132 0 8 := ⟨(RX0, TX0, 13), rfl, by decide, lays_0, gw_55⟩
theorem gS_RX11_135 : GS RX11 135 yX11_areYearDays cX11_areYearDays 2 (some .boolean) 2 := ⟨gi_app (List.forall_mem_cons.mpr ⟨gw_318, List.forall_mem_cons.mpr ⟨gw_319, List.forall_mem_cons.mpr ⟨gw_1, fun _ h => absurd h List.not_mem_nil⟩⟩⟩) (gi_ws gw_320), by decide +kernel, by decide +kernel, by decide +kernel⟩
theorem fl_RX11_139 : FL RX11 139 0 1 := ⟨(RX0, TX0, 13), rfl, by decide, lays_0, gw_41⟩
theorem fp_RX11_139 : FP RX11 139 0 1 .int false := ⟨(RX0, TX0, 13), tyX0, rfl, by decide, lays_0, gw_41, tyX0_ok, nmX0, rfl, by decide +kernel, fun h => by cases h⟩
theorem fl_RX11_142 : FL RX11 142 0 2 := ⟨(RX0, TX0, 13), rfl, by decide, lays_0, gw_43⟩
theorem fp_RX11_142 : FP RX11 142 0 2 .int false := ⟨(RX0, TX0, 13), tyX0, rfl, by decide, lays_0, gw_43, tyX0_ok, nmX0, rfl, by decide +kernel, fun h => by cases h⟩
theorem fl_RX11_145 : FL RX11 145 0 0 := ⟨(RX0, TX0, 13), rfl, by decide, lays_0, gw_39⟩
theorem gI_RX11_148 : GI RX11 148 yX2_init cX2_init 2 1 := ⟨gi_ws gw_328, gw_9, gw_326, gw_327, rfl, by decide +kernel, by decide +kernel, by decide +kernel⟩
theorem sp_0 : Cond.selects RX11 yX11_partyOf yX11_partyOf ∈ gw := gw_mem (pv_in (y := yX11_partyOf) (n := 20) (List.mem_of_getElem? (i := 0) (by decide +kernel))) (by decide +kernel)
theorem gV_RX11_151 : GV RX11 151 RX11 yX11_partyOf cX11_partyOf 2 (some (.object "IceTreaty$Party")) 1 := ⟨gi_app (List.forall_mem_cons.mpr ⟨gw_357, List.forall_mem_cons.mpr ⟨gw_359, List.forall_mem_cons.mpr ⟨sp_0, List.forall_mem_cons.mpr ⟨gw_1, fun _ h => absurd h List.not_mem_nil⟩⟩⟩⟩) (gi_ws gw_360), rfl, by decide +kernel, by decide +kernel, by decide +kernel⟩
theorem gV_RX11_155 : GV RX11 155 RX0 yX0_isRectangle cX0_isRectangle 3 (some .boolean) 2 := ⟨gi_app (List.forall_mem_cons.mpr ⟨gw_361, List.forall_mem_cons.mpr ⟨gw_362, List.forall_mem_cons.mpr ⟨gw_363, List.forall_mem_cons.mpr ⟨gw_2, fun _ h => absurd h List.not_mem_nil⟩⟩⟩⟩) (gi_ws gw_364), rfl, by decide +kernel, by decide +kernel, by decide +kernel⟩
theorem sp_3 : Cond.selects RX11 yX11_claimsAreAsleep yX11_claimsAreAsleep ∈ gw := gw_mem (pv_in (y := yX11_claimsAreAsleep) (n := 20) (List.mem_of_getElem? (i := 3) (by decide +kernel))) (by decide +kernel)
theorem gV_RX11_158 : GV RX11 158 RX11 yX11_claimsAreAsleep cX11_claimsAreAsleep 3 (some .boolean) 2 := ⟨gi_app (List.forall_mem_cons.mpr ⟨gw_374, List.forall_mem_cons.mpr ⟨gw_376, List.forall_mem_cons.mpr ⟨sp_3, List.forall_mem_cons.mpr ⟨gw_1, fun _ h => absurd h List.not_mem_nil⟩⟩⟩⟩) (gi_ws gw_377), rfl, by decide +kernel, by decide +kernel, by decide +kernel⟩
theorem gI_RX11_162 : GI RX11 162 yX3_init cX3_init 6 5 := ⟨gi_ws gw_428, gw_10, gw_426, gw_427, rfl, by decide +kernel, by decide +kernel, by decide +kernel⟩
theorem sp_8 : Cond.selects RX11 yX11_settle yX11_settle ∈ gw := gw_mem (pv_in (y := yX11_settle) (n := 20) (List.mem_of_getElem? (i := 8) (by decide +kernel))) (by decide +kernel)
theorem gV_RX11_165 : GV RX11 165 RX11 yX11_settle cX11_settle 2 (some .int) 1 := ⟨gi_app (List.forall_mem_cons.mpr ⟨gw_497, List.forall_mem_cons.mpr ⟨gw_499, List.forall_mem_cons.mpr ⟨sp_8, List.forall_mem_cons.mpr ⟨gw_1, fun _ h => absurd h List.not_mem_nil⟩⟩⟩⟩) (gi_ws gw_500), rfl, by decide +kernel, by decide +kernel, by decide +kernel⟩
theorem sp_9 : Cond.selects RX11 yX11_placeOf yX11_placeOf ∈ gw := gw_mem (pv_in (y := yX11_placeOf) (n := 20) (List.mem_of_getElem? (i := 9) (by decide +kernel))) (by decide +kernel)
theorem gV_RX11_169 : GV RX11 169 RX11 yX11_placeOf cX11_placeOf 4 (some (.object "IceTreaty$Place")) 2 := ⟨gi_app (List.forall_mem_cons.mpr ⟨gw_505, List.forall_mem_cons.mpr ⟨gw_507, List.forall_mem_cons.mpr ⟨sp_9, List.forall_mem_cons.mpr ⟨gw_1, fun _ h => absurd h List.not_mem_nil⟩⟩⟩⟩) (gi_ws gw_508), rfl, by decide +kernel, by decide +kernel, by decide +kernel⟩
theorem fl_RX11_173 : FL RX11 173 3 1 := ⟨(RX3, TX3, 16), rfl, by decide, lays_3, gw_436⟩
theorem fl_RX11_176 : FL RX11 176 3 4 := ⟨(RX3, TX3, 16), rfl, by decide, lays_3, gw_442⟩
theorem fp_RX11_176 : FP RX11 176 3 4 .int false := ⟨(RX3, TX3, 16), tyX3, rfl, by decide, lays_3, gw_442, tyX3_ok, nmX3, rfl, by decide +kernel, fun h => by cases h⟩
theorem gV_RX11_179 : GV RX11 179 RX0 yX0_isFirm cX0_isFirm 3 (some .boolean) 1 := ⟨gi_app (List.forall_mem_cons.mpr ⟨gw_517, List.forall_mem_cons.mpr ⟨gw_518, List.forall_mem_cons.mpr ⟨gw_519, List.forall_mem_cons.mpr ⟨gw_2, fun _ h => absurd h List.not_mem_nil⟩⟩⟩⟩) (gi_ws gw_520), rfl, by decide +kernel, by decide +kernel, by decide +kernel⟩
theorem fl_RX11_183 : FL RX11 183 3 6 := ⟨(RX3, TX3, 16), rfl, by decide, lays_3, gw_446⟩
theorem fp_RX11_183 : FP RX11 183 3 6 .int false := ⟨(RX3, TX3, 16), tyX3, rfl, by decide, lays_3, gw_446, tyX3_ok, nmX3, rfl, by decide +kernel, fun h => by cases h⟩
theorem fl_RX11_186 : FL RX11 186 3 7 := ⟨(RX3, TX3, 16), rfl, by decide, lays_3, gw_448⟩
theorem fp_RX11_186 : FP RX11 186 3 7 .int false := ⟨(RX3, TX3, 16), tyX3, rfl, by decide, lays_3, gw_448, tyX3_ok, nmX3, rfl, by decide +kernel, fun h => by cases h⟩
theorem fl_RX11_189 : FL RX11 189 3 10 := ⟨(RX3, TX3, 16), rfl, by decide, lays_3, gw_454⟩
theorem fp_RX11_189 : FP RX11 189 3 10 .int false := ⟨(RX3, TX3, 16), tyX3, rfl, by decide, lays_3, gw_454, tyX3_ok, nmX3, rfl, by decide +kernel, fun h => by cases h⟩
theorem sp_11 : Cond.selects RX11 yX11_tally yX11_tally ∈ gw := gw_mem (pv_in (y := yX11_tally) (n := 20) (List.mem_of_getElem? (i := 11) (by decide +kernel))) (by decide +kernel)
theorem gV_RX11_192 : GV RX11 192 RX11 yX11_tally cX11_tally 3 (none : Option Jvm.ClassFile.FieldType) 2 := ⟨gi_app (List.forall_mem_cons.mpr ⟨gw_523, List.forall_mem_cons.mpr ⟨gw_525, List.forall_mem_cons.mpr ⟨sp_11, List.forall_mem_cons.mpr ⟨gw_1, fun _ h => absurd h List.not_mem_nil⟩⟩⟩⟩) (gi_ws gw_526), rfl, by decide +kernel, by decide +kernel, by decide +kernel⟩
theorem sp_12 : Cond.selects RX11 yX11_standingStation yX11_standingStation ∈ gw := gw_mem (pv_in (y := yX11_standingStation) (n := 20) (List.mem_of_getElem? (i := 12) (by decide +kernel))) (by decide +kernel)
theorem gV_RX11_195 : GV RX11 195 RX11 yX11_standingStation cX11_standingStation 3 (some (.object "IceTreaty$Place")) 1 := ⟨gi_app (List.forall_mem_cons.mpr ⟨gw_531, List.forall_mem_cons.mpr ⟨gw_533, List.forall_mem_cons.mpr ⟨sp_12, List.forall_mem_cons.mpr ⟨gw_1, fun _ h => absurd h List.not_mem_nil⟩⟩⟩⟩) (gi_ws gw_534), rfl, by decide +kernel, by decide +kernel, by decide +kernel⟩
theorem fl_RX11_199 : FL RX11 199 7 3 := ⟨(RX8, TX8, 4), rfl, by decide, lays_7, gw_115⟩
theorem sp_13 : Cond.selects RX11 yX11_feedNumber yX11_feedNumber ∈ gw := gw_mem (pv_in (y := yX11_feedNumber) (n := 20) (List.mem_of_getElem? (i := 13) (by decide +kernel))) (by decide +kernel)
theorem gV_RX11_202 : GV RX11 202 RX11 yX11_feedNumber cX11_feedNumber 3 (none : Option Jvm.ClassFile.FieldType) 1 := ⟨gi_app (List.forall_mem_cons.mpr ⟨gw_547, List.forall_mem_cons.mpr ⟨gw_549, List.forall_mem_cons.mpr ⟨sp_13, List.forall_mem_cons.mpr ⟨gw_1, fun _ h => absurd h List.not_mem_nil⟩⟩⟩⟩) (gi_ws gw_550), rfl, by decide +kernel, by decide +kernel, by decide +kernel⟩
theorem gV_RX11_205 : GV RX11 205 RX8 yX8_append cX8_append 7 (some .int) 5 := ⟨gi_app (List.forall_mem_cons.mpr ⟨gw_551, List.forall_mem_cons.mpr ⟨gw_552, List.forall_mem_cons.mpr ⟨gw_553, List.forall_mem_cons.mpr ⟨gw_5, fun _ h => absurd h List.not_mem_nil⟩⟩⟩⟩) (gi_ws gw_554), rfl, by decide +kernel, by decide +kernel, by decide +kernel⟩
theorem gV_RX11_209 : GV RX11 209 RX8 yX8_get cX8_get 5 (some .int) 2 := ⟨gi_app (List.forall_mem_cons.mpr ⟨gw_1170, List.forall_mem_cons.mpr ⟨gw_408, List.forall_mem_cons.mpr ⟨gw_409, List.forall_mem_cons.mpr ⟨gw_5, fun _ h => absurd h List.not_mem_nil⟩⟩⟩⟩) (gi_ws gw_410), rfl, by decide +kernel, by decide +kernel, by decide +kernel⟩
theorem gS_RX11_213 : GS RX11 213 yX11_areDays cX11_areDays 2 (some .boolean) 2 := ⟨gi_app (List.forall_mem_cons.mpr ⟨gw_567, List.forall_mem_cons.mpr ⟨gw_568, List.forall_mem_cons.mpr ⟨gw_1, fun _ h => absurd h List.not_mem_nil⟩⟩⟩) (gi_ws gw_569), by decide +kernel, by decide +kernel, by decide +kernel⟩
theorem fl_RX11_216 : FL RX11 216 1 1 := ⟨(RX1, TX1, 13), rfl, by decide, lays_1, gw_128⟩
theorem gI_RX11_221 : GI RX11 221 yX9_init cX9_init 5 4 := ⟨gi_ws gw_574, gw_11, gw_572, gw_573, rfl, by decide +kernel, by decide +kernel, by decide +kernel⟩
theorem fl_RX11_226 : FL RX11 226 7 2 := ⟨(RX8, TX8, 4), rfl, by decide, lays_7, gw_110⟩
theorem gI_RX11_229 : GI RX11 229 yX5_init cX5_init 4 3 := ⟨gi_ws gw_603, gw_12, gw_601, gw_602, rfl, by decide +kernel, by decide +kernel, by decide +kernel⟩
theorem gV_RX11_232 : GV RX11 232 RX5 yX5_writeText cX5_writeText 2 (none : Option Jvm.ClassFile.FieldType) 0 := ⟨gi_app (List.forall_mem_cons.mpr ⟨gw_628, List.forall_mem_cons.mpr ⟨gw_629, List.forall_mem_cons.mpr ⟨gw_630, List.forall_mem_cons.mpr ⟨gw_12, fun _ h => absurd h List.not_mem_nil⟩⟩⟩⟩) (gi_ws gw_631), rfl, by decide +kernel, by decide +kernel, by decide +kernel⟩
theorem fp_RX11_199 : FP RX11 199 7 3 .int false := ⟨(RX8, TX8, 4), tyX8, rfl, by decide, lays_7, gw_115, tyX8_ok, nmX8, rfl, by decide +kernel, fun h => by cases h⟩
theorem fl_RX11_235 : FL RX11 235 4 5 := ⟨(RX5, TX5, 7), rfl, by decide, lays_4, gw_611⟩
theorem gV_RX11_238 : GV RX11 238 RX5 yX5_faultAnswer cX5_faultAnswer 1 (some .int) 0 := ⟨gi_app (List.forall_mem_cons.mpr ⟨gw_803, List.forall_mem_cons.mpr ⟨gw_804, List.forall_mem_cons.mpr ⟨gw_805, List.forall_mem_cons.mpr ⟨gw_12, fun _ h => absurd h List.not_mem_nil⟩⟩⟩⟩) (gi_ws gw_806), rfl, by decide +kernel, by decide +kernel, by decide +kernel⟩
theorem gV_RX11_242 : GV RX11 242 RX1 yX1_addText cX1_addText 2 (some .int) 1 := ⟨gi_app (List.forall_mem_cons.mpr ⟨gw_807, List.forall_mem_cons.mpr ⟨gw_808, List.forall_mem_cons.mpr ⟨gw_809, List.forall_mem_cons.mpr ⟨gw_4, fun _ h => absurd h List.not_mem_nil⟩⟩⟩⟩) (gi_ws gw_810), rfl, by decide +kernel, by decide +kernel, by decide +kernel⟩
theorem gV_RX11_246 : GV RX11 246 RX1 yX1_textOf cX1_textOf 2 (some (.object "IceTreaty$Text")) 1 := ⟨gi_app (List.forall_mem_cons.mpr ⟨gw_820, List.forall_mem_cons.mpr ⟨gw_387, List.forall_mem_cons.mpr ⟨gw_388, List.forall_mem_cons.mpr ⟨gw_4, fun _ h => absurd h List.not_mem_nil⟩⟩⟩⟩) (gi_ws gw_389), rfl, by decide +kernel, by decide +kernel, by decide +kernel⟩
theorem fl_RX11_250 : FL RX11 250 2 3 := ⟨(RX2, TX2, 5), rfl, by decide, lays_2, gw_339⟩
theorem gS_RX11_253 : GS RX11 253 yX4_get cX4_get 2 (some .int) 2 := ⟨gi_app (List.forall_mem_cons.mpr ⟨gw_821, List.forall_mem_cons.mpr ⟨gw_395, List.forall_mem_cons.mpr ⟨gw_3, fun _ h => absurd h List.not_mem_nil⟩⟩⟩) (gi_ws gw_396), by decide +kernel, by decide +kernel, by decide +kernel⟩
theorem gV_RX11_256 : GV RX11 256 RX1 yX1_forget cX1_forget 1 (none : Option Jvm.ClassFile.FieldType) 0 := ⟨gi_app (List.forall_mem_cons.mpr ⟨gw_822, List.forall_mem_cons.mpr ⟨gw_812, List.forall_mem_cons.mpr ⟨gw_813, List.forall_mem_cons.mpr ⟨gw_4, fun _ h => absurd h List.not_mem_nil⟩⟩⟩⟩) (gi_ws gw_814), rfl, by decide +kernel, by decide +kernel, by decide +kernel⟩
theorem gV_RX11_259 : GV RX11 259 RX9 yX9_hasCondition cX9_hasCondition 2 (some .boolean) 1 := ⟨gi_app (List.forall_mem_cons.mpr ⟨gw_827, List.forall_mem_cons.mpr ⟨gw_828, List.forall_mem_cons.mpr ⟨gw_829, List.forall_mem_cons.mpr ⟨gw_11, fun _ h => absurd h List.not_mem_nil⟩⟩⟩⟩) (gi_ws gw_830), rfl, by decide +kernel, by decide +kernel, by decide +kernel⟩
theorem fl_RX11_262 : FL RX11 262 1 2 := ⟨(RX1, TX1, 13), rfl, by decide, lays_1, gw_130⟩
theorem gV_RX11_265 : GV RX11 265 RX8 yX8_isFull cX8_isFull 1 (some .boolean) 0 := ⟨gi_app (List.forall_mem_cons.mpr ⟨gw_835, List.forall_mem_cons.mpr ⟨gw_556, List.forall_mem_cons.mpr ⟨gw_557, List.forall_mem_cons.mpr ⟨gw_5, fun _ h => absurd h List.not_mem_nil⟩⟩⟩⟩) (gi_ws gw_558), rfl, by decide +kernel, by decide +kernel, by decide +kernel⟩
theorem gV_RX11_269 : GV RX11 269 RX5 yX5_writeReading cX5_writeReading 1 (none : Option Jvm.ClassFile.FieldType) 0 := ⟨gi_app (List.forall_mem_cons.mpr ⟨gw_836, List.forall_mem_cons.mpr ⟨gw_837, List.forall_mem_cons.mpr ⟨gw_838, List.forall_mem_cons.mpr ⟨gw_12, fun _ h => absurd h List.not_mem_nil⟩⟩⟩⟩) (gi_ws gw_839), rfl, by decide +kernel, by decide +kernel, by decide +kernel⟩
theorem gV_RX11_272 : GV RX11 272 RX1 yX1_addReading cX1_addReading 6 (none : Option Jvm.ClassFile.FieldType) 4 := ⟨gi_app (List.forall_mem_cons.mpr ⟨gw_840, List.forall_mem_cons.mpr ⟨gw_841, List.forall_mem_cons.mpr ⟨gw_842, List.forall_mem_cons.mpr ⟨gw_4, fun _ h => absurd h List.not_mem_nil⟩⟩⟩⟩) (gi_ws gw_843), rfl, by decide +kernel, by decide +kernel, by decide +kernel⟩
theorem gS_RX11_276 : GS RX11 276 yX11_isDay cX11_isDay 1 (some .boolean) 1 := ⟨gi_app (List.forall_mem_cons.mpr ⟨gw_849, List.forall_mem_cons.mpr ⟨gw_850, List.forall_mem_cons.mpr ⟨gw_1, fun _ h => absurd h List.not_mem_nil⟩⟩⟩) (gi_ws gw_851), by decide +kernel, by decide +kernel, by decide +kernel⟩
theorem gV_RX11_279 : GV RX11 279 RX1 yX1_weigh cX1_weigh 6 (none : Option Jvm.ClassFile.FieldType) 3 := ⟨gi_app (List.forall_mem_cons.mpr ⟨gw_378, List.forall_mem_cons.mpr ⟨gw_379, List.forall_mem_cons.mpr ⟨gw_380, List.forall_mem_cons.mpr ⟨gw_4, fun _ h => absurd h List.not_mem_nil⟩⟩⟩⟩) (gi_ws gw_381), rfl, by decide +kernel, by decide +kernel, by decide +kernel⟩
theorem fl_RX11_283 : FL RX11 283 1 4 := ⟨(RX1, TX1, 13), rfl, by decide, lays_1, gw_133⟩
theorem gS_RX11_286 : GS RX11 286 yJ6_bitCount_0f7a4 cJ6_bitCount_0f7a4 1 (some .int) 1 := ⟨gi_app (List.forall_mem_cons.mpr ⟨gw_852, List.forall_mem_cons.mpr ⟨gw_853, List.forall_mem_cons.mpr ⟨gw_18, fun _ h => absurd h List.not_mem_nil⟩⟩⟩) (gi_ws gw_854), by decide +kernel, by decide +kernel, by decide +kernel⟩
theorem gV_RX11_292 : GV RX11 292 RX1 yX1_numberOf cX1_numberOf 8 (some .int) 3 := ⟨gi_app (List.forall_mem_cons.mpr ⟨gw_424, List.forall_mem_cons.mpr ⟨gw_412, List.forall_mem_cons.mpr ⟨gw_413, List.forall_mem_cons.mpr ⟨gw_4, fun _ h => absurd h List.not_mem_nil⟩⟩⟩⟩) (gi_ws gw_414), rfl, by decide +kernel, by decide +kernel, by decide +kernel⟩
theorem gS_RX11_296 : GS RX11 296 yJ9_max_7cf53 cJ9_max_7cf53 2 (some .int) 2 := ⟨gi_app (List.forall_mem_cons.mpr ⟨gw_862, List.forall_mem_cons.mpr ⟨gw_105, List.forall_mem_cons.mpr ⟨gw_6, fun _ h => absurd h List.not_mem_nil⟩⟩⟩) (gi_ws gw_106), by decide +kernel, by decide +kernel, by decide +kernel⟩
theorem gV_RX11_301 : GV RX11 301 RX2 yX2_decidesOn cX2_decidesOn 2 (some .boolean) 1 := ⟨gi_app (List.forall_mem_cons.mpr ⟨gw_867, List.forall_mem_cons.mpr ⟨gw_868, List.forall_mem_cons.mpr ⟨gw_869, List.forall_mem_cons.mpr ⟨gw_9, fun _ h => absurd h List.not_mem_nil⟩⟩⟩⟩) (gi_ws gw_870), rfl, by decide +kernel, by decide +kernel, by decide +kernel⟩
theorem gI_RX11_304 : GI RX11 304 yX10_init cX10_init 6 5 := ⟨gi_ws gw_878, gw_19, gw_876, gw_877, rfl, by decide +kernel, by decide +kernel, by decide +kernel⟩
theorem fl_RX11_305 : FL RX11 305 9 5 := ⟨(RX10, TX10, 15), rfl, by decide, lays_9, gw_893⟩
theorem fp_RX11_305 : FP RX11 305 9 5 .int false := ⟨(RX10, TX10, 15), tyX10, rfl, by decide, lays_9, gw_893, tyX10_ok, nmX10, rfl, by decide +kernel, fun h => by cases h⟩
theorem fl_RX11_306 : FL RX11 306 9 6 := ⟨(RX10, TX10, 15), rfl, by decide, lays_9, gw_895⟩
theorem fp_RX11_306 : FP RX11 306 9 6 .int false := ⟨(RX10, TX10, 15), tyX10, rfl, by decide, lays_9, gw_895, tyX10_ok, nmX10, rfl, by decide +kernel, fun h => by cases h⟩
theorem sp_30 : Cond.selects RX11 yX11_workOf yX11_workOf ∈ gw := gw_mem (pv_in (y := yX11_workOf) (n := 20) (List.mem_of_getElem? (i := 30) (by decide +kernel))) (by decide +kernel)
theorem gV_RX11_309 : GV RX11 309 RX11 yX11_workOf cX11_workOf 2 (some (.object "IceTreaty$Work")) 1 := ⟨gi_app (List.forall_mem_cons.mpr ⟨gw_950, List.forall_mem_cons.mpr ⟨gw_952, List.forall_mem_cons.mpr ⟨sp_30, List.forall_mem_cons.mpr ⟨gw_1, fun _ h => absurd h List.not_mem_nil⟩⟩⟩⟩) (gi_ws gw_953), rfl, by decide +kernel, by decide +kernel, by decide +kernel⟩
theorem fl_RX11_313 : FL RX11 313 9 9 := ⟨(RX10, TX10, 15), rfl, by decide, lays_9, gw_902⟩
theorem fp_RX11_313 : FP RX11 313 9 9 .int false := ⟨(RX10, TX10, 15), tyX10, rfl, by decide, lays_9, gw_902, tyX10_ok, nmX10, rfl, by decide +kernel, fun h => by cases h⟩
theorem fl_RX11_316 : FL RX11 316 9 10 := ⟨(RX10, TX10, 15), rfl, by decide, lays_9, gw_905⟩
theorem fp_RX11_316 : FP RX11 316 9 10 .int false := ⟨(RX10, TX10, 15), tyX10, rfl, by decide, lays_9, gw_905, tyX10_ok, nmX10, rfl, by decide +kernel, fun h => by cases h⟩
theorem fl_RX11_319 : FL RX11 319 9 11 := ⟨(RX10, TX10, 15), rfl, by decide, lays_9, gw_908⟩
theorem fp_RX11_319 : FP RX11 319 9 11 .int false := ⟨(RX10, TX10, 15), tyX10, rfl, by decide, lays_9, gw_908, tyX10_ok, nmX10, rfl, by decide +kernel, fun h => by cases h⟩
theorem fl_RX11_322 : FL RX11 322 9 12 := ⟨(RX10, TX10, 15), rfl, by decide, lays_9, gw_910⟩
theorem fp_RX11_322 : FP RX11 322 9 12 .int false := ⟨(RX10, TX10, 15), tyX10, rfl, by decide, lays_9, gw_910, tyX10_ok, nmX10, rfl, by decide +kernel, fun h => by cases h⟩
theorem fl_RX11_325 : FL RX11 325 9 13 := ⟨(RX10, TX10, 15), rfl, by decide, lays_9, gw_912⟩
theorem fp_RX11_325 : FP RX11 325 9 13 .int false := ⟨(RX10, TX10, 15), tyX10, rfl, by decide, lays_9, gw_912, tyX10_ok, nmX10, rfl, by decide +kernel, fun h => by cases h⟩
theorem fl_RX11_328 : FL RX11 328 9 14 := ⟨(RX10, TX10, 15), rfl, by decide, lays_9, gw_914⟩
theorem fp_RX11_328 : FP RX11 328 9 14 .int false := ⟨(RX10, TX10, 15), tyX10, rfl, by decide, lays_9, gw_914, tyX10_ok, nmX10, rfl, by decide +kernel, fun h => by cases h⟩
theorem sp_31 : Cond.selects RX11 yX11_judge yX11_judge ∈ gw := gw_mem (pv_in (y := yX11_judge) (n := 20) (List.mem_of_getElem? (i := 31) (by decide +kernel))) (by decide +kernel)
theorem gV_RX11_331 : GV RX11 331 RX11 yX11_judge cX11_judge 5 (some .int) 3 := ⟨gi_app (List.forall_mem_cons.mpr ⟨gw_966, List.forall_mem_cons.mpr ⟨gw_968, List.forall_mem_cons.mpr ⟨sp_31, List.forall_mem_cons.mpr ⟨gw_1, fun _ h => absurd h List.not_mem_nil⟩⟩⟩⟩) (gi_ws gw_969), rfl, by decide +kernel, by decide +kernel, by decide +kernel⟩
theorem fl_RX11_335 : FL RX11 335 1 11 := ⟨(RX1, TX1, 13), rfl, by decide, lays_1, gw_142⟩
theorem fl_RX11_338 : FL RX11 338 1 12 := ⟨(RX1, TX1, 13), rfl, by decide, lays_1, gw_144⟩
theorem fl_RX11_341 : FL RX11 341 2 0 := ⟨(RX2, TX2, 5), rfl, by decide, lays_2, gw_332⟩
theorem fl_RX11_344 : FL RX11 344 3 2 := ⟨(RX3, TX3, 16), rfl, by decide, lays_3, gw_438⟩
theorem fl_RX11_347 : FL RX11 347 3 3 := ⟨(RX3, TX3, 16), rfl, by decide, lays_3, gw_440⟩
theorem gV_RX11_350 : GV RX11 350 RX0 yX0_isWithin cX0_isWithin 4 (some .boolean) 3 := ⟨gi_app (List.forall_mem_cons.mpr ⟨gw_982, List.forall_mem_cons.mpr ⟨gw_983, List.forall_mem_cons.mpr ⟨gw_984, List.forall_mem_cons.mpr ⟨gw_2, fun _ h => absurd h List.not_mem_nil⟩⟩⟩⟩) (gi_ws gw_985), rfl, by decide +kernel, by decide +kernel, by decide +kernel⟩
theorem fl_RX11_353 : FL RX11 353 9 1 := ⟨(RX10, TX10, 15), rfl, by decide, lays_9, gw_884⟩
theorem sp_32 : Cond.selects RX11 yX11_tellLetters yX11_tellLetters ∈ gw := gw_mem (pv_in (y := yX11_tellLetters) (n := 20) (List.mem_of_getElem? (i := 32) (by decide +kernel))) (by decide +kernel)
theorem gV_RX11_354 : GV RX11 354 RX11 yX11_tellLetters cX11_tellLetters 5 (none : Option Jvm.ClassFile.FieldType) 3 := ⟨gi_app (List.forall_mem_cons.mpr ⟨gw_970, List.forall_mem_cons.mpr ⟨gw_972, List.forall_mem_cons.mpr ⟨sp_32, List.forall_mem_cons.mpr ⟨gw_1, fun _ h => absurd h List.not_mem_nil⟩⟩⟩⟩) (gi_ws gw_973), rfl, by decide +kernel, by decide +kernel, by decide +kernel⟩
theorem sp_33 : Cond.selects RX11 yX11_tellNeighbours yX11_tellNeighbours ∈ gw := gw_mem (pv_in (y := yX11_tellNeighbours) (n := 20) (List.mem_of_getElem? (i := 33) (by decide +kernel))) (by decide +kernel)
theorem gV_RX11_358 : GV RX11 358 RX11 yX11_tellNeighbours cX11_tellNeighbours 8 (none : Option Jvm.ClassFile.FieldType) 1 := ⟨gi_app (List.forall_mem_cons.mpr ⟨gw_978, List.forall_mem_cons.mpr ⟨gw_980, List.forall_mem_cons.mpr ⟨sp_33, List.forall_mem_cons.mpr ⟨gw_1, fun _ h => absurd h List.not_mem_nil⟩⟩⟩⟩) (gi_ws gw_981), rfl, by decide +kernel, by decide +kernel, by decide +kernel⟩
theorem sp_34 : Cond.selects RX11 yX11_hasConsent yX11_hasConsent ∈ gw := gw_mem (pv_in (y := yX11_hasConsent) (n := 20) (List.mem_of_getElem? (i := 34) (by decide +kernel))) (by decide +kernel)
theorem gV_RX11_362 : GV RX11 362 RX11 yX11_hasConsent cX11_hasConsent 4 (some .boolean) 2 := ⟨gi_app (List.forall_mem_cons.mpr ⟨gw_995, List.forall_mem_cons.mpr ⟨gw_997, List.forall_mem_cons.mpr ⟨sp_34, List.forall_mem_cons.mpr ⟨gw_1, fun _ h => absurd h List.not_mem_nil⟩⟩⟩⟩) (gi_ws gw_998), rfl, by decide +kernel, by decide +kernel, by decide +kernel⟩
theorem gV_RX11_366 : GV RX11 366 RX1 yX1_judge cX1_judge 11 (some .int) 4 := ⟨gi_app (List.forall_mem_cons.mpr ⟨gw_1003, List.forall_mem_cons.mpr ⟨gw_1004, List.forall_mem_cons.mpr ⟨gw_1005, List.forall_mem_cons.mpr ⟨gw_4, fun _ h => absurd h List.not_mem_nil⟩⟩⟩⟩) (gi_ws gw_1006), rfl, by decide +kernel, by decide +kernel, by decide +kernel⟩
theorem sp_35 : Cond.selects RX11 yX11_decidingOn yX11_decidingOn ∈ gw := gw_mem (pv_in (y := yX11_decidingOn) (n := 20) (List.mem_of_getElem? (i := 35) (by decide +kernel))) (by decide +kernel)
theorem gV_RX11_369 : GV RX11 369 RX11 yX11_decidingOn cX11_decidingOn 5 (some .int) 1 := ⟨gi_app (List.forall_mem_cons.mpr ⟨gw_999, List.forall_mem_cons.mpr ⟨gw_1001, List.forall_mem_cons.mpr ⟨sp_35, List.forall_mem_cons.mpr ⟨gw_1, fun _ h => absurd h List.not_mem_nil⟩⟩⟩⟩) (gi_ws gw_1002), rfl, by decide +kernel, by decide +kernel, by decide +kernel⟩
theorem fl_RX11_372 : FL RX11 372 1 8 := ⟨(RX1, TX1, 13), rfl, by decide, lays_1, gw_138⟩
theorem fl_RX11_375 : FL RX11 375 9 0 := ⟨(RX10, TX10, 15), rfl, by decide, lays_9, gw_881⟩
theorem fl_RX11_378 : FL RX11 378 9 2 := ⟨(RX10, TX10, 15), rfl, by decide, lays_9, gw_886⟩
theorem gV_RX11_381 : GV RX11 381 RX0 yX0_isDark cX0_isDark 3 (some .boolean) 1 := ⟨gi_app (List.forall_mem_cons.mpr ⟨gw_974, List.forall_mem_cons.mpr ⟨gw_975, List.forall_mem_cons.mpr ⟨gw_976, List.forall_mem_cons.mpr ⟨gw_2, fun _ h => absurd h List.not_mem_nil⟩⟩⟩⟩) (gi_ws gw_977), rfl, by decide +kernel, by decide +kernel, by decide +kernel⟩
theorem sp_10 : Cond.selects RX11 yX11_anyPlace yX11_anyPlace ∈ gw := gw_mem (pv_in (y := yX11_anyPlace) (n := 20) (List.mem_of_getElem? (i := 10) (by decide +kernel))) (by decide +kernel)
theorem gV_RX11_384 : GV RX11 384 RX11 yX11_anyPlace cX11_anyPlace 2 (some (.object "IceTreaty$Place")) 1 := ⟨gi_app (List.forall_mem_cons.mpr ⟨gw_509, List.forall_mem_cons.mpr ⟨gw_511, List.forall_mem_cons.mpr ⟨sp_10, List.forall_mem_cons.mpr ⟨gw_1, fun _ h => absurd h List.not_mem_nil⟩⟩⟩⟩) (gi_ws gw_512), rfl, by decide +kernel, by decide +kernel, by decide +kernel⟩
theorem fl_RX11_387 : FL RX11 387 3 0 := ⟨(RX3, TX3, 16), rfl, by decide, lays_3, gw_434⟩
theorem gV_RX11_388 : GV RX11 388 RX0 yX0_far cX0_far 3 (some .int) 2 := ⟨gi_app (List.forall_mem_cons.mpr ⟨gw_987, List.forall_mem_cons.mpr ⟨gw_988, List.forall_mem_cons.mpr ⟨gw_989, List.forall_mem_cons.mpr ⟨gw_2, fun _ h => absurd h List.not_mem_nil⟩⟩⟩⟩) (gi_ws gw_990), rfl, by decide +kernel, by decide +kernel, by decide +kernel⟩
theorem gI_RX11_391 : GI RX11 391 yX7_init cX7_init 4 3 := ⟨gi_ws gw_1048, gw_20, gw_1046, gw_1047, rfl, by decide +kernel, by decide +kernel, by decide +kernel⟩
theorem gS_RX11_394 : GS RX11 394 yX11_isSea cX11_isSea 1 (some .boolean) 1 := ⟨gi_app (List.forall_mem_cons.mpr ⟨gw_1098, List.forall_mem_cons.mpr ⟨gw_1099, List.forall_mem_cons.mpr ⟨gw_1, fun _ h => absurd h List.not_mem_nil⟩⟩⟩) (gi_ws gw_1100), by decide +kernel, by decide +kernel, by decide +kernel⟩
theorem fl_RX11_397 : FL RX11 397 0 9 := ⟨(RX0, TX0, 13), rfl, by decide, lays_0, gw_57⟩
theorem fl_RX11_400 : FL RX11 400 0 10 := ⟨(RX0, TX0, 13), rfl, by decide, lays_0, gw_59⟩
theorem sp_40 : Cond.selects RX11 yX11_shipOf yX11_shipOf ∈ gw := gw_mem (pv_in (y := yX11_shipOf) (n := 20) (List.mem_of_getElem? (i := 40) (by decide +kernel))) (by decide +kernel)
theorem gV_RX11_403 : GV RX11 403 RX11 yX11_shipOf cX11_shipOf 2 (some (.object "IceTreaty$Ship")) 1 := ⟨gi_app (List.forall_mem_cons.mpr ⟨gw_1109, List.forall_mem_cons.mpr ⟨gw_1111, List.forall_mem_cons.mpr ⟨sp_40, List.forall_mem_cons.mpr ⟨gw_1, fun _ h => absurd h List.not_mem_nil⟩⟩⟩⟩) (gi_ws gw_1112), rfl, by decide +kernel, by decide +kernel, by decide +kernel⟩
theorem fl_RX11_407 : FL RX11 407 6 1 := ⟨(RX7, TX7, 11), rfl, by decide, lays_6, gw_1053⟩
theorem fl_RX11_410 : FL RX11 410 6 3 := ⟨(RX7, TX7, 11), rfl, by decide, lays_6, gw_1057⟩
theorem gV_RX11_413 : GV RX11 413 RX0 yX0_isNearSea cX0_isNearSea 4 (some .boolean) 1 := ⟨gi_app (List.forall_mem_cons.mpr ⟨gw_1113, List.forall_mem_cons.mpr ⟨gw_1114, List.forall_mem_cons.mpr ⟨gw_1115, List.forall_mem_cons.mpr ⟨gw_2, fun _ h => absurd h List.not_mem_nil⟩⟩⟩⟩) (gi_ws gw_1116), rfl, by decide +kernel, by decide +kernel, by decide +kernel⟩
theorem gV_RX11_416 : GV RX11 416 RX7 yX7_leave cX7_leave 6 (none : Option Jvm.ClassFile.FieldType) 5 := ⟨gi_app (List.forall_mem_cons.mpr ⟨gw_1125, List.forall_mem_cons.mpr ⟨gw_1126, List.forall_mem_cons.mpr ⟨gw_1127, List.forall_mem_cons.mpr ⟨gw_20, fun _ h => absurd h List.not_mem_nil⟩⟩⟩⟩) (gi_ws gw_1128), rfl, by decide +kernel, by decide +kernel, by decide +kernel⟩
theorem gV_RX11_418 : GV RX11 418 RX0 yX0_leastDays cX0_leastDays 6 (some .int) 2 := ⟨gi_app (List.forall_mem_cons.mpr ⟨gw_1133, List.forall_mem_cons.mpr ⟨gw_1134, List.forall_mem_cons.mpr ⟨gw_1135, List.forall_mem_cons.mpr ⟨gw_2, fun _ h => absurd h List.not_mem_nil⟩⟩⟩⟩) (gi_ws gw_1136), rfl, by decide +kernel, by decide +kernel, by decide +kernel⟩
theorem fl_RX11_421 : FL RX11 421 3 8 := ⟨(RX3, TX3, 16), rfl, by decide, lays_3, gw_450⟩
theorem fp_RX11_421 : FP RX11 421 3 8 .int false := ⟨(RX3, TX3, 16), tyX3, rfl, by decide, lays_3, gw_450, tyX3_ok, nmX3, rfl, by decide +kernel, fun h => by cases h⟩
theorem fl_RX11_425 : FL RX11 425 3 11 := ⟨(RX3, TX3, 16), rfl, by decide, lays_3, gw_456⟩
theorem fp_RX11_425 : FP RX11 425 3 11 .int false := ⟨(RX3, TX3, 16), tyX3, rfl, by decide, lays_3, gw_456, tyX3_ok, nmX3, rfl, by decide +kernel, fun h => by cases h⟩
theorem fl_RX11_428 : FL RX11 428 3 12 := ⟨(RX3, TX3, 16), rfl, by decide, lays_3, gw_458⟩
theorem fp_RX11_428 : FP RX11 428 3 12 .int false := ⟨(RX3, TX3, 16), tyX3, rfl, by decide, lays_3, gw_458, tyX3_ok, nmX3, rfl, by decide +kernel, fun h => by cases h⟩
theorem gV_RX11_431 : GV RX11 431 RX8 yX8_has cX8_has 2 (some .boolean) 1 := ⟨gi_app (List.forall_mem_cons.mpr ⟨gw_1168, List.forall_mem_cons.mpr ⟨gw_832, List.forall_mem_cons.mpr ⟨gw_833, List.forall_mem_cons.mpr ⟨gw_5, fun _ h => absurd h List.not_mem_nil⟩⟩⟩⟩) (gi_ws gw_834), rfl, by decide +kernel, by decide +kernel, by decide +kernel⟩
theorem fp_RX11_145 : FP RX11 145 0 0 .int false := ⟨(RX0, TX0, 13), tyX0, rfl, by decide, lays_0, gw_39, tyX0_ok, nmX0, rfl, by decide +kernel, fun h => by cases h⟩
theorem gV_RX11_435 : GV RX11 435 RX6 yX6_forget cX6_forget 1 (none : Option Jvm.ClassFile.FieldType) 0 := ⟨gi_app (List.forall_mem_cons.mpr ⟨gw_1175, List.forall_mem_cons.mpr ⟨gw_1176, List.forall_mem_cons.mpr ⟨gw_1177, List.forall_mem_cons.mpr ⟨gw_7, fun _ h => absurd h List.not_mem_nil⟩⟩⟩⟩) (gi_ws gw_1178), rfl, by decide +kernel, by decide +kernel, by decide +kernel⟩
theorem sp_43 : Cond.selects RX11 yX11_passWork yX11_passWork ∈ gw := gw_mem (pv_in (y := yX11_passWork) (n := 20) (List.mem_of_getElem? (i := 43) (by decide +kernel))) (by decide +kernel)
theorem gV_RX11_436 : GV RX11 436 RX11 yX11_passWork cX11_passWork 5 (none : Option Jvm.ClassFile.FieldType) 1 := ⟨gi_app (List.forall_mem_cons.mpr ⟨gw_1179, List.forall_mem_cons.mpr ⟨gw_1181, List.forall_mem_cons.mpr ⟨sp_43, List.forall_mem_cons.mpr ⟨gw_1, fun _ h => absurd h List.not_mem_nil⟩⟩⟩⟩) (gi_ws gw_1182), rfl, by decide +kernel, by decide +kernel, by decide +kernel⟩
theorem sp_46 : Cond.selects RX11 yX11_admitParties yX11_admitParties ∈ gw := gw_mem (pv_in (y := yX11_admitParties) (n := 20) (List.mem_of_getElem? (i := 46) (by decide +kernel))) (by decide +kernel)
theorem gV_RX11_439 : GV RX11 439 RX11 yX11_admitParties cX11_admitParties 4 (none : Option Jvm.ClassFile.FieldType) 0 := ⟨gi_app (List.forall_mem_cons.mpr ⟨gw_1205, List.forall_mem_cons.mpr ⟨gw_1207, List.forall_mem_cons.mpr ⟨sp_46, List.forall_mem_cons.mpr ⟨gw_1, fun _ h => absurd h List.not_mem_nil⟩⟩⟩⟩) (gi_ws gw_1208), rfl, by decide +kernel, by decide +kernel, by decide +kernel⟩
theorem sp_47 : Cond.selects RX11 yX11_passStation yX11_passStation ∈ gw := gw_mem (pv_in (y := yX11_passStation) (n := 20) (List.mem_of_getElem? (i := 47) (by decide +kernel))) (by decide +kernel)
theorem gV_RX11_442 : GV RX11 442 RX11 yX11_passStation cX11_passStation 5 (none : Option Jvm.ClassFile.FieldType) 1 := ⟨gi_app (List.forall_mem_cons.mpr ⟨gw_1209, List.forall_mem_cons.mpr ⟨gw_1211, List.forall_mem_cons.mpr ⟨sp_47, List.forall_mem_cons.mpr ⟨gw_1, fun _ h => absurd h List.not_mem_nil⟩⟩⟩⟩) (gi_ws gw_1212), rfl, by decide +kernel, by decide +kernel, by decide +kernel⟩
theorem sp_53 : Cond.selects RX11 yX11_passShip yX11_passShip ∈ gw := gw_mem (pv_in (y := yX11_passShip) (n := 20) (List.mem_of_getElem? (i := 53) (by decide +kernel))) (by decide +kernel)
theorem gV_RX11_445 : GV RX11 445 RX11 yX11_passShip cX11_passShip 2 (none : Option Jvm.ClassFile.FieldType) 1 := ⟨gi_app (List.forall_mem_cons.mpr ⟨gw_1238, List.forall_mem_cons.mpr ⟨gw_1240, List.forall_mem_cons.mpr ⟨sp_53, List.forall_mem_cons.mpr ⟨gw_1, fun _ h => absurd h List.not_mem_nil⟩⟩⟩⟩) (gi_ws gw_1241), rfl, by decide +kernel, by decide +kernel, by decide +kernel⟩
theorem sp_57 : Cond.selects RX11 yX11_passSledge yX11_passSledge ∈ gw := gw_mem (pv_in (y := yX11_passSledge) (n := 20) (List.mem_of_getElem? (i := 57) (by decide +kernel))) (by decide +kernel)
theorem gV_RX11_449 : GV RX11 449 RX11 yX11_passSledge cX11_passSledge 4 (none : Option Jvm.ClassFile.FieldType) 1 := ⟨gi_app (List.forall_mem_cons.mpr ⟨gw_1262, List.forall_mem_cons.mpr ⟨gw_1264, List.forall_mem_cons.mpr ⟨sp_57, List.forall_mem_cons.mpr ⟨gw_1, fun _ h => absurd h List.not_mem_nil⟩⟩⟩⟩) (gi_ws gw_1265), rfl, by decide +kernel, by decide +kernel, by decide +kernel⟩
theorem fl_RX11_452 : FL RX11 452 9 3 := ⟨(RX10, TX10, 15), rfl, by decide, lays_9, gw_889⟩
theorem fl_RX11_455 : FL RX11 455 9 4 := ⟨(RX10, TX10, 15), rfl, by decide, lays_9, gw_891⟩
theorem fl_RX11_458 : FL RX11 458 9 8 := ⟨(RX10, TX10, 15), rfl, by decide, lays_9, gw_899⟩
theorem fp_RX11_458 : FP RX11 458 9 8 .int false := ⟨(RX10, TX10, 15), tyX10, rfl, by decide, lays_9, gw_899, tyX10_ok, nmX10, rfl, by decide +kernel, fun h => by cases h⟩
theorem fl_RX11_461 : FL RX11 461 9 7 := ⟨(RX10, TX10, 15), rfl, by decide, lays_9, gw_897⟩
theorem fp_RX11_461 : FP RX11 461 9 7 .int false := ⟨(RX10, TX10, 15), tyX10, rfl, by decide, lays_9, gw_897, tyX10_ok, nmX10, rfl, by decide +kernel, fun h => by cases h⟩
theorem fl_RX11_464 : FL RX11 464 2 1 := ⟨(RX2, TX2, 5), rfl, by decide, lays_2, gw_334⟩
theorem fp_RX11_464 : FP RX11 464 2 1 .int false := ⟨(RX2, TX2, 5), tyX2, rfl, by decide, lays_2, gw_334, tyX2_ok, nmX2, rfl, by decide +kernel, fun h => by cases h⟩
theorem sp_44 : Cond.selects RX11 yX11_disturbNests yX11_disturbNests ∈ gw := gw_mem (pv_in (y := yX11_disturbNests) (n := 20) (List.mem_of_getElem? (i := 44) (by decide +kernel))) (by decide +kernel)
theorem gV_RX11_467 : GV RX11 467 RX11 yX11_disturbNests cX11_disturbNests 6 (none : Option Jvm.ClassFile.FieldType) 1 := ⟨gi_app (List.forall_mem_cons.mpr ⟨gw_1183, List.forall_mem_cons.mpr ⟨gw_1185, List.forall_mem_cons.mpr ⟨sp_44, List.forall_mem_cons.mpr ⟨gw_1, fun _ h => absurd h List.not_mem_nil⟩⟩⟩⟩) (gi_ws gw_1186), rfl, by decide +kernel, by decide +kernel, by decide +kernel⟩
theorem sp_45 : Cond.selects RX11 yX11_goDown yX11_goDown ∈ gw := gw_mem (pv_in (y := yX11_goDown) (n := 20) (List.mem_of_getElem? (i := 45) (by decide +kernel))) (by decide +kernel)
theorem gV_RX11_470 : GV RX11 470 RX11 yX11_goDown cX11_goDown 7 (none : Option Jvm.ClassFile.FieldType) 1 := ⟨gi_app (List.forall_mem_cons.mpr ⟨gw_1192, List.forall_mem_cons.mpr ⟨gw_1194, List.forall_mem_cons.mpr ⟨sp_45, List.forall_mem_cons.mpr ⟨gw_1, fun _ h => absurd h List.not_mem_nil⟩⟩⟩⟩) (gi_ws gw_1195), rfl, by decide +kernel, by decide +kernel, by decide +kernel⟩
theorem fl_RX11_473 : FL RX11 473 3 14 := ⟨(RX3, TX3, 16), rfl, by decide, lays_3, gw_462⟩
theorem gS_RX11_476 : GS RX11 476 yX4_add cX4_add 3 (none : Option Jvm.ClassFile.FieldType) 3 := ⟨gi_app (List.forall_mem_cons.mpr ⟨gw_1187, List.forall_mem_cons.mpr ⟨gw_1188, List.forall_mem_cons.mpr ⟨gw_3, fun _ h => absurd h List.not_mem_nil⟩⟩⟩) (gi_ws gw_1189), by decide +kernel, by decide +kernel, by decide +kernel⟩
theorem gS_RX11_479 : GS RX11 479 yJ9_min_7cf53 cJ9_min_7cf53 2 (some .int) 2 := ⟨gi_app (List.forall_mem_cons.mpr ⟨gw_1196, List.forall_mem_cons.mpr ⟨gw_736, List.forall_mem_cons.mpr ⟨gw_6, fun _ h => absurd h List.not_mem_nil⟩⟩⟩) (gi_ws gw_737), by decide +kernel, by decide +kernel, by decide +kernel⟩
theorem gV_RX11_482 : GV RX11 482 RX3 yX3_sureDepth cX3_sureDepth 5 (some .int) 0 := ⟨gi_app (List.forall_mem_cons.mpr ⟨gw_1197, List.forall_mem_cons.mpr ⟨gw_1198, List.forall_mem_cons.mpr ⟨gw_1199, List.forall_mem_cons.mpr ⟨gw_10, fun _ h => absurd h List.not_mem_nil⟩⟩⟩⟩) (gi_ws gw_1200), rfl, by decide +kernel, by decide +kernel, by decide +kernel⟩
theorem gV_RX11_485 : GV RX11 485 RX8 yX8_put cX8_put 6 (none : Option Jvm.ClassFile.FieldType) 3 := ⟨gi_app (List.forall_mem_cons.mpr ⟨gw_1204, List.forall_mem_cons.mpr ⟨gw_560, List.forall_mem_cons.mpr ⟨gw_561, List.forall_mem_cons.mpr ⟨gw_5, fun _ h => absurd h List.not_mem_nil⟩⟩⟩⟩) (gi_ws gw_562), rfl, by decide +kernel, by decide +kernel, by decide +kernel⟩
theorem fp_RX11_341 : FP RX11 341 2 0 .int false := ⟨(RX2, TX2, 5), tyX2, rfl, by decide, lays_2, gw_332, tyX2_ok, nmX2, rfl, by decide +kernel, fun h => by cases h⟩
theorem sp_48 : Cond.selects RX11 yX11_burn yX11_burn ∈ gw := gw_mem (pv_in (y := yX11_burn) (n := 20) (List.mem_of_getElem? (i := 48) (by decide +kernel))) (by decide +kernel)
theorem gV_RX11_487 : GV RX11 487 RX11 yX11_burn cX11_burn 4 (none : Option Jvm.ClassFile.FieldType) 2 := ⟨gi_app (List.forall_mem_cons.mpr ⟨gw_1213, List.forall_mem_cons.mpr ⟨gw_1215, List.forall_mem_cons.mpr ⟨sp_48, List.forall_mem_cons.mpr ⟨gw_1, fun _ h => absurd h List.not_mem_nil⟩⟩⟩⟩) (gi_ws gw_1216), rfl, by decide +kernel, by decide +kernel, by decide +kernel⟩
theorem fl_RX11_491 : FL RX11 491 3 13 := ⟨(RX3, TX3, 16), rfl, by decide, lays_3, gw_460⟩
theorem gV_RX11_494 : GV RX11 494 RX0 yX0_carries cX0_carries 4 (some .boolean) 2 := ⟨gi_app (List.forall_mem_cons.mpr ⟨gw_1221, List.forall_mem_cons.mpr ⟨gw_1222, List.forall_mem_cons.mpr ⟨gw_1223, List.forall_mem_cons.mpr ⟨gw_2, fun _ h => absurd h List.not_mem_nil⟩⟩⟩⟩) (gi_ws gw_1224), rfl, by decide +kernel, by decide +kernel, by decide +kernel⟩
theorem sp_50 : Cond.selects RX11 yX11_carry yX11_carry ∈ gw := gw_mem (pv_in (y := yX11_carry) (n := 20) (List.mem_of_getElem? (i := 50) (by decide +kernel))) (by decide +kernel)
theorem gV_RX11_497 : GV RX11 497 RX11 yX11_carry cX11_carry 8 (none : Option Jvm.ClassFile.FieldType) 2 := ⟨gi_app (List.forall_mem_cons.mpr ⟨gw_1225, List.forall_mem_cons.mpr ⟨gw_1227, List.forall_mem_cons.mpr ⟨sp_50, List.forall_mem_cons.mpr ⟨gw_1, fun _ h => absurd h List.not_mem_nil⟩⟩⟩⟩) (gi_ws gw_1228), rfl, by decide +kernel, by decide +kernel, by decide +kernel⟩
theorem fl_RX11_501 : FL RX11 501 3 9 := ⟨(RX3, TX3, 16), rfl, by decide, lays_3, gw_452⟩
theorem fp_RX11_501 : FP RX11 501 3 9 .int false := ⟨(RX3, TX3, 16), tyX3, rfl, by decide, lays_3, gw_452, tyX3_ok, nmX3, rfl, by decide +kernel, fun h => by cases h⟩
theorem sp_49 : Cond.selects RX11 yX11_sendPeopleHome yX11_sendPeopleHome ∈ gw := gw_mem (pv_in (y := yX11_sendPeopleHome) (n := 20) (List.mem_of_getElem? (i := 49) (by decide +kernel))) (by decide +kernel)
theorem gV_RX11_504 : GV RX11 504 RX11 yX11_sendPeopleHome cX11_sendPeopleHome 2 (none : Option Jvm.ClassFile.FieldType) 1 := ⟨gi_app (List.forall_mem_cons.mpr ⟨gw_1217, List.forall_mem_cons.mpr ⟨gw_1219, List.forall_mem_cons.mpr ⟨sp_49, List.forall_mem_cons.mpr ⟨gw_1, fun _ h => absurd h List.not_mem_nil⟩⟩⟩⟩) (gi_ws gw_1220), rfl, by decide +kernel, by decide +kernel, by decide +kernel⟩
theorem gV_RX11_508 : GV RX11 508 RX0 yX0_beside cX0_beside 6 (some .int) 2 := ⟨gi_app (List.forall_mem_cons.mpr ⟨gw_1229, List.forall_mem_cons.mpr ⟨gw_1118, List.forall_mem_cons.mpr ⟨gw_1119, List.forall_mem_cons.mpr ⟨gw_2, fun _ h => absurd h List.not_mem_nil⟩⟩⟩⟩) (gi_ws gw_1120), rfl, by decide +kernel, by decide +kernel, by decide +kernel⟩
theorem fl_RX11_511 : FL RX11 511 3 5 := ⟨(RX3, TX3, 16), rfl, by decide, lays_3, gw_444⟩
theorem sp_51 : Cond.selects RX11 yX11_carryField yX11_carryField ∈ gw := gw_mem (pv_in (y := yX11_carryField) (n := 20) (List.mem_of_getElem? (i := 51) (by decide +kernel))) (by decide +kernel)
theorem gV_RX11_515 : GV RX11 515 RX11 yX11_carryField cX11_carryField 5 (none : Option Jvm.ClassFile.FieldType) 3 := ⟨gi_app (List.forall_mem_cons.mpr ⟨gw_1230, List.forall_mem_cons.mpr ⟨gw_1232, List.forall_mem_cons.mpr ⟨sp_51, List.forall_mem_cons.mpr ⟨gw_1, fun _ h => absurd h List.not_mem_nil⟩⟩⟩⟩) (gi_ws gw_1233), rfl, by decide +kernel, by decide +kernel, by decide +kernel⟩
theorem fp_RX11_344 : FP RX11 344 3 2 .int false := ⟨(RX3, TX3, 16), tyX3, rfl, by decide, lays_3, gw_438, tyX3_ok, nmX3, rfl, by decide +kernel, fun h => by cases h⟩
theorem sp_52 : Cond.selects RX11 yX11_loseStation yX11_loseStation ∈ gw := gw_mem (pv_in (y := yX11_loseStation) (n := 20) (List.mem_of_getElem? (i := 52) (by decide +kernel))) (by decide +kernel)
theorem gV_RX11_519 : GV RX11 519 RX11 yX11_loseStation cX11_loseStation 3 (none : Option Jvm.ClassFile.FieldType) 1 := ⟨gi_app (List.forall_mem_cons.mpr ⟨gw_1234, List.forall_mem_cons.mpr ⟨gw_1236, List.forall_mem_cons.mpr ⟨sp_52, List.forall_mem_cons.mpr ⟨gw_1, fun _ h => absurd h List.not_mem_nil⟩⟩⟩⟩) (gi_ws gw_1237), rfl, by decide +kernel, by decide +kernel, by decide +kernel⟩
theorem fp_RX11_511 : FP RX11 511 3 5 .boolean false := ⟨(RX3, TX3, 16), tyX3, rfl, by decide, lays_3, gw_444, tyX3_ok, nmX3, rfl, by decide +kernel, fun h => by cases h⟩
theorem fl_RX11_522 : FL RX11 522 6 8 := ⟨(RX7, TX7, 11), rfl, by decide, lays_6, gw_1067⟩
theorem sp_54 : Cond.selects RX11 yX11_meetIce yX11_meetIce ∈ gw := gw_mem (pv_in (y := yX11_meetIce) (n := 20) (List.mem_of_getElem? (i := 54) (by decide +kernel))) (by decide +kernel)
theorem gV_RX11_525 : GV RX11 525 RX11 yX11_meetIce cX11_meetIce 2 (none : Option Jvm.ClassFile.FieldType) 1 := ⟨gi_app (List.forall_mem_cons.mpr ⟨gw_1242, List.forall_mem_cons.mpr ⟨gw_1244, List.forall_mem_cons.mpr ⟨sp_54, List.forall_mem_cons.mpr ⟨gw_1, fun _ h => absurd h List.not_mem_nil⟩⟩⟩⟩) (gi_ws gw_1245), rfl, by decide +kernel, by decide +kernel, by decide +kernel⟩
theorem sp_56 : Cond.selects RX11 yX11_comeHome yX11_comeHome ∈ gw := gw_mem (pv_in (y := yX11_comeHome) (n := 20) (List.mem_of_getElem? (i := 56) (by decide +kernel))) (by decide +kernel)
theorem gV_RX11_528 : GV RX11 528 RX11 yX11_comeHome cX11_comeHome 2 (none : Option Jvm.ClassFile.FieldType) 1 := ⟨gi_app (List.forall_mem_cons.mpr ⟨gw_1258, List.forall_mem_cons.mpr ⟨gw_1260, List.forall_mem_cons.mpr ⟨sp_56, List.forall_mem_cons.mpr ⟨gw_1, fun _ h => absurd h List.not_mem_nil⟩⟩⟩⟩) (gi_ws gw_1261), rfl, by decide +kernel, by decide +kernel, by decide +kernel⟩
theorem fl_RX11_531 : FL RX11 531 6 4 := ⟨(RX7, TX7, 11), rfl, by decide, lays_6, gw_1059⟩
theorem gV_RX11_534 : GV RX11 534 RX0 yX0_coverOn cX0_coverOn 3 (some .int) 2 := ⟨gi_app (List.forall_mem_cons.mpr ⟨gw_1246, List.forall_mem_cons.mpr ⟨gw_1247, List.forall_mem_cons.mpr ⟨gw_1248, List.forall_mem_cons.mpr ⟨gw_2, fun _ h => absurd h List.not_mem_nil⟩⟩⟩⟩) (gi_ws gw_1249), rfl, by decide +kernel, by decide +kernel, by decide +kernel⟩
theorem fl_RX11_537 : FL RX11 537 6 2 := ⟨(RX7, TX7, 11), rfl, by decide, lays_6, gw_1055⟩
theorem sp_55 : Cond.selects RX11 yX11_unload yX11_unload ∈ gw := gw_mem (pv_in (y := yX11_unload) (n := 20) (List.mem_of_getElem? (i := 55) (by decide +kernel))) (by decide +kernel)
theorem gV_RX11_540 : GV RX11 540 RX11 yX11_unload cX11_unload 5 (none : Option Jvm.ClassFile.FieldType) 1 := ⟨gi_app (List.forall_mem_cons.mpr ⟨gw_1250, List.forall_mem_cons.mpr ⟨gw_1252, List.forall_mem_cons.mpr ⟨sp_55, List.forall_mem_cons.mpr ⟨gw_1, fun _ h => absurd h List.not_mem_nil⟩⟩⟩⟩) (gi_ws gw_1253), rfl, by decide +kernel, by decide +kernel, by decide +kernel⟩
theorem gV_RX11_543 : GV RX11 543 RX7 yX7_turnBack cX7_turnBack 2 (none : Option Jvm.ClassFile.FieldType) 1 := ⟨gi_app (List.forall_mem_cons.mpr ⟨gw_1254, List.forall_mem_cons.mpr ⟨gw_1255, List.forall_mem_cons.mpr ⟨gw_1256, List.forall_mem_cons.mpr ⟨gw_20, fun _ h => absurd h List.not_mem_nil⟩⟩⟩⟩) (gi_ws gw_1257), rfl, by decide +kernel, by decide +kernel, by decide +kernel⟩
theorem fp_RX11_410 : FP RX11 410 6 3 .int false := ⟨(RX7, TX7, 11), tyX7, rfl, by decide, lays_6, gw_1057, tyX7_ok, nmX7, rfl, by decide +kernel, fun h => by cases h⟩
theorem fl_RX11_546 : FL RX11 546 6 9 := ⟨(RX7, TX7, 11), rfl, by decide, lays_6, gw_1069⟩
theorem fp_RX11_546 : FP RX11 546 6 9 .int false := ⟨(RX7, TX7, 11), tyX7, rfl, by decide, lays_6, gw_1069, tyX7_ok, nmX7, rfl, by decide +kernel, fun h => by cases h⟩
theorem fl_RX11_549 : FL RX11 549 6 5 := ⟨(RX7, TX7, 11), rfl, by decide, lays_6, gw_1061⟩
theorem fl_RX11_552 : FL RX11 552 6 6 := ⟨(RX7, TX7, 11), rfl, by decide, lays_6, gw_1063⟩
theorem fp_RX11_552 : FP RX11 552 6 6 .int false := ⟨(RX7, TX7, 11), tyX7, rfl, by decide, lays_6, gw_1063, tyX7_ok, nmX7, rfl, by decide +kernel, fun h => by cases h⟩
theorem fl_RX11_553 : FL RX11 553 6 7 := ⟨(RX7, TX7, 11), rfl, by decide, lays_6, gw_1065⟩
theorem fp_RX11_553 : FP RX11 553 6 7 .int false := ⟨(RX7, TX7, 11), tyX7, rfl, by decide, lays_6, gw_1065, tyX7_ok, nmX7, rfl, by decide +kernel, fun h => by cases h⟩
theorem gV_RX11_556 : GV RX11 556 RX3 yX3_addSounding cX3_addSounding 3 (some .boolean) 2 := ⟨gi_app (List.forall_mem_cons.mpr ⟨gw_1270, List.forall_mem_cons.mpr ⟨gw_1271, List.forall_mem_cons.mpr ⟨gw_1272, List.forall_mem_cons.mpr ⟨gw_10, fun _ h => absurd h List.not_mem_nil⟩⟩⟩⟩) (gi_ws gw_1273), rfl, by decide +kernel, by decide +kernel, by decide +kernel⟩
theorem gS_RX11_559 : GS RX11 559 yX11_isYear cX11_isYear 1 (some .boolean) 1 := ⟨gi_app (List.forall_mem_cons.mpr ⟨gw_1291, List.forall_mem_cons.mpr ⟨gw_1292, List.forall_mem_cons.mpr ⟨gw_1, fun _ h => absurd h List.not_mem_nil⟩⟩⟩) (gi_ws gw_1293), by decide +kernel, by decide +kernel, by decide +kernel⟩
theorem sp_58 : Cond.selects RX11 yX11_isOver yX11_isOver ∈ gw := gw_mem (pv_in (y := yX11_isOver) (n := 20) (List.mem_of_getElem? (i := 58) (by decide +kernel))) (by decide +kernel)
theorem gV_RX11_562 : GV RX11 562 RX11 yX11_isOver cX11_isOver 5 (some .boolean) 1 := ⟨gi_app (List.forall_mem_cons.mpr ⟨gw_1310, List.forall_mem_cons.mpr ⟨gw_1312, List.forall_mem_cons.mpr ⟨sp_58, List.forall_mem_cons.mpr ⟨gw_1, fun _ h => absurd h List.not_mem_nil⟩⟩⟩⟩) (gi_ws gw_1313), rfl, by decide +kernel, by decide +kernel, by decide +kernel⟩
theorem fl_RX11_565 : FL RX11 565 6 0 := ⟨(RX7, TX7, 11), rfl, by decide, lays_6, gw_1051⟩
theorem sp_59 : Cond.selects RX11 yX11_tonnesUpTo yX11_tonnesUpTo ∈ gw := gw_mem (pv_in (y := yX11_tonnesUpTo) (n := 20) (List.mem_of_getElem? (i := 59) (by decide +kernel))) (by decide +kernel)
theorem gV_RX11_566 : GV RX11 566 RX11 yX11_tonnesUpTo cX11_tonnesUpTo 7 (some .int) 1 := ⟨gi_app (List.forall_mem_cons.mpr ⟨gw_1314, List.forall_mem_cons.mpr ⟨gw_1316, List.forall_mem_cons.mpr ⟨sp_59, List.forall_mem_cons.mpr ⟨gw_1, fun _ h => absurd h List.not_mem_nil⟩⟩⟩⟩) (gi_ws gw_1317), rfl, by decide +kernel, by decide +kernel, by decide +kernel⟩
theorem sp_60 : Cond.selects RX11 yX11_isDoubtful yX11_isDoubtful ∈ gw := gw_mem (pv_in (y := yX11_isDoubtful) (n := 20) (List.mem_of_getElem? (i := 60) (by decide +kernel))) (by decide +kernel)
theorem gV_RX11_569 : GV RX11 569 RX11 yX11_isDoubtful cX11_isDoubtful 6 (some .boolean) 2 := ⟨gi_app (List.forall_mem_cons.mpr ⟨gw_1322, List.forall_mem_cons.mpr ⟨gw_1324, List.forall_mem_cons.mpr ⟨sp_60, List.forall_mem_cons.mpr ⟨gw_1, fun _ h => absurd h List.not_mem_nil⟩⟩⟩⟩) (gi_ws gw_1325), rfl, by decide +kernel, by decide +kernel, by decide +kernel⟩
theorem gS_RX11_572 : GS RX11 572 yJ9_abs_0f7a4 cJ9_abs_0f7a4 1 (some .int) 1 := ⟨gi_app (List.forall_mem_cons.mpr ⟨gw_1326, List.forall_mem_cons.mpr ⟨gw_992, List.forall_mem_cons.mpr ⟨gw_6, fun _ h => absurd h List.not_mem_nil⟩⟩⟩) (gi_ws gw_993), by decide +kernel, by decide +kernel, by decide +kernel⟩
theorem fl_RX11_575 : FL RX11 575 2 2 := ⟨(RX2, TX2, 5), rfl, by decide, lays_2, gw_336⟩
theorem fp_RX11_575 : FP RX11 575 2 2 .int false := ⟨(RX2, TX2, 5), tyX2, rfl, by decide, lays_2, gw_336, tyX2_ok, nmX2, rfl, by decide +kernel, fun h => by cases h⟩
theorem fl_RX11_578 : FL RX11 578 2 4 := ⟨(RX2, TX2, 5), rfl, by decide, lays_2, gw_341⟩
theorem sp_61 : Cond.selects RX11 yX11_blockers yX11_blockers ∈ gw := gw_mem (pv_in (y := yX11_blockers) (n := 20) (List.mem_of_getElem? (i := 61) (by decide +kernel))) (by decide +kernel)
theorem gV_RX11_581 : GV RX11 581 RX11 yX11_blockers cX11_blockers 5 (some .int) 1 := ⟨gi_app (List.forall_mem_cons.mpr ⟨gw_1339, List.forall_mem_cons.mpr ⟨gw_1341, List.forall_mem_cons.mpr ⟨sp_61, List.forall_mem_cons.mpr ⟨gw_1, fun _ h => absurd h List.not_mem_nil⟩⟩⟩⟩) (gi_ws gw_1342), rfl, by decide +kernel, by decide +kernel, by decide +kernel⟩
theorem sp_62 : Cond.selects RX11 yX11_worthOf yX11_worthOf ∈ gw := gw_mem (pv_in (y := yX11_worthOf) (n := 20) (List.mem_of_getElem? (i := 62) (by decide +kernel))) (by decide +kernel)
theorem gV_RX11_584 : GV RX11 584 RX11 yX11_worthOf cX11_worthOf 4 (some .int) 1 := ⟨gi_app (List.forall_mem_cons.mpr ⟨gw_1352, List.forall_mem_cons.mpr ⟨gw_1354, List.forall_mem_cons.mpr ⟨sp_62, List.forall_mem_cons.mpr ⟨gw_1, fun _ h => absurd h List.not_mem_nil⟩⟩⟩⟩) (gi_ws gw_1355), rfl, by decide +kernel, by decide +kernel, by decide +kernel⟩
theorem gV_RX11_587 : GV RX11 587 RX2 yX2_blocksWords cX2_blocksWords 3 (some .boolean) 1 := ⟨gi_app (List.forall_mem_cons.mpr ⟨gw_1343, List.forall_mem_cons.mpr ⟨gw_1344, List.forall_mem_cons.mpr ⟨gw_1345, List.forall_mem_cons.mpr ⟨gw_9, fun _ h => absurd h List.not_mem_nil⟩⟩⟩⟩) (gi_ws gw_1346), rfl, by decide +kernel, by decide +kernel, by decide +kernel⟩
theorem gV_RX11_590 : GV RX11 590 RX6 yX6_hasStation cX6_hasStation 3 (some .boolean) 1 := ⟨gi_app (List.forall_mem_cons.mpr ⟨gw_1360, List.forall_mem_cons.mpr ⟨gw_1361, List.forall_mem_cons.mpr ⟨gw_1362, List.forall_mem_cons.mpr ⟨gw_7, fun _ h => absurd h List.not_mem_nil⟩⟩⟩⟩) (gi_ws gw_1363), rfl, by decide +kernel, by decide +kernel, by decide +kernel⟩
theorem fl_RX11_593 : FL RX11 593 5 0 := ⟨(RX6, TX6, 10), rfl, by decide, lays_5, gw_182⟩
theorem fl_RX11_596 : FL RX11 596 5 1 := ⟨(RX6, TX6, 10), rfl, by decide, lays_5, gw_184⟩
theorem fl_RX11_599 : FL RX11 599 5 2 := ⟨(RX6, TX6, 10), rfl, by decide, lays_5, gw_186⟩
theorem gV_RX11_602 : GV RX11 602 RX6 yX6_needs cX6_needs 3 (some .int) 0 := ⟨gi_app (List.forall_mem_cons.mpr ⟨gw_1373, List.forall_mem_cons.mpr ⟨gw_1374, List.forall_mem_cons.mpr ⟨gw_1375, List.forall_mem_cons.mpr ⟨gw_7, fun _ h => absurd h List.not_mem_nil⟩⟩⟩⟩) (gi_ws gw_1376), rfl, by decide +kernel, by decide +kernel, by decide +kernel⟩
theorem fl_RX11_605 : FL RX11 605 5 8 := ⟨(RX6, TX6, 10), rfl, by decide, lays_5, gw_195⟩
theorem sp_63 : Cond.selects RX11 yX11_measureLegs yX11_measureLegs ∈ gw := gw_mem (pv_in (y := yX11_measureLegs) (n := 20) (List.mem_of_getElem? (i := 63) (by decide +kernel))) (by decide +kernel)
theorem gV_RX11_608 : GV RX11 608 RX11 yX11_measureLegs cX11_measureLegs 5 (none : Option Jvm.ClassFile.FieldType) 0 := ⟨gi_app (List.forall_mem_cons.mpr ⟨gw_1377, List.forall_mem_cons.mpr ⟨gw_1379, List.forall_mem_cons.mpr ⟨sp_63, List.forall_mem_cons.mpr ⟨gw_1, fun _ h => absurd h List.not_mem_nil⟩⟩⟩⟩) (gi_ws gw_1380), rfl, by decide +kernel, by decide +kernel, by decide +kernel⟩
theorem gV_RX11_611 : GV RX11 611 RX6 yX6_seek cX6_seek 2 (none : Option Jvm.ClassFile.FieldType) 1 := ⟨gi_app (List.forall_mem_cons.mpr ⟨gw_1381, List.forall_mem_cons.mpr ⟨gw_1382, List.forall_mem_cons.mpr ⟨gw_1383, List.forall_mem_cons.mpr ⟨gw_7, fun _ h => absurd h List.not_mem_nil⟩⟩⟩⟩) (gi_ws gw_1384), rfl, by decide +kernel, by decide +kernel, by decide +kernel⟩
theorem fl_RX11_614 : FL RX11 614 5 9 := ⟨(RX6, TX6, 10), rfl, by decide, lays_5, gw_197⟩
theorem gV_RX11_617 : GV RX11 617 RX11 yX11_plan cX11_plan 6 (some .int) 3 := ⟨gi_app (List.forall_mem_cons.mpr ⟨gw_1417, List.forall_mem_cons.mpr ⟨gw_1370, List.forall_mem_cons.mpr ⟨gw_1371, List.forall_mem_cons.mpr ⟨gw_1, fun _ h => absurd h List.not_mem_nil⟩⟩⟩⟩) (gi_ws gw_1372), rfl, by decide +kernel, by decide +kernel, by decide +kernel⟩
theorem fl_RX11_620 : FL RX11 620 5 7 := ⟨(RX6, TX6, 10), rfl, by decide, lays_5, gw_193⟩
theorem fl_RX11_623 : FL RX11 623 5 3 := ⟨(RX6, TX6, 10), rfl, by decide, lays_5, gw_188⟩
theorem sp_70 : Cond.selects RX11 yX11_firstWrong yX11_firstWrong ∈ gw := gw_mem (pv_in (y := yX11_firstWrong) (n := 20) (List.mem_of_getElem? (i := 70) (by decide +kernel))) (by decide +kernel)
theorem gV_RX11_627 : GV RX11 627 RX11 yX11_firstWrong cX11_firstWrong 5 (some .int) 1 := ⟨gi_app (List.forall_mem_cons.mpr ⟨gw_1431, List.forall_mem_cons.mpr ⟨gw_1433, List.forall_mem_cons.mpr ⟨sp_70, List.forall_mem_cons.mpr ⟨gw_1, fun _ h => absurd h List.not_mem_nil⟩⟩⟩⟩) (gi_ws gw_1434), rfl, by decide +kernel, by decide +kernel, by decide +kernel⟩
theorem sp_71 : Cond.selects RX11 yX11_fedNumber yX11_fedNumber ∈ gw := gw_mem (pv_in (y := yX11_fedNumber) (n := 20) (List.mem_of_getElem? (i := 71) (by decide +kernel))) (by decide +kernel)
theorem gV_RX11_630 : GV RX11 630 RX11 yX11_fedNumber cX11_fedNumber 4 (some .int) 1 := ⟨gi_app (List.forall_mem_cons.mpr ⟨gw_1435, List.forall_mem_cons.mpr ⟨gw_1437, List.forall_mem_cons.mpr ⟨sp_71, List.forall_mem_cons.mpr ⟨gw_1, fun _ h => absurd h List.not_mem_nil⟩⟩⟩⟩) (gi_ws gw_1438), rfl, by decide +kernel, by decide +kernel, by decide +kernel⟩
theorem sp_72 : Cond.selects RX11 yX11_lookAtStation yX11_lookAtStation ∈ gw := gw_mem (pv_in (y := yX11_lookAtStation) (n := 20) (List.mem_of_getElem? (i := 72) (by decide +kernel))) (by decide +kernel)
theorem gV_RX11_633 : GV RX11 633 RX11 yX11_lookAtStation cX11_lookAtStation 3 (some .int) 2 := ⟨gi_app (List.forall_mem_cons.mpr ⟨gw_1443, List.forall_mem_cons.mpr ⟨gw_1445, List.forall_mem_cons.mpr ⟨sp_72, List.forall_mem_cons.mpr ⟨gw_1, fun _ h => absurd h List.not_mem_nil⟩⟩⟩⟩) (gi_ws gw_1446), rfl, by decide +kernel, by decide +kernel, by decide +kernel⟩
theorem fl_RX11_639 : FL RX11 639 0 3 := ⟨(RX0, TX0, 13), rfl, by decide, lays_0, gw_45⟩
theorem fl_RX11_642 : FL RX11 642 0 4 := ⟨(RX0, TX0, 13), rfl, by decide, lays_0, gw_47⟩
theorem sp_73 : Cond.selects RX11 yX11_sledgesOnWay yX11_sledgesOnWay ∈ gw := gw_mem (pv_in (y := yX11_sledgesOnWay) (n := 20) (List.mem_of_getElem? (i := 73) (by decide +kernel))) (by decide +kernel)
theorem gV_RX11_644 : GV RX11 644 RX11 yX11_sledgesOnWay cX11_sledgesOnWay 3 (some .int) 0 := ⟨gi_app (List.forall_mem_cons.mpr ⟨gw_1464, List.forall_mem_cons.mpr ⟨gw_1466, List.forall_mem_cons.mpr ⟨sp_73, List.forall_mem_cons.mpr ⟨gw_1, fun _ h => absurd h List.not_mem_nil⟩⟩⟩⟩) (gi_ws gw_1467), rfl, by decide +kernel, by decide +kernel, by decide +kernel⟩
theorem sp_74 : Cond.selects RX11 yX11_decidesFrom yX11_decidesFrom ∈ gw := gw_mem (pv_in (y := yX11_decidesFrom) (n := 20) (List.mem_of_getElem? (i := 74) (by decide +kernel))) (by decide +kernel)
theorem gV_RX11_647 : GV RX11 647 RX11 yX11_decidesFrom cX11_decidesFrom 3 (some .int) 1 := ⟨gi_app (List.forall_mem_cons.mpr ⟨gw_1468, List.forall_mem_cons.mpr ⟨gw_1470, List.forall_mem_cons.mpr ⟨sp_74, List.forall_mem_cons.mpr ⟨gw_1, fun _ h => absurd h List.not_mem_nil⟩⟩⟩⟩) (gi_ws gw_1471), rfl, by decide +kernel, by decide +kernel, by decide +kernel⟩
theorem fl_RX12_7 : FL RX12 7 11 3 := ⟨(RX12, TX12, 151), rfl, by decide, lays_11, gw_1485⟩
theorem fp_RX12_7 : FP RX12 7 11 3 .int false := ⟨(RX12, TX12, 151), tyX12, rfl, by decide, lays_11, gw_1485, tyX12_ok, nmX12, rfl, by decide +kernel, fun h => by cases h⟩
theorem fl_RX12_13 : FL RX12 13 11 4 := ⟨(RX12, TX12, 151), rfl, by decide, lays_11, gw_1486⟩
theorem fp_RX12_13 : FP RX12 13 11 4 .int false := ⟨(RX12, TX12, 151), tyX12, rfl, by decide, lays_11, gw_1486, tyX12_ok, nmX12, rfl, by decide +kernel, fun h => by cases h⟩
theorem fl_RX12_16 : FL RX12 16 11 5 := ⟨(RX12, TX12, 151), rfl, by decide, lays_11, gw_1487⟩
theorem fp_RX12_16 : FP RX12 16 11 5 (.array .int) true := ⟨(RX12, TX12, 151), tyX12, rfl, by decide, lays_11, gw_1487, tyX12_ok, nmX12, rfl, by decide +kernel, fun _ => rfl⟩
theorem fl_RX12_20 : FL RX12 20 11 6 := ⟨(RX12, TX12, 151), rfl, by decide, lays_11, gw_1488⟩
theorem fp_RX12_20 : FP RX12 20 11 6 (.array .int) true := ⟨(RX12, TX12, 151), tyX12, rfl, by decide, lays_11, gw_1488, tyX12_ok, nmX12, rfl, by decide +kernel, fun _ => rfl⟩
theorem fl_RX12_23 : FL RX12 23 11 7 := ⟨(RX12, TX12, 151), rfl, by decide, lays_11, gw_1489⟩
theorem fp_RX12_23 : FP RX12 23 11 7 (.array .int) true := ⟨(RX12, TX12, 151), tyX12, rfl, by decide, lays_11, gw_1489, tyX12_ok, nmX12, rfl, by decide +kernel, fun _ => rfl⟩
theorem fl_RX12_26 : FL RX12 26 11 8 := ⟨(RX12, TX12, 151), rfl, by decide, lays_11, gw_1490⟩
theorem fp_RX12_26 : FP RX12 26 11 8 (.array .int) true := ⟨(RX12, TX12, 151), tyX12, rfl, by decide, lays_11, gw_1490, tyX12_ok, nmX12, rfl, by decide +kernel, fun _ => rfl⟩
theorem fl_RX12_29 : FL RX12 29 11 11 := ⟨(RX12, TX12, 151), rfl, by decide, lays_11, gw_1493⟩
theorem fp_RX12_29 : FP RX12 29 11 11 (.array .int) true := ⟨(RX12, TX12, 151), tyX12, rfl, by decide, lays_11, gw_1493, tyX12_ok, nmX12, rfl, by decide +kernel, fun _ => rfl⟩
theorem fl_RX12_32 : FL RX12 32 11 12 := ⟨(RX12, TX12, 151), rfl, by decide, lays_11, gw_1494⟩
theorem fp_RX12_32 : FP RX12 32 11 12 (.array .int) true := ⟨(RX12, TX12, 151), tyX12, rfl, by decide, lays_11, gw_1494, tyX12_ok, nmX12, rfl, by decide +kernel, fun _ => rfl⟩
theorem fl_RX12_35 : FL RX12 35 11 13 := ⟨(RX12, TX12, 151), rfl, by decide, lays_11, gw_1495⟩
theorem fp_RX12_35 : FP RX12 35 11 13 (.array .int) true := ⟨(RX12, TX12, 151), tyX12, rfl, by decide, lays_11, gw_1495, tyX12_ok, nmX12, rfl, by decide +kernel, fun _ => rfl⟩
theorem fl_RX12_38 : FL RX12 38 11 14 := ⟨(RX12, TX12, 151), rfl, by decide, lays_11, gw_1496⟩
theorem fp_RX12_38 : FP RX12 38 11 14 (.array .int) true := ⟨(RX12, TX12, 151), tyX12, rfl, by decide, lays_11, gw_1496, tyX12_ok, nmX12, rfl, by decide +kernel, fun _ => rfl⟩
theorem fl_RX12_41 : FL RX12 41 11 15 := ⟨(RX12, TX12, 151), rfl, by decide, lays_11, gw_1497⟩
theorem fp_RX12_41 : FP RX12 41 11 15 (.array .int) true := ⟨(RX12, TX12, 151), tyX12, rfl, by decide, lays_11, gw_1497, tyX12_ok, nmX12, rfl, by decide +kernel, fun _ => rfl⟩
theorem fl_RX12_44 : FL RX12 44 11 16 := ⟨(RX12, TX12, 151), rfl, by decide, lays_11, gw_1498⟩
theorem fp_RX12_44 : FP RX12 44 11 16 (.array .int) true := ⟨(RX12, TX12, 151), tyX12, rfl, by decide, lays_11, gw_1498, tyX12_ok, nmX12, rfl, by decide +kernel, fun _ => rfl⟩
theorem fl_RX12_47 : FL RX12 47 11 17 := ⟨(RX12, TX12, 151), rfl, by decide, lays_11, gw_1499⟩
theorem fp_RX12_47 : FP RX12 47 11 17 (.array .int) true := ⟨(RX12, TX12, 151), tyX12, rfl, by decide, lays_11, gw_1499, tyX12_ok, nmX12, rfl, by decide +kernel, fun _ => rfl⟩
theorem fl_RX12_50 : FL RX12 50 11 18 := ⟨(RX12, TX12, 151), rfl, by decide, lays_11, gw_1500⟩
theorem fp_RX12_50 : FP RX12 50 11 18 (.array .int) true := ⟨(RX12, TX12, 151), tyX12, rfl, by decide, lays_11, gw_1500, tyX12_ok, nmX12, rfl, by decide +kernel, fun _ => rfl⟩
theorem fl_RX12_53 : FL RX12 53 11 19 := ⟨(RX12, TX12, 151), rfl, by decide, lays_11, gw_1501⟩
theorem fp_RX12_53 : FP RX12 53 11 19 (.array .int) true := ⟨(RX12, TX12, 151), tyX12, rfl, by decide, lays_11, gw_1501, tyX12_ok, nmX12, rfl, by decide +kernel, fun _ => rfl⟩
theorem fl_RX12_56 : FL RX12 56 11 20 := ⟨(RX12, TX12, 151), rfl, by decide, lays_11, gw_1502⟩
theorem fp_RX12_56 : FP RX12 56 11 20 (.array .int) true := ⟨(RX12, TX12, 151), tyX12, rfl, by decide, lays_11, gw_1502, tyX12_ok, nmX12, rfl, by decide +kernel, fun _ => rfl⟩
theorem fl_RX12_59 : FL RX12 59 11 21 := ⟨(RX12, TX12, 151), rfl, by decide, lays_11, gw_1503⟩
theorem fp_RX12_59 : FP RX12 59 11 21 (.array .int) true := ⟨(RX12, TX12, 151), tyX12, rfl, by decide, lays_11, gw_1503, tyX12_ok, nmX12, rfl, by decide +kernel, fun _ => rfl⟩
theorem fl_RX12_62 : FL RX12 62 11 22 := ⟨(RX12, TX12, 151), rfl, by decide, lays_11, gw_1504⟩
theorem fp_RX12_62 : FP RX12 62 11 22 (.array .int) true := ⟨(RX12, TX12, 151), tyX12, rfl, by decide, lays_11, gw_1504, tyX12_ok, nmX12, rfl, by decide +kernel, fun _ => rfl⟩
theorem fl_RX12_65 : FL RX12 65 11 23 := ⟨(RX12, TX12, 151), rfl, by decide, lays_11, gw_1505⟩
theorem fp_RX12_65 : FP RX12 65 11 23 (.array .int) true := ⟨(RX12, TX12, 151), tyX12, rfl, by decide, lays_11, gw_1505, tyX12_ok, nmX12, rfl, by decide +kernel, fun _ => rfl⟩
theorem fl_RX12_68 : FL RX12 68 11 24 := ⟨(RX12, TX12, 151), rfl, by decide, lays_11, gw_1506⟩
theorem fp_RX12_68 : FP RX12 68 11 24 (.array .int) true := ⟨(RX12, TX12, 151), tyX12, rfl, by decide, lays_11, gw_1506, tyX12_ok, nmX12, rfl, by decide +kernel, fun _ => rfl⟩
theorem fl_RX12_71 : FL RX12 71 11 25 := ⟨(RX12, TX12, 151), rfl, by decide, lays_11, gw_1507⟩
theorem fp_RX12_71 : FP RX12 71 11 25 (.array .int) true := ⟨(RX12, TX12, 151), tyX12, rfl, by decide, lays_11, gw_1507, tyX12_ok, nmX12, rfl, by decide +kernel, fun _ => rfl⟩
theorem fl_RX12_74 : FL RX12 74 11 26 := ⟨(RX12, TX12, 151), rfl, by decide, lays_11, gw_1508⟩
theorem fp_RX12_74 : FP RX12 74 11 26 (.array .int) true := ⟨(RX12, TX12, 151), tyX12, rfl, by decide, lays_11, gw_1508, tyX12_ok, nmX12, rfl, by decide +kernel, fun _ => rfl⟩
theorem fl_RX12_77 : FL RX12 77 11 27 := ⟨(RX12, TX12, 151), rfl, by decide, lays_11, gw_1509⟩
theorem fp_RX12_77 : FP RX12 77 11 27 (.array .int) true := ⟨(RX12, TX12, 151), tyX12, rfl, by decide, lays_11, gw_1509, tyX12_ok, nmX12, rfl, by decide +kernel, fun _ => rfl⟩
theorem fl_RX12_80 : FL RX12 80 11 28 := ⟨(RX12, TX12, 151), rfl, by decide, lays_11, gw_1510⟩
theorem fp_RX12_80 : FP RX12 80 11 28 (.array .boolean) true := ⟨(RX12, TX12, 151), tyX12, rfl, by decide, lays_11, gw_1510, tyX12_ok, nmX12, rfl, by decide +kernel, fun _ => rfl⟩
theorem fl_RX12_84 : FL RX12 84 11 29 := ⟨(RX12, TX12, 151), rfl, by decide, lays_11, gw_1511⟩
theorem fp_RX12_84 : FP RX12 84 11 29 (.array .byte) true := ⟨(RX12, TX12, 151), tyX12, rfl, by decide, lays_11, gw_1511, tyX12_ok, nmX12, rfl, by decide +kernel, fun _ => rfl⟩
theorem fl_RX12_88 : FL RX12 88 11 39 := ⟨(RX12, TX12, 151), rfl, by decide, lays_11, gw_1521⟩
theorem fp_RX12_88 : FP RX12 88 11 39 (.array .int) true := ⟨(RX12, TX12, 151), tyX12, rfl, by decide, lays_11, gw_1521, tyX12_ok, nmX12, rfl, by decide +kernel, fun _ => rfl⟩
theorem fl_RX12_91 : FL RX12 91 11 40 := ⟨(RX12, TX12, 151), rfl, by decide, lays_11, gw_1522⟩
theorem fp_RX12_91 : FP RX12 91 11 40 (.array .int) true := ⟨(RX12, TX12, 151), tyX12, rfl, by decide, lays_11, gw_1522, tyX12_ok, nmX12, rfl, by decide +kernel, fun _ => rfl⟩
theorem fl_RX12_94 : FL RX12 94 11 41 := ⟨(RX12, TX12, 151), rfl, by decide, lays_11, gw_1523⟩
theorem fp_RX12_94 : FP RX12 94 11 41 (.array .int) true := ⟨(RX12, TX12, 151), tyX12, rfl, by decide, lays_11, gw_1523, tyX12_ok, nmX12, rfl, by decide +kernel, fun _ => rfl⟩
theorem fl_RX12_97 : FL RX12 97 11 42 := ⟨(RX12, TX12, 151), rfl, by decide, lays_11, gw_1524⟩
theorem fp_RX12_97 : FP RX12 97 11 42 (.array .int) true := ⟨(RX12, TX12, 151), tyX12, rfl, by decide, lays_11, gw_1524, tyX12_ok, nmX12, rfl, by decide +kernel, fun _ => rfl⟩
theorem fl_RX12_100 : FL RX12 100 11 43 := ⟨(RX12, TX12, 151), rfl, by decide, lays_11, gw_1525⟩
theorem fp_RX12_100 : FP RX12 100 11 43 (.array .int) true := ⟨(RX12, TX12, 151), tyX12, rfl, by decide, lays_11, gw_1525, tyX12_ok, nmX12, rfl, by decide +kernel, fun _ => rfl⟩
theorem fl_RX12_103 : FL RX12 103 11 44 := ⟨(RX12, TX12, 151), rfl, by decide, lays_11, gw_1526⟩
theorem fp_RX12_103 : FP RX12 103 11 44 (.array .int) true := ⟨(RX12, TX12, 151), tyX12, rfl, by decide, lays_11, gw_1526, tyX12_ok, nmX12, rfl, by decide +kernel, fun _ => rfl⟩
theorem fl_RX12_106 : FL RX12 106 11 45 := ⟨(RX12, TX12, 151), rfl, by decide, lays_11, gw_1527⟩
theorem fp_RX12_106 : FP RX12 106 11 45 (.array .int) true := ⟨(RX12, TX12, 151), tyX12, rfl, by decide, lays_11, gw_1527, tyX12_ok, nmX12, rfl, by decide +kernel, fun _ => rfl⟩
theorem fl_RX12_109 : FL RX12 109 11 46 := ⟨(RX12, TX12, 151), rfl, by decide, lays_11, gw_1528⟩
theorem fp_RX12_109 : FP RX12 109 11 46 (.array .int) true := ⟨(RX12, TX12, 151), tyX12, rfl, by decide, lays_11, gw_1528, tyX12_ok, nmX12, rfl, by decide +kernel, fun _ => rfl⟩
theorem fl_RX12_112 : FL RX12 112 11 49 := ⟨(RX12, TX12, 151), rfl, by decide, lays_11, gw_1531⟩
theorem fp_RX12_112 : FP RX12 112 11 49 (.array .int) true := ⟨(RX12, TX12, 151), tyX12, rfl, by decide, lays_11, gw_1531, tyX12_ok, nmX12, rfl, by decide +kernel, fun _ => rfl⟩
theorem fl_RX12_115 : FL RX12 115 11 50 := ⟨(RX12, TX12, 151), rfl, by decide, lays_11, gw_1532⟩
theorem fp_RX12_115 : FP RX12 115 11 50 (.array .int) true := ⟨(RX12, TX12, 151), tyX12, rfl, by decide, lays_11, gw_1532, tyX12_ok, nmX12, rfl, by decide +kernel, fun _ => rfl⟩
theorem fl_RX12_118 : FL RX12 118 11 51 := ⟨(RX12, TX12, 151), rfl, by decide, lays_11, gw_1533⟩
theorem fp_RX12_118 : FP RX12 118 11 51 (.array .int) true := ⟨(RX12, TX12, 151), tyX12, rfl, by decide, lays_11, gw_1533, tyX12_ok, nmX12, rfl, by decide +kernel, fun _ => rfl⟩
theorem fl_RX12_121 : FL RX12 121 11 52 := ⟨(RX12, TX12, 151), rfl, by decide, lays_11, gw_1534⟩
theorem fp_RX12_121 : FP RX12 121 11 52 (.array .int) true := ⟨(RX12, TX12, 151), tyX12, rfl, by decide, lays_11, gw_1534, tyX12_ok, nmX12, rfl, by decide +kernel, fun _ => rfl⟩
theorem fl_RX12_124 : FL RX12 124 11 53 := ⟨(RX12, TX12, 151), rfl, by decide, lays_11, gw_1535⟩
theorem fp_RX12_124 : FP RX12 124 11 53 (.array .int) true := ⟨(RX12, TX12, 151), tyX12, rfl, by decide, lays_11, gw_1535, tyX12_ok, nmX12, rfl, by decide +kernel, fun _ => rfl⟩
theorem fl_RX12_127 : FL RX12 127 11 54 := ⟨(RX12, TX12, 151), rfl, by decide, lays_11, gw_1536⟩
theorem fp_RX12_127 : FP RX12 127 11 54 (.array .int) true := ⟨(RX12, TX12, 151), tyX12, rfl, by decide, lays_11, gw_1536, tyX12_ok, nmX12, rfl, by decide +kernel, fun _ => rfl⟩
theorem fl_RX12_130 : FL RX12 130 11 55 := ⟨(RX12, TX12, 151), rfl, by decide, lays_11, gw_1537⟩
theorem fp_RX12_130 : FP RX12 130 11 55 (.array .int) true := ⟨(RX12, TX12, 151), tyX12, rfl, by decide, lays_11, gw_1537, tyX12_ok, nmX12, rfl, by decide +kernel, fun _ => rfl⟩
theorem fl_RX12_133 : FL RX12 133 11 56 := ⟨(RX12, TX12, 151), rfl, by decide, lays_11, gw_1538⟩
theorem fp_RX12_133 : FP RX12 133 11 56 (.array .int) true := ⟨(RX12, TX12, 151), tyX12, rfl, by decide, lays_11, gw_1538, tyX12_ok, nmX12, rfl, by decide +kernel, fun _ => rfl⟩
theorem fl_RX12_136 : FL RX12 136 11 57 := ⟨(RX12, TX12, 151), rfl, by decide, lays_11, gw_1539⟩
theorem fp_RX12_136 : FP RX12 136 11 57 (.array .int) true := ⟨(RX12, TX12, 151), tyX12, rfl, by decide, lays_11, gw_1539, tyX12_ok, nmX12, rfl, by decide +kernel, fun _ => rfl⟩
theorem fl_RX12_139 : FL RX12 139 11 58 := ⟨(RX12, TX12, 151), rfl, by decide, lays_11, gw_1540⟩
theorem fp_RX12_139 : FP RX12 139 11 58 (.array .int) true := ⟨(RX12, TX12, 151), tyX12, rfl, by decide, lays_11, gw_1540, tyX12_ok, nmX12, rfl, by decide +kernel, fun _ => rfl⟩
theorem fl_RX12_142 : FL RX12 142 11 59 := ⟨(RX12, TX12, 151), rfl, by decide, lays_11, gw_1541⟩
theorem fp_RX12_142 : FP RX12 142 11 59 (.array .int) true := ⟨(RX12, TX12, 151), tyX12, rfl, by decide, lays_11, gw_1541, tyX12_ok, nmX12, rfl, by decide +kernel, fun _ => rfl⟩
theorem fl_RX12_145 : FL RX12 145 11 60 := ⟨(RX12, TX12, 151), rfl, by decide, lays_11, gw_1542⟩
theorem fp_RX12_145 : FP RX12 145 11 60 (.array .int) true := ⟨(RX12, TX12, 151), tyX12, rfl, by decide, lays_11, gw_1542, tyX12_ok, nmX12, rfl, by decide +kernel, fun _ => rfl⟩
theorem fl_RX12_148 : FL RX12 148 11 61 := ⟨(RX12, TX12, 151), rfl, by decide, lays_11, gw_1543⟩
theorem fp_RX12_148 : FP RX12 148 11 61 (.array .int) true := ⟨(RX12, TX12, 151), tyX12, rfl, by decide, lays_11, gw_1543, tyX12_ok, nmX12, rfl, by decide +kernel, fun _ => rfl⟩
theorem fl_RX12_151 : FL RX12 151 11 62 := ⟨(RX12, TX12, 151), rfl, by decide, lays_11, gw_1544⟩
theorem fp_RX12_151 : FP RX12 151 11 62 (.array .int) true := ⟨(RX12, TX12, 151), tyX12, rfl, by decide, lays_11, gw_1544, tyX12_ok, nmX12, rfl, by decide +kernel, fun _ => rfl⟩
theorem fl_RX12_154 : FL RX12 154 11 63 := ⟨(RX12, TX12, 151), rfl, by decide, lays_11, gw_1545⟩
theorem fp_RX12_154 : FP RX12 154 11 63 (.array .int) true := ⟨(RX12, TX12, 151), tyX12, rfl, by decide, lays_11, gw_1545, tyX12_ok, nmX12, rfl, by decide +kernel, fun _ => rfl⟩
theorem fl_RX12_157 : FL RX12 157 11 64 := ⟨(RX12, TX12, 151), rfl, by decide, lays_11, gw_1546⟩
theorem fp_RX12_157 : FP RX12 157 11 64 (.array .boolean) true := ⟨(RX12, TX12, 151), tyX12, rfl, by decide, lays_11, gw_1546, tyX12_ok, nmX12, rfl, by decide +kernel, fun _ => rfl⟩
theorem fl_RX12_160 : FL RX12 160 11 65 := ⟨(RX12, TX12, 151), rfl, by decide, lays_11, gw_1547⟩
theorem fp_RX12_160 : FP RX12 160 11 65 (.array .boolean) true := ⟨(RX12, TX12, 151), tyX12, rfl, by decide, lays_11, gw_1547, tyX12_ok, nmX12, rfl, by decide +kernel, fun _ => rfl⟩
theorem fl_RX12_163 : FL RX12 163 11 67 := ⟨(RX12, TX12, 151), rfl, by decide, lays_11, gw_1549⟩
theorem fp_RX12_163 : FP RX12 163 11 67 (.array .int) true := ⟨(RX12, TX12, 151), tyX12, rfl, by decide, lays_11, gw_1549, tyX12_ok, nmX12, rfl, by decide +kernel, fun _ => rfl⟩
theorem fl_RX12_166 : FL RX12 166 11 68 := ⟨(RX12, TX12, 151), rfl, by decide, lays_11, gw_1550⟩
theorem fp_RX12_166 : FP RX12 166 11 68 (.array .int) true := ⟨(RX12, TX12, 151), tyX12, rfl, by decide, lays_11, gw_1550, tyX12_ok, nmX12, rfl, by decide +kernel, fun _ => rfl⟩
theorem fl_RX12_169 : FL RX12 169 11 69 := ⟨(RX12, TX12, 151), rfl, by decide, lays_11, gw_1551⟩
theorem fp_RX12_169 : FP RX12 169 11 69 (.array .int) true := ⟨(RX12, TX12, 151), tyX12, rfl, by decide, lays_11, gw_1551, tyX12_ok, nmX12, rfl, by decide +kernel, fun _ => rfl⟩
theorem fl_RX12_172 : FL RX12 172 11 70 := ⟨(RX12, TX12, 151), rfl, by decide, lays_11, gw_1552⟩
theorem fp_RX12_172 : FP RX12 172 11 70 (.array .int) true := ⟨(RX12, TX12, 151), tyX12, rfl, by decide, lays_11, gw_1552, tyX12_ok, nmX12, rfl, by decide +kernel, fun _ => rfl⟩
theorem fl_RX12_175 : FL RX12 175 11 71 := ⟨(RX12, TX12, 151), rfl, by decide, lays_11, gw_1553⟩
theorem fp_RX12_175 : FP RX12 175 11 71 (.array .int) true := ⟨(RX12, TX12, 151), tyX12, rfl, by decide, lays_11, gw_1553, tyX12_ok, nmX12, rfl, by decide +kernel, fun _ => rfl⟩
theorem fl_RX12_178 : FL RX12 178 11 72 := ⟨(RX12, TX12, 151), rfl, by decide, lays_11, gw_1554⟩
theorem fp_RX12_178 : FP RX12 178 11 72 (.array .int) true := ⟨(RX12, TX12, 151), tyX12, rfl, by decide, lays_11, gw_1554, tyX12_ok, nmX12, rfl, by decide +kernel, fun _ => rfl⟩
theorem fl_RX12_181 : FL RX12 181 11 73 := ⟨(RX12, TX12, 151), rfl, by decide, lays_11, gw_1555⟩
theorem fp_RX12_181 : FP RX12 181 11 73 (.array .int) true := ⟨(RX12, TX12, 151), tyX12, rfl, by decide, lays_11, gw_1555, tyX12_ok, nmX12, rfl, by decide +kernel, fun _ => rfl⟩
theorem fl_RX12_184 : FL RX12 184 11 74 := ⟨(RX12, TX12, 151), rfl, by decide, lays_11, gw_1556⟩
theorem fp_RX12_184 : FP RX12 184 11 74 (.array .int) true := ⟨(RX12, TX12, 151), tyX12, rfl, by decide, lays_11, gw_1556, tyX12_ok, nmX12, rfl, by decide +kernel, fun _ => rfl⟩
theorem fl_RX12_187 : FL RX12 187 11 75 := ⟨(RX12, TX12, 151), rfl, by decide, lays_11, gw_1557⟩
theorem fp_RX12_187 : FP RX12 187 11 75 (.array .int) true := ⟨(RX12, TX12, 151), tyX12, rfl, by decide, lays_11, gw_1557, tyX12_ok, nmX12, rfl, by decide +kernel, fun _ => rfl⟩
theorem fl_RX12_190 : FL RX12 190 11 76 := ⟨(RX12, TX12, 151), rfl, by decide, lays_11, gw_1558⟩
theorem fp_RX12_190 : FP RX12 190 11 76 (.array .int) true := ⟨(RX12, TX12, 151), tyX12, rfl, by decide, lays_11, gw_1558, tyX12_ok, nmX12, rfl, by decide +kernel, fun _ => rfl⟩
theorem fl_RX12_193 : FL RX12 193 11 77 := ⟨(RX12, TX12, 151), rfl, by decide, lays_11, gw_1559⟩
theorem fp_RX12_193 : FP RX12 193 11 77 (.array .int) true := ⟨(RX12, TX12, 151), tyX12, rfl, by decide, lays_11, gw_1559, tyX12_ok, nmX12, rfl, by decide +kernel, fun _ => rfl⟩
theorem fl_RX12_196 : FL RX12 196 11 78 := ⟨(RX12, TX12, 151), rfl, by decide, lays_11, gw_1560⟩
theorem fp_RX12_196 : FP RX12 196 11 78 (.array .int) true := ⟨(RX12, TX12, 151), tyX12, rfl, by decide, lays_11, gw_1560, tyX12_ok, nmX12, rfl, by decide +kernel, fun _ => rfl⟩
theorem fl_RX12_199 : FL RX12 199 11 79 := ⟨(RX12, TX12, 151), rfl, by decide, lays_11, gw_1561⟩
theorem fp_RX12_199 : FP RX12 199 11 79 (.array .int) true := ⟨(RX12, TX12, 151), tyX12, rfl, by decide, lays_11, gw_1561, tyX12_ok, nmX12, rfl, by decide +kernel, fun _ => rfl⟩
theorem fl_RX12_202 : FL RX12 202 11 80 := ⟨(RX12, TX12, 151), rfl, by decide, lays_11, gw_1562⟩
theorem fp_RX12_202 : FP RX12 202 11 80 (.array .int) true := ⟨(RX12, TX12, 151), tyX12, rfl, by decide, lays_11, gw_1562, tyX12_ok, nmX12, rfl, by decide +kernel, fun _ => rfl⟩
theorem fl_RX12_205 : FL RX12 205 11 81 := ⟨(RX12, TX12, 151), rfl, by decide, lays_11, gw_1563⟩
theorem fp_RX12_205 : FP RX12 205 11 81 (.array .int) true := ⟨(RX12, TX12, 151), tyX12, rfl, by decide, lays_11, gw_1563, tyX12_ok, nmX12, rfl, by decide +kernel, fun _ => rfl⟩
theorem fl_RX12_208 : FL RX12 208 11 94 := ⟨(RX12, TX12, 151), rfl, by decide, lays_11, gw_1576⟩
theorem fp_RX12_208 : FP RX12 208 11 94 (.array .int) true := ⟨(RX12, TX12, 151), tyX12, rfl, by decide, lays_11, gw_1576, tyX12_ok, nmX12, rfl, by decide +kernel, fun _ => rfl⟩
theorem fl_RX12_211 : FL RX12 211 11 95 := ⟨(RX12, TX12, 151), rfl, by decide, lays_11, gw_1577⟩
theorem fp_RX12_211 : FP RX12 211 11 95 (.array .int) true := ⟨(RX12, TX12, 151), tyX12, rfl, by decide, lays_11, gw_1577, tyX12_ok, nmX12, rfl, by decide +kernel, fun _ => rfl⟩
theorem fl_RX12_214 : FL RX12 214 11 96 := ⟨(RX12, TX12, 151), rfl, by decide, lays_11, gw_1578⟩
theorem fp_RX12_214 : FP RX12 214 11 96 (.array .int) true := ⟨(RX12, TX12, 151), tyX12, rfl, by decide, lays_11, gw_1578, tyX12_ok, nmX12, rfl, by decide +kernel, fun _ => rfl⟩
theorem fl_RX12_217 : FL RX12 217 11 97 := ⟨(RX12, TX12, 151), rfl, by decide, lays_11, gw_1579⟩
theorem fp_RX12_217 : FP RX12 217 11 97 (.array .int) true := ⟨(RX12, TX12, 151), tyX12, rfl, by decide, lays_11, gw_1579, tyX12_ok, nmX12, rfl, by decide +kernel, fun _ => rfl⟩
theorem fl_RX12_220 : FL RX12 220 11 98 := ⟨(RX12, TX12, 151), rfl, by decide, lays_11, gw_1580⟩
theorem fp_RX12_220 : FP RX12 220 11 98 (.array .int) true := ⟨(RX12, TX12, 151), tyX12, rfl, by decide, lays_11, gw_1580, tyX12_ok, nmX12, rfl, by decide +kernel, fun _ => rfl⟩
theorem fl_RX12_223 : FL RX12 223 11 99 := ⟨(RX12, TX12, 151), rfl, by decide, lays_11, gw_1581⟩
theorem fp_RX12_223 : FP RX12 223 11 99 (.array .int) true := ⟨(RX12, TX12, 151), tyX12, rfl, by decide, lays_11, gw_1581, tyX12_ok, nmX12, rfl, by decide +kernel, fun _ => rfl⟩
theorem fl_RX12_226 : FL RX12 226 11 100 := ⟨(RX12, TX12, 151), rfl, by decide, lays_11, gw_1582⟩
theorem fp_RX12_226 : FP RX12 226 11 100 (.array .int) true := ⟨(RX12, TX12, 151), tyX12, rfl, by decide, lays_11, gw_1582, tyX12_ok, nmX12, rfl, by decide +kernel, fun _ => rfl⟩
theorem fl_RX12_229 : FL RX12 229 11 101 := ⟨(RX12, TX12, 151), rfl, by decide, lays_11, gw_1583⟩
theorem fp_RX12_229 : FP RX12 229 11 101 (.array .int) true := ⟨(RX12, TX12, 151), tyX12, rfl, by decide, lays_11, gw_1583, tyX12_ok, nmX12, rfl, by decide +kernel, fun _ => rfl⟩
theorem fl_RX12_232 : FL RX12 232 11 102 := ⟨(RX12, TX12, 151), rfl, by decide, lays_11, gw_1584⟩
theorem fp_RX12_232 : FP RX12 232 11 102 (.array .int) true := ⟨(RX12, TX12, 151), tyX12, rfl, by decide, lays_11, gw_1584, tyX12_ok, nmX12, rfl, by decide +kernel, fun _ => rfl⟩
theorem fl_RX12_235 : FL RX12 235 11 103 := ⟨(RX12, TX12, 151), rfl, by decide, lays_11, gw_1585⟩
theorem fp_RX12_235 : FP RX12 235 11 103 (.array .int) true := ⟨(RX12, TX12, 151), tyX12, rfl, by decide, lays_11, gw_1585, tyX12_ok, nmX12, rfl, by decide +kernel, fun _ => rfl⟩
theorem fl_RX12_238 : FL RX12 238 11 104 := ⟨(RX12, TX12, 151), rfl, by decide, lays_11, gw_1586⟩
theorem fp_RX12_238 : FP RX12 238 11 104 (.array .int) true := ⟨(RX12, TX12, 151), tyX12, rfl, by decide, lays_11, gw_1586, tyX12_ok, nmX12, rfl, by decide +kernel, fun _ => rfl⟩
theorem fl_RX12_241 : FL RX12 241 11 105 := ⟨(RX12, TX12, 151), rfl, by decide, lays_11, gw_1587⟩
theorem fp_RX12_241 : FP RX12 241 11 105 (.array .int) true := ⟨(RX12, TX12, 151), tyX12, rfl, by decide, lays_11, gw_1587, tyX12_ok, nmX12, rfl, by decide +kernel, fun _ => rfl⟩
theorem fl_RX12_244 : FL RX12 244 11 106 := ⟨(RX12, TX12, 151), rfl, by decide, lays_11, gw_1588⟩
theorem fp_RX12_244 : FP RX12 244 11 106 (.array .int) true := ⟨(RX12, TX12, 151), tyX12, rfl, by decide, lays_11, gw_1588, tyX12_ok, nmX12, rfl, by decide +kernel, fun _ => rfl⟩
theorem fl_RX12_247 : FL RX12 247 11 107 := ⟨(RX12, TX12, 151), rfl, by decide, lays_11, gw_1589⟩
theorem fp_RX12_247 : FP RX12 247 11 107 (.array .int) true := ⟨(RX12, TX12, 151), tyX12, rfl, by decide, lays_11, gw_1589, tyX12_ok, nmX12, rfl, by decide +kernel, fun _ => rfl⟩
theorem fl_RX12_250 : FL RX12 250 11 108 := ⟨(RX12, TX12, 151), rfl, by decide, lays_11, gw_1590⟩
theorem fp_RX12_250 : FP RX12 250 11 108 (.array .int) true := ⟨(RX12, TX12, 151), tyX12, rfl, by decide, lays_11, gw_1590, tyX12_ok, nmX12, rfl, by decide +kernel, fun _ => rfl⟩
theorem fl_RX12_253 : FL RX12 253 11 109 := ⟨(RX12, TX12, 151), rfl, by decide, lays_11, gw_1591⟩
theorem fp_RX12_253 : FP RX12 253 11 109 (.array .int) true := ⟨(RX12, TX12, 151), tyX12, rfl, by decide, lays_11, gw_1591, tyX12_ok, nmX12, rfl, by decide +kernel, fun _ => rfl⟩
theorem fl_RX12_256 : FL RX12 256 11 110 := ⟨(RX12, TX12, 151), rfl, by decide, lays_11, gw_1592⟩
theorem fp_RX12_256 : FP RX12 256 11 110 (.array .int) true := ⟨(RX12, TX12, 151), tyX12, rfl, by decide, lays_11, gw_1592, tyX12_ok, nmX12, rfl, by decide +kernel, fun _ => rfl⟩
theorem fl_RX12_259 : FL RX12 259 11 111 := ⟨(RX12, TX12, 151), rfl, by decide, lays_11, gw_1593⟩
theorem fp_RX12_259 : FP RX12 259 11 111 (.array .boolean) true := ⟨(RX12, TX12, 151), tyX12, rfl, by decide, lays_11, gw_1593, tyX12_ok, nmX12, rfl, by decide +kernel, fun _ => rfl⟩
theorem fl_RX12_262 : FL RX12 262 11 112 := ⟨(RX12, TX12, 151), rfl, by decide, lays_11, gw_1594⟩
theorem fp_RX12_262 : FP RX12 262 11 112 (.array .int) true := ⟨(RX12, TX12, 151), tyX12, rfl, by decide, lays_11, gw_1594, tyX12_ok, nmX12, rfl, by decide +kernel, fun _ => rfl⟩
theorem fl_RX12_265 : FL RX12 265 11 113 := ⟨(RX12, TX12, 151), rfl, by decide, lays_11, gw_1595⟩
theorem fp_RX12_265 : FP RX12 265 11 113 (.array .int) true := ⟨(RX12, TX12, 151), tyX12, rfl, by decide, lays_11, gw_1595, tyX12_ok, nmX12, rfl, by decide +kernel, fun _ => rfl⟩
theorem fl_RX12_268 : FL RX12 268 11 114 := ⟨(RX12, TX12, 151), rfl, by decide, lays_11, gw_1596⟩
theorem fp_RX12_268 : FP RX12 268 11 114 (.array .int) true := ⟨(RX12, TX12, 151), tyX12, rfl, by decide, lays_11, gw_1596, tyX12_ok, nmX12, rfl, by decide +kernel, fun _ => rfl⟩
theorem fl_RX12_271 : FL RX12 271 11 115 := ⟨(RX12, TX12, 151), rfl, by decide, lays_11, gw_1597⟩
theorem fp_RX12_271 : FP RX12 271 11 115 (.array .int) true := ⟨(RX12, TX12, 151), tyX12, rfl, by decide, lays_11, gw_1597, tyX12_ok, nmX12, rfl, by decide +kernel, fun _ => rfl⟩
theorem fl_RX12_274 : FL RX12 274 11 116 := ⟨(RX12, TX12, 151), rfl, by decide, lays_11, gw_1598⟩
theorem fp_RX12_274 : FP RX12 274 11 116 (.array .int) true := ⟨(RX12, TX12, 151), tyX12, rfl, by decide, lays_11, gw_1598, tyX12_ok, nmX12, rfl, by decide +kernel, fun _ => rfl⟩
theorem fl_RX12_277 : FL RX12 277 11 117 := ⟨(RX12, TX12, 151), rfl, by decide, lays_11, gw_1599⟩
theorem fp_RX12_277 : FP RX12 277 11 117 (.array .int) true := ⟨(RX12, TX12, 151), tyX12, rfl, by decide, lays_11, gw_1599, tyX12_ok, nmX12, rfl, by decide +kernel, fun _ => rfl⟩
theorem fl_RX12_280 : FL RX12 280 11 119 := ⟨(RX12, TX12, 151), rfl, by decide, lays_11, gw_1601⟩
theorem fp_RX12_280 : FP RX12 280 11 119 .int false := ⟨(RX12, TX12, 151), tyX12, rfl, by decide, lays_11, gw_1601, tyX12_ok, nmX12, rfl, by decide +kernel, fun h => by cases h⟩
theorem fl_RX12_283 : FL RX12 283 11 121 := ⟨(RX12, TX12, 151), rfl, by decide, lays_11, gw_1603⟩
theorem fp_RX12_283 : FP RX12 283 11 121 (.array .int) true := ⟨(RX12, TX12, 151), tyX12, rfl, by decide, lays_11, gw_1603, tyX12_ok, nmX12, rfl, by decide +kernel, fun _ => rfl⟩
theorem fl_RX12_286 : FL RX12 286 11 122 := ⟨(RX12, TX12, 151), rfl, by decide, lays_11, gw_1604⟩
theorem fp_RX12_286 : FP RX12 286 11 122 (.array .int) true := ⟨(RX12, TX12, 151), tyX12, rfl, by decide, lays_11, gw_1604, tyX12_ok, nmX12, rfl, by decide +kernel, fun _ => rfl⟩
theorem fl_RX12_289 : FL RX12 289 11 123 := ⟨(RX12, TX12, 151), rfl, by decide, lays_11, gw_1605⟩
theorem fp_RX12_289 : FP RX12 289 11 123 (.array .int) true := ⟨(RX12, TX12, 151), tyX12, rfl, by decide, lays_11, gw_1605, tyX12_ok, nmX12, rfl, by decide +kernel, fun _ => rfl⟩
theorem fl_RX12_292 : FL RX12 292 11 124 := ⟨(RX12, TX12, 151), rfl, by decide, lays_11, gw_1606⟩
theorem fp_RX12_292 : FP RX12 292 11 124 (.array .int) true := ⟨(RX12, TX12, 151), tyX12, rfl, by decide, lays_11, gw_1606, tyX12_ok, nmX12, rfl, by decide +kernel, fun _ => rfl⟩
theorem fl_RX12_295 : FL RX12 295 11 125 := ⟨(RX12, TX12, 151), rfl, by decide, lays_11, gw_1607⟩
theorem fp_RX12_295 : FP RX12 295 11 125 (.array .int) true := ⟨(RX12, TX12, 151), tyX12, rfl, by decide, lays_11, gw_1607, tyX12_ok, nmX12, rfl, by decide +kernel, fun _ => rfl⟩
theorem fl_RX12_298 : FL RX12 298 11 126 := ⟨(RX12, TX12, 151), rfl, by decide, lays_11, gw_1608⟩
theorem fp_RX12_298 : FP RX12 298 11 126 (.array .int) true := ⟨(RX12, TX12, 151), tyX12, rfl, by decide, lays_11, gw_1608, tyX12_ok, nmX12, rfl, by decide +kernel, fun _ => rfl⟩
theorem fl_RX12_301 : FL RX12 301 11 127 := ⟨(RX12, TX12, 151), rfl, by decide, lays_11, gw_1609⟩
theorem fp_RX12_301 : FP RX12 301 11 127 (.array .int) true := ⟨(RX12, TX12, 151), tyX12, rfl, by decide, lays_11, gw_1609, tyX12_ok, nmX12, rfl, by decide +kernel, fun _ => rfl⟩
theorem fl_RX12_304 : FL RX12 304 11 128 := ⟨(RX12, TX12, 151), rfl, by decide, lays_11, gw_1610⟩
theorem fp_RX12_304 : FP RX12 304 11 128 (.array .int) true := ⟨(RX12, TX12, 151), tyX12, rfl, by decide, lays_11, gw_1610, tyX12_ok, nmX12, rfl, by decide +kernel, fun _ => rfl⟩
theorem fl_RX12_307 : FL RX12 307 11 129 := ⟨(RX12, TX12, 151), rfl, by decide, lays_11, gw_1611⟩
theorem fp_RX12_307 : FP RX12 307 11 129 (.array .int) true := ⟨(RX12, TX12, 151), tyX12, rfl, by decide, lays_11, gw_1611, tyX12_ok, nmX12, rfl, by decide +kernel, fun _ => rfl⟩
theorem fl_RX12_310 : FL RX12 310 11 130 := ⟨(RX12, TX12, 151), rfl, by decide, lays_11, gw_1612⟩
theorem fp_RX12_310 : FP RX12 310 11 130 (.array .int) true := ⟨(RX12, TX12, 151), tyX12, rfl, by decide, lays_11, gw_1612, tyX12_ok, nmX12, rfl, by decide +kernel, fun _ => rfl⟩
theorem fl_RX12_313 : FL RX12 313 11 131 := ⟨(RX12, TX12, 151), rfl, by decide, lays_11, gw_1613⟩
theorem fp_RX12_313 : FP RX12 313 11 131 (.array .int) true := ⟨(RX12, TX12, 151), tyX12, rfl, by decide, lays_11, gw_1613, tyX12_ok, nmX12, rfl, by decide +kernel, fun _ => rfl⟩
theorem fl_RX12_316 : FL RX12 316 11 132 := ⟨(RX12, TX12, 151), rfl, by decide, lays_11, gw_1614⟩
theorem fp_RX12_316 : FP RX12 316 11 132 (.array .int) true := ⟨(RX12, TX12, 151), tyX12, rfl, by decide, lays_11, gw_1614, tyX12_ok, nmX12, rfl, by decide +kernel, fun _ => rfl⟩
theorem fl_RX12_319 : FL RX12 319 11 134 := ⟨(RX12, TX12, 151), rfl, by decide, lays_11, gw_1616⟩
theorem fp_RX12_319 : FP RX12 319 11 134 (.array .int) true := ⟨(RX12, TX12, 151), tyX12, rfl, by decide, lays_11, gw_1616, tyX12_ok, nmX12, rfl, by decide +kernel, fun _ => rfl⟩
theorem fl_RX12_322 : FL RX12 322 11 135 := ⟨(RX12, TX12, 151), rfl, by decide, lays_11, gw_1617⟩
theorem fp_RX12_322 : FP RX12 322 11 135 (.array .boolean) true := ⟨(RX12, TX12, 151), tyX12, rfl, by decide, lays_11, gw_1617, tyX12_ok, nmX12, rfl, by decide +kernel, fun _ => rfl⟩
theorem fl_RX12_325 : FL RX12 325 11 136 := ⟨(RX12, TX12, 151), rfl, by decide, lays_11, gw_1618⟩
theorem fp_RX12_325 : FP RX12 325 11 136 (.array .boolean) true := ⟨(RX12, TX12, 151), tyX12, rfl, by decide, lays_11, gw_1618, tyX12_ok, nmX12, rfl, by decide +kernel, fun _ => rfl⟩
theorem fl_RX12_328 : FL RX12 328 11 139 := ⟨(RX12, TX12, 151), rfl, by decide, lays_11, gw_1621⟩
theorem fp_RX12_328 : FP RX12 328 11 139 (.array .int) true := ⟨(RX12, TX12, 151), tyX12, rfl, by decide, lays_11, gw_1621, tyX12_ok, nmX12, rfl, by decide +kernel, fun _ => rfl⟩
theorem fl_RX12_331 : FL RX12 331 11 140 := ⟨(RX12, TX12, 151), rfl, by decide, lays_11, gw_1622⟩
theorem fp_RX12_331 : FP RX12 331 11 140 (.array .int) true := ⟨(RX12, TX12, 151), tyX12, rfl, by decide, lays_11, gw_1622, tyX12_ok, nmX12, rfl, by decide +kernel, fun _ => rfl⟩
theorem fl_RX12_334 : FL RX12 334 11 141 := ⟨(RX12, TX12, 151), rfl, by decide, lays_11, gw_1623⟩
theorem fp_RX12_334 : FP RX12 334 11 141 (.array .int) true := ⟨(RX12, TX12, 151), tyX12, rfl, by decide, lays_11, gw_1623, tyX12_ok, nmX12, rfl, by decide +kernel, fun _ => rfl⟩
theorem fl_RX12_337 : FL RX12 337 11 142 := ⟨(RX12, TX12, 151), rfl, by decide, lays_11, gw_1624⟩
theorem fp_RX12_337 : FP RX12 337 11 142 (.array .int) true := ⟨(RX12, TX12, 151), tyX12, rfl, by decide, lays_11, gw_1624, tyX12_ok, nmX12, rfl, by decide +kernel, fun _ => rfl⟩
theorem fl_RX12_340 : FL RX12 340 11 143 := ⟨(RX12, TX12, 151), rfl, by decide, lays_11, gw_1625⟩
theorem fp_RX12_340 : FP RX12 340 11 143 (.array .int) true := ⟨(RX12, TX12, 151), tyX12, rfl, by decide, lays_11, gw_1625, tyX12_ok, nmX12, rfl, by decide +kernel, fun _ => rfl⟩
theorem fl_RX12_343 : FL RX12 343 11 144 := ⟨(RX12, TX12, 151), rfl, by decide, lays_11, gw_1626⟩
theorem fp_RX12_343 : FP RX12 343 11 144 (.array .int) true := ⟨(RX12, TX12, 151), tyX12, rfl, by decide, lays_11, gw_1626, tyX12_ok, nmX12, rfl, by decide +kernel, fun _ => rfl⟩
theorem fl_RX12_346 : FL RX12 346 11 146 := ⟨(RX12, TX12, 151), rfl, by decide, lays_11, gw_1628⟩
theorem fp_RX12_346 : FP RX12 346 11 146 (.array .int) true := ⟨(RX12, TX12, 151), tyX12, rfl, by decide, lays_11, gw_1628, tyX12_ok, nmX12, rfl, by decide +kernel, fun _ => rfl⟩
theorem fl_RX12_349 : FL RX12 349 11 147 := ⟨(RX12, TX12, 151), rfl, by decide, lays_11, gw_1629⟩
theorem fp_RX12_349 : FP RX12 349 11 147 (.array .int) true := ⟨(RX12, TX12, 151), tyX12, rfl, by decide, lays_11, gw_1629, tyX12_ok, nmX12, rfl, by decide +kernel, fun _ => rfl⟩
theorem fl_RX12_352 : FL RX12 352 11 148 := ⟨(RX12, TX12, 151), rfl, by decide, lays_11, gw_1630⟩
theorem fp_RX12_352 : FP RX12 352 11 148 (.array .int) true := ⟨(RX12, TX12, 151), tyX12, rfl, by decide, lays_11, gw_1630, tyX12_ok, nmX12, rfl, by decide +kernel, fun _ => rfl⟩
theorem fl_RX12_355 : FL RX12 355 11 149 := ⟨(RX12, TX12, 151), rfl, by decide, lays_11, gw_1631⟩
theorem fp_RX12_355 : FP RX12 355 11 149 (.array .int) true := ⟨(RX12, TX12, 151), tyX12, rfl, by decide, lays_11, gw_1631, tyX12_ok, nmX12, rfl, by decide +kernel, fun _ => rfl⟩
theorem fl_RX12_358 : FL RX12 358 11 150 := ⟨(RX12, TX12, 151), rfl, by decide, lays_11, gw_1632⟩
theorem fp_RX12_358 : FP RX12 358 11 150 (.array .boolean) true := ⟨(RX12, TX12, 151), tyX12, rfl, by decide, lays_11, gw_1632, tyX12_ok, nmX12, rfl, by decide +kernel, fun _ => rfl⟩
theorem sp_75 : Cond.selects RX12 yX12_begins yX12_begins ∈ gw := gw_mem (pv_in (y := yX12_begins) (n := 151) (List.mem_of_getElem? (i := 75) (by decide +kernel))) (by decide +kernel)
theorem gV_RX12_361 : GV RX12 361 RX12 yX12_begins cX12_begins 4 (none : Option Jvm.ClassFile.FieldType) 2 := ⟨gi_app (List.forall_mem_cons.mpr ⟨gw_1478, List.forall_mem_cons.mpr ⟨gw_1480, List.forall_mem_cons.mpr ⟨sp_75, List.forall_mem_cons.mpr ⟨gw_8, fun _ h => absurd h List.not_mem_nil⟩⟩⟩⟩) (gi_ws gw_1481), rfl, by decide +kernel, by decide +kernel, by decide +kernel⟩
theorem fl_RX12_365 : FL RX12 365 11 0 := ⟨(RX12, TX12, 151), rfl, by decide, lays_11, gw_1482⟩
theorem fp_RX12_365 : FP RX12 365 11 0 .int false := ⟨(RX12, TX12, 151), tyX12, rfl, by decide, lays_11, gw_1482, tyX12_ok, nmX12, rfl, by decide +kernel, fun h => by cases h⟩
theorem fl_RX12_368 : FL RX12 368 11 1 := ⟨(RX12, TX12, 151), rfl, by decide, lays_11, gw_1483⟩
theorem fp_RX12_368 : FP RX12 368 11 1 .int false := ⟨(RX12, TX12, 151), tyX12, rfl, by decide, lays_11, gw_1483, tyX12_ok, nmX12, rfl, by decide +kernel, fun h => by cases h⟩
theorem gS_RX12_371 : GS RX12 371 yX12_in cX12_in 3 (some .boolean) 3 := ⟨gi_app (List.forall_mem_cons.mpr ⟨gw_1941, List.forall_mem_cons.mpr ⟨gw_1942, List.forall_mem_cons.mpr ⟨gw_8, fun _ h => absurd h List.not_mem_nil⟩⟩⟩) (gi_ws gw_1943), by decide +kernel, by decide +kernel, by decide +kernel⟩
theorem fl_RX12_375 : FL RX12 375 11 10 := ⟨(RX12, TX12, 151), rfl, by decide, lays_11, gw_1492⟩
theorem fl_RX12_378 : FL RX12 378 11 66 := ⟨(RX12, TX12, 151), rfl, by decide, lays_11, gw_1548⟩
theorem sp_76 : Cond.selects RX12 yX12_isCell yX12_isCell ∈ gw := gw_mem (pv_in (y := yX12_isCell) (n := 151) (List.mem_of_getElem? (i := 76) (by decide +kernel))) (by decide +kernel)
theorem gV_RX12_381 : GV RX12 381 RX12 yX12_isCell cX12_isCell 2 (some .boolean) 1 := ⟨gi_app (List.forall_mem_cons.mpr ⟨gw_1948, List.forall_mem_cons.mpr ⟨gw_1950, List.forall_mem_cons.mpr ⟨sp_76, List.forall_mem_cons.mpr ⟨gw_8, fun _ h => absurd h List.not_mem_nil⟩⟩⟩⟩) (gi_ws gw_1951), rfl, by decide +kernel, by decide +kernel, by decide +kernel⟩
theorem gS_RX12_385 : GS RX12 385 yX12_size cX12_size 1 (some .int) 1 := ⟨gi_app (List.forall_mem_cons.mpr ⟨gw_2230, List.forall_mem_cons.mpr ⟨gw_2231, List.forall_mem_cons.mpr ⟨gw_8, fun _ h => absurd h List.not_mem_nil⟩⟩⟩) (gi_ws gw_2232), by decide +kernel, by decide +kernel, by decide +kernel⟩
theorem sp_121 : Cond.selects RX12 yX12_far yX12_far ∈ gw := gw_mem (pv_in (y := yX12_far) (n := 151) (List.mem_of_getElem? (i := 121) (by decide +kernel))) (by decide +kernel)
theorem gV_RX12_389 : GV RX12 389 RX12 yX12_far cX12_far 5 (some .int) 2 := ⟨gi_app (List.forall_mem_cons.mpr ⟨gw_2226, List.forall_mem_cons.mpr ⟨gw_2228, List.forall_mem_cons.mpr ⟨sp_121, List.forall_mem_cons.mpr ⟨gw_8, fun _ h => absurd h List.not_mem_nil⟩⟩⟩⟩) (gi_ws gw_2229), rfl, by decide +kernel, by decide +kernel, by decide +kernel⟩
theorem fl_RX12_393 : FL RX12 393 11 9 := ⟨(RX12, TX12, 151), rfl, by decide, lays_11, gw_1491⟩
theorem fl_RX12_396 : FL RX12 396 11 2 := ⟨(RX12, TX12, 151), rfl, by decide, lays_11, gw_1484⟩
theorem fp_RX12_393 : FP RX12 393 11 9 .int false := ⟨(RX12, TX12, 151), tyX12, rfl, by decide, lays_11, gw_1491, tyX12_ok, nmX12, rfl, by decide +kernel, fun h => by cases h⟩
theorem sp_85 : Cond.selects RX12 yX12_isPlace yX12_isPlace ∈ gw := gw_mem (pv_in (y := yX12_isPlace) (n := 151) (List.mem_of_getElem? (i := 85) (by decide +kernel))) (by decide +kernel)
theorem gV_RX12_399 : GV RX12 399 RX12 yX12_isPlace cX12_isPlace 3 (some .boolean) 2 := ⟨gi_app (List.forall_mem_cons.mpr ⟨gw_2007, List.forall_mem_cons.mpr ⟨gw_2009, List.forall_mem_cons.mpr ⟨sp_85, List.forall_mem_cons.mpr ⟨gw_8, fun _ h => absurd h List.not_mem_nil⟩⟩⟩⟩) (gi_ws gw_2010), rfl, by decide +kernel, by decide +kernel, by decide +kernel⟩
theorem sp_88 : Cond.selects RX12 yX12_isStation yX12_isStation ∈ gw := gw_mem (pv_in (y := yX12_isStation) (n := 151) (List.mem_of_getElem? (i := 88) (by decide +kernel))) (by decide +kernel)
theorem gV_RX12_403 : GV RX12 403 RX12 yX12_isStation cX12_isStation 2 (some .boolean) 1 := ⟨gi_app (List.forall_mem_cons.mpr ⟨gw_2028, List.forall_mem_cons.mpr ⟨gw_2030, List.forall_mem_cons.mpr ⟨sp_88, List.forall_mem_cons.mpr ⟨gw_8, fun _ h => absurd h List.not_mem_nil⟩⟩⟩⟩) (gi_ws gw_2031), rfl, by decide +kernel, by decide +kernel, by decide +kernel⟩
theorem sp_77 : Cond.selects RX12 yX12_isParty yX12_isParty ∈ gw := gw_mem (pv_in (y := yX12_isParty) (n := 151) (List.mem_of_getElem? (i := 77) (by decide +kernel))) (by decide +kernel)
theorem gV_RX12_406 : GV RX12 406 RX12 yX12_isParty cX12_isParty 2 (some .boolean) 1 := ⟨gi_app (List.forall_mem_cons.mpr ⟨gw_1964, List.forall_mem_cons.mpr ⟨gw_1966, List.forall_mem_cons.mpr ⟨sp_77, List.forall_mem_cons.mpr ⟨gw_8, fun _ h => absurd h List.not_mem_nil⟩⟩⟩⟩) (gi_ws gw_1967), rfl, by decide +kernel, by decide +kernel, by decide +kernel⟩
theorem gS_RX12_409 : GS RX12 409 yX12_isDay cX12_isDay 1 (some .boolean) 1 := ⟨gi_app (List.forall_mem_cons.mpr ⟨gw_1968, List.forall_mem_cons.mpr ⟨gw_1969, List.forall_mem_cons.mpr ⟨gw_8, fun _ h => absurd h List.not_mem_nil⟩⟩⟩) (gi_ws gw_1970), by decide +kernel, by decide +kernel, by decide +kernel⟩
theorem sp_78 : Cond.selects RX12 yX12_decidesOn yX12_decidesOn ∈ gw := gw_mem (pv_in (y := yX12_decidesOn) (n := 151) (List.mem_of_getElem? (i := 78) (by decide +kernel))) (by decide +kernel)
theorem gV_RX12_412 : GV RX12 412 RX12 yX12_decidesOn cX12_decidesOn 3 (some .boolean) 2 := ⟨gi_app (List.forall_mem_cons.mpr ⟨gw_1971, List.forall_mem_cons.mpr ⟨gw_1973, List.forall_mem_cons.mpr ⟨sp_78, List.forall_mem_cons.mpr ⟨gw_8, fun _ h => absurd h List.not_mem_nil⟩⟩⟩⟩) (gi_ws gw_1974), rfl, by decide +kernel, by decide +kernel, by decide +kernel⟩
theorem fp_RX12_375 : FP RX12 375 11 10 .int false := ⟨(RX12, TX12, 151), tyX12, rfl, by decide, lays_11, gw_1492, tyX12_ok, nmX12, rfl, by decide +kernel, fun h => by cases h⟩
theorem sp_79 : Cond.selects RX12 yX12_isRectangle yX12_isRectangle ∈ gw := gw_mem (pv_in (y := yX12_isRectangle) (n := 151) (List.mem_of_getElem? (i := 79) (by decide +kernel))) (by decide +kernel)
theorem gV_RX12_415 : GV RX12 415 RX12 yX12_isRectangle cX12_isRectangle 3 (some .boolean) 2 := ⟨gi_app (List.forall_mem_cons.mpr ⟨gw_1979, List.forall_mem_cons.mpr ⟨gw_1981, List.forall_mem_cons.mpr ⟨sp_79, List.forall_mem_cons.mpr ⟨gw_8, fun _ h => absurd h List.not_mem_nil⟩⟩⟩⟩) (gi_ws gw_1982), rfl, by decide +kernel, by decide +kernel, by decide +kernel⟩
theorem sp_80 : Cond.selects RX12 yX12_isAsleep yX12_isAsleep ∈ gw := gw_mem (pv_in (y := yX12_isAsleep) (n := 151) (List.mem_of_getElem? (i := 80) (by decide +kernel))) (by decide +kernel)
theorem gV_RX12_418 : GV RX12 418 RX12 yX12_isAsleep cX12_isAsleep 3 (some .boolean) 2 := ⟨gi_app (List.forall_mem_cons.mpr ⟨gw_1983, List.forall_mem_cons.mpr ⟨gw_1985, List.forall_mem_cons.mpr ⟨sp_80, List.forall_mem_cons.mpr ⟨gw_8, fun _ h => absurd h List.not_mem_nil⟩⟩⟩⟩) (gi_ws gw_1986), rfl, by decide +kernel, by decide +kernel, by decide +kernel⟩
theorem sp_84 : Cond.selects RX12 yX12_place yX12_place ∈ gw := gw_mem (pv_in (y := yX12_place) (n := 151) (List.mem_of_getElem? (i := 84) (by decide +kernel))) (by decide +kernel)
theorem gV_RX12_421 : GV RX12 421 RX12 yX12_place cX12_place 6 (some .int) 5 := ⟨gi_app (List.forall_mem_cons.mpr ⟨gw_1999, List.forall_mem_cons.mpr ⟨gw_2001, List.forall_mem_cons.mpr ⟨sp_84, List.forall_mem_cons.mpr ⟨gw_8, fun _ h => absurd h List.not_mem_nil⟩⟩⟩⟩) (gi_ws gw_2002), rfl, by decide +kernel, by decide +kernel, by decide +kernel⟩
theorem sp_86 : Cond.selects RX12 yX12_isLand yX12_isLand ∈ gw := gw_mem (pv_in (y := yX12_isLand) (n := 151) (List.mem_of_getElem? (i := 86) (by decide +kernel))) (by decide +kernel)
theorem gV_RX12_425 : GV RX12 425 RX12 yX12_isLand cX12_isLand 2 (some .boolean) 1 := ⟨gi_app (List.forall_mem_cons.mpr ⟨gw_2015, List.forall_mem_cons.mpr ⟨gw_2017, List.forall_mem_cons.mpr ⟨sp_86, List.forall_mem_cons.mpr ⟨gw_8, fun _ h => absurd h List.not_mem_nil⟩⟩⟩⟩) (gi_ws gw_2018), rfl, by decide +kernel, by decide +kernel, by decide +kernel⟩
theorem fl_RX12_429 : FL RX12 429 11 83 := ⟨(RX12, TX12, 151), rfl, by decide, lays_11, gw_1565⟩
theorem fp_RX12_429 : FP RX12 429 11 83 .long false := ⟨(RX12, TX12, 151), tyX12, rfl, by decide, lays_11, gw_1565, tyX12_ok, nmX12, rfl, by decide +kernel, fun h => by cases h⟩
theorem sp_87 : Cond.selects RX12 yX12_stands yX12_stands ∈ gw := gw_mem (pv_in (y := yX12_stands) (n := 151) (List.mem_of_getElem? (i := 87) (by decide +kernel))) (by decide +kernel)
theorem gV_RX12_433 : GV RX12 433 RX12 yX12_stands cX12_stands 2 (some .boolean) 1 := ⟨gi_app (List.forall_mem_cons.mpr ⟨gw_2024, List.forall_mem_cons.mpr ⟨gw_2026, List.forall_mem_cons.mpr ⟨sp_87, List.forall_mem_cons.mpr ⟨gw_8, fun _ h => absurd h List.not_mem_nil⟩⟩⟩⟩) (gi_ws gw_2027), rfl, by decide +kernel, by decide +kernel, by decide +kernel⟩
theorem fl_RX12_436 : FL RX12 436 11 30 := ⟨(RX12, TX12, 151), rfl, by decide, lays_11, gw_1512⟩
theorem fp_RX12_436 : FP RX12 436 11 30 .int false := ⟨(RX12, TX12, 151), tyX12, rfl, by decide, lays_11, gw_1512, tyX12_ok, nmX12, rfl, by decide +kernel, fun h => by cases h⟩
theorem sp_89 : Cond.selects RX12 yX12_types yX12_types ∈ gw := gw_mem (pv_in (y := yX12_types) (n := 151) (List.mem_of_getElem? (i := 89) (by decide +kernel))) (by decide +kernel)
theorem gV_RX12_439 : GV RX12 439 RX12 yX12_types cX12_types 3 (none : Option Jvm.ClassFile.FieldType) 1 := ⟨gi_app (List.forall_mem_cons.mpr ⟨gw_2044, List.forall_mem_cons.mpr ⟨gw_2046, List.forall_mem_cons.mpr ⟨sp_89, List.forall_mem_cons.mpr ⟨gw_8, fun _ h => absurd h List.not_mem_nil⟩⟩⟩⟩) (gi_ws gw_2047), rfl, by decide +kernel, by decide +kernel, by decide +kernel⟩
theorem fl_RX12_443 : FL RX12 443 11 31 := ⟨(RX12, TX12, 151), rfl, by decide, lays_11, gw_1513⟩
theorem fl_RX12_446 : FL RX12 446 11 32 := ⟨(RX12, TX12, 151), rfl, by decide, lays_11, gw_1514⟩
theorem sp_91 : Cond.selects RX12 yX12_sign yX12_sign ∈ gw := gw_mem (pv_in (y := yX12_sign) (n := 151) (List.mem_of_getElem? (i := 91) (by decide +kernel))) (by decide +kernel)
theorem gV_RX12_449 : GV RX12 449 RX12 yX12_sign cX12_sign 1 (some .int) 0 := ⟨gi_app (List.forall_mem_cons.mpr ⟨gw_2056, List.forall_mem_cons.mpr ⟨gw_2058, List.forall_mem_cons.mpr ⟨sp_91, List.forall_mem_cons.mpr ⟨gw_8, fun _ h => absurd h List.not_mem_nil⟩⟩⟩⟩) (gi_ws gw_2059), rfl, by decide +kernel, by decide +kernel, by decide +kernel⟩
theorem fl_RX12_453 : FL RX12 453 11 33 := ⟨(RX12, TX12, 151), rfl, by decide, lays_11, gw_1515⟩
theorem fp_RX12_453 : FP RX12 453 11 33 .int false := ⟨(RX12, TX12, 151), tyX12, rfl, by decide, lays_11, gw_1515, tyX12_ok, nmX12, rfl, by decide +kernel, fun h => by cases h⟩
theorem sp_92 : Cond.selects RX12 yX12_wrong yX12_wrong ∈ gw := gw_mem (pv_in (y := yX12_wrong) (n := 151) (List.mem_of_getElem? (i := 92) (by decide +kernel))) (by decide +kernel)
theorem gV_RX12_456 : GV RX12 456 RX12 yX12_wrong cX12_wrong 3 (some .boolean) 2 := ⟨gi_app (List.forall_mem_cons.mpr ⟨gw_2066, List.forall_mem_cons.mpr ⟨gw_2068, List.forall_mem_cons.mpr ⟨sp_92, List.forall_mem_cons.mpr ⟨gw_8, fun _ h => absurd h List.not_mem_nil⟩⟩⟩⟩) (gi_ws gw_2069), rfl, by decide +kernel, by decide +kernel, by decide +kernel⟩
theorem fp_RX12_443 : FP RX12 443 11 31 .int false := ⟨(RX12, TX12, 151), tyX12, rfl, by decide, lays_11, gw_1513, tyX12_ok, nmX12, rfl, by decide +kernel, fun h => by cases h⟩
theorem fl_RX12_459 : FL RX12 459 11 34 := ⟨(RX12, TX12, 151), rfl, by decide, lays_11, gw_1516⟩
theorem fp_RX12_459 : FP RX12 459 11 34 .int false := ⟨(RX12, TX12, 151), tyX12, rfl, by decide, lays_11, gw_1516, tyX12_ok, nmX12, rfl, by decide +kernel, fun h => by cases h⟩
theorem sp_98 : Cond.selects RX12 yX12_isDigit yX12_isDigit ∈ gw := gw_mem (pv_in (y := yX12_isDigit) (n := 151) (List.mem_of_getElem? (i := 98) (by decide +kernel))) (by decide +kernel)
theorem gV_RX12_462 : GV RX12 462 RX12 yX12_isDigit cX12_isDigit 1 (some .boolean) 0 := ⟨gi_app (List.forall_mem_cons.mpr ⟨gw_2091, List.forall_mem_cons.mpr ⟨gw_2093, List.forall_mem_cons.mpr ⟨sp_98, List.forall_mem_cons.mpr ⟨gw_8, fun _ h => absurd h List.not_mem_nil⟩⟩⟩⟩) (gi_ws gw_2094), rfl, by decide +kernel, by decide +kernel, by decide +kernel⟩
theorem fl_RX12_466 : FL RX12 466 11 36 := ⟨(RX12, TX12, 151), rfl, by decide, lays_11, gw_1518⟩
theorem fp_RX12_466 : FP RX12 466 11 36 .int false := ⟨(RX12, TX12, 151), tyX12, rfl, by decide, lays_11, gw_1518, tyX12_ok, nmX12, rfl, by decide +kernel, fun h => by cases h⟩
theorem fl_RX12_470 : FL RX12 470 11 35 := ⟨(RX12, TX12, 151), rfl, by decide, lays_11, gw_1517⟩
theorem fp_RX12_470 : FP RX12 470 11 35 .int false := ⟨(RX12, TX12, 151), tyX12, rfl, by decide, lays_11, gw_1517, tyX12_ok, nmX12, rfl, by decide +kernel, fun h => by cases h⟩
theorem fl_RX12_473 : FL RX12 473 11 37 := ⟨(RX12, TX12, 151), rfl, by decide, lays_11, gw_1519⟩
theorem fp_RX12_473 : FP RX12 473 11 37 .int false := ⟨(RX12, TX12, 151), tyX12, rfl, by decide, lays_11, gw_1519, tyX12_ok, nmX12, rfl, by decide +kernel, fun h => by cases h⟩
theorem sp_102 : Cond.selects RX12 yX12_top yX12_top ∈ gw := gw_mem (pv_in (y := yX12_top) (n := 151) (List.mem_of_getElem? (i := 102) (by decide +kernel))) (by decide +kernel)
theorem gV_RX12_476 : GV RX12 476 RX12 yX12_top cX12_top 1 (some .int) 0 := ⟨gi_app (List.forall_mem_cons.mpr ⟨gw_2114, List.forall_mem_cons.mpr ⟨gw_2116, List.forall_mem_cons.mpr ⟨sp_102, List.forall_mem_cons.mpr ⟨gw_8, fun _ h => absurd h List.not_mem_nil⟩⟩⟩⟩) (gi_ws gw_2117), rfl, by decide +kernel, by decide +kernel, by decide +kernel⟩
theorem sp_100 : Cond.selects RX12 yX12_says yX12_says ∈ gw := gw_mem (pv_in (y := yX12_says) (n := 151) (List.mem_of_getElem? (i := 100) (by decide +kernel))) (by decide +kernel)
theorem gV_RX12_479 : GV RX12 479 RX12 yX12_says cX12_says 3 (none : Option Jvm.ClassFile.FieldType) 2 := ⟨gi_app (List.forall_mem_cons.mpr ⟨gw_2100, List.forall_mem_cons.mpr ⟨gw_2102, List.forall_mem_cons.mpr ⟨sp_100, List.forall_mem_cons.mpr ⟨gw_8, fun _ h => absurd h List.not_mem_nil⟩⟩⟩⟩) (gi_ws gw_2103), rfl, by decide +kernel, by decide +kernel, by decide +kernel⟩
theorem sp_94 : Cond.selects RX12 yX12_opens yX12_opens ∈ gw := gw_mem (pv_in (y := yX12_opens) (n := 151) (List.mem_of_getElem? (i := 94) (by decide +kernel))) (by decide +kernel)
theorem gV_RX12_482 : GV RX12 482 RX12 yX12_opens cX12_opens 2 (some .boolean) 1 := ⟨gi_app (List.forall_mem_cons.mpr ⟨gw_2074, List.forall_mem_cons.mpr ⟨gw_2076, List.forall_mem_cons.mpr ⟨sp_94, List.forall_mem_cons.mpr ⟨gw_8, fun _ h => absurd h List.not_mem_nil⟩⟩⟩⟩) (gi_ws gw_2077), rfl, by decide +kernel, by decide +kernel, by decide +kernel⟩
theorem sp_99 : Cond.selects RX12 yX12_readsNumber yX12_readsNumber ∈ gw := gw_mem (pv_in (y := yX12_readsNumber) (n := 151) (List.mem_of_getElem? (i := 99) (by decide +kernel))) (by decide +kernel)
theorem gV_RX12_486 : GV RX12 486 RX12 yX12_readsNumber cX12_readsNumber 3 (some .boolean) 1 := ⟨gi_app (List.forall_mem_cons.mpr ⟨gw_2096, List.forall_mem_cons.mpr ⟨gw_2098, List.forall_mem_cons.mpr ⟨sp_99, List.forall_mem_cons.mpr ⟨gw_8, fun _ h => absurd h List.not_mem_nil⟩⟩⟩⟩) (gi_ws gw_2099), rfl, by decide +kernel, by decide +kernel, by decide +kernel⟩
theorem gS_RX12_489 : GS RX12 489 yX12_letterNumber cX12_letterNumber 1 (some .int) 1 := ⟨gi_app (List.forall_mem_cons.mpr ⟨gw_2104, List.forall_mem_cons.mpr ⟨gw_2105, List.forall_mem_cons.mpr ⟨gw_8, fun _ h => absurd h List.not_mem_nil⟩⟩⟩) (gi_ws gw_2106), by decide +kernel, by decide +kernel, by decide +kernel⟩
theorem sp_97 : Cond.selects RX12 yX12_readsFactor yX12_readsFactor ∈ gw := gw_mem (pv_in (y := yX12_readsFactor) (n := 151) (List.mem_of_getElem? (i := 97) (by decide +kernel))) (by decide +kernel)
theorem gV_RX12_492 : GV RX12 492 RX12 yX12_readsFactor cX12_readsFactor 2 (some .boolean) 0 := ⟨gi_app (List.forall_mem_cons.mpr ⟨gw_2087, List.forall_mem_cons.mpr ⟨gw_2089, List.forall_mem_cons.mpr ⟨sp_97, List.forall_mem_cons.mpr ⟨gw_8, fun _ h => absurd h List.not_mem_nil⟩⟩⟩⟩) (gi_ws gw_2090), rfl, by decide +kernel, by decide +kernel, by decide +kernel⟩
theorem gS_RX12_495 : GS RX12 495 yX12_sumSign cX12_sumSign 1 (some .int) 1 := ⟨gi_app (List.forall_mem_cons.mpr ⟨gw_2107, List.forall_mem_cons.mpr ⟨gw_2108, List.forall_mem_cons.mpr ⟨gw_8, fun _ h => absurd h List.not_mem_nil⟩⟩⟩) (gi_ws gw_2109), by decide +kernel, by decide +kernel, by decide +kernel⟩
theorem sp_101 : Cond.selects RX12 yX12_closesSums yX12_closesSums ∈ gw := gw_mem (pv_in (y := yX12_closesSums) (n := 151) (List.mem_of_getElem? (i := 101) (by decide +kernel))) (by decide +kernel)
theorem gV_RX12_498 : GV RX12 498 RX12 yX12_closesSums cX12_closesSums 2 (none : Option Jvm.ClassFile.FieldType) 1 := ⟨gi_app (List.forall_mem_cons.mpr ⟨gw_2110, List.forall_mem_cons.mpr ⟨gw_2112, List.forall_mem_cons.mpr ⟨sp_101, List.forall_mem_cons.mpr ⟨gw_8, fun _ h => absurd h List.not_mem_nil⟩⟩⟩⟩) (gi_ws gw_2113), rfl, by decide +kernel, by decide +kernel, by decide +kernel⟩
theorem sp_103 : Cond.selects RX12 yX12_hasOpenSum yX12_hasOpenSum ∈ gw := gw_mem (pv_in (y := yX12_hasOpenSum) (n := 151) (List.mem_of_getElem? (i := 103) (by decide +kernel))) (by decide +kernel)
theorem gV_RX12_502 : GV RX12 502 RX12 yX12_hasOpenSum cX12_hasOpenSum 3 (some .boolean) 1 := ⟨gi_app (List.forall_mem_cons.mpr ⟨gw_2118, List.forall_mem_cons.mpr ⟨gw_2120, List.forall_mem_cons.mpr ⟨sp_103, List.forall_mem_cons.mpr ⟨gw_8, fun _ h => absurd h List.not_mem_nil⟩⟩⟩⟩) (gi_ws gw_2121), rfl, by decide +kernel, by decide +kernel, by decide +kernel⟩
theorem sp_96 : Cond.selects RX12 yX12_readsSum yX12_readsSum ∈ gw := gw_mem (pv_in (y := yX12_readsSum) (n := 151) (List.mem_of_getElem? (i := 96) (by decide +kernel))) (by decide +kernel)
theorem gV_RX12_505 : GV RX12 505 RX12 yX12_readsSum cX12_readsSum 3 (some .boolean) 0 := ⟨gi_app (List.forall_mem_cons.mpr ⟨gw_2083, List.forall_mem_cons.mpr ⟨gw_2085, List.forall_mem_cons.mpr ⟨sp_96, List.forall_mem_cons.mpr ⟨gw_8, fun _ h => absurd h List.not_mem_nil⟩⟩⟩⟩) (gi_ws gw_2086), rfl, by decide +kernel, by decide +kernel, by decide +kernel⟩
theorem sp_104 : Cond.selects RX12 yX12_endsPiece yX12_endsPiece ∈ gw := gw_mem (pv_in (y := yX12_endsPiece) (n := 151) (List.mem_of_getElem? (i := 104) (by decide +kernel))) (by decide +kernel)
theorem gV_RX12_508 : GV RX12 508 RX12 yX12_endsPiece cX12_endsPiece 1 (none : Option Jvm.ClassFile.FieldType) 0 := ⟨gi_app (List.forall_mem_cons.mpr ⟨gw_2122, List.forall_mem_cons.mpr ⟨gw_2124, List.forall_mem_cons.mpr ⟨sp_104, List.forall_mem_cons.mpr ⟨gw_8, fun _ h => absurd h List.not_mem_nil⟩⟩⟩⟩) (gi_ws gw_2125), rfl, by decide +kernel, by decide +kernel, by decide +kernel⟩
theorem sp_95 : Cond.selects RX12 yX12_readsCompared yX12_readsCompared ∈ gw := gw_mem (pv_in (y := yX12_readsCompared) (n := 151) (List.mem_of_getElem? (i := 95) (by decide +kernel))) (by decide +kernel)
theorem gV_RX12_511 : GV RX12 511 RX12 yX12_readsCompared cX12_readsCompared 2 (some .boolean) 0 := ⟨gi_app (List.forall_mem_cons.mpr ⟨gw_2079, List.forall_mem_cons.mpr ⟨gw_2081, List.forall_mem_cons.mpr ⟨sp_95, List.forall_mem_cons.mpr ⟨gw_8, fun _ h => absurd h List.not_mem_nil⟩⟩⟩⟩) (gi_ws gw_2082), rfl, by decide +kernel, by decide +kernel, by decide +kernel⟩
theorem sp_105 : Cond.selects RX12 yX12_lands yX12_lands ∈ gw := gw_mem (pv_in (y := yX12_lands) (n := 151) (List.mem_of_getElem? (i := 105) (by decide +kernel))) (by decide +kernel)
theorem gV_RX12_514 : GV RX12 514 RX12 yX12_lands cX12_lands 3 (none : Option Jvm.ClassFile.FieldType) 1 := ⟨gi_app (List.forall_mem_cons.mpr ⟨gw_2126, List.forall_mem_cons.mpr ⟨gw_2128, List.forall_mem_cons.mpr ⟨sp_105, List.forall_mem_cons.mpr ⟨gw_8, fun _ h => absurd h List.not_mem_nil⟩⟩⟩⟩) (gi_ws gw_2129), rfl, by decide +kernel, by decide +kernel, by decide +kernel⟩
theorem sp_106 : Cond.selects RX12 yX12_jumps yX12_jumps ∈ gw := gw_mem (pv_in (y := yX12_jumps) (n := 151) (List.mem_of_getElem? (i := 106) (by decide +kernel))) (by decide +kernel)
theorem gV_RX12_517 : GV RX12 517 RX12 yX12_jumps cX12_jumps 2 (none : Option Jvm.ClassFile.FieldType) 1 := ⟨gi_app (List.forall_mem_cons.mpr ⟨gw_2130, List.forall_mem_cons.mpr ⟨gw_2132, List.forall_mem_cons.mpr ⟨sp_106, List.forall_mem_cons.mpr ⟨gw_8, fun _ h => absurd h List.not_mem_nil⟩⟩⟩⟩) (gi_ws gw_2133), rfl, by decide +kernel, by decide +kernel, by decide +kernel⟩
theorem gS_RX12_520 : GS RX12 520 yX12_isAsking cX12_isAsking 1 (some .boolean) 1 := ⟨gi_app (List.forall_mem_cons.mpr ⟨gw_2063, List.forall_mem_cons.mpr ⟨gw_2064, List.forall_mem_cons.mpr ⟨gw_8, fun _ h => absurd h List.not_mem_nil⟩⟩⟩) (gi_ws gw_2065), by decide +kernel, by decide +kernel, by decide +kernel⟩
theorem gS_RX12_523 : GS RX12 523 yX12_isLetter cX12_isLetter 1 (some .boolean) 1 := ⟨gi_app (List.forall_mem_cons.mpr ⟨gw_2060, List.forall_mem_cons.mpr ⟨gw_2061, List.forall_mem_cons.mpr ⟨gw_8, fun _ h => absurd h List.not_mem_nil⟩⟩⟩) (gi_ws gw_2062), by decide +kernel, by decide +kernel, by decide +kernel⟩
theorem fl_RX12_526 : FL RX12 526 11 38 := ⟨(RX12, TX12, 151), rfl, by decide, lays_11, gw_1520⟩
theorem sp_93 : Cond.selects RX12 yX12_readsCondition yX12_readsCondition ∈ gw := gw_mem (pv_in (y := yX12_readsCondition) (n := 151) (List.mem_of_getElem? (i := 93) (by decide +kernel))) (by decide +kernel)
theorem gV_RX12_529 : GV RX12 529 RX12 yX12_readsCondition cX12_readsCondition 1 (some .boolean) 0 := ⟨gi_app (List.forall_mem_cons.mpr ⟨gw_2070, List.forall_mem_cons.mpr ⟨gw_2072, List.forall_mem_cons.mpr ⟨sp_93, List.forall_mem_cons.mpr ⟨gw_8, fun _ h => absurd h List.not_mem_nil⟩⟩⟩⟩) (gi_ws gw_2073), rfl, by decide +kernel, by decide +kernel, by decide +kernel⟩
theorem sp_107 : Cond.selects RX12 yX12_takes yX12_takes ∈ gw := gw_mem (pv_in (y := yX12_takes) (n := 151) (List.mem_of_getElem? (i := 107) (by decide +kernel))) (by decide +kernel)
theorem gV_RX12_532 : GV RX12 532 RX12 yX12_takes cX12_takes 2 (some .boolean) 1 := ⟨gi_app (List.forall_mem_cons.mpr ⟨gw_2134, List.forall_mem_cons.mpr ⟨gw_2136, List.forall_mem_cons.mpr ⟨sp_107, List.forall_mem_cons.mpr ⟨gw_8, fun _ h => absurd h List.not_mem_nil⟩⟩⟩⟩) (gi_ws gw_2137), rfl, by decide +kernel, by decide +kernel, by decide +kernel⟩
theorem fp_RX12_526 : FP RX12 526 11 38 .int false := ⟨(RX12, TX12, 151), tyX12, rfl, by decide, lays_11, gw_1520, tyX12_ok, nmX12, rfl, by decide +kernel, fun h => by cases h⟩
theorem fl_RX12_535 : FL RX12 535 11 47 := ⟨(RX12, TX12, 151), rfl, by decide, lays_11, gw_1529⟩
theorem fp_RX12_446 : FP RX12 446 11 32 .int false := ⟨(RX12, TX12, 151), tyX12, rfl, by decide, lays_11, gw_1514, tyX12_ok, nmX12, rfl, by decide +kernel, fun h => by cases h⟩
theorem sp_90 : Cond.selects RX12 yX12_readsClause yX12_readsClause ∈ gw := gw_mem (pv_in (y := yX12_readsClause) (n := 151) (List.mem_of_getElem? (i := 90) (by decide +kernel))) (by decide +kernel)
theorem gV_RX12_538 : GV RX12 538 RX12 yX12_readsClause cX12_readsClause 3 (some .boolean) 0 := ⟨gi_app (List.forall_mem_cons.mpr ⟨gw_2052, List.forall_mem_cons.mpr ⟨gw_2054, List.forall_mem_cons.mpr ⟨sp_90, List.forall_mem_cons.mpr ⟨gw_8, fun _ h => absurd h List.not_mem_nil⟩⟩⟩⟩) (gi_ws gw_2055), rfl, by decide +kernel, by decide +kernel, by decide +kernel⟩
theorem fp_RX12_535 : FP RX12 535 11 47 .int false := ⟨(RX12, TX12, 151), tyX12, rfl, by decide, lays_11, gw_1529, tyX12_ok, nmX12, rfl, by decide +kernel, fun h => by cases h⟩
theorem sp_108 : Cond.selects RX12 yX12_isText yX12_isText ∈ gw := gw_mem (pv_in (y := yX12_isText) (n := 151) (List.mem_of_getElem? (i := 108) (by decide +kernel))) (by decide +kernel)
theorem gV_RX12_541 : GV RX12 541 RX12 yX12_isText cX12_isText 2 (some .boolean) 1 := ⟨gi_app (List.forall_mem_cons.mpr ⟨gw_2142, List.forall_mem_cons.mpr ⟨gw_2144, List.forall_mem_cons.mpr ⟨sp_108, List.forall_mem_cons.mpr ⟨gw_8, fun _ h => absurd h List.not_mem_nil⟩⟩⟩⟩) (gi_ws gw_2145), rfl, by decide +kernel, by decide +kernel, by decide +kernel⟩
theorem sp_109 : Cond.selects RX12 yX12_isClause yX12_isClause ∈ gw := gw_mem (pv_in (y := yX12_isClause) (n := 151) (List.mem_of_getElem? (i := 109) (by decide +kernel))) (by decide +kernel)
theorem gV_RX12_544 : GV RX12 544 RX12 yX12_isClause cX12_isClause 3 (some .boolean) 2 := ⟨gi_app (List.forall_mem_cons.mpr ⟨gw_2150, List.forall_mem_cons.mpr ⟨gw_2152, List.forall_mem_cons.mpr ⟨sp_109, List.forall_mem_cons.mpr ⟨gw_8, fun _ h => absurd h List.not_mem_nil⟩⟩⟩⟩) (gi_ws gw_2153), rfl, by decide +kernel, by decide +kernel, by decide +kernel⟩
theorem fl_RX12_547 : FL RX12 547 11 48 := ⟨(RX12, TX12, 151), rfl, by decide, lays_11, gw_1530⟩
theorem fp_RX12_547 : FP RX12 547 11 48 .int false := ⟨(RX12, TX12, 151), tyX12, rfl, by decide, lays_11, gw_1530, tyX12_ok, nmX12, rfl, by decide +kernel, fun h => by cases h⟩
theorem sp_82 : Cond.selects RX12 yX12_strikes yX12_strikes ∈ gw := gw_mem (pv_in (y := yX12_strikes) (n := 151) (List.mem_of_getElem? (i := 82) (by decide +kernel))) (by decide +kernel)
theorem gV_RX12_550 : GV RX12 550 RX12 yX12_strikes cX12_strikes 5 (none : Option Jvm.ClassFile.FieldType) 1 := ⟨gi_app (List.forall_mem_cons.mpr ⟨gw_1991, List.forall_mem_cons.mpr ⟨gw_1993, List.forall_mem_cons.mpr ⟨sp_82, List.forall_mem_cons.mpr ⟨gw_8, fun _ h => absurd h List.not_mem_nil⟩⟩⟩⟩) (gi_ws gw_1994), rfl, by decide +kernel, by decide +kernel, by decide +kernel⟩
theorem sp_83 : Cond.selects RX12 yX12_numberBy yX12_numberBy ∈ gw := gw_mem (pv_in (y := yX12_numberBy) (n := 151) (List.mem_of_getElem? (i := 83) (by decide +kernel))) (by decide +kernel)
theorem gV_RX12_553 : GV RX12 553 RX12 yX12_numberBy cX12_numberBy 8 (some .int) 4 := ⟨gi_app (List.forall_mem_cons.mpr ⟨gw_1995, List.forall_mem_cons.mpr ⟨gw_1997, List.forall_mem_cons.mpr ⟨sp_83, List.forall_mem_cons.mpr ⟨gw_8, fun _ h => absurd h List.not_mem_nil⟩⟩⟩⟩) (gi_ws gw_1998), rfl, by decide +kernel, by decide +kernel, by decide +kernel⟩
theorem sp_81 : Cond.selects RX12 yX12_binds yX12_binds ∈ gw := gw_mem (pv_in (y := yX12_binds) (n := 151) (List.mem_of_getElem? (i := 81) (by decide +kernel))) (by decide +kernel)
theorem gV_RX12_557 : GV RX12 557 RX12 yX12_binds cX12_binds 7 (none : Option Jvm.ClassFile.FieldType) 2 := ⟨gi_app (List.forall_mem_cons.mpr ⟨gw_1987, List.forall_mem_cons.mpr ⟨gw_1989, List.forall_mem_cons.mpr ⟨sp_81, List.forall_mem_cons.mpr ⟨gw_8, fun _ h => absurd h List.not_mem_nil⟩⟩⟩⟩) (gi_ws gw_1990), rfl, by decide +kernel, by decide +kernel, by decide +kernel⟩
theorem sp_110 : Cond.selects RX12 yX12_caughtAtMost yX12_caughtAtMost ∈ gw := gw_mem (pv_in (y := yX12_caughtAtMost) (n := 151) (List.mem_of_getElem? (i := 110) (by decide +kernel))) (by decide +kernel)
theorem gV_RX12_560 : GV RX12 560 RX12 yX12_caughtAtMost cX12_caughtAtMost 5 (some .int) 4 := ⟨gi_app (List.forall_mem_cons.mpr ⟨gw_2162, List.forall_mem_cons.mpr ⟨gw_2164, List.forall_mem_cons.mpr ⟨sp_110, List.forall_mem_cons.mpr ⟨gw_8, fun _ h => absurd h List.not_mem_nil⟩⟩⟩⟩) (gi_ws gw_2165), rfl, by decide +kernel, by decide +kernel, by decide +kernel⟩
theorem sp_111 : Cond.selects RX12 yX12_asked yX12_asked ∈ gw := gw_mem (pv_in (y := yX12_asked) (n := 151) (List.mem_of_getElem? (i := 111) (by decide +kernel))) (by decide +kernel)
theorem gV_RX12_563 : GV RX12 563 RX12 yX12_asked cX12_asked 6 (some .int) 4 := ⟨gi_app (List.forall_mem_cons.mpr ⟨gw_2166, List.forall_mem_cons.mpr ⟨gw_2168, List.forall_mem_cons.mpr ⟨sp_111, List.forall_mem_cons.mpr ⟨gw_8, fun _ h => absurd h List.not_mem_nil⟩⟩⟩⟩) (gi_ws gw_2169), rfl, by decide +kernel, by decide +kernel, by decide +kernel⟩
theorem fp_RX12_378 : FP RX12 378 11 66 .int false := ⟨(RX12, TX12, 151), tyX12, rfl, by decide, lays_11, gw_1548, tyX12_ok, nmX12, rfl, by decide +kernel, fun h => by cases h⟩
theorem sp_112 : Cond.selects RX12 yX12_isWork yX12_isWork ∈ gw := gw_mem (pv_in (y := yX12_isWork) (n := 151) (List.mem_of_getElem? (i := 112) (by decide +kernel))) (by decide +kernel)
theorem gV_RX12_566 : GV RX12 566 RX12 yX12_isWork cX12_isWork 2 (some .boolean) 1 := ⟨gi_app (List.forall_mem_cons.mpr ⟨gw_2178, List.forall_mem_cons.mpr ⟨gw_2180, List.forall_mem_cons.mpr ⟨sp_112, List.forall_mem_cons.mpr ⟨gw_8, fun _ h => absurd h List.not_mem_nil⟩⟩⟩⟩) (gi_ws gw_2181), rfl, by decide +kernel, by decide +kernel, by decide +kernel⟩
theorem sp_119 : Cond.selects RX12 yX12_isIn yX12_isIn ∈ gw := gw_mem (pv_in (y := yX12_isIn) (n := 151) (List.mem_of_getElem? (i := 119) (by decide +kernel))) (by decide +kernel)
theorem gV_RX12_569 : GV RX12 569 RX12 yX12_isIn cX12_isIn 3 (some .boolean) 2 := ⟨gi_app (List.forall_mem_cons.mpr ⟨gw_2218, List.forall_mem_cons.mpr ⟨gw_2220, List.forall_mem_cons.mpr ⟨sp_119, List.forall_mem_cons.mpr ⟨gw_8, fun _ h => absurd h List.not_mem_nil⟩⟩⟩⟩) (gi_ws gw_2221), rfl, by decide +kernel, by decide +kernel, by decide +kernel⟩
theorem sp_118 : Cond.selects RX12 yX12_rankAt yX12_rankAt ∈ gw := gw_mem (pv_in (y := yX12_rankAt) (n := 151) (List.mem_of_getElem? (i := 118) (by decide +kernel))) (by decide +kernel)
theorem gV_RX12_572 : GV RX12 572 RX12 yX12_rankAt cX12_rankAt 4 (some .int) 1 := ⟨gi_app (List.forall_mem_cons.mpr ⟨gw_2214, List.forall_mem_cons.mpr ⟨gw_2216, List.forall_mem_cons.mpr ⟨sp_118, List.forall_mem_cons.mpr ⟨gw_8, fun _ h => absurd h List.not_mem_nil⟩⟩⟩⟩) (gi_ws gw_2217), rfl, by decide +kernel, by decide +kernel, by decide +kernel⟩
theorem sp_120 : Cond.selects RX12 yX12_nearPlaces yX12_nearPlaces ∈ gw := gw_mem (pv_in (y := yX12_nearPlaces) (n := 151) (List.mem_of_getElem? (i := 120) (by decide +kernel))) (by decide +kernel)
theorem gV_RX12_575 : GV RX12 575 RX12 yX12_nearPlaces cX12_nearPlaces 6 (some .int) 3 := ⟨gi_app (List.forall_mem_cons.mpr ⟨gw_2222, List.forall_mem_cons.mpr ⟨gw_2224, List.forall_mem_cons.mpr ⟨sp_120, List.forall_mem_cons.mpr ⟨gw_8, fun _ h => absurd h List.not_mem_nil⟩⟩⟩⟩) (gi_ws gw_2225), rfl, by decide +kernel, by decide +kernel, by decide +kernel⟩
theorem sp_122 : Cond.selects RX12 yX12_othersNear yX12_othersNear ∈ gw := gw_mem (pv_in (y := yX12_othersNear) (n := 151) (List.mem_of_getElem? (i := 122) (by decide +kernel))) (by decide +kernel)
theorem gV_RX12_579 : GV RX12 579 RX12 yX12_othersNear cX12_othersNear 5 (some .int) 2 := ⟨gi_app (List.forall_mem_cons.mpr ⟨gw_2233, List.forall_mem_cons.mpr ⟨gw_2235, List.forall_mem_cons.mpr ⟨sp_122, List.forall_mem_cons.mpr ⟨gw_8, fun _ h => absurd h List.not_mem_nil⟩⟩⟩⟩) (gi_ws gw_2236), rfl, by decide +kernel, by decide +kernel, by decide +kernel⟩
theorem sp_123 : Cond.selects RX12 yX12_isDark yX12_isDark ∈ gw := gw_mem (pv_in (y := yX12_isDark) (n := 151) (List.mem_of_getElem? (i := 123) (by decide +kernel))) (by decide +kernel)
theorem gV_RX12_582 : GV RX12 582 RX12 yX12_isDark cX12_isDark 2 (some .boolean) 1 := ⟨gi_app (List.forall_mem_cons.mpr ⟨gw_2237, List.forall_mem_cons.mpr ⟨gw_2239, List.forall_mem_cons.mpr ⟨sp_123, List.forall_mem_cons.mpr ⟨gw_8, fun _ h => absurd h List.not_mem_nil⟩⟩⟩⟩) (gi_ws gw_2240), rfl, by decide +kernel, by decide +kernel, by decide +kernel⟩
theorem sp_117 : Cond.selects RX12 yX12_valueOf yX12_valueOf ∈ gw := gw_mem (pv_in (y := yX12_valueOf) (n := 151) (List.mem_of_getElem? (i := 117) (by decide +kernel))) (by decide +kernel)
theorem gV_RX12_585 : GV RX12 585 RX12 yX12_valueOf cX12_valueOf 5 (some .int) 3 := ⟨gi_app (List.forall_mem_cons.mpr ⟨gw_2210, List.forall_mem_cons.mpr ⟨gw_2212, List.forall_mem_cons.mpr ⟨sp_117, List.forall_mem_cons.mpr ⟨gw_8, fun _ h => absurd h List.not_mem_nil⟩⟩⟩⟩) (gi_ws gw_2213), rfl, by decide +kernel, by decide +kernel, by decide +kernel⟩
theorem gS_RX12_588 : GS RX12 588 yX12_reckon cX12_reckon 3 (some .int) 3 := ⟨gi_app (List.forall_mem_cons.mpr ⟨gw_2241, List.forall_mem_cons.mpr ⟨gw_2242, List.forall_mem_cons.mpr ⟨gw_8, fun _ h => absurd h List.not_mem_nil⟩⟩⟩) (gi_ws gw_2243), by decide +kernel, by decide +kernel, by decide +kernel⟩
theorem sp_116 : Cond.selects RX12 yX12_holds yX12_holds ∈ gw := gw_mem (pv_in (y := yX12_holds) (n := 151) (List.mem_of_getElem? (i := 116) (by decide +kernel))) (by decide +kernel)
theorem gV_RX12_591 : GV RX12 591 RX12 yX12_holds cX12_holds 11 (some .int) 6 := ⟨gi_app (List.forall_mem_cons.mpr ⟨gw_2206, List.forall_mem_cons.mpr ⟨gw_2208, List.forall_mem_cons.mpr ⟨sp_116, List.forall_mem_cons.mpr ⟨gw_8, fun _ h => absurd h List.not_mem_nil⟩⟩⟩⟩) (gi_ws gw_2209), rfl, by decide +kernel, by decide +kernel, by decide +kernel⟩
theorem sp_115 : Cond.selects RX12 yX12_clauseHolds yX12_clauseHolds ∈ gw := gw_mem (pv_in (y := yX12_clauseHolds) (n := 151) (List.mem_of_getElem? (i := 115) (by decide +kernel))) (by decide +kernel)
theorem gV_RX12_595 : GV RX12 595 RX12 yX12_clauseHolds cX12_clauseHolds 6 (some .int) 4 := ⟨gi_app (List.forall_mem_cons.mpr ⟨gw_2202, List.forall_mem_cons.mpr ⟨gw_2204, List.forall_mem_cons.mpr ⟨sp_115, List.forall_mem_cons.mpr ⟨gw_8, fun _ h => absurd h List.not_mem_nil⟩⟩⟩⟩) (gi_ws gw_2205), rfl, by decide +kernel, by decide +kernel, by decide +kernel⟩
theorem sp_124 : Cond.selects RX12 yX12_isConsented yX12_isConsented ∈ gw := gw_mem (pv_in (y := yX12_isConsented) (n := 151) (List.mem_of_getElem? (i := 124) (by decide +kernel))) (by decide +kernel)
theorem gV_RX12_599 : GV RX12 599 RX12 yX12_isConsented cX12_isConsented 6 (some .boolean) 2 := ⟨gi_app (List.forall_mem_cons.mpr ⟨gw_2244, List.forall_mem_cons.mpr ⟨gw_2246, List.forall_mem_cons.mpr ⟨sp_124, List.forall_mem_cons.mpr ⟨gw_8, fun _ h => absurd h List.not_mem_nil⟩⟩⟩⟩) (gi_ws gw_2247), rfl, by decide +kernel, by decide +kernel, by decide +kernel⟩
theorem sp_114 : Cond.selects RX12 yX12_barOf yX12_barOf ∈ gw := gw_mem (pv_in (y := yX12_barOf) (n := 151) (List.mem_of_getElem? (i := 114) (by decide +kernel))) (by decide +kernel)
theorem gV_RX12_602 : GV RX12 602 RX12 yX12_barOf cX12_barOf 6 (some .int) 4 := ⟨gi_app (List.forall_mem_cons.mpr ⟨gw_2198, List.forall_mem_cons.mpr ⟨gw_2200, List.forall_mem_cons.mpr ⟨sp_114, List.forall_mem_cons.mpr ⟨gw_8, fun _ h => absurd h List.not_mem_nil⟩⟩⟩⟩) (gi_ws gw_2201), rfl, by decide +kernel, by decide +kernel, by decide +kernel⟩
theorem fl_RX12_605 : FL RX12 605 11 82 := ⟨(RX12, TX12, 151), rfl, by decide, lays_11, gw_1564⟩
theorem fp_RX12_605 : FP RX12 605 11 82 .int false := ⟨(RX12, TX12, 151), tyX12, rfl, by decide, lays_11, gw_1564, tyX12_ok, nmX12, rfl, by decide +kernel, fun h => by cases h⟩
theorem sp_113 : Cond.selects RX12 yX12_mayOn yX12_mayOn ∈ gw := gw_mem (pv_in (y := yX12_mayOn) (n := 151) (List.mem_of_getElem? (i := 113) (by decide +kernel))) (by decide +kernel)
theorem gV_RX12_608 : GV RX12 608 RX12 yX12_mayOn cX12_mayOn 8 (some .int) 3 := ⟨gi_app (List.forall_mem_cons.mpr ⟨gw_2194, List.forall_mem_cons.mpr ⟨gw_2196, List.forall_mem_cons.mpr ⟨sp_113, List.forall_mem_cons.mpr ⟨gw_8, fun _ h => absurd h List.not_mem_nil⟩⟩⟩⟩) (gi_ws gw_2197), rfl, by decide +kernel, by decide +kernel, by decide +kernel⟩
theorem fl_RX12_612 : FL RX12 612 11 91 := ⟨(RX12, TX12, 151), rfl, by decide, lays_11, gw_1573⟩
theorem fp_RX12_612 : FP RX12 612 11 91 .int false := ⟨(RX12, TX12, 151), tyX12, rfl, by decide, lays_11, gw_1573, tyX12_ok, nmX12, rfl, by decide +kernel, fun h => by cases h⟩
theorem gS_RX12_615 : GS RX12 615 yX12_isSea cX12_isSea 1 (some .boolean) 1 := ⟨gi_app (List.forall_mem_cons.mpr ⟨gw_2264, List.forall_mem_cons.mpr ⟨gw_2265, List.forall_mem_cons.mpr ⟨gw_8, fun _ h => absurd h List.not_mem_nil⟩⟩⟩) (gi_ws gw_2266), by decide +kernel, by decide +kernel, by decide +kernel⟩
theorem sp_125 : Cond.selects RX12 yX12_isShip yX12_isShip ∈ gw := gw_mem (pv_in (y := yX12_isShip) (n := 151) (List.mem_of_getElem? (i := 125) (by decide +kernel))) (by decide +kernel)
theorem gV_RX12_618 : GV RX12 618 RX12 yX12_isShip cX12_isShip 2 (some .boolean) 1 := ⟨gi_app (List.forall_mem_cons.mpr ⟨gw_2275, List.forall_mem_cons.mpr ⟨gw_2277, List.forall_mem_cons.mpr ⟨sp_125, List.forall_mem_cons.mpr ⟨gw_8, fun _ h => absurd h List.not_mem_nil⟩⟩⟩⟩) (gi_ws gw_2278), rfl, by decide +kernel, by decide +kernel, by decide +kernel⟩
theorem sp_126 : Cond.selects RX12 yX12_isNearSea yX12_isNearSea ∈ gw := gw_mem (pv_in (y := yX12_isNearSea) (n := 151) (List.mem_of_getElem? (i := 126) (by decide +kernel))) (by decide +kernel)
theorem gV_RX12_621 : GV RX12 621 RX12 yX12_isNearSea cX12_isNearSea 3 (some .boolean) 1 := ⟨gi_app (List.forall_mem_cons.mpr ⟨gw_2279, List.forall_mem_cons.mpr ⟨gw_2281, List.forall_mem_cons.mpr ⟨sp_126, List.forall_mem_cons.mpr ⟨gw_8, fun _ h => absurd h List.not_mem_nil⟩⟩⟩⟩) (gi_ws gw_2282), rfl, by decide +kernel, by decide +kernel, by decide +kernel⟩
theorem sp_140 : Cond.selects RX12 yX12_turnsBack yX12_turnsBack ∈ gw := gw_mem (pv_in (y := yX12_turnsBack) (n := 151) (List.mem_of_getElem? (i := 140) (by decide +kernel))) (by decide +kernel)
theorem gV_RX12_624 : GV RX12 624 RX12 yX12_turnsBack cX12_turnsBack 2 (none : Option Jvm.ClassFile.FieldType) 1 := ⟨gi_app (List.forall_mem_cons.mpr ⟨gw_2371, List.forall_mem_cons.mpr ⟨gw_2373, List.forall_mem_cons.mpr ⟨sp_140, List.forall_mem_cons.mpr ⟨gw_8, fun _ h => absurd h List.not_mem_nil⟩⟩⟩⟩) (gi_ws gw_2374), rfl, by decide +kernel, by decide +kernel, by decide +kernel⟩
theorem sp_139 : Cond.selects RX12 yX12_arrives yX12_arrives ∈ gw := gw_mem (pv_in (y := yX12_arrives) (n := 151) (List.mem_of_getElem? (i := 139) (by decide +kernel))) (by decide +kernel)
theorem gV_RX12_627 : GV RX12 627 RX12 yX12_arrives cX12_arrives 6 (none : Option Jvm.ClassFile.FieldType) 1 := ⟨gi_app (List.forall_mem_cons.mpr ⟨gw_2367, List.forall_mem_cons.mpr ⟨gw_2369, List.forall_mem_cons.mpr ⟨sp_139, List.forall_mem_cons.mpr ⟨gw_8, fun _ h => absurd h List.not_mem_nil⟩⟩⟩⟩) (gi_ws gw_2370), rfl, by decide +kernel, by decide +kernel, by decide +kernel⟩
theorem sp_138 : Cond.selects RX12 yX12_waits yX12_waits ∈ gw := gw_mem (pv_in (y := yX12_waits) (n := 151) (List.mem_of_getElem? (i := 138) (by decide +kernel))) (by decide +kernel)
theorem gV_RX12_630 : GV RX12 630 RX12 yX12_waits cX12_waits 2 (none : Option Jvm.ClassFile.FieldType) 1 := ⟨gi_app (List.forall_mem_cons.mpr ⟨gw_2363, List.forall_mem_cons.mpr ⟨gw_2365, List.forall_mem_cons.mpr ⟨sp_138, List.forall_mem_cons.mpr ⟨gw_8, fun _ h => absurd h List.not_mem_nil⟩⟩⟩⟩) (gi_ws gw_2366), rfl, by decide +kernel, by decide +kernel, by decide +kernel⟩
theorem fl_RX12_632 : FL RX12 632 11 86 := ⟨(RX12, TX12, 151), rfl, by decide, lays_11, gw_1568⟩
theorem fp_RX12_632 : FP RX12 632 11 86 .long false := ⟨(RX12, TX12, 151), tyX12, rfl, by decide, lays_11, gw_1568, tyX12_ok, nmX12, rfl, by decide +kernel, fun h => by cases h⟩
theorem fl_RX12_635 : FL RX12 635 11 89 := ⟨(RX12, TX12, 151), rfl, by decide, lays_11, gw_1571⟩
theorem fp_RX12_635 : FP RX12 635 11 89 .long false := ⟨(RX12, TX12, 151), tyX12, rfl, by decide, lays_11, gw_1571, tyX12_ok, nmX12, rfl, by decide +kernel, fun h => by cases h⟩
theorem gS_RX12_639 : GS RX12 639 yX12_columnStep cX12_columnStep 1 (some .int) 1 := ⟨gi_app (List.forall_mem_cons.mpr ⟨gw_2292, List.forall_mem_cons.mpr ⟨gw_2293, List.forall_mem_cons.mpr ⟨gw_8, fun _ h => absurd h List.not_mem_nil⟩⟩⟩) (gi_ws gw_2294), by decide +kernel, by decide +kernel, by decide +kernel⟩
theorem gS_RX12_642 : GS RX12 642 yX12_rowStep cX12_rowStep 1 (some .int) 1 := ⟨gi_app (List.forall_mem_cons.mpr ⟨gw_2295, List.forall_mem_cons.mpr ⟨gw_2296, List.forall_mem_cons.mpr ⟨gw_8, fun _ h => absurd h List.not_mem_nil⟩⟩⟩) (gi_ws gw_2297), by decide +kernel, by decide +kernel, by decide +kernel⟩
theorem sp_128 : Cond.selects RX12 yX12_moved yX12_moved ∈ gw := gw_mem (pv_in (y := yX12_moved) (n := 151) (List.mem_of_getElem? (i := 128) (by decide +kernel))) (by decide +kernel)
theorem gV_RX12_645 : GV RX12 645 RX12 yX12_moved cX12_moved 6 (some .int) 3 := ⟨gi_app (List.forall_mem_cons.mpr ⟨gw_2298, List.forall_mem_cons.mpr ⟨gw_2300, List.forall_mem_cons.mpr ⟨sp_128, List.forall_mem_cons.mpr ⟨gw_8, fun _ h => absurd h List.not_mem_nil⟩⟩⟩⟩) (gi_ws gw_2301), rfl, by decide +kernel, by decide +kernel, by decide +kernel⟩
theorem fl_RX12_648 : FL RX12 648 11 92 := ⟨(RX12, TX12, 151), rfl, by decide, lays_11, gw_1574⟩
theorem sp_127 : Cond.selects RX12 yX12_goesOver yX12_goesOver ∈ gw := gw_mem (pv_in (y := yX12_goesOver) (n := 151) (List.mem_of_getElem? (i := 127) (by decide +kernel))) (by decide +kernel)
theorem gV_RX12_651 : GV RX12 651 RX12 yX12_goesOver cX12_goesOver 7 (none : Option Jvm.ClassFile.FieldType) 1 := ⟨gi_app (List.forall_mem_cons.mpr ⟨gw_2287, List.forall_mem_cons.mpr ⟨gw_2289, List.forall_mem_cons.mpr ⟨sp_127, List.forall_mem_cons.mpr ⟨gw_8, fun _ h => absurd h List.not_mem_nil⟩⟩⟩⟩) (gi_ws gw_2290), rfl, by decide +kernel, by decide +kernel, by decide +kernel⟩
theorem fl_RX12_654 : FL RX12 654 11 84 := ⟨(RX12, TX12, 151), rfl, by decide, lays_11, gw_1566⟩
theorem fp_RX12_654 : FP RX12 654 11 84 .long false := ⟨(RX12, TX12, 151), tyX12, rfl, by decide, lays_11, gw_1566, tyX12_ok, nmX12, rfl, by decide +kernel, fun h => by cases h⟩
theorem fp_RX12_648 : FP RX12 648 11 92 .int false := ⟨(RX12, TX12, 151), tyX12, rfl, by decide, lays_11, gw_1574, tyX12_ok, nmX12, rfl, by decide +kernel, fun h => by cases h⟩
theorem fl_RX12_657 : FL RX12 657 11 85 := ⟨(RX12, TX12, 151), rfl, by decide, lays_11, gw_1567⟩
theorem fp_RX12_657 : FP RX12 657 11 85 .long false := ⟨(RX12, TX12, 151), tyX12, rfl, by decide, lays_11, gw_1567, tyX12_ok, nmX12, rfl, by decide +kernel, fun h => by cases h⟩
theorem fl_RX12_660 : FL RX12 660 11 93 := ⟨(RX12, TX12, 151), rfl, by decide, lays_11, gw_1575⟩
theorem fp_RX12_660 : FP RX12 660 11 93 .int false := ⟨(RX12, TX12, 151), tyX12, rfl, by decide, lays_11, gw_1575, tyX12_ok, nmX12, rfl, by decide +kernel, fun h => by cases h⟩
theorem sp_130 : Cond.selects RX12 yX12_sounds yX12_sounds ∈ gw := gw_mem (pv_in (y := yX12_sounds) (n := 151) (List.mem_of_getElem? (i := 130) (by decide +kernel))) (by decide +kernel)
theorem gV_RX12_664 : GV RX12 664 RX12 yX12_sounds cX12_sounds 3 (none : Option Jvm.ClassFile.FieldType) 1 := ⟨gi_app (List.forall_mem_cons.mpr ⟨gw_2331, List.forall_mem_cons.mpr ⟨gw_2333, List.forall_mem_cons.mpr ⟨sp_130, List.forall_mem_cons.mpr ⟨gw_8, fun _ h => absurd h List.not_mem_nil⟩⟩⟩⟩) (gi_ws gw_2334), rfl, by decide +kernel, by decide +kernel, by decide +kernel⟩
theorem fl_RX12_667 : FL RX12 667 11 118 := ⟨(RX12, TX12, 151), rfl, by decide, lays_11, gw_1600⟩
theorem sp_131 : Cond.selects RX12 yX12_goesDown yX12_goesDown ∈ gw := gw_mem (pv_in (y := yX12_goesDown) (n := 151) (List.mem_of_getElem? (i := 131) (by decide +kernel))) (by decide +kernel)
theorem gV_RX12_670 : GV RX12 670 RX12 yX12_goesDown cX12_goesDown 5 (none : Option Jvm.ClassFile.FieldType) 1 := ⟨gi_app (List.forall_mem_cons.mpr ⟨gw_2335, List.forall_mem_cons.mpr ⟨gw_2337, List.forall_mem_cons.mpr ⟨sp_131, List.forall_mem_cons.mpr ⟨gw_8, fun _ h => absurd h List.not_mem_nil⟩⟩⟩⟩) (gi_ws gw_2338), rfl, by decide +kernel, by decide +kernel, by decide +kernel⟩
theorem fl_RX12_673 : FL RX12 673 11 90 := ⟨(RX12, TX12, 151), rfl, by decide, lays_11, gw_1572⟩
theorem fp_RX12_673 : FP RX12 673 11 90 .long false := ⟨(RX12, TX12, 151), tyX12, rfl, by decide, lays_11, gw_1572, tyX12_ok, nmX12, rfl, by decide +kernel, fun h => by cases h⟩
theorem sp_134 : Cond.selects RX12 yX12_goesHome yX12_goesHome ∈ gw := gw_mem (pv_in (y := yX12_goesHome) (n := 151) (List.mem_of_getElem? (i := 134) (by decide +kernel))) (by decide +kernel)
theorem gV_RX12_676 : GV RX12 676 RX12 yX12_goesHome cX12_goesHome 2 (none : Option Jvm.ClassFile.FieldType) 1 := ⟨gi_app (List.forall_mem_cons.mpr ⟨gw_2347, List.forall_mem_cons.mpr ⟨gw_2349, List.forall_mem_cons.mpr ⟨sp_134, List.forall_mem_cons.mpr ⟨gw_8, fun _ h => absurd h List.not_mem_nil⟩⟩⟩⟩) (gi_ws gw_2350), rfl, by decide +kernel, by decide +kernel, by decide +kernel⟩
theorem fl_RX12_679 : FL RX12 679 11 87 := ⟨(RX12, TX12, 151), rfl, by decide, lays_11, gw_1569⟩
theorem fp_RX12_679 : FP RX12 679 11 87 .long false := ⟨(RX12, TX12, 151), tyX12, rfl, by decide, lays_11, gw_1569, tyX12_ok, nmX12, rfl, by decide +kernel, fun h => by cases h⟩
theorem fl_RX12_682 : FL RX12 682 11 88 := ⟨(RX12, TX12, 151), rfl, by decide, lays_11, gw_1570⟩
theorem fp_RX12_682 : FP RX12 682 11 88 .long false := ⟨(RX12, TX12, 151), tyX12, rfl, by decide, lays_11, gw_1570, tyX12_ok, nmX12, rfl, by decide +kernel, fun h => by cases h⟩
theorem sp_136 : Cond.selects RX12 yX12_loses yX12_loses ∈ gw := gw_mem (pv_in (y := yX12_loses) (n := 151) (List.mem_of_getElem? (i := 136) (by decide +kernel))) (by decide +kernel)
theorem gV_RX12_685 : GV RX12 685 RX12 yX12_loses cX12_loses 3 (none : Option Jvm.ClassFile.FieldType) 1 := ⟨gi_app (List.forall_mem_cons.mpr ⟨gw_2355, List.forall_mem_cons.mpr ⟨gw_2357, List.forall_mem_cons.mpr ⟨sp_136, List.forall_mem_cons.mpr ⟨gw_8, fun _ h => absurd h List.not_mem_nil⟩⟩⟩⟩) (gi_ws gw_2358), rfl, by decide +kernel, by decide +kernel, by decide +kernel⟩
theorem fp_RX12_396 : FP RX12 396 11 2 .int false := ⟨(RX12, TX12, 151), tyX12, rfl, by decide, lays_11, gw_1484, tyX12_ok, nmX12, rfl, by decide +kernel, fun h => by cases h⟩
theorem sp_129 : Cond.selects RX12 yX12_worksGo yX12_worksGo ∈ gw := gw_mem (pv_in (y := yX12_worksGo) (n := 151) (List.mem_of_getElem? (i := 129) (by decide +kernel))) (by decide +kernel)
theorem gV_RX12_688 : GV RX12 688 RX12 yX12_worksGo cX12_worksGo 3 (none : Option Jvm.ClassFile.FieldType) 0 := ⟨gi_app (List.forall_mem_cons.mpr ⟨gw_2327, List.forall_mem_cons.mpr ⟨gw_2329, List.forall_mem_cons.mpr ⟨sp_129, List.forall_mem_cons.mpr ⟨gw_8, fun _ h => absurd h List.not_mem_nil⟩⟩⟩⟩) (gi_ws gw_2330), rfl, by decide +kernel, by decide +kernel, by decide +kernel⟩
theorem sp_133 : Cond.selects RX12 yX12_burns yX12_burns ∈ gw := gw_mem (pv_in (y := yX12_burns) (n := 151) (List.mem_of_getElem? (i := 133) (by decide +kernel))) (by decide +kernel)
theorem gV_RX12_691 : GV RX12 691 RX12 yX12_burns cX12_burns 6 (none : Option Jvm.ClassFile.FieldType) 1 := ⟨gi_app (List.forall_mem_cons.mpr ⟨gw_2343, List.forall_mem_cons.mpr ⟨gw_2345, List.forall_mem_cons.mpr ⟨sp_133, List.forall_mem_cons.mpr ⟨gw_8, fun _ h => absurd h List.not_mem_nil⟩⟩⟩⟩) (gi_ws gw_2346), rfl, by decide +kernel, by decide +kernel, by decide +kernel⟩
theorem sp_135 : Cond.selects RX12 yX12_flows yX12_flows ∈ gw := gw_mem (pv_in (y := yX12_flows) (n := 151) (List.mem_of_getElem? (i := 135) (by decide +kernel))) (by decide +kernel)
theorem gV_RX12_694 : GV RX12 694 RX12 yX12_flows cX12_flows 8 (none : Option Jvm.ClassFile.FieldType) 1 := ⟨gi_app (List.forall_mem_cons.mpr ⟨gw_2351, List.forall_mem_cons.mpr ⟨gw_2353, List.forall_mem_cons.mpr ⟨sp_135, List.forall_mem_cons.mpr ⟨gw_8, fun _ h => absurd h List.not_mem_nil⟩⟩⟩⟩) (gi_ws gw_2354), rfl, by decide +kernel, by decide +kernel, by decide +kernel⟩
theorem sp_137 : Cond.selects RX12 yX12_shipGoes yX12_shipGoes ∈ gw := gw_mem (pv_in (y := yX12_shipGoes) (n := 151) (List.mem_of_getElem? (i := 137) (by decide +kernel))) (by decide +kernel)
theorem gV_RX12_697 : GV RX12 697 RX12 yX12_shipGoes cX12_shipGoes 2 (none : Option Jvm.ClassFile.FieldType) 1 := ⟨gi_app (List.forall_mem_cons.mpr ⟨gw_2359, List.forall_mem_cons.mpr ⟨gw_2361, List.forall_mem_cons.mpr ⟨sp_137, List.forall_mem_cons.mpr ⟨gw_8, fun _ h => absurd h List.not_mem_nil⟩⟩⟩⟩) (gi_ws gw_2362), rfl, by decide +kernel, by decide +kernel, by decide +kernel⟩
theorem sp_141 : Cond.selects RX12 yX12_sledgeGoes yX12_sledgeGoes ∈ gw := gw_mem (pv_in (y := yX12_sledgeGoes) (n := 151) (List.mem_of_getElem? (i := 141) (by decide +kernel))) (by decide +kernel)
theorem gV_RX12_700 : GV RX12 700 RX12 yX12_sledgeGoes cX12_sledgeGoes 3 (none : Option Jvm.ClassFile.FieldType) 1 := ⟨gi_app (List.forall_mem_cons.mpr ⟨gw_2375, List.forall_mem_cons.mpr ⟨gw_2377, List.forall_mem_cons.mpr ⟨sp_141, List.forall_mem_cons.mpr ⟨gw_8, fun _ h => absurd h List.not_mem_nil⟩⟩⟩⟩) (gi_ws gw_2378), rfl, by decide +kernel, by decide +kernel, by decide +kernel⟩
theorem sp_132 : Cond.selects RX12 yX12_sureOf yX12_sureOf ∈ gw := gw_mem (pv_in (y := yX12_sureOf) (n := 151) (List.mem_of_getElem? (i := 132) (by decide +kernel))) (by decide +kernel)
theorem gV_RX12_703 : GV RX12 703 RX12 yX12_sureOf cX12_sureOf 8 (some .int) 1 := ⟨gi_app (List.forall_mem_cons.mpr ⟨gw_2339, List.forall_mem_cons.mpr ⟨gw_2341, List.forall_mem_cons.mpr ⟨sp_132, List.forall_mem_cons.mpr ⟨gw_8, fun _ h => absurd h List.not_mem_nil⟩⟩⟩⟩) (gi_ws gw_2342), rfl, by decide +kernel, by decide +kernel, by decide +kernel⟩
theorem fp_RX12_667 : FP RX12 667 11 118 .int false := ⟨(RX12, TX12, 151), tyX12, rfl, by decide, lays_11, gw_1600, tyX12_ok, nmX12, rfl, by decide +kernel, fun h => by cases h⟩
theorem gS_RX12_706 : GS RX12 706 yX12_part cX12_part 2 (some .int) 2 := ⟨gi_app (List.forall_mem_cons.mpr ⟨gw_2403, List.forall_mem_cons.mpr ⟨gw_2404, List.forall_mem_cons.mpr ⟨gw_8, fun _ h => absurd h List.not_mem_nil⟩⟩⟩) (gi_ws gw_2405), by decide +kernel, by decide +kernel, by decide +kernel⟩
theorem fl_RX12_709 : FL RX12 709 11 120 := ⟨(RX12, TX12, 151), rfl, by decide, lays_11, gw_1602⟩
theorem fp_RX12_709 : FP RX12 709 11 120 .int false := ⟨(RX12, TX12, 151), tyX12, rfl, by decide, lays_11, gw_1602, tyX12_ok, nmX12, rfl, by decide +kernel, fun h => by cases h⟩
theorem sp_142 : Cond.selects RX12 yX12_isAhead yX12_isAhead ∈ gw := gw_mem (pv_in (y := yX12_isAhead) (n := 151) (List.mem_of_getElem? (i := 142) (by decide +kernel))) (by decide +kernel)
theorem gV_RX12_712 : GV RX12 712 RX12 yX12_isAhead cX12_isAhead 3 (some .boolean) 2 := ⟨gi_app (List.forall_mem_cons.mpr ⟨gw_2418, List.forall_mem_cons.mpr ⟨gw_2420, List.forall_mem_cons.mpr ⟨sp_142, List.forall_mem_cons.mpr ⟨gw_8, fun _ h => absurd h List.not_mem_nil⟩⟩⟩⟩) (gi_ws gw_2421), rfl, by decide +kernel, by decide +kernel, by decide +kernel⟩
theorem sp_143 : Cond.selects RX12 yX12_isDoubt yX12_isDoubt ∈ gw := gw_mem (pv_in (y := yX12_isDoubt) (n := 151) (List.mem_of_getElem? (i := 143) (by decide +kernel))) (by decide +kernel)
theorem gV_RX12_715 : GV RX12 715 RX12 yX12_isDoubt cX12_isDoubt 4 (some .boolean) 2 := ⟨gi_app (List.forall_mem_cons.mpr ⟨gw_2426, List.forall_mem_cons.mpr ⟨gw_2428, List.forall_mem_cons.mpr ⟨sp_143, List.forall_mem_cons.mpr ⟨gw_8, fun _ h => absurd h List.not_mem_nil⟩⟩⟩⟩) (gi_ws gw_2429), rfl, by decide +kernel, by decide +kernel, by decide +kernel⟩
theorem fl_RX12_718 : FL RX12 718 11 133 := ⟨(RX12, TX12, 151), rfl, by decide, lays_11, gw_1615⟩
theorem fp_RX12_718 : FP RX12 718 11 133 .int false := ⟨(RX12, TX12, 151), tyX12, rfl, by decide, lays_11, gw_1615, tyX12_ok, nmX12, rfl, by decide +kernel, fun h => by cases h⟩
theorem sp_144 : Cond.selects RX12 yX12_isWord yX12_isWord ∈ gw := gw_mem (pv_in (y := yX12_isWord) (n := 151) (List.mem_of_getElem? (i := 144) (by decide +kernel))) (by decide +kernel)
theorem gV_RX12_721 : GV RX12 721 RX12 yX12_isWord cX12_isWord 2 (some .boolean) 1 := ⟨gi_app (List.forall_mem_cons.mpr ⟨gw_2438, List.forall_mem_cons.mpr ⟨gw_2440, List.forall_mem_cons.mpr ⟨sp_144, List.forall_mem_cons.mpr ⟨gw_8, fun _ h => absurd h List.not_mem_nil⟩⟩⟩⟩) (gi_ws gw_2441), rfl, by decide +kernel, by decide +kernel, by decide +kernel⟩
theorem sp_145 : Cond.selects RX12 yX12_isBlocked yX12_isBlocked ∈ gw := gw_mem (pv_in (y := yX12_isBlocked) (n := 151) (List.mem_of_getElem? (i := 145) (by decide +kernel))) (by decide +kernel)
theorem gV_RX12_724 : GV RX12 724 RX12 yX12_isBlocked cX12_isBlocked 5 (some .boolean) 2 := ⟨gi_app (List.forall_mem_cons.mpr ⟨gw_2446, List.forall_mem_cons.mpr ⟨gw_2448, List.forall_mem_cons.mpr ⟨sp_145, List.forall_mem_cons.mpr ⟨gw_8, fun _ h => absurd h List.not_mem_nil⟩⟩⟩⟩) (gi_ws gw_2449), rfl, by decide +kernel, by decide +kernel, by decide +kernel⟩
theorem gV_RX12_727 : GV RX12 727 RX12 yX12_blocks cX12_blocks 4 (some .int) 1 := ⟨gi_app (List.forall_mem_cons.mpr ⟨gw_2454, List.forall_mem_cons.mpr ⟨gw_2443, List.forall_mem_cons.mpr ⟨gw_2444, List.forall_mem_cons.mpr ⟨gw_8, fun _ h => absurd h List.not_mem_nil⟩⟩⟩⟩) (gi_ws gw_2445), rfl, by decide +kernel, by decide +kernel, by decide +kernel⟩
theorem sp_146 : Cond.selects RX12 yX12_worthOf yX12_worthOf ∈ gw := gw_mem (pv_in (y := yX12_worthOf) (n := 151) (List.mem_of_getElem? (i := 146) (by decide +kernel))) (by decide +kernel)
theorem gV_RX12_730 : GV RX12 730 RX12 yX12_worthOf cX12_worthOf 4 (some .int) 1 := ⟨gi_app (List.forall_mem_cons.mpr ⟨gw_2455, List.forall_mem_cons.mpr ⟨gw_2457, List.forall_mem_cons.mpr ⟨sp_146, List.forall_mem_cons.mpr ⟨gw_8, fun _ h => absurd h List.not_mem_nil⟩⟩⟩⟩) (gi_ws gw_2458), rfl, by decide +kernel, by decide +kernel, by decide +kernel⟩
theorem gS_RX12_733 : GS RX12 733 yX12_bits cX12_bits 3 (some .int) 1 := ⟨gi_app (List.forall_mem_cons.mpr ⟨gw_2459, List.forall_mem_cons.mpr ⟨gw_2460, List.forall_mem_cons.mpr ⟨gw_8, fun _ h => absurd h List.not_mem_nil⟩⟩⟩) (gi_ws gw_2461), by decide +kernel, by decide +kernel, by decide +kernel⟩
theorem fl_RX12_736 : FL RX12 736 11 137 := ⟨(RX12, TX12, 151), rfl, by decide, lays_11, gw_1619⟩
theorem fp_RX12_736 : FP RX12 736 11 137 .int false := ⟨(RX12, TX12, 151), tyX12, rfl, by decide, lays_11, gw_1619, tyX12_ok, nmX12, rfl, by decide +kernel, fun h => by cases h⟩
theorem sp_149 : Cond.selects RX12 yX12_endOf yX12_endOf ∈ gw := gw_mem (pv_in (y := yX12_endOf) (n := 151) (List.mem_of_getElem? (i := 149) (by decide +kernel))) (by decide +kernel)
theorem gV_RX12_739 : GV RX12 739 RX12 yX12_endOf cX12_endOf 6 (some .int) 2 := ⟨gi_app (List.forall_mem_cons.mpr ⟨gw_2482, List.forall_mem_cons.mpr ⟨gw_2484, List.forall_mem_cons.mpr ⟨sp_149, List.forall_mem_cons.mpr ⟨gw_8, fun _ h => absurd h List.not_mem_nil⟩⟩⟩⟩) (gi_ws gw_2485), rfl, by decide +kernel, by decide +kernel, by decide +kernel⟩
theorem sp_151 : Cond.selects RX12 yX12_swaps yX12_swaps ∈ gw := gw_mem (pv_in (y := yX12_swaps) (n := 151) (List.mem_of_getElem? (i := 151) (by decide +kernel))) (by decide +kernel)
theorem gV_RX12_742 : GV RX12 742 RX12 yX12_swaps cX12_swaps 4 (none : Option Jvm.ClassFile.FieldType) 2 := ⟨gi_app (List.forall_mem_cons.mpr ⟨gw_2490, List.forall_mem_cons.mpr ⟨gw_2492, List.forall_mem_cons.mpr ⟨sp_151, List.forall_mem_cons.mpr ⟨gw_8, fun _ h => absurd h List.not_mem_nil⟩⟩⟩⟩) (gi_ws gw_2493), rfl, by decide +kernel, by decide +kernel, by decide +kernel⟩
theorem fl_RX12_745 : FL RX12 745 11 138 := ⟨(RX12, TX12, 151), rfl, by decide, lays_11, gw_1620⟩
theorem fp_RX12_745 : FP RX12 745 11 138 .int false := ⟨(RX12, TX12, 151), tyX12, rfl, by decide, lays_11, gw_1620, tyX12_ok, nmX12, rfl, by decide +kernel, fun h => by cases h⟩
theorem sp_148 : Cond.selects RX12 yX12_worstEnd yX12_worstEnd ∈ gw := gw_mem (pv_in (y := yX12_worstEnd) (n := 151) (List.mem_of_getElem? (i := 148) (by decide +kernel))) (by decide +kernel)
theorem gV_RX12_748 : GV RX12 748 RX12 yX12_worstEnd cX12_worstEnd 5 (some .int) 1 := ⟨gi_app (List.forall_mem_cons.mpr ⟨gw_2478, List.forall_mem_cons.mpr ⟨gw_2480, List.forall_mem_cons.mpr ⟨sp_148, List.forall_mem_cons.mpr ⟨gw_8, fun _ h => absurd h List.not_mem_nil⟩⟩⟩⟩) (gi_ws gw_2481), rfl, by decide +kernel, by decide +kernel, by decide +kernel⟩
theorem sp_150 : Cond.selects RX12 yX12_nextOrder yX12_nextOrder ∈ gw := gw_mem (pv_in (y := yX12_nextOrder) (n := 151) (List.mem_of_getElem? (i := 150) (by decide +kernel))) (by decide +kernel)
theorem gV_RX12_751 : GV RX12 751 RX12 yX12_nextOrder cX12_nextOrder 5 (some .boolean) 0 := ⟨gi_app (List.forall_mem_cons.mpr ⟨gw_2486, List.forall_mem_cons.mpr ⟨gw_2488, List.forall_mem_cons.mpr ⟨sp_150, List.forall_mem_cons.mpr ⟨gw_8, fun _ h => absurd h List.not_mem_nil⟩⟩⟩⟩) (gi_ws gw_2489), rfl, by decide +kernel, by decide +kernel, by decide +kernel⟩
theorem sp_147 : Cond.selects RX12 yX12_plans yX12_plans ∈ gw := gw_mem (pv_in (y := yX12_plans) (n := 151) (List.mem_of_getElem? (i := 147) (by decide +kernel))) (by decide +kernel)
theorem gV_RX12_754 : GV RX12 754 RX12 yX12_plans cX12_plans 8 (none : Option Jvm.ClassFile.FieldType) 3 := ⟨gi_app (List.forall_mem_cons.mpr ⟨gw_2474, List.forall_mem_cons.mpr ⟨gw_2476, List.forall_mem_cons.mpr ⟨sp_147, List.forall_mem_cons.mpr ⟨gw_8, fun _ h => absurd h List.not_mem_nil⟩⟩⟩⟩) (gi_ws gw_2477), rfl, by decide +kernel, by decide +kernel, by decide +kernel⟩
theorem gV_RX12_758 : GV RX12 758 RX12 yX12_plan cX12_plan 4 (some .int) 3 := ⟨gi_app (List.forall_mem_cons.mpr ⟨gw_2498, List.forall_mem_cons.mpr ⟨gw_2471, List.forall_mem_cons.mpr ⟨gw_2472, List.forall_mem_cons.mpr ⟨gw_8, fun _ h => absurd h List.not_mem_nil⟩⟩⟩⟩) (gi_ws gw_2473), rfl, by decide +kernel, by decide +kernel, by decide +kernel⟩
theorem fl_RX12_761 : FL RX12 761 11 145 := ⟨(RX12, TX12, 151), rfl, by decide, lays_11, gw_1627⟩
theorem fp_RX12_761 : FP RX12 761 11 145 .int false := ⟨(RX12, TX12, 151), tyX12, rfl, by decide, lays_11, gw_1627, tyX12_ok, nmX12, rfl, by decide +kernel, fun h => by cases h⟩
theorem sp_152 : Cond.selects RX12 yX12_tapeNumber yX12_tapeNumber ∈ gw := gw_mem (pv_in (y := yX12_tapeNumber) (n := 151) (List.mem_of_getElem? (i := 152) (by decide +kernel))) (by decide +kernel)
theorem gV_RX12_765 : GV RX12 765 RX12 yX12_tapeNumber cX12_tapeNumber 4 (some .int) 1 := ⟨gi_app (List.forall_mem_cons.mpr ⟨gw_2512, List.forall_mem_cons.mpr ⟨gw_2514, List.forall_mem_cons.mpr ⟨sp_152, List.forall_mem_cons.mpr ⟨gw_8, fun _ h => absurd h List.not_mem_nil⟩⟩⟩⟩) (gi_ws gw_2515), rfl, by decide +kernel, by decide +kernel, by decide +kernel⟩
theorem sp_153 : Cond.selects RX12 yX12_lookAt yX12_lookAt ∈ gw := gw_mem (pv_in (y := yX12_lookAt) (n := 151) (List.mem_of_getElem? (i := 153) (by decide +kernel))) (by decide +kernel)
theorem gV_RX12_768 : GV RX12 768 RX12 yX12_lookAt cX12_lookAt 3 (some .int) 2 := ⟨gi_app (List.forall_mem_cons.mpr ⟨gw_2520, List.forall_mem_cons.mpr ⟨gw_2522, List.forall_mem_cons.mpr ⟨sp_153, List.forall_mem_cons.mpr ⟨gw_8, fun _ h => absurd h List.not_mem_nil⟩⟩⟩⟩) (gi_ws gw_2523), rfl, by decide +kernel, by decide +kernel, by decide +kernel⟩
theorem gV_RJ0_335 : GV RJ0 335 RJ0 yJ0_coder_7d493 cJ0_coder_7d493 1 (some .byte) 0 := ⟨gi_app (List.forall_mem_cons.mpr ⟨gw_724, List.forall_mem_cons.mpr ⟨gw_725, List.forall_mem_cons.mpr ⟨gw_726, List.forall_mem_cons.mpr ⟨gw_13, fun _ h => absurd h List.not_mem_nil⟩⟩⟩⟩) (gi_ws gw_727), rfl, by decide +kernel, by decide +kernel, by decide +kernel⟩
theorem gV_RJ0_633 : GV RJ0 633 RJ0 yJ0_indexOf_7cf53 cJ0_indexOf_7cf53 3 (some .int) 2 := ⟨gi_app (List.forall_mem_cons.mpr ⟨gw_710, List.forall_mem_cons.mpr ⟨gw_711, List.forall_mem_cons.mpr ⟨gw_712, List.forall_mem_cons.mpr ⟨gw_13, fun _ h => absurd h List.not_mem_nil⟩⟩⟩⟩) (gi_ws gw_713), rfl, by decide +kernel, by decide +kernel, by decide +kernel⟩
theorem gV_RJ0_492 : GV RJ0 492 RJ0 yJ0_isLatin1_aae02 cJ0_isLatin1_aae02 1 (some .boolean) 0 := ⟨gi_app (List.forall_mem_cons.mpr ⟨gw_714, List.forall_mem_cons.mpr ⟨gw_715, List.forall_mem_cons.mpr ⟨gw_716, List.forall_mem_cons.mpr ⟨gw_13, fun _ h => absurd h List.not_mem_nil⟩⟩⟩⟩) (gi_ws gw_717), rfl, by decide +kernel, by decide +kernel, by decide +kernel⟩
theorem gV_RJ0_505 : GV RJ0 505 RJ0 yJ0_length_8abf5 cJ0_length_8abf5 1 (some .int) 0 := ⟨gi_app (List.forall_mem_cons.mpr ⟨gw_720, List.forall_mem_cons.mpr ⟨gw_721, List.forall_mem_cons.mpr ⟨gw_722, List.forall_mem_cons.mpr ⟨gw_13, fun _ h => absurd h List.not_mem_nil⟩⟩⟩⟩) (gi_ws gw_723), rfl, by decide +kernel, by decide +kernel, by decide +kernel⟩
theorem gS_RJ0_637 : GS RJ0 637 yJ1_indexOf_4cfef cJ1_indexOf_4cfef 4 (some .int) 4 := ⟨gi_app (List.forall_mem_cons.mpr ⟨gw_728, List.forall_mem_cons.mpr ⟨gw_729, List.forall_mem_cons.mpr ⟨gw_14, fun _ h => absurd h List.not_mem_nil⟩⟩⟩) (gi_ws gw_730), by decide +kernel, by decide +kernel, by decide +kernel⟩
theorem gS_RJ0_640 : GS RJ0 640 yJ2_indexOf_4cfef cJ2_indexOf_4cfef 4 (some .int) 4 := ⟨gi_app (List.forall_mem_cons.mpr ⟨gw_741, List.forall_mem_cons.mpr ⟨gw_742, List.forall_mem_cons.mpr ⟨gw_15, fun _ h => absurd h List.not_mem_nil⟩⟩⟩) (gi_ws gw_743), by decide +kernel, by decide +kernel, by decide +kernel⟩
theorem gS_RJ0_1062 : GS RJ0 1062 yJ3_checkFromToIndex_8c36e cJ3_checkFromToIndex_8c36e 4 (some .int) 4 := ⟨gi_app (List.forall_mem_cons.mpr ⟨gw_761, List.forall_mem_cons.mpr ⟨gw_762, List.forall_mem_cons.mpr ⟨gw_16, fun _ h => absurd h List.not_mem_nil⟩⟩⟩) (gi_ws gw_763), by decide +kernel, by decide +kernel, by decide +kernel⟩
theorem gS_RJ1_88 : GS RJ1 88 yJ1_canEncode_9a6ad cJ1_canEncode_9a6ad 1 (some .boolean) 1 := ⟨gi_app (List.forall_mem_cons.mpr ⟨gw_731, List.forall_mem_cons.mpr ⟨gw_732, List.forall_mem_cons.mpr ⟨gw_14, fun _ h => absurd h List.not_mem_nil⟩⟩⟩) (gi_ws gw_733), by decide +kernel, by decide +kernel, by decide +kernel⟩
theorem gS_RJ1_92 : GS RJ1 92 yJ9_max_7cf53 cJ9_max_7cf53 2 (some .int) 2 := ⟨gi_app (List.forall_mem_cons.mpr ⟨gw_734, List.forall_mem_cons.mpr ⟨gw_105, List.forall_mem_cons.mpr ⟨gw_6, fun _ h => absurd h List.not_mem_nil⟩⟩⟩) (gi_ws gw_106), by decide +kernel, by decide +kernel, by decide +kernel⟩
theorem gS_RJ1_38 : GS RJ1 38 yJ9_min_7cf53 cJ9_min_7cf53 2 (some .int) 2 := ⟨gi_app (List.forall_mem_cons.mpr ⟨gw_735, List.forall_mem_cons.mpr ⟨gw_736, List.forall_mem_cons.mpr ⟨gw_6, fun _ h => absurd h List.not_mem_nil⟩⟩⟩) (gi_ws gw_737), by decide +kernel, by decide +kernel, by decide +kernel⟩
theorem gS_RJ1_95 : GS RJ1 95 yJ1_indexOfChar_4cfef cJ1_indexOfChar_4cfef 6 (some .int) 4 := ⟨gi_app (List.forall_mem_cons.mpr ⟨gw_738, List.forall_mem_cons.mpr ⟨gw_739, List.forall_mem_cons.mpr ⟨gw_14, fun _ h => absurd h List.not_mem_nil⟩⟩⟩) (gi_ws gw_740), by decide +kernel, by decide +kernel, by decide +kernel⟩
theorem gI_RL_9 : GI RL 9 yX11_init cX11_init 1 0 := ⟨gi_ws gw_25, gw_1, gw_23, gw_24, rfl, by decide +kernel, by decide +kernel, by decide +kernel⟩
theorem gI_RL_12 : GI RL 12 yX12_init cX12_init 2 0 := ⟨gi_ws gw_1476, gw_8, gw_1474, gw_1475, rfl, by decide +kernel, by decide +kernel, by decide +kernel⟩
theorem gV_RL_13 : GV RL 13 RX11 yX11_ice cX11_ice 3 (some .boolean) 2 := ⟨gi_app (List.forall_mem_cons.mpr ⟨gw_295, List.forall_mem_cons.mpr ⟨gw_296, List.forall_mem_cons.mpr ⟨gw_297, List.forall_mem_cons.mpr ⟨gw_1, fun _ h => absurd h List.not_mem_nil⟩⟩⟩⟩) (gi_ws gw_298), rfl, by decide +kernel, by decide +kernel, by decide +kernel⟩
theorem gV_RL_17 : GV RL 17 RX12 yX12_ice cX12_ice 3 (some .boolean) 2 := ⟨gi_app (List.forall_mem_cons.mpr ⟨gw_1937, List.forall_mem_cons.mpr ⟨gw_1938, List.forall_mem_cons.mpr ⟨gw_1939, List.forall_mem_cons.mpr ⟨gw_8, fun _ h => absurd h List.not_mem_nil⟩⟩⟩⟩) (gi_ws gw_1940), rfl, by decide +kernel, by decide +kernel, by decide +kernel⟩
theorem gV_RL_18 : GV RL 18 RX11 yX11_cell cX11_cell 8 (some .boolean) 5 := ⟨gi_app (List.forall_mem_cons.mpr ⟨gw_306, List.forall_mem_cons.mpr ⟨gw_307, List.forall_mem_cons.mpr ⟨gw_308, List.forall_mem_cons.mpr ⟨gw_1, fun _ h => absurd h List.not_mem_nil⟩⟩⟩⟩) (gi_ws gw_309), rfl, by decide +kernel, by decide +kernel, by decide +kernel⟩
theorem gV_RL_22 : GV RL 22 RX12 yX12_cell cX12_cell 6 (some .boolean) 5 := ⟨gi_app (List.forall_mem_cons.mpr ⟨gw_1944, List.forall_mem_cons.mpr ⟨gw_1945, List.forall_mem_cons.mpr ⟨gw_1946, List.forall_mem_cons.mpr ⟨gw_8, fun _ h => absurd h List.not_mem_nil⟩⟩⟩⟩) (gi_ws gw_1947), rfl, by decide +kernel, by decide +kernel, by decide +kernel⟩
theorem gV_RL_23 : GV RL 23 RX11 yX11_dark cX11_dark 3 (some .boolean) 2 := ⟨gi_app (List.forall_mem_cons.mpr ⟨gw_314, List.forall_mem_cons.mpr ⟨gw_315, List.forall_mem_cons.mpr ⟨gw_316, List.forall_mem_cons.mpr ⟨gw_1, fun _ h => absurd h List.not_mem_nil⟩⟩⟩⟩) (gi_ws gw_317), rfl, by decide +kernel, by decide +kernel, by decide +kernel⟩
theorem gV_RL_26 : GV RL 26 RX12 yX12_dark cX12_dark 3 (some .boolean) 2 := ⟨gi_app (List.forall_mem_cons.mpr ⟨gw_1952, List.forall_mem_cons.mpr ⟨gw_1953, List.forall_mem_cons.mpr ⟨gw_1954, List.forall_mem_cons.mpr ⟨gw_8, fun _ h => absurd h List.not_mem_nil⟩⟩⟩⟩) (gi_ws gw_1955), rfl, by decide +kernel, by decide +kernel, by decide +kernel⟩
theorem gV_RL_27 : GV RL 27 RX11 yX11_party cX11_party 2 (some .int) 1 := ⟨gi_app (List.forall_mem_cons.mpr ⟨gw_321, List.forall_mem_cons.mpr ⟨gw_322, List.forall_mem_cons.mpr ⟨gw_323, List.forall_mem_cons.mpr ⟨gw_1, fun _ h => absurd h List.not_mem_nil⟩⟩⟩⟩) (gi_ws gw_324), rfl, by decide +kernel, by decide +kernel, by decide +kernel⟩
theorem gV_RL_31 : GV RL 31 RX12 yX12_party cX12_party 2 (some .int) 1 := ⟨gi_app (List.forall_mem_cons.mpr ⟨gw_1956, List.forall_mem_cons.mpr ⟨gw_1957, List.forall_mem_cons.mpr ⟨gw_1958, List.forall_mem_cons.mpr ⟨gw_8, fun _ h => absurd h List.not_mem_nil⟩⟩⟩⟩) (gi_ws gw_1959), rfl, by decide +kernel, by decide +kernel, by decide +kernel⟩
theorem gV_RL_32 : GV RL 32 RX11 yX11_claim cX11_claim 6 (some .int) 4 := ⟨gi_app (List.forall_mem_cons.mpr ⟨gw_353, List.forall_mem_cons.mpr ⟨gw_354, List.forall_mem_cons.mpr ⟨gw_355, List.forall_mem_cons.mpr ⟨gw_1, fun _ h => absurd h List.not_mem_nil⟩⟩⟩⟩) (gi_ws gw_356), rfl, by decide +kernel, by decide +kernel, by decide +kernel⟩
theorem gV_RL_36 : GV RL 36 RX12 yX12_claim cX12_claim 5 (some .int) 4 := ⟨gi_app (List.forall_mem_cons.mpr ⟨gw_1975, List.forall_mem_cons.mpr ⟨gw_1976, List.forall_mem_cons.mpr ⟨gw_1977, List.forall_mem_cons.mpr ⟨gw_8, fun _ h => absurd h List.not_mem_nil⟩⟩⟩⟩) (gi_ws gw_1978), rfl, by decide +kernel, by decide +kernel, by decide +kernel⟩
theorem gV_RL_37 : GV RL 37 RX11 yX11_title cX11_title 5 (some .boolean) 2 := ⟨gi_app (List.forall_mem_cons.mpr ⟨gw_501, List.forall_mem_cons.mpr ⟨gw_502, List.forall_mem_cons.mpr ⟨gw_503, List.forall_mem_cons.mpr ⟨gw_1, fun _ h => absurd h List.not_mem_nil⟩⟩⟩⟩) (gi_ws gw_504), rfl, by decide +kernel, by decide +kernel, by decide +kernel⟩
theorem gV_RL_40 : GV RL 40 RX12 yX12_title cX12_title 3 (some .boolean) 2 := ⟨gi_app (List.forall_mem_cons.mpr ⟨gw_2003, List.forall_mem_cons.mpr ⟨gw_2004, List.forall_mem_cons.mpr ⟨gw_2005, List.forall_mem_cons.mpr ⟨gw_8, fun _ h => absurd h List.not_mem_nil⟩⟩⟩⟩) (gi_ws gw_2006), rfl, by decide +kernel, by decide +kernel, by decide +kernel⟩
theorem gV_RL_41 : GV RL 41 RX11 yX11_station cX11_station 7 (some .int) 4 := ⟨gi_app (List.forall_mem_cons.mpr ⟨gw_513, List.forall_mem_cons.mpr ⟨gw_514, List.forall_mem_cons.mpr ⟨gw_515, List.forall_mem_cons.mpr ⟨gw_1, fun _ h => absurd h List.not_mem_nil⟩⟩⟩⟩) (gi_ws gw_516), rfl, by decide +kernel, by decide +kernel, by decide +kernel⟩
theorem gV_RL_44 : GV RL 44 RX12 yX12_station cX12_station 5 (some .int) 4 := ⟨gi_app (List.forall_mem_cons.mpr ⟨gw_2011, List.forall_mem_cons.mpr ⟨gw_2012, List.forall_mem_cons.mpr ⟨gw_2013, List.forall_mem_cons.mpr ⟨gw_8, fun _ h => absurd h List.not_mem_nil⟩⟩⟩⟩) (gi_ws gw_2014), rfl, by decide +kernel, by decide +kernel, by decide +kernel⟩
theorem gV_RL_45 : GV RL 45 RX11 yX11_field cX11_field 4 (some .int) 2 := ⟨gi_app (List.forall_mem_cons.mpr ⟨gw_527, List.forall_mem_cons.mpr ⟨gw_528, List.forall_mem_cons.mpr ⟨gw_529, List.forall_mem_cons.mpr ⟨gw_1, fun _ h => absurd h List.not_mem_nil⟩⟩⟩⟩) (gi_ws gw_530), rfl, by decide +kernel, by decide +kernel, by decide +kernel⟩
theorem gV_RL_49 : GV RL 49 RX12 yX12_field cX12_field 3 (some .int) 2 := ⟨gi_app (List.forall_mem_cons.mpr ⟨gw_2020, List.forall_mem_cons.mpr ⟨gw_2021, List.forall_mem_cons.mpr ⟨gw_2022, List.forall_mem_cons.mpr ⟨gw_8, fun _ h => absurd h List.not_mem_nil⟩⟩⟩⟩) (gi_ws gw_2023), rfl, by decide +kernel, by decide +kernel, by decide +kernel⟩
theorem gV_RL_50 : GV RL 50 RX11 yX11_reserve cX11_reserve 4 (some .int) 3 := ⟨gi_app (List.forall_mem_cons.mpr ⟨gw_535, List.forall_mem_cons.mpr ⟨gw_536, List.forall_mem_cons.mpr ⟨gw_537, List.forall_mem_cons.mpr ⟨gw_1, fun _ h => absurd h List.not_mem_nil⟩⟩⟩⟩) (gi_ws gw_538), rfl, by decide +kernel, by decide +kernel, by decide +kernel⟩
theorem gV_RL_54 : GV RL 54 RX12 yX12_reserve cX12_reserve 4 (some .int) 3 := ⟨gi_app (List.forall_mem_cons.mpr ⟨gw_2032, List.forall_mem_cons.mpr ⟨gw_2033, List.forall_mem_cons.mpr ⟨gw_2034, List.forall_mem_cons.mpr ⟨gw_8, fun _ h => absurd h List.not_mem_nil⟩⟩⟩⟩) (gi_ws gw_2035), rfl, by decide +kernel, by decide +kernel, by decide +kernel⟩
theorem gV_RL_55 : GV RL 55 RX11 yX11_site cX11_site 3 (some .int) 2 := ⟨gi_app (List.forall_mem_cons.mpr ⟨gw_539, List.forall_mem_cons.mpr ⟨gw_540, List.forall_mem_cons.mpr ⟨gw_541, List.forall_mem_cons.mpr ⟨gw_1, fun _ h => absurd h List.not_mem_nil⟩⟩⟩⟩) (gi_ws gw_542), rfl, by decide +kernel, by decide +kernel, by decide +kernel⟩
theorem gV_RL_59 : GV RL 59 RX12 yX12_site cX12_site 3 (some .int) 2 := ⟨gi_app (List.forall_mem_cons.mpr ⟨gw_2036, List.forall_mem_cons.mpr ⟨gw_2037, List.forall_mem_cons.mpr ⟨gw_2038, List.forall_mem_cons.mpr ⟨gw_8, fun _ h => absurd h List.not_mem_nil⟩⟩⟩⟩) (gi_ws gw_2039), rfl, by decide +kernel, by decide +kernel, by decide +kernel⟩
theorem gV_RL_60 : GV RL 60 RX11 yX11_feed cX11_feed 6 (some .int) 5 := ⟨gi_app (List.forall_mem_cons.mpr ⟨gw_543, List.forall_mem_cons.mpr ⟨gw_544, List.forall_mem_cons.mpr ⟨gw_545, List.forall_mem_cons.mpr ⟨gw_1, fun _ h => absurd h List.not_mem_nil⟩⟩⟩⟩) (gi_ws gw_546), rfl, by decide +kernel, by decide +kernel, by decide +kernel⟩
theorem gV_RL_64 : GV RL 64 RX12 yX12_feed cX12_feed 6 (some .int) 5 := ⟨gi_app (List.forall_mem_cons.mpr ⟨gw_2040, List.forall_mem_cons.mpr ⟨gw_2041, List.forall_mem_cons.mpr ⟨gw_2042, List.forall_mem_cons.mpr ⟨gw_8, fun _ h => absurd h List.not_mem_nil⟩⟩⟩⟩) (gi_ws gw_2043), rfl, by decide +kernel, by decide +kernel, by decide +kernel⟩
theorem gV_RL_65 : GV RL 65 RX11 yX11_text cX11_text 6 (some .int) 3 := ⟨gi_app (List.forall_mem_cons.mpr ⟨gw_563, List.forall_mem_cons.mpr ⟨gw_564, List.forall_mem_cons.mpr ⟨gw_565, List.forall_mem_cons.mpr ⟨gw_1, fun _ h => absurd h List.not_mem_nil⟩⟩⟩⟩) (gi_ws gw_566), rfl, by decide +kernel, by decide +kernel, by decide +kernel⟩
theorem gV_RL_68 : GV RL 68 RX12 yX12_text cX12_text 7 (some .int) 3 := ⟨gi_app (List.forall_mem_cons.mpr ⟨gw_2048, List.forall_mem_cons.mpr ⟨gw_2049, List.forall_mem_cons.mpr ⟨gw_2050, List.forall_mem_cons.mpr ⟨gw_8, fun _ h => absurd h List.not_mem_nil⟩⟩⟩⟩) (gi_ws gw_2051), rfl, by decide +kernel, by decide +kernel, by decide +kernel⟩
theorem gV_RL_69 : GV RL 69 RX11 yX11_yes cX11_yes 4 (some .boolean) 2 := ⟨gi_app (List.forall_mem_cons.mpr ⟨gw_816, List.forall_mem_cons.mpr ⟨gw_817, List.forall_mem_cons.mpr ⟨gw_818, List.forall_mem_cons.mpr ⟨gw_1, fun _ h => absurd h List.not_mem_nil⟩⟩⟩⟩) (gi_ws gw_819), rfl, by decide +kernel, by decide +kernel, by decide +kernel⟩
theorem gV_RL_72 : GV RL 72 RX12 yX12_yes cX12_yes 3 (some .boolean) 2 := ⟨gi_app (List.forall_mem_cons.mpr ⟨gw_2138, List.forall_mem_cons.mpr ⟨gw_2139, List.forall_mem_cons.mpr ⟨gw_2140, List.forall_mem_cons.mpr ⟨gw_8, fun _ h => absurd h List.not_mem_nil⟩⟩⟩⟩) (gi_ws gw_2141), rfl, by decide +kernel, by decide +kernel, by decide +kernel⟩
theorem gV_RL_73 : GV RL 73 RX11 yX11_reading cX11_reading 8 (some .int) 4 := ⟨gi_app (List.forall_mem_cons.mpr ⟨gw_823, List.forall_mem_cons.mpr ⟨gw_824, List.forall_mem_cons.mpr ⟨gw_825, List.forall_mem_cons.mpr ⟨gw_1, fun _ h => absurd h List.not_mem_nil⟩⟩⟩⟩) (gi_ws gw_826), rfl, by decide +kernel, by decide +kernel, by decide +kernel⟩
theorem gV_RL_76 : GV RL 76 RX12 yX12_reading cX12_reading 7 (some .int) 4 := ⟨gi_app (List.forall_mem_cons.mpr ⟨gw_2146, List.forall_mem_cons.mpr ⟨gw_2147, List.forall_mem_cons.mpr ⟨gw_2148, List.forall_mem_cons.mpr ⟨gw_8, fun _ h => absurd h List.not_mem_nil⟩⟩⟩⟩) (gi_ws gw_2149), rfl, by decide +kernel, by decide +kernel, by decide +kernel⟩
theorem gV_RL_77 : GV RL 77 RX11 yX11_counts cX11_counts 5 (some .int) 3 := ⟨gi_app (List.forall_mem_cons.mpr ⟨gw_845, List.forall_mem_cons.mpr ⟨gw_846, List.forall_mem_cons.mpr ⟨gw_847, List.forall_mem_cons.mpr ⟨gw_1, fun _ h => absurd h List.not_mem_nil⟩⟩⟩⟩) (gi_ws gw_848), rfl, by decide +kernel, by decide +kernel, by decide +kernel⟩
theorem gV_RL_80 : GV RL 80 RX12 yX12_counts cX12_counts 6 (some .int) 3 := ⟨gi_app (List.forall_mem_cons.mpr ⟨gw_2154, List.forall_mem_cons.mpr ⟨gw_2155, List.forall_mem_cons.mpr ⟨gw_2156, List.forall_mem_cons.mpr ⟨gw_8, fun _ h => absurd h List.not_mem_nil⟩⟩⟩⟩) (gi_ws gw_2157), rfl, by decide +kernel, by decide +kernel, by decide +kernel⟩
theorem gV_RL_81 : GV RL 81 RX11 yX11_number cX11_number 6 (some .int) 3 := ⟨gi_app (List.forall_mem_cons.mpr ⟨gw_858, List.forall_mem_cons.mpr ⟨gw_859, List.forall_mem_cons.mpr ⟨gw_860, List.forall_mem_cons.mpr ⟨gw_1, fun _ h => absurd h List.not_mem_nil⟩⟩⟩⟩) (gi_ws gw_861), rfl, by decide +kernel, by decide +kernel, by decide +kernel⟩
theorem gV_RL_84 : GV RL 84 RX12 yX12_number cX12_number 4 (some .int) 3 := ⟨gi_app (List.forall_mem_cons.mpr ⟨gw_2158, List.forall_mem_cons.mpr ⟨gw_2159, List.forall_mem_cons.mpr ⟨gw_2160, List.forall_mem_cons.mpr ⟨gw_8, fun _ h => absurd h List.not_mem_nil⟩⟩⟩⟩) (gi_ws gw_2161), rfl, by decide +kernel, by decide +kernel, by decide +kernel⟩
theorem gV_RL_85 : GV RL 85 RX11 yX11_decides cX11_decides 4 (some .int) 2 := ⟨gi_app (List.forall_mem_cons.mpr ⟨gw_863, List.forall_mem_cons.mpr ⟨gw_864, List.forall_mem_cons.mpr ⟨gw_865, List.forall_mem_cons.mpr ⟨gw_1, fun _ h => absurd h List.not_mem_nil⟩⟩⟩⟩) (gi_ws gw_866), rfl, by decide +kernel, by decide +kernel, by decide +kernel⟩
theorem gV_RL_88 : GV RL 88 RX12 yX12_decides cX12_decides 3 (some .int) 2 := ⟨gi_app (List.forall_mem_cons.mpr ⟨gw_1960, List.forall_mem_cons.mpr ⟨gw_1961, List.forall_mem_cons.mpr ⟨gw_1962, List.forall_mem_cons.mpr ⟨gw_8, fun _ h => absurd h List.not_mem_nil⟩⟩⟩⟩) (gi_ws gw_1963), rfl, by decide +kernel, by decide +kernel, by decide +kernel⟩
theorem gV_RL_89 : GV RL 89 RX11 yX11_work cX11_work 9 (some .int) 7 := ⟨gi_app (List.forall_mem_cons.mpr ⟨gw_871, List.forall_mem_cons.mpr ⟨gw_872, List.forall_mem_cons.mpr ⟨gw_873, List.forall_mem_cons.mpr ⟨gw_1, fun _ h => absurd h List.not_mem_nil⟩⟩⟩⟩) (gi_ws gw_874), rfl, by decide +kernel, by decide +kernel, by decide +kernel⟩
theorem gV_RL_93 : GV RL 93 RX12 yX12_work cX12_work 9 (some .int) 7 := ⟨gi_app (List.forall_mem_cons.mpr ⟨gw_2170, List.forall_mem_cons.mpr ⟨gw_2171, List.forall_mem_cons.mpr ⟨gw_2172, List.forall_mem_cons.mpr ⟨gw_8, fun _ h => absurd h List.not_mem_nil⟩⟩⟩⟩) (gi_ws gw_2173), rfl, by decide +kernel, by decide +kernel, by decide +kernel⟩
theorem gV_RL_94 : GV RL 94 RX11 yX11_tell cX11_tell 4 (some .boolean) 2 := ⟨gi_app (List.forall_mem_cons.mpr ⟨gw_946, List.forall_mem_cons.mpr ⟨gw_947, List.forall_mem_cons.mpr ⟨gw_948, List.forall_mem_cons.mpr ⟨gw_1, fun _ h => absurd h List.not_mem_nil⟩⟩⟩⟩) (gi_ws gw_949), rfl, by decide +kernel, by decide +kernel, by decide +kernel⟩
theorem gV_RL_97 : GV RL 97 RX12 yX12_tell cX12_tell 3 (some .boolean) 2 := ⟨gi_app (List.forall_mem_cons.mpr ⟨gw_2174, List.forall_mem_cons.mpr ⟨gw_2175, List.forall_mem_cons.mpr ⟨gw_2176, List.forall_mem_cons.mpr ⟨gw_8, fun _ h => absurd h List.not_mem_nil⟩⟩⟩⟩) (gi_ws gw_2177), rfl, by decide +kernel, by decide +kernel, by decide +kernel⟩
theorem gV_RL_98 : GV RL 98 RX11 yX11_study cX11_study 4 (some .boolean) 2 := ⟨gi_app (List.forall_mem_cons.mpr ⟨gw_954, List.forall_mem_cons.mpr ⟨gw_955, List.forall_mem_cons.mpr ⟨gw_956, List.forall_mem_cons.mpr ⟨gw_1, fun _ h => absurd h List.not_mem_nil⟩⟩⟩⟩) (gi_ws gw_957), rfl, by decide +kernel, by decide +kernel, by decide +kernel⟩
theorem gV_RL_101 : GV RL 101 RX12 yX12_study cX12_study 3 (some .boolean) 2 := ⟨gi_app (List.forall_mem_cons.mpr ⟨gw_2182, List.forall_mem_cons.mpr ⟨gw_2183, List.forall_mem_cons.mpr ⟨gw_2184, List.forall_mem_cons.mpr ⟨gw_8, fun _ h => absurd h List.not_mem_nil⟩⟩⟩⟩) (gi_ws gw_2185), rfl, by decide +kernel, by decide +kernel, by decide +kernel⟩
theorem gV_RL_102 : GV RL 102 RX11 yX11_say cX11_say 6 (some .boolean) 3 := ⟨gi_app (List.forall_mem_cons.mpr ⟨gw_958, List.forall_mem_cons.mpr ⟨gw_959, List.forall_mem_cons.mpr ⟨gw_960, List.forall_mem_cons.mpr ⟨gw_1, fun _ h => absurd h List.not_mem_nil⟩⟩⟩⟩) (gi_ws gw_961), rfl, by decide +kernel, by decide +kernel, by decide +kernel⟩
theorem gV_RL_106 : GV RL 106 RX12 yX12_say cX12_say 4 (some .boolean) 3 := ⟨gi_app (List.forall_mem_cons.mpr ⟨gw_2186, List.forall_mem_cons.mpr ⟨gw_2187, List.forall_mem_cons.mpr ⟨gw_2188, List.forall_mem_cons.mpr ⟨gw_8, fun _ h => absurd h List.not_mem_nil⟩⟩⟩⟩) (gi_ws gw_2189), rfl, by decide +kernel, by decide +kernel, by decide +kernel⟩
theorem gV_RL_107 : GV RL 107 RX11 yX11_may cX11_may 5 (some .int) 3 := ⟨gi_app (List.forall_mem_cons.mpr ⟨gw_962, List.forall_mem_cons.mpr ⟨gw_963, List.forall_mem_cons.mpr ⟨gw_964, List.forall_mem_cons.mpr ⟨gw_1, fun _ h => absurd h List.not_mem_nil⟩⟩⟩⟩) (gi_ws gw_965), rfl, by decide +kernel, by decide +kernel, by decide +kernel⟩
theorem gV_RL_111 : GV RL 111 RX12 yX12_may cX12_may 4 (some .int) 3 := ⟨gi_app (List.forall_mem_cons.mpr ⟨gw_2190, List.forall_mem_cons.mpr ⟨gw_2191, List.forall_mem_cons.mpr ⟨gw_2192, List.forall_mem_cons.mpr ⟨gw_8, fun _ h => absurd h List.not_mem_nil⟩⟩⟩⟩) (gi_ws gw_2193), rfl, by decide +kernel, by decide +kernel, by decide +kernel⟩
theorem gV_RL_112 : GV RL 112 RX11 yX11_why cX11_why 6 (some .int) 4 := ⟨gi_app (List.forall_mem_cons.mpr ⟨gw_1033, List.forall_mem_cons.mpr ⟨gw_1034, List.forall_mem_cons.mpr ⟨gw_1035, List.forall_mem_cons.mpr ⟨gw_1, fun _ h => absurd h List.not_mem_nil⟩⟩⟩⟩) (gi_ws gw_1036), rfl, by decide +kernel, by decide +kernel, by decide +kernel⟩
theorem gV_RL_116 : GV RL 116 RX12 yX12_why cX12_why 5 (some .int) 4 := ⟨gi_app (List.forall_mem_cons.mpr ⟨gw_2248, List.forall_mem_cons.mpr ⟨gw_2249, List.forall_mem_cons.mpr ⟨gw_2250, List.forall_mem_cons.mpr ⟨gw_8, fun _ h => absurd h List.not_mem_nil⟩⟩⟩⟩) (gi_ws gw_2251), rfl, by decide +kernel, by decide +kernel, by decide +kernel⟩
theorem gV_RL_117 : GV RL 117 RX11 yX11_whose cX11_whose 9 (some .int) 2 := ⟨gi_app (List.forall_mem_cons.mpr ⟨gw_1037, List.forall_mem_cons.mpr ⟨gw_1038, List.forall_mem_cons.mpr ⟨gw_1039, List.forall_mem_cons.mpr ⟨gw_1, fun _ h => absurd h List.not_mem_nil⟩⟩⟩⟩) (gi_ws gw_1040), rfl, by decide +kernel, by decide +kernel, by decide +kernel⟩
theorem gV_RL_120 : GV RL 120 RX12 yX12_whose cX12_whose 5 (some .int) 2 := ⟨gi_app (List.forall_mem_cons.mpr ⟨gw_2252, List.forall_mem_cons.mpr ⟨gw_2253, List.forall_mem_cons.mpr ⟨gw_2254, List.forall_mem_cons.mpr ⟨gw_8, fun _ h => absurd h List.not_mem_nil⟩⟩⟩⟩) (gi_ws gw_2255), rfl, by decide +kernel, by decide +kernel, by decide +kernel⟩
theorem gV_RL_121 : GV RL 121 RX11 yX11_ship cX11_ship 4 (some .int) 3 := ⟨gi_app (List.forall_mem_cons.mpr ⟨gw_1041, List.forall_mem_cons.mpr ⟨gw_1042, List.forall_mem_cons.mpr ⟨gw_1043, List.forall_mem_cons.mpr ⟨gw_1, fun _ h => absurd h List.not_mem_nil⟩⟩⟩⟩) (gi_ws gw_1044), rfl, by decide +kernel, by decide +kernel, by decide +kernel⟩
theorem gV_RL_124 : GV RL 124 RX12 yX12_ship cX12_ship 4 (some .int) 3 := ⟨gi_app (List.forall_mem_cons.mpr ⟨gw_2256, List.forall_mem_cons.mpr ⟨gw_2257, List.forall_mem_cons.mpr ⟨gw_2258, List.forall_mem_cons.mpr ⟨gw_8, fun _ h => absurd h List.not_mem_nil⟩⟩⟩⟩) (gi_ws gw_2259), rfl, by decide +kernel, by decide +kernel, by decide +kernel⟩
theorem gV_RL_125 : GV RL 125 RX11 yX11_cover cX11_cover 4 (some .boolean) 3 := ⟨gi_app (List.forall_mem_cons.mpr ⟨gw_1094, List.forall_mem_cons.mpr ⟨gw_1095, List.forall_mem_cons.mpr ⟨gw_1096, List.forall_mem_cons.mpr ⟨gw_1, fun _ h => absurd h List.not_mem_nil⟩⟩⟩⟩) (gi_ws gw_1097), rfl, by decide +kernel, by decide +kernel, by decide +kernel⟩
theorem gV_RL_129 : GV RL 129 RX12 yX12_cover cX12_cover 4 (some .boolean) 3 := ⟨gi_app (List.forall_mem_cons.mpr ⟨gw_2260, List.forall_mem_cons.mpr ⟨gw_2261, List.forall_mem_cons.mpr ⟨gw_2262, List.forall_mem_cons.mpr ⟨gw_8, fun _ h => absurd h List.not_mem_nil⟩⟩⟩⟩) (gi_ws gw_2263), rfl, by decide +kernel, by decide +kernel, by decide +kernel⟩
theorem gV_RL_130 : GV RL 130 RX11 yX11_sea cX11_sea 3 (some .boolean) 2 := ⟨gi_app (List.forall_mem_cons.mpr ⟨gw_1101, List.forall_mem_cons.mpr ⟨gw_1102, List.forall_mem_cons.mpr ⟨gw_1103, List.forall_mem_cons.mpr ⟨gw_1, fun _ h => absurd h List.not_mem_nil⟩⟩⟩⟩) (gi_ws gw_1104), rfl, by decide +kernel, by decide +kernel, by decide +kernel⟩
theorem gV_RL_133 : GV RL 133 RX12 yX12_sea cX12_sea 3 (some .boolean) 2 := ⟨gi_app (List.forall_mem_cons.mpr ⟨gw_2267, List.forall_mem_cons.mpr ⟨gw_2268, List.forall_mem_cons.mpr ⟨gw_2269, List.forall_mem_cons.mpr ⟨gw_8, fun _ h => absurd h List.not_mem_nil⟩⟩⟩⟩) (gi_ws gw_2270), rfl, by decide +kernel, by decide +kernel, by decide +kernel⟩
theorem gV_RL_134 : GV RL 134 RX11 yX11_voyage cX11_voyage 7 (some .boolean) 4 := ⟨gi_app (List.forall_mem_cons.mpr ⟨gw_1105, List.forall_mem_cons.mpr ⟨gw_1106, List.forall_mem_cons.mpr ⟨gw_1107, List.forall_mem_cons.mpr ⟨gw_1, fun _ h => absurd h List.not_mem_nil⟩⟩⟩⟩) (gi_ws gw_1108), rfl, by decide +kernel, by decide +kernel, by decide +kernel⟩
theorem gV_RL_138 : GV RL 138 RX12 yX12_voyage cX12_voyage 5 (some .boolean) 4 := ⟨gi_app (List.forall_mem_cons.mpr ⟨gw_2271, List.forall_mem_cons.mpr ⟨gw_2272, List.forall_mem_cons.mpr ⟨gw_2273, List.forall_mem_cons.mpr ⟨gw_8, fun _ h => absurd h List.not_mem_nil⟩⟩⟩⟩) (gi_ws gw_2274), rfl, by decide +kernel, by decide +kernel, by decide +kernel⟩
theorem gV_RL_139 : GV RL 139 RX11 yX11_sledge cX11_sledge 8 (some .int) 3 := ⟨gi_app (List.forall_mem_cons.mpr ⟨gw_1129, List.forall_mem_cons.mpr ⟨gw_1130, List.forall_mem_cons.mpr ⟨gw_1131, List.forall_mem_cons.mpr ⟨gw_1, fun _ h => absurd h List.not_mem_nil⟩⟩⟩⟩) (gi_ws gw_1132), rfl, by decide +kernel, by decide +kernel, by decide +kernel⟩
theorem gV_RL_142 : GV RL 142 RX12 yX12_sledge cX12_sledge 5 (some .int) 3 := ⟨gi_app (List.forall_mem_cons.mpr ⟨gw_2283, List.forall_mem_cons.mpr ⟨gw_2284, List.forall_mem_cons.mpr ⟨gw_2285, List.forall_mem_cons.mpr ⟨gw_8, fun _ h => absurd h List.not_mem_nil⟩⟩⟩⟩) (gi_ws gw_2286), rfl, by decide +kernel, by decide +kernel, by decide +kernel⟩
theorem gV_RL_143 : GV RL 143 RX11 yX11_people cX11_people 4 (some .boolean) 2 := ⟨gi_app (List.forall_mem_cons.mpr ⟨gw_1147, List.forall_mem_cons.mpr ⟨gw_1148, List.forall_mem_cons.mpr ⟨gw_1149, List.forall_mem_cons.mpr ⟨gw_1, fun _ h => absurd h List.not_mem_nil⟩⟩⟩⟩) (gi_ws gw_1150), rfl, by decide +kernel, by decide +kernel, by decide +kernel⟩
theorem gV_RL_146 : GV RL 146 RX12 yX12_people cX12_people 3 (some .boolean) 2 := ⟨gi_app (List.forall_mem_cons.mpr ⟨gw_2302, List.forall_mem_cons.mpr ⟨gw_2303, List.forall_mem_cons.mpr ⟨gw_2304, List.forall_mem_cons.mpr ⟨gw_8, fun _ h => absurd h List.not_mem_nil⟩⟩⟩⟩) (gi_ws gw_2305), rfl, by decide +kernel, by decide +kernel, by decide +kernel⟩
theorem gV_RL_147 : GV RL 147 RX11 yX11_hide cX11_hide 4 (some .boolean) 2 := ⟨gi_app (List.forall_mem_cons.mpr ⟨gw_1151, List.forall_mem_cons.mpr ⟨gw_1152, List.forall_mem_cons.mpr ⟨gw_1153, List.forall_mem_cons.mpr ⟨gw_1, fun _ h => absurd h List.not_mem_nil⟩⟩⟩⟩) (gi_ws gw_1154), rfl, by decide +kernel, by decide +kernel, by decide +kernel⟩
theorem gV_RL_150 : GV RL 150 RX12 yX12_hide cX12_hide 3 (some .boolean) 2 := ⟨gi_app (List.forall_mem_cons.mpr ⟨gw_2306, List.forall_mem_cons.mpr ⟨gw_2307, List.forall_mem_cons.mpr ⟨gw_2308, List.forall_mem_cons.mpr ⟨gw_8, fun _ h => absurd h List.not_mem_nil⟩⟩⟩⟩) (gi_ws gw_2309), rfl, by decide +kernel, by decide +kernel, by decide +kernel⟩
theorem gV_RL_151 : GV RL 151 RX11 yX11_declare cX11_declare 5 (some .boolean) 3 := ⟨gi_app (List.forall_mem_cons.mpr ⟨gw_1155, List.forall_mem_cons.mpr ⟨gw_1156, List.forall_mem_cons.mpr ⟨gw_1157, List.forall_mem_cons.mpr ⟨gw_1, fun _ h => absurd h List.not_mem_nil⟩⟩⟩⟩) (gi_ws gw_1158), rfl, by decide +kernel, by decide +kernel, by decide +kernel⟩
theorem gV_RL_154 : GV RL 154 RX12 yX12_declare cX12_declare 4 (some .boolean) 3 := ⟨gi_app (List.forall_mem_cons.mpr ⟨gw_2310, List.forall_mem_cons.mpr ⟨gw_2311, List.forall_mem_cons.mpr ⟨gw_2312, List.forall_mem_cons.mpr ⟨gw_8, fun _ h => absurd h List.not_mem_nil⟩⟩⟩⟩) (gi_ws gw_2313), rfl, by decide +kernel, by decide +kernel, by decide +kernel⟩
theorem gV_RL_155 : GV RL 155 RX11 yX11_visit cX11_visit 6 (some .int) 2 := ⟨gi_app (List.forall_mem_cons.mpr ⟨gw_1160, List.forall_mem_cons.mpr ⟨gw_1161, List.forall_mem_cons.mpr ⟨gw_1162, List.forall_mem_cons.mpr ⟨gw_1, fun _ h => absurd h List.not_mem_nil⟩⟩⟩⟩) (gi_ws gw_1163), rfl, by decide +kernel, by decide +kernel, by decide +kernel⟩
theorem gV_RL_158 : GV RL 158 RX12 yX12_visit cX12_visit 3 (some .int) 2 := ⟨gi_app (List.forall_mem_cons.mpr ⟨gw_2314, List.forall_mem_cons.mpr ⟨gw_2315, List.forall_mem_cons.mpr ⟨gw_2316, List.forall_mem_cons.mpr ⟨gw_8, fun _ h => absurd h List.not_mem_nil⟩⟩⟩⟩) (gi_ws gw_2317), rfl, by decide +kernel, by decide +kernel, by decide +kernel⟩
theorem gV_RL_159 : GV RL 159 RX11 yX11_seen cX11_seen 3 (some .int) 2 := ⟨gi_app (List.forall_mem_cons.mpr ⟨gw_1164, List.forall_mem_cons.mpr ⟨gw_1165, List.forall_mem_cons.mpr ⟨gw_1166, List.forall_mem_cons.mpr ⟨gw_1, fun _ h => absurd h List.not_mem_nil⟩⟩⟩⟩) (gi_ws gw_1167), rfl, by decide +kernel, by decide +kernel, by decide +kernel⟩
theorem gV_RL_162 : GV RL 162 RX12 yX12_seen cX12_seen 3 (some .int) 2 := ⟨gi_app (List.forall_mem_cons.mpr ⟨gw_2318, List.forall_mem_cons.mpr ⟨gw_2319, List.forall_mem_cons.mpr ⟨gw_2320, List.forall_mem_cons.mpr ⟨gw_8, fun _ h => absurd h List.not_mem_nil⟩⟩⟩⟩) (gi_ws gw_2321), rfl, by decide +kernel, by decide +kernel, by decide +kernel⟩
theorem gV_RL_163 : GV RL 163 RX11 yX11_day cX11_day 2 (some .int) 0 := ⟨gi_app (List.forall_mem_cons.mpr ⟨gw_1171, List.forall_mem_cons.mpr ⟨gw_1172, List.forall_mem_cons.mpr ⟨gw_1173, List.forall_mem_cons.mpr ⟨gw_1, fun _ h => absurd h List.not_mem_nil⟩⟩⟩⟩) (gi_ws gw_1174), rfl, by decide +kernel, by decide +kernel, by decide +kernel⟩
theorem gV_RL_167 : GV RL 167 RX12 yX12_day cX12_day 2 (some .int) 0 := ⟨gi_app (List.forall_mem_cons.mpr ⟨gw_2323, List.forall_mem_cons.mpr ⟨gw_2324, List.forall_mem_cons.mpr ⟨gw_2325, List.forall_mem_cons.mpr ⟨gw_8, fun _ h => absurd h List.not_mem_nil⟩⟩⟩⟩) (gi_ws gw_2326), rfl, by decide +kernel, by decide +kernel, by decide +kernel⟩
theorem gV_RL_168 : GV RL 168 RX11 yX11_sound cX11_sound 5 (some .boolean) 3 := ⟨gi_app (List.forall_mem_cons.mpr ⟨gw_1266, List.forall_mem_cons.mpr ⟨gw_1267, List.forall_mem_cons.mpr ⟨gw_1268, List.forall_mem_cons.mpr ⟨gw_1, fun _ h => absurd h List.not_mem_nil⟩⟩⟩⟩) (gi_ws gw_1269), rfl, by decide +kernel, by decide +kernel, by decide +kernel⟩
theorem gV_RL_171 : GV RL 171 RX12 yX12_sound cX12_sound 4 (some .boolean) 3 := ⟨gi_app (List.forall_mem_cons.mpr ⟨gw_2379, List.forall_mem_cons.mpr ⟨gw_2380, List.forall_mem_cons.mpr ⟨gw_2381, List.forall_mem_cons.mpr ⟨gw_8, fun _ h => absurd h List.not_mem_nil⟩⟩⟩⟩) (gi_ws gw_2382), rfl, by decide +kernel, by decide +kernel, by decide +kernel⟩
theorem gV_RL_172 : GV RL 172 RX11 yX11_sure cX11_sure 3 (some .int) 1 := ⟨gi_app (List.forall_mem_cons.mpr ⟨gw_1275, List.forall_mem_cons.mpr ⟨gw_1276, List.forall_mem_cons.mpr ⟨gw_1277, List.forall_mem_cons.mpr ⟨gw_1, fun _ h => absurd h List.not_mem_nil⟩⟩⟩⟩) (gi_ws gw_1278), rfl, by decide +kernel, by decide +kernel, by decide +kernel⟩
theorem gV_RL_176 : GV RL 176 RX12 yX12_sure cX12_sure 2 (some .int) 1 := ⟨gi_app (List.forall_mem_cons.mpr ⟨gw_2383, List.forall_mem_cons.mpr ⟨gw_2384, List.forall_mem_cons.mpr ⟨gw_2385, List.forall_mem_cons.mpr ⟨gw_8, fun _ h => absurd h List.not_mem_nil⟩⟩⟩⟩) (gi_ws gw_2386), rfl, by decide +kernel, by decide +kernel, by decide +kernel⟩
theorem gV_RL_177 : GV RL 177 RX11 yX11_drill cX11_drill 5 (some .int) 2 := ⟨gi_app (List.forall_mem_cons.mpr ⟨gw_1279, List.forall_mem_cons.mpr ⟨gw_1280, List.forall_mem_cons.mpr ⟨gw_1281, List.forall_mem_cons.mpr ⟨gw_1, fun _ h => absurd h List.not_mem_nil⟩⟩⟩⟩) (gi_ws gw_1282), rfl, by decide +kernel, by decide +kernel, by decide +kernel⟩
theorem gV_RL_180 : GV RL 180 RX12 yX12_drill cX12_drill 3 (some .int) 2 := ⟨gi_app (List.forall_mem_cons.mpr ⟨gw_2387, List.forall_mem_cons.mpr ⟨gw_2388, List.forall_mem_cons.mpr ⟨gw_2389, List.forall_mem_cons.mpr ⟨gw_8, fun _ h => absurd h List.not_mem_nil⟩⟩⟩⟩) (gi_ws gw_2390), rfl, by decide +kernel, by decide +kernel, by decide +kernel⟩
theorem gV_RL_181 : GV RL 181 RX11 yX11_speed cX11_speed 3 (some .boolean) 2 := ⟨gi_app (List.forall_mem_cons.mpr ⟨gw_1283, List.forall_mem_cons.mpr ⟨gw_1284, List.forall_mem_cons.mpr ⟨gw_1285, List.forall_mem_cons.mpr ⟨gw_1, fun _ h => absurd h List.not_mem_nil⟩⟩⟩⟩) (gi_ws gw_1286), rfl, by decide +kernel, by decide +kernel, by decide +kernel⟩
theorem gV_RL_184 : GV RL 184 RX12 yX12_speed cX12_speed 3 (some .boolean) 2 := ⟨gi_app (List.forall_mem_cons.mpr ⟨gw_2391, List.forall_mem_cons.mpr ⟨gw_2392, List.forall_mem_cons.mpr ⟨gw_2393, List.forall_mem_cons.mpr ⟨gw_8, fun _ h => absurd h List.not_mem_nil⟩⟩⟩⟩) (gi_ws gw_2394), rfl, by decide +kernel, by decide +kernel, by decide +kernel⟩
theorem gV_RL_185 : GV RL 185 RX11 yX11_birds cX11_birds 5 (some .boolean) 3 := ⟨gi_app (List.forall_mem_cons.mpr ⟨gw_1287, List.forall_mem_cons.mpr ⟨gw_1288, List.forall_mem_cons.mpr ⟨gw_1289, List.forall_mem_cons.mpr ⟨gw_1, fun _ h => absurd h List.not_mem_nil⟩⟩⟩⟩) (gi_ws gw_1290), rfl, by decide +kernel, by decide +kernel, by decide +kernel⟩
theorem gV_RL_188 : GV RL 188 RX12 yX12_birds cX12_birds 4 (some .boolean) 3 := ⟨gi_app (List.forall_mem_cons.mpr ⟨gw_2395, List.forall_mem_cons.mpr ⟨gw_2396, List.forall_mem_cons.mpr ⟨gw_2397, List.forall_mem_cons.mpr ⟨gw_8, fun _ h => absurd h List.not_mem_nil⟩⟩⟩⟩) (gi_ws gw_2398), rfl, by decide +kernel, by decide +kernel, by decide +kernel⟩
theorem gV_RL_189 : GV RL 189 RX11 yX11_loss cX11_loss 10 (some .int) 5 := ⟨gi_app (List.forall_mem_cons.mpr ⟨gw_1294, List.forall_mem_cons.mpr ⟨gw_1295, List.forall_mem_cons.mpr ⟨gw_1296, List.forall_mem_cons.mpr ⟨gw_1, fun _ h => absurd h List.not_mem_nil⟩⟩⟩⟩) (gi_ws gw_1297), rfl, by decide +kernel, by decide +kernel, by decide +kernel⟩
theorem gV_RL_192 : GV RL 192 RX12 yX12_loss cX12_loss 9 (some .int) 5 := ⟨gi_app (List.forall_mem_cons.mpr ⟨gw_2399, List.forall_mem_cons.mpr ⟨gw_2400, List.forall_mem_cons.mpr ⟨gw_2401, List.forall_mem_cons.mpr ⟨gw_8, fun _ h => absurd h List.not_mem_nil⟩⟩⟩⟩) (gi_ws gw_2402), rfl, by decide +kernel, by decide +kernel, by decide +kernel⟩
theorem gV_RL_193 : GV RL 193 RX11 yX11_noise cX11_noise 4 (some .int) 2 := ⟨gi_app (List.forall_mem_cons.mpr ⟨gw_1298, List.forall_mem_cons.mpr ⟨gw_1299, List.forall_mem_cons.mpr ⟨gw_1300, List.forall_mem_cons.mpr ⟨gw_1, fun _ h => absurd h List.not_mem_nil⟩⟩⟩⟩) (gi_ws gw_1301), rfl, by decide +kernel, by decide +kernel, by decide +kernel⟩
theorem gV_RL_196 : GV RL 196 RX12 yX12_noise cX12_noise 3 (some .int) 2 := ⟨gi_app (List.forall_mem_cons.mpr ⟨gw_2406, List.forall_mem_cons.mpr ⟨gw_2407, List.forall_mem_cons.mpr ⟨gw_2408, List.forall_mem_cons.mpr ⟨gw_8, fun _ h => absurd h List.not_mem_nil⟩⟩⟩⟩) (gi_ws gw_2409), rfl, by decide +kernel, by decide +kernel, by decide +kernel⟩
theorem gV_RL_197 : GV RL 197 RX11 yX11_caught cX11_caught 6 (some .int) 5 := ⟨gi_app (List.forall_mem_cons.mpr ⟨gw_1302, List.forall_mem_cons.mpr ⟨gw_1303, List.forall_mem_cons.mpr ⟨gw_1304, List.forall_mem_cons.mpr ⟨gw_1, fun _ h => absurd h List.not_mem_nil⟩⟩⟩⟩) (gi_ws gw_1305), rfl, by decide +kernel, by decide +kernel, by decide +kernel⟩
theorem gV_RL_200 : GV RL 200 RX12 yX12_caught cX12_caught 6 (some .int) 5 := ⟨gi_app (List.forall_mem_cons.mpr ⟨gw_2410, List.forall_mem_cons.mpr ⟨gw_2411, List.forall_mem_cons.mpr ⟨gw_2412, List.forall_mem_cons.mpr ⟨gw_8, fun _ h => absurd h List.not_mem_nil⟩⟩⟩⟩) (gi_ws gw_2413), rfl, by decide +kernel, by decide +kernel, by decide +kernel⟩
theorem gV_RL_201 : GV RL 201 RX11 yX11_over cX11_over 4 (some .int) 0 := ⟨gi_app (List.forall_mem_cons.mpr ⟨gw_1306, List.forall_mem_cons.mpr ⟨gw_1307, List.forall_mem_cons.mpr ⟨gw_1308, List.forall_mem_cons.mpr ⟨gw_1, fun _ h => absurd h List.not_mem_nil⟩⟩⟩⟩) (gi_ws gw_1309), rfl, by decide +kernel, by decide +kernel, by decide +kernel⟩
theorem gV_RL_204 : GV RL 204 RX12 yX12_over cX12_over 7 (some .int) 0 := ⟨gi_app (List.forall_mem_cons.mpr ⟨gw_2414, List.forall_mem_cons.mpr ⟨gw_2415, List.forall_mem_cons.mpr ⟨gw_2416, List.forall_mem_cons.mpr ⟨gw_8, fun _ h => absurd h List.not_mem_nil⟩⟩⟩⟩) (gi_ws gw_2417), rfl, by decide +kernel, by decide +kernel, by decide +kernel⟩
theorem gV_RL_205 : GV RL 205 RX11 yX11_doubt cX11_doubt 4 (some .int) 1 := ⟨gi_app (List.forall_mem_cons.mpr ⟨gw_1318, List.forall_mem_cons.mpr ⟨gw_1319, List.forall_mem_cons.mpr ⟨gw_1320, List.forall_mem_cons.mpr ⟨gw_1, fun _ h => absurd h List.not_mem_nil⟩⟩⟩⟩) (gi_ws gw_1321), rfl, by decide +kernel, by decide +kernel, by decide +kernel⟩
theorem gV_RL_208 : GV RL 208 RX12 yX12_doubt cX12_doubt 4 (some .int) 1 := ⟨gi_app (List.forall_mem_cons.mpr ⟨gw_2422, List.forall_mem_cons.mpr ⟨gw_2423, List.forall_mem_cons.mpr ⟨gw_2424, List.forall_mem_cons.mpr ⟨gw_8, fun _ h => absurd h List.not_mem_nil⟩⟩⟩⟩) (gi_ws gw_2425), rfl, by decide +kernel, by decide +kernel, by decide +kernel⟩
theorem gV_RL_209 : GV RL 209 RX11 yX11_word cX11_word 2 (some .int) 1 := ⟨gi_app (List.forall_mem_cons.mpr ⟨gw_1327, List.forall_mem_cons.mpr ⟨gw_1328, List.forall_mem_cons.mpr ⟨gw_1329, List.forall_mem_cons.mpr ⟨gw_1, fun _ h => absurd h List.not_mem_nil⟩⟩⟩⟩) (gi_ws gw_1330), rfl, by decide +kernel, by decide +kernel, by decide +kernel⟩
theorem gV_RL_212 : GV RL 212 RX12 yX12_word cX12_word 2 (some .int) 1 := ⟨gi_app (List.forall_mem_cons.mpr ⟨gw_2430, List.forall_mem_cons.mpr ⟨gw_2431, List.forall_mem_cons.mpr ⟨gw_2432, List.forall_mem_cons.mpr ⟨gw_8, fun _ h => absurd h List.not_mem_nil⟩⟩⟩⟩) (gi_ws gw_2433), rfl, by decide +kernel, by decide +kernel, by decide +kernel⟩
theorem gV_RL_213 : GV RL 213 RX11 yX11_asks cX11_asks 7 (some .boolean) 3 := ⟨gi_app (List.forall_mem_cons.mpr ⟨gw_1331, List.forall_mem_cons.mpr ⟨gw_1332, List.forall_mem_cons.mpr ⟨gw_1333, List.forall_mem_cons.mpr ⟨gw_1, fun _ h => absurd h List.not_mem_nil⟩⟩⟩⟩) (gi_ws gw_1334), rfl, by decide +kernel, by decide +kernel, by decide +kernel⟩
theorem gV_RL_216 : GV RL 216 RX12 yX12_asks cX12_asks 5 (some .boolean) 3 := ⟨gi_app (List.forall_mem_cons.mpr ⟨gw_2434, List.forall_mem_cons.mpr ⟨gw_2435, List.forall_mem_cons.mpr ⟨gw_2436, List.forall_mem_cons.mpr ⟨gw_8, fun _ h => absurd h List.not_mem_nil⟩⟩⟩⟩) (gi_ws gw_2437), rfl, by decide +kernel, by decide +kernel, by decide +kernel⟩
theorem gV_RL_217 : GV RL 217 RX11 yX11_blocks cX11_blocks 2 (some .int) 1 := ⟨gi_app (List.forall_mem_cons.mpr ⟨gw_1335, List.forall_mem_cons.mpr ⟨gw_1336, List.forall_mem_cons.mpr ⟨gw_1337, List.forall_mem_cons.mpr ⟨gw_1, fun _ h => absurd h List.not_mem_nil⟩⟩⟩⟩) (gi_ws gw_1338), rfl, by decide +kernel, by decide +kernel, by decide +kernel⟩
theorem gV_RL_220 : GV RL 220 RX12 yX12_blocks cX12_blocks 4 (some .int) 1 := ⟨gi_app (List.forall_mem_cons.mpr ⟨gw_2442, List.forall_mem_cons.mpr ⟨gw_2443, List.forall_mem_cons.mpr ⟨gw_2444, List.forall_mem_cons.mpr ⟨gw_8, fun _ h => absurd h List.not_mem_nil⟩⟩⟩⟩) (gi_ws gw_2445), rfl, by decide +kernel, by decide +kernel, by decide +kernel⟩
theorem gV_RL_221 : GV RL 221 RX11 yX11_best cX11_best 7 (some .int) 0 := ⟨gi_app (List.forall_mem_cons.mpr ⟨gw_1348, List.forall_mem_cons.mpr ⟨gw_1349, List.forall_mem_cons.mpr ⟨gw_1350, List.forall_mem_cons.mpr ⟨gw_1, fun _ h => absurd h List.not_mem_nil⟩⟩⟩⟩) (gi_ws gw_1351), rfl, by decide +kernel, by decide +kernel, by decide +kernel⟩
theorem gV_RL_224 : GV RL 224 RX12 yX12_best cX12_best 5 (some .int) 0 := ⟨gi_app (List.forall_mem_cons.mpr ⟨gw_2450, List.forall_mem_cons.mpr ⟨gw_2451, List.forall_mem_cons.mpr ⟨gw_2452, List.forall_mem_cons.mpr ⟨gw_8, fun _ h => absurd h List.not_mem_nil⟩⟩⟩⟩) (gi_ws gw_2453), rfl, by decide +kernel, by decide +kernel, by decide +kernel⟩
theorem gV_RL_225 : GV RL 225 RX11 yX11_stop cX11_stop 3 (some .int) 2 := ⟨gi_app (List.forall_mem_cons.mpr ⟨gw_1356, List.forall_mem_cons.mpr ⟨gw_1357, List.forall_mem_cons.mpr ⟨gw_1358, List.forall_mem_cons.mpr ⟨gw_1, fun _ h => absurd h List.not_mem_nil⟩⟩⟩⟩) (gi_ws gw_1359), rfl, by decide +kernel, by decide +kernel, by decide +kernel⟩
theorem gV_RL_228 : GV RL 228 RX12 yX12_stop cX12_stop 4 (some .int) 2 := ⟨gi_app (List.forall_mem_cons.mpr ⟨gw_2462, List.forall_mem_cons.mpr ⟨gw_2463, List.forall_mem_cons.mpr ⟨gw_2464, List.forall_mem_cons.mpr ⟨gw_8, fun _ h => absurd h List.not_mem_nil⟩⟩⟩⟩) (gi_ws gw_2465), rfl, by decide +kernel, by decide +kernel, by decide +kernel⟩
theorem gV_RL_229 : GV RL 229 RX11 yX11_open cX11_open 5 (some .boolean) 4 := ⟨gi_app (List.forall_mem_cons.mpr ⟨gw_1365, List.forall_mem_cons.mpr ⟨gw_1366, List.forall_mem_cons.mpr ⟨gw_1367, List.forall_mem_cons.mpr ⟨gw_1, fun _ h => absurd h List.not_mem_nil⟩⟩⟩⟩) (gi_ws gw_1368), rfl, by decide +kernel, by decide +kernel, by decide +kernel⟩
theorem gV_RL_232 : GV RL 232 RX12 yX12_open cX12_open 5 (some .boolean) 4 := ⟨gi_app (List.forall_mem_cons.mpr ⟨gw_2466, List.forall_mem_cons.mpr ⟨gw_2467, List.forall_mem_cons.mpr ⟨gw_2468, List.forall_mem_cons.mpr ⟨gw_8, fun _ h => absurd h List.not_mem_nil⟩⟩⟩⟩) (gi_ws gw_2469), rfl, by decide +kernel, by decide +kernel, by decide +kernel⟩
theorem gV_RL_233 : GV RL 233 RX11 yX11_plan cX11_plan 6 (some .int) 3 := ⟨gi_app (List.forall_mem_cons.mpr ⟨gw_1369, List.forall_mem_cons.mpr ⟨gw_1370, List.forall_mem_cons.mpr ⟨gw_1371, List.forall_mem_cons.mpr ⟨gw_1, fun _ h => absurd h List.not_mem_nil⟩⟩⟩⟩) (gi_ws gw_1372), rfl, by decide +kernel, by decide +kernel, by decide +kernel⟩
theorem gV_RL_236 : GV RL 236 RX12 yX12_plan cX12_plan 4 (some .int) 3 := ⟨gi_app (List.forall_mem_cons.mpr ⟨gw_2470, List.forall_mem_cons.mpr ⟨gw_2471, List.forall_mem_cons.mpr ⟨gw_2472, List.forall_mem_cons.mpr ⟨gw_8, fun _ h => absurd h List.not_mem_nil⟩⟩⟩⟩) (gi_ws gw_2473), rfl, by decide +kernel, by decide +kernel, by decide +kernel⟩
theorem gV_RL_237 : GV RL 237 RX11 yX11_planned cX11_planned 5 (some .int) 4 := ⟨gi_app (List.forall_mem_cons.mpr ⟨gw_1413, List.forall_mem_cons.mpr ⟨gw_1414, List.forall_mem_cons.mpr ⟨gw_1415, List.forall_mem_cons.mpr ⟨gw_1, fun _ h => absurd h List.not_mem_nil⟩⟩⟩⟩) (gi_ws gw_1416), rfl, by decide +kernel, by decide +kernel, by decide +kernel⟩
theorem gV_RL_240 : GV RL 240 RX12 yX12_planned cX12_planned 5 (some .int) 4 := ⟨gi_app (List.forall_mem_cons.mpr ⟨gw_2494, List.forall_mem_cons.mpr ⟨gw_2495, List.forall_mem_cons.mpr ⟨gw_2496, List.forall_mem_cons.mpr ⟨gw_8, fun _ h => absurd h List.not_mem_nil⟩⟩⟩⟩) (gi_ws gw_2497), rfl, by decide +kernel, by decide +kernel, by decide +kernel⟩
theorem gV_RL_241 : GV RL 241 RX11 yX11_report cX11_report 5 (some .boolean) 4 := ⟨gi_app (List.forall_mem_cons.mpr ⟨gw_1418, List.forall_mem_cons.mpr ⟨gw_1419, List.forall_mem_cons.mpr ⟨gw_1420, List.forall_mem_cons.mpr ⟨gw_1, fun _ h => absurd h List.not_mem_nil⟩⟩⟩⟩) (gi_ws gw_1421), rfl, by decide +kernel, by decide +kernel, by decide +kernel⟩
theorem gV_RL_245 : GV RL 245 RX12 yX12_report cX12_report 5 (some .boolean) 4 := ⟨gi_app (List.forall_mem_cons.mpr ⟨gw_2499, List.forall_mem_cons.mpr ⟨gw_2500, List.forall_mem_cons.mpr ⟨gw_2501, List.forall_mem_cons.mpr ⟨gw_8, fun _ h => absurd h List.not_mem_nil⟩⟩⟩⟩) (gi_ws gw_2502), rfl, by decide +kernel, by decide +kernel, by decide +kernel⟩
theorem gV_RL_246 : GV RL 246 RX11 yX11_known cX11_known 9 (some .int) 3 := ⟨gi_app (List.forall_mem_cons.mpr ⟨gw_1422, List.forall_mem_cons.mpr ⟨gw_1423, List.forall_mem_cons.mpr ⟨gw_1424, List.forall_mem_cons.mpr ⟨gw_1, fun _ h => absurd h List.not_mem_nil⟩⟩⟩⟩) (gi_ws gw_1425), rfl, by decide +kernel, by decide +kernel, by decide +kernel⟩
theorem gV_RL_249 : GV RL 249 RX12 yX12_known cX12_known 7 (some .int) 3 := ⟨gi_app (List.forall_mem_cons.mpr ⟨gw_2503, List.forall_mem_cons.mpr ⟨gw_2504, List.forall_mem_cons.mpr ⟨gw_2505, List.forall_mem_cons.mpr ⟨gw_8, fun _ h => absurd h List.not_mem_nil⟩⟩⟩⟩) (gi_ws gw_2506), rfl, by decide +kernel, by decide +kernel, by decide +kernel⟩
theorem gV_RL_250 : GV RL 250 RX11 yX11_check cX11_check 3 (some .int) 1 := ⟨gi_app (List.forall_mem_cons.mpr ⟨gw_1427, List.forall_mem_cons.mpr ⟨gw_1428, List.forall_mem_cons.mpr ⟨gw_1429, List.forall_mem_cons.mpr ⟨gw_1, fun _ h => absurd h List.not_mem_nil⟩⟩⟩⟩) (gi_ws gw_1430), rfl, by decide +kernel, by decide +kernel, by decide +kernel⟩
theorem gV_RL_253 : GV RL 253 RX12 yX12_check cX12_check 4 (some .int) 1 := ⟨gi_app (List.forall_mem_cons.mpr ⟨gw_2508, List.forall_mem_cons.mpr ⟨gw_2509, List.forall_mem_cons.mpr ⟨gw_2510, List.forall_mem_cons.mpr ⟨gw_8, fun _ h => absurd h List.not_mem_nil⟩⟩⟩⟩) (gi_ws gw_2511), rfl, by decide +kernel, by decide +kernel, by decide +kernel⟩
theorem gV_RL_254 : GV RL 254 RX11 yX11_look cX11_look 4 (some .int) 2 := ⟨gi_app (List.forall_mem_cons.mpr ⟨gw_1439, List.forall_mem_cons.mpr ⟨gw_1440, List.forall_mem_cons.mpr ⟨gw_1441, List.forall_mem_cons.mpr ⟨gw_1, fun _ h => absurd h List.not_mem_nil⟩⟩⟩⟩) (gi_ws gw_1442), rfl, by decide +kernel, by decide +kernel, by decide +kernel⟩
theorem gV_RL_257 : GV RL 257 RX12 yX12_look cX12_look 3 (some .int) 2 := ⟨gi_app (List.forall_mem_cons.mpr ⟨gw_2516, List.forall_mem_cons.mpr ⟨gw_2517, List.forall_mem_cons.mpr ⟨gw_2518, List.forall_mem_cons.mpr ⟨gw_8, fun _ h => absurd h List.not_mem_nil⟩⟩⟩⟩) (gi_ws gw_2519), rfl, by decide +kernel, by decide +kernel, by decide +kernel⟩
theorem gV_RL_258 : GV RL 258 RX11 yX11_at cX11_at 4 (some .int) 2 := ⟨gi_app (List.forall_mem_cons.mpr ⟨gw_1447, List.forall_mem_cons.mpr ⟨gw_1448, List.forall_mem_cons.mpr ⟨gw_1449, List.forall_mem_cons.mpr ⟨gw_1, fun _ h => absurd h List.not_mem_nil⟩⟩⟩⟩) (gi_ws gw_1450), rfl, by decide +kernel, by decide +kernel, by decide +kernel⟩
theorem gV_RL_261 : GV RL 261 RX12 yX12_at cX12_at 3 (some .int) 2 := ⟨gi_app (List.forall_mem_cons.mpr ⟨gw_2524, List.forall_mem_cons.mpr ⟨gw_2525, List.forall_mem_cons.mpr ⟨gw_2526, List.forall_mem_cons.mpr ⟨gw_8, fun _ h => absurd h List.not_mem_nil⟩⟩⟩⟩) (gi_ws gw_2527), rfl, by decide +kernel, by decide +kernel, by decide +kernel⟩
theorem gV_RL_262 : GV RL 262 RX11 yX11_about cX11_about 4 (some .int) 2 := ⟨gi_app (List.forall_mem_cons.mpr ⟨gw_1451, List.forall_mem_cons.mpr ⟨gw_1452, List.forall_mem_cons.mpr ⟨gw_1453, List.forall_mem_cons.mpr ⟨gw_1, fun _ h => absurd h List.not_mem_nil⟩⟩⟩⟩) (gi_ws gw_1454), rfl, by decide +kernel, by decide +kernel, by decide +kernel⟩
theorem gV_RL_265 : GV RL 265 RX12 yX12_about cX12_about 3 (some .int) 2 := ⟨gi_app (List.forall_mem_cons.mpr ⟨gw_2528, List.forall_mem_cons.mpr ⟨gw_2529, List.forall_mem_cons.mpr ⟨gw_2530, List.forall_mem_cons.mpr ⟨gw_8, fun _ h => absurd h List.not_mem_nil⟩⟩⟩⟩) (gi_ws gw_2531), rfl, by decide +kernel, by decide +kernel, by decide +kernel⟩
theorem gV_RL_266 : GV RL 266 RX11 yX11_sum cX11_sum 3 (some .long) 1 := ⟨gi_app (List.forall_mem_cons.mpr ⟨gw_1455, List.forall_mem_cons.mpr ⟨gw_1456, List.forall_mem_cons.mpr ⟨gw_1457, List.forall_mem_cons.mpr ⟨gw_1, fun _ h => absurd h List.not_mem_nil⟩⟩⟩⟩) (gi_ws gw_1458), rfl, by decide +kernel, by decide +kernel, by decide +kernel⟩
theorem gV_RL_270 : GV RL 270 RX12 yX12_sum cX12_sum 2 (some .long) 1 := ⟨gi_app (List.forall_mem_cons.mpr ⟨gw_2532, List.forall_mem_cons.mpr ⟨gw_2533, List.forall_mem_cons.mpr ⟨gw_2534, List.forall_mem_cons.mpr ⟨gw_8, fun _ h => absurd h List.not_mem_nil⟩⟩⟩⟩) (gi_ws gw_2535), rfl, by decide +kernel, by decide +kernel, by decide +kernel⟩
theorem gV_RL_271 : GV RL 271 RX11 yX11_count cX11_count 2 (some .int) 1 := ⟨gi_app (List.forall_mem_cons.mpr ⟨gw_1460, List.forall_mem_cons.mpr ⟨gw_1461, List.forall_mem_cons.mpr ⟨gw_1462, List.forall_mem_cons.mpr ⟨gw_1, fun _ h => absurd h List.not_mem_nil⟩⟩⟩⟩) (gi_ws gw_1463), rfl, by decide +kernel, by decide +kernel, by decide +kernel⟩
theorem gV_RL_274 : GV RL 274 RX12 yX12_count cX12_count 4 (some .int) 1 := ⟨gi_app (List.forall_mem_cons.mpr ⟨gw_2537, List.forall_mem_cons.mpr ⟨gw_2538, List.forall_mem_cons.mpr ⟨gw_2539, List.forall_mem_cons.mpr ⟨gw_8, fun _ h => absurd h List.not_mem_nil⟩⟩⟩⟩) (gi_ws gw_2540), rfl, by decide +kernel, by decide +kernel, by decide +kernel⟩
theorem gn_nest : GN yX1_init cX1_init 1 0 := ⟨gi_ws gw_94, gw_4, gw_93, rfl, by decide +kernel, by decide +kernel, by decide +kernel⟩
theorem fl_raw_fl_RX0_34 : FL RX0 34 12 7 := ⟨(RX0, TX0, 13), rfl, by decide, lays_0, gw_52⟩
theorem fl_raw_fl_RX0_43 : FL RX0 43 12 10 := ⟨(RX0, TX0, 13), rfl, by decide, lays_0, gw_58⟩
theorem fl_raw_fl_RX11_94 : FL RX11 94 22 18 := ⟨(RX11, TX11, 20), rfl, by decide, lays_10, gw_251⟩
theorem fl_raw_fl_RX2_18 : FL RX2 18 14 3 := ⟨(RX2, TX2, 5), rfl, by decide, lays_2, gw_337⟩
theorem fl_raw_fl_RX3_52 : FL RX3 52 15 13 := ⟨(RX3, TX3, 16), rfl, by decide, lays_3, gw_459⟩
theorem fl_raw_fl_RX6_24 : FL RX6 24 17 2 := ⟨(RX6, TX6, 10), rfl, by decide, lays_5, gw_185⟩
theorem fp_raw_fp_RX0_15 : FP RX0 15 12 1 .int false := ⟨(RX0, TX0, 13), tyX0, rfl, by decide, lays_0, gw_40, tyX0_ok, nmX0, rfl, by decide +kernel, fun h => by cases h⟩
theorem fp_raw_fp_RX0_18 : FP RX0 18 12 2 .int false := ⟨(RX0, TX0, 13), tyX0, rfl, by decide, lays_0, gw_42, tyX0_ok, nmX0, rfl, by decide +kernel, fun h => by cases h⟩
theorem fp_raw_fp_RX0_21 : FP RX0 21 12 3 .int false := ⟨(RX0, TX0, 13), tyX0, rfl, by decide, lays_0, gw_44, tyX0_ok, nmX0, rfl, by decide +kernel, fun h => by cases h⟩
theorem fp_raw_fp_RX0_24 : FP RX0 24 12 4 .int false := ⟨(RX0, TX0, 13), tyX0, rfl, by decide, lays_0, gw_46, tyX0_ok, nmX0, rfl, by decide +kernel, fun h => by cases h⟩
theorem fp_raw_fp_RX0_27 : FP RX0 27 12 5 (.array .int) true := ⟨(RX0, TX0, 13), tyX0, rfl, by decide, lays_0, gw_48, tyX0_ok, nmX0, rfl, by decide +kernel, fun _ => rfl⟩
theorem fp_raw_fp_RX0_31 : FP RX0 31 12 6 (.array .int) true := ⟨(RX0, TX0, 13), tyX0, rfl, by decide, lays_0, gw_50, tyX0_ok, nmX0, rfl, by decide +kernel, fun _ => rfl⟩
theorem fp_raw_fp_RX0_34 : FP RX0 34 12 7 (.array .int) true := ⟨(RX0, TX0, 13), tyX0, rfl, by decide, lays_0, gw_52, tyX0_ok, nmX0, rfl, by decide +kernel, fun _ => rfl⟩
theorem fp_raw_fp_RX0_37 : FP RX0 37 12 8 (.array .int) true := ⟨(RX0, TX0, 13), tyX0, rfl, by decide, lays_0, gw_54, tyX0_ok, nmX0, rfl, by decide +kernel, fun _ => rfl⟩
theorem fp_raw_fp_RX0_40 : FP RX0 40 12 9 (.array .int) true := ⟨(RX0, TX0, 13), tyX0, rfl, by decide, lays_0, gw_56, tyX0_ok, nmX0, rfl, by decide +kernel, fun _ => rfl⟩
theorem fp_raw_fp_RX0_43 : FP RX0 43 12 10 (.array .int) true := ⟨(RX0, TX0, 13), tyX0, rfl, by decide, lays_0, gw_58, tyX0_ok, nmX0, rfl, by decide +kernel, fun _ => rfl⟩
theorem fp_raw_fp_RX0_46 : FP RX0 46 12 11 (.array .int) true := ⟨(RX0, TX0, 13), tyX0, rfl, by decide, lays_0, gw_60, tyX0_ok, nmX0, rfl, by decide +kernel, fun _ => rfl⟩
theorem fp_raw_fp_RX0_49 : FP RX0 49 12 12 (.array .int) true := ⟨(RX0, TX0, 13), tyX0, rfl, by decide, lays_0, gw_61, tyX0_ok, nmX0, rfl, by decide +kernel, fun _ => rfl⟩
theorem fp_raw_fp_RX0_9 : FP RX0 9 12 0 .int false := ⟨(RX0, TX0, 13), tyX0, rfl, by decide, lays_0, gw_38, tyX0_ok, nmX0, rfl, by decide +kernel, fun h => by cases h⟩
theorem fp_raw_fp_RX10_15 : FP RX10 15 21 6 .int false := ⟨(RX10, TX10, 15), tyX10, rfl, by decide, lays_9, gw_894, tyX10_ok, nmX10, rfl, by decide +kernel, fun h => by cases h⟩
theorem fp_raw_fp_RX10_18 : FP RX10 18 21 7 .int false := ⟨(RX10, TX10, 15), tyX10, rfl, by decide, lays_9, gw_896, tyX10_ok, nmX10, rfl, by decide +kernel, fun h => by cases h⟩
theorem fp_raw_fp_RX10_21 : FP RX10 21 21 8 .int false := ⟨(RX10, TX10, 15), tyX10, rfl, by decide, lays_9, gw_898, tyX10_ok, nmX10, rfl, by decide +kernel, fun h => by cases h⟩
theorem fp_raw_fp_RX10_24 : FP RX10 24 21 9 .int false := ⟨(RX10, TX10, 15), tyX10, rfl, by decide, lays_9, gw_900, tyX10_ok, nmX10, rfl, by decide +kernel, fun h => by cases h⟩
theorem fp_raw_fp_RX10_27 : FP RX10 27 21 10 .int false := ⟨(RX10, TX10, 15), tyX10, rfl, by decide, lays_9, gw_903, tyX10_ok, nmX10, rfl, by decide +kernel, fun h => by cases h⟩
theorem fp_raw_fp_RX10_30 : FP RX10 30 21 11 .int false := ⟨(RX10, TX10, 15), tyX10, rfl, by decide, lays_9, gw_906, tyX10_ok, nmX10, rfl, by decide +kernel, fun h => by cases h⟩
theorem fp_raw_fp_RX10_33 : FP RX10 33 21 12 .int false := ⟨(RX10, TX10, 15), tyX10, rfl, by decide, lays_9, gw_909, tyX10_ok, nmX10, rfl, by decide +kernel, fun h => by cases h⟩
theorem fp_raw_fp_RX10_36 : FP RX10 36 21 13 .int false := ⟨(RX10, TX10, 15), tyX10, rfl, by decide, lays_9, gw_911, tyX10_ok, nmX10, rfl, by decide +kernel, fun h => by cases h⟩
theorem fp_raw_fp_RX10_39 : FP RX10 39 21 14 .int false := ⟨(RX10, TX10, 15), tyX10, rfl, by decide, lays_9, gw_913, tyX10_ok, nmX10, rfl, by decide +kernel, fun h => by cases h⟩
theorem fp_raw_fp_RX10_42 : FP RX10 42 21 0 .int true := ⟨(RX10, TX10, 15), tyX10, rfl, by decide, lays_9, gw_880, tyX10_ok, nmX10, rfl, by decide +kernel, fun _ => rfl⟩
theorem fp_raw_fp_RX10_45 : FP RX10 45 21 1 .int true := ⟨(RX10, TX10, 15), tyX10, rfl, by decide, lays_9, gw_882, tyX10_ok, nmX10, rfl, by decide +kernel, fun _ => rfl⟩
theorem fp_raw_fp_RX10_48 : FP RX10 48 21 2 .int true := ⟨(RX10, TX10, 15), tyX10, rfl, by decide, lays_9, gw_885, tyX10_ok, nmX10, rfl, by decide +kernel, fun _ => rfl⟩
theorem fp_raw_fp_RX10_51 : FP RX10 51 21 3 .int true := ⟨(RX10, TX10, 15), tyX10, rfl, by decide, lays_9, gw_887, tyX10_ok, nmX10, rfl, by decide +kernel, fun _ => rfl⟩
theorem fp_raw_fp_RX10_54 : FP RX10 54 21 4 .int true := ⟨(RX10, TX10, 15), tyX10, rfl, by decide, lays_9, gw_890, tyX10_ok, nmX10, rfl, by decide +kernel, fun _ => rfl⟩
theorem fp_raw_fp_RX10_9 : FP RX10 9 21 5 .int false := ⟨(RX10, TX10, 15), tyX10, rfl, by decide, lays_9, gw_892, tyX10_ok, nmX10, rfl, by decide +kernel, fun h => by cases h⟩
theorem fp_raw_fp_RX11_12 : FP RX11 12 22 0 (.object RX0) true := ⟨(RX11, TX11, 20), tyX11, rfl, by decide, lays_10, gw_233, tyX11_ok, nmX11, rfl, by decide +kernel, fun _ => rfl⟩
theorem fp_raw_fp_RX11_19 : FP RX11 19 22 1 (.object RX1) true := ⟨(RX11, TX11, 20), tyX11, rfl, by decide, lays_10, gw_234, tyX11_ok, nmX11, rfl, by decide +kernel, fun _ => rfl⟩
theorem fp_raw_fp_RX11_26 : FP RX11 26 22 2 (.object RX6) true := ⟨(RX11, TX11, 20), tyX11, rfl, by decide, lays_10, gw_235, tyX11_ok, nmX11, rfl, by decide +kernel, fun _ => rfl⟩
theorem fp_raw_fp_RX11_32 : FP RX11 32 22 3 (.array (.object RX2)) true := ⟨(RX11, TX11, 20), tyX11, rfl, by decide, lays_10, gw_236, tyX11_ok, nmX11, rfl, by decide +kernel, fun _ => rfl⟩
theorem fp_raw_fp_RX11_36 : FP RX11 36 22 4 .int false := ⟨(RX11, TX11, 20), tyX11, rfl, by decide, lays_10, gw_237, tyX11_ok, nmX11, rfl, by decide +kernel, fun h => by cases h⟩
theorem fp_raw_fp_RX11_42 : FP RX11 42 22 5 (.array (.object RX3)) true := ⟨(RX11, TX11, 20), tyX11, rfl, by decide, lays_10, gw_238, tyX11_ok, nmX11, rfl, by decide +kernel, fun _ => rfl⟩
theorem fp_raw_fp_RX11_46 : FP RX11 46 22 6 .int false := ⟨(RX11, TX11, 20), tyX11, rfl, by decide, lays_10, gw_239, tyX11_ok, nmX11, rfl, by decide +kernel, fun h => by cases h⟩
theorem fp_raw_fp_RX11_51 : FP RX11 51 22 7 (.array (.object RX10)) true := ⟨(RX11, TX11, 20), tyX11, rfl, by decide, lays_10, gw_240, tyX11_ok, nmX11, rfl, by decide +kernel, fun _ => rfl⟩
theorem fp_raw_fp_RX11_55 : FP RX11 55 22 8 .int false := ⟨(RX11, TX11, 20), tyX11, rfl, by decide, lays_10, gw_241, tyX11_ok, nmX11, rfl, by decide +kernel, fun h => by cases h⟩
theorem fp_raw_fp_RX11_60 : FP RX11 60 22 9 (.array (.object RX7)) true := ⟨(RX11, TX11, 20), tyX11, rfl, by decide, lays_10, gw_242, tyX11_ok, nmX11, rfl, by decide +kernel, fun _ => rfl⟩
theorem fp_raw_fp_RX11_64 : FP RX11 64 22 10 .int false := ⟨(RX11, TX11, 20), tyX11, rfl, by decide, lays_10, gw_243, tyX11_ok, nmX11, rfl, by decide +kernel, fun h => by cases h⟩
theorem fp_raw_fp_RX11_72 : FP RX11 72 22 11 (.object RX8) true := ⟨(RX11, TX11, 20), tyX11, rfl, by decide, lays_10, gw_244, tyX11_ok, nmX11, rfl, by decide +kernel, fun _ => rfl⟩
theorem fp_raw_fp_RX11_76 : FP RX11 76 22 12 (.object RX8) true := ⟨(RX11, TX11, 20), tyX11, rfl, by decide, lays_10, gw_245, tyX11_ok, nmX11, rfl, by decide +kernel, fun _ => rfl⟩
theorem fp_raw_fp_RX11_79 : FP RX11 79 22 13 (.object RX8) true := ⟨(RX11, TX11, 20), tyX11, rfl, by decide, lays_10, gw_246, tyX11_ok, nmX11, rfl, by decide +kernel, fun _ => rfl⟩
theorem fp_raw_fp_RX11_82 : FP RX11 82 22 14 (.object RX8) true := ⟨(RX11, TX11, 20), tyX11, rfl, by decide, lays_10, gw_247, tyX11_ok, nmX11, rfl, by decide +kernel, fun _ => rfl⟩
theorem fp_raw_fp_RX11_85 : FP RX11 85 22 15 (.object RX8) true := ⟨(RX11, TX11, 20), tyX11, rfl, by decide, lays_10, gw_248, tyX11_ok, nmX11, rfl, by decide +kernel, fun _ => rfl⟩
theorem fp_raw_fp_RX11_88 : FP RX11 88 22 16 (.object RX8) true := ⟨(RX11, TX11, 20), tyX11, rfl, by decide, lays_10, gw_249, tyX11_ok, nmX11, rfl, by decide +kernel, fun _ => rfl⟩
theorem fp_raw_fp_RX11_91 : FP RX11 91 22 17 (.object RX8) true := ⟨(RX11, TX11, 20), tyX11, rfl, by decide, lays_10, gw_250, tyX11_ok, nmX11, rfl, by decide +kernel, fun _ => rfl⟩
theorem fp_raw_fp_RX11_94 : FP RX11 94 22 18 (.array .int) true := ⟨(RX11, TX11, 20), tyX11, rfl, by decide, lays_10, gw_251, tyX11_ok, nmX11, rfl, by decide +kernel, fun _ => rfl⟩
theorem fp_raw_fp_RX11_98 : FP RX11 98 22 19 (.array .long) true := ⟨(RX11, TX11, 20), tyX11, rfl, by decide, lays_10, gw_252, tyX11_ok, nmX11, rfl, by decide +kernel, fun _ => rfl⟩
theorem fp_raw_fp_RX12_100 : FP RX12 100 23 43 (.array .int) true := ⟨(RX12, TX12, 151), tyX12, rfl, by decide, lays_11, gw_1525, tyX12_ok, nmX12, rfl, by decide +kernel, fun _ => rfl⟩
theorem fp_raw_fp_RX12_103 : FP RX12 103 23 44 (.array .int) true := ⟨(RX12, TX12, 151), tyX12, rfl, by decide, lays_11, gw_1526, tyX12_ok, nmX12, rfl, by decide +kernel, fun _ => rfl⟩
theorem fp_raw_fp_RX12_106 : FP RX12 106 23 45 (.array .int) true := ⟨(RX12, TX12, 151), tyX12, rfl, by decide, lays_11, gw_1527, tyX12_ok, nmX12, rfl, by decide +kernel, fun _ => rfl⟩
theorem fp_raw_fp_RX12_109 : FP RX12 109 23 46 (.array .int) true := ⟨(RX12, TX12, 151), tyX12, rfl, by decide, lays_11, gw_1528, tyX12_ok, nmX12, rfl, by decide +kernel, fun _ => rfl⟩
theorem fp_raw_fp_RX12_112 : FP RX12 112 23 49 (.array .int) true := ⟨(RX12, TX12, 151), tyX12, rfl, by decide, lays_11, gw_1531, tyX12_ok, nmX12, rfl, by decide +kernel, fun _ => rfl⟩
theorem fp_raw_fp_RX12_115 : FP RX12 115 23 50 (.array .int) true := ⟨(RX12, TX12, 151), tyX12, rfl, by decide, lays_11, gw_1532, tyX12_ok, nmX12, rfl, by decide +kernel, fun _ => rfl⟩
theorem fp_raw_fp_RX12_118 : FP RX12 118 23 51 (.array .int) true := ⟨(RX12, TX12, 151), tyX12, rfl, by decide, lays_11, gw_1533, tyX12_ok, nmX12, rfl, by decide +kernel, fun _ => rfl⟩
theorem fp_raw_fp_RX12_121 : FP RX12 121 23 52 (.array .int) true := ⟨(RX12, TX12, 151), tyX12, rfl, by decide, lays_11, gw_1534, tyX12_ok, nmX12, rfl, by decide +kernel, fun _ => rfl⟩
theorem fp_raw_fp_RX12_124 : FP RX12 124 23 53 (.array .int) true := ⟨(RX12, TX12, 151), tyX12, rfl, by decide, lays_11, gw_1535, tyX12_ok, nmX12, rfl, by decide +kernel, fun _ => rfl⟩
theorem fp_raw_fp_RX12_127 : FP RX12 127 23 54 (.array .int) true := ⟨(RX12, TX12, 151), tyX12, rfl, by decide, lays_11, gw_1536, tyX12_ok, nmX12, rfl, by decide +kernel, fun _ => rfl⟩
theorem fp_raw_fp_RX12_13 : FP RX12 13 23 4 .int false := ⟨(RX12, TX12, 151), tyX12, rfl, by decide, lays_11, gw_1486, tyX12_ok, nmX12, rfl, by decide +kernel, fun h => by cases h⟩
theorem fp_raw_fp_RX12_130 : FP RX12 130 23 55 (.array .int) true := ⟨(RX12, TX12, 151), tyX12, rfl, by decide, lays_11, gw_1537, tyX12_ok, nmX12, rfl, by decide +kernel, fun _ => rfl⟩
theorem fp_raw_fp_RX12_133 : FP RX12 133 23 56 (.array .int) true := ⟨(RX12, TX12, 151), tyX12, rfl, by decide, lays_11, gw_1538, tyX12_ok, nmX12, rfl, by decide +kernel, fun _ => rfl⟩
theorem fp_raw_fp_RX12_136 : FP RX12 136 23 57 (.array .int) true := ⟨(RX12, TX12, 151), tyX12, rfl, by decide, lays_11, gw_1539, tyX12_ok, nmX12, rfl, by decide +kernel, fun _ => rfl⟩
theorem fp_raw_fp_RX12_139 : FP RX12 139 23 58 (.array .int) true := ⟨(RX12, TX12, 151), tyX12, rfl, by decide, lays_11, gw_1540, tyX12_ok, nmX12, rfl, by decide +kernel, fun _ => rfl⟩
theorem fp_raw_fp_RX12_142 : FP RX12 142 23 59 (.array .int) true := ⟨(RX12, TX12, 151), tyX12, rfl, by decide, lays_11, gw_1541, tyX12_ok, nmX12, rfl, by decide +kernel, fun _ => rfl⟩
theorem fp_raw_fp_RX12_145 : FP RX12 145 23 60 (.array .int) true := ⟨(RX12, TX12, 151), tyX12, rfl, by decide, lays_11, gw_1542, tyX12_ok, nmX12, rfl, by decide +kernel, fun _ => rfl⟩
theorem fp_raw_fp_RX12_148 : FP RX12 148 23 61 (.array .int) true := ⟨(RX12, TX12, 151), tyX12, rfl, by decide, lays_11, gw_1543, tyX12_ok, nmX12, rfl, by decide +kernel, fun _ => rfl⟩
theorem fp_raw_fp_RX12_151 : FP RX12 151 23 62 (.array .int) true := ⟨(RX12, TX12, 151), tyX12, rfl, by decide, lays_11, gw_1544, tyX12_ok, nmX12, rfl, by decide +kernel, fun _ => rfl⟩
theorem fp_raw_fp_RX12_154 : FP RX12 154 23 63 (.array .int) true := ⟨(RX12, TX12, 151), tyX12, rfl, by decide, lays_11, gw_1545, tyX12_ok, nmX12, rfl, by decide +kernel, fun _ => rfl⟩
theorem fp_raw_fp_RX12_157 : FP RX12 157 23 64 (.array .boolean) true := ⟨(RX12, TX12, 151), tyX12, rfl, by decide, lays_11, gw_1546, tyX12_ok, nmX12, rfl, by decide +kernel, fun _ => rfl⟩
theorem fp_raw_fp_RX12_16 : FP RX12 16 23 5 (.array .int) true := ⟨(RX12, TX12, 151), tyX12, rfl, by decide, lays_11, gw_1487, tyX12_ok, nmX12, rfl, by decide +kernel, fun _ => rfl⟩
theorem fp_raw_fp_RX12_160 : FP RX12 160 23 65 (.array .boolean) true := ⟨(RX12, TX12, 151), tyX12, rfl, by decide, lays_11, gw_1547, tyX12_ok, nmX12, rfl, by decide +kernel, fun _ => rfl⟩
theorem fp_raw_fp_RX12_163 : FP RX12 163 23 67 (.array .int) true := ⟨(RX12, TX12, 151), tyX12, rfl, by decide, lays_11, gw_1549, tyX12_ok, nmX12, rfl, by decide +kernel, fun _ => rfl⟩
theorem fp_raw_fp_RX12_166 : FP RX12 166 23 68 (.array .int) true := ⟨(RX12, TX12, 151), tyX12, rfl, by decide, lays_11, gw_1550, tyX12_ok, nmX12, rfl, by decide +kernel, fun _ => rfl⟩
theorem fp_raw_fp_RX12_169 : FP RX12 169 23 69 (.array .int) true := ⟨(RX12, TX12, 151), tyX12, rfl, by decide, lays_11, gw_1551, tyX12_ok, nmX12, rfl, by decide +kernel, fun _ => rfl⟩
theorem fp_raw_fp_RX12_172 : FP RX12 172 23 70 (.array .int) true := ⟨(RX12, TX12, 151), tyX12, rfl, by decide, lays_11, gw_1552, tyX12_ok, nmX12, rfl, by decide +kernel, fun _ => rfl⟩
theorem fp_raw_fp_RX12_175 : FP RX12 175 23 71 (.array .int) true := ⟨(RX12, TX12, 151), tyX12, rfl, by decide, lays_11, gw_1553, tyX12_ok, nmX12, rfl, by decide +kernel, fun _ => rfl⟩
theorem fp_raw_fp_RX12_178 : FP RX12 178 23 72 (.array .int) true := ⟨(RX12, TX12, 151), tyX12, rfl, by decide, lays_11, gw_1554, tyX12_ok, nmX12, rfl, by decide +kernel, fun _ => rfl⟩
theorem fp_raw_fp_RX12_181 : FP RX12 181 23 73 (.array .int) true := ⟨(RX12, TX12, 151), tyX12, rfl, by decide, lays_11, gw_1555, tyX12_ok, nmX12, rfl, by decide +kernel, fun _ => rfl⟩
theorem fp_raw_fp_RX12_184 : FP RX12 184 23 74 (.array .int) true := ⟨(RX12, TX12, 151), tyX12, rfl, by decide, lays_11, gw_1556, tyX12_ok, nmX12, rfl, by decide +kernel, fun _ => rfl⟩
theorem fp_raw_fp_RX12_187 : FP RX12 187 23 75 (.array .int) true := ⟨(RX12, TX12, 151), tyX12, rfl, by decide, lays_11, gw_1557, tyX12_ok, nmX12, rfl, by decide +kernel, fun _ => rfl⟩
theorem fp_raw_fp_RX12_190 : FP RX12 190 23 76 (.array .int) true := ⟨(RX12, TX12, 151), tyX12, rfl, by decide, lays_11, gw_1558, tyX12_ok, nmX12, rfl, by decide +kernel, fun _ => rfl⟩
theorem fp_raw_fp_RX12_193 : FP RX12 193 23 77 (.array .int) true := ⟨(RX12, TX12, 151), tyX12, rfl, by decide, lays_11, gw_1559, tyX12_ok, nmX12, rfl, by decide +kernel, fun _ => rfl⟩
theorem fp_raw_fp_RX12_196 : FP RX12 196 23 78 (.array .int) true := ⟨(RX12, TX12, 151), tyX12, rfl, by decide, lays_11, gw_1560, tyX12_ok, nmX12, rfl, by decide +kernel, fun _ => rfl⟩
theorem fp_raw_fp_RX12_199 : FP RX12 199 23 79 (.array .int) true := ⟨(RX12, TX12, 151), tyX12, rfl, by decide, lays_11, gw_1561, tyX12_ok, nmX12, rfl, by decide +kernel, fun _ => rfl⟩
theorem fp_raw_fp_RX12_20 : FP RX12 20 23 6 (.array .int) true := ⟨(RX12, TX12, 151), tyX12, rfl, by decide, lays_11, gw_1488, tyX12_ok, nmX12, rfl, by decide +kernel, fun _ => rfl⟩
theorem fp_raw_fp_RX12_202 : FP RX12 202 23 80 (.array .int) true := ⟨(RX12, TX12, 151), tyX12, rfl, by decide, lays_11, gw_1562, tyX12_ok, nmX12, rfl, by decide +kernel, fun _ => rfl⟩
theorem fp_raw_fp_RX12_205 : FP RX12 205 23 81 (.array .int) true := ⟨(RX12, TX12, 151), tyX12, rfl, by decide, lays_11, gw_1563, tyX12_ok, nmX12, rfl, by decide +kernel, fun _ => rfl⟩
theorem fp_raw_fp_RX12_208 : FP RX12 208 23 94 (.array .int) true := ⟨(RX12, TX12, 151), tyX12, rfl, by decide, lays_11, gw_1576, tyX12_ok, nmX12, rfl, by decide +kernel, fun _ => rfl⟩
theorem fp_raw_fp_RX12_211 : FP RX12 211 23 95 (.array .int) true := ⟨(RX12, TX12, 151), tyX12, rfl, by decide, lays_11, gw_1577, tyX12_ok, nmX12, rfl, by decide +kernel, fun _ => rfl⟩
theorem fp_raw_fp_RX12_214 : FP RX12 214 23 96 (.array .int) true := ⟨(RX12, TX12, 151), tyX12, rfl, by decide, lays_11, gw_1578, tyX12_ok, nmX12, rfl, by decide +kernel, fun _ => rfl⟩
theorem fp_raw_fp_RX12_217 : FP RX12 217 23 97 (.array .int) true := ⟨(RX12, TX12, 151), tyX12, rfl, by decide, lays_11, gw_1579, tyX12_ok, nmX12, rfl, by decide +kernel, fun _ => rfl⟩
theorem fp_raw_fp_RX12_220 : FP RX12 220 23 98 (.array .int) true := ⟨(RX12, TX12, 151), tyX12, rfl, by decide, lays_11, gw_1580, tyX12_ok, nmX12, rfl, by decide +kernel, fun _ => rfl⟩
theorem fp_raw_fp_RX12_223 : FP RX12 223 23 99 (.array .int) true := ⟨(RX12, TX12, 151), tyX12, rfl, by decide, lays_11, gw_1581, tyX12_ok, nmX12, rfl, by decide +kernel, fun _ => rfl⟩
theorem fp_raw_fp_RX12_226 : FP RX12 226 23 100 (.array .int) true := ⟨(RX12, TX12, 151), tyX12, rfl, by decide, lays_11, gw_1582, tyX12_ok, nmX12, rfl, by decide +kernel, fun _ => rfl⟩
theorem fp_raw_fp_RX12_229 : FP RX12 229 23 101 (.array .int) true := ⟨(RX12, TX12, 151), tyX12, rfl, by decide, lays_11, gw_1583, tyX12_ok, nmX12, rfl, by decide +kernel, fun _ => rfl⟩
theorem fp_raw_fp_RX12_23 : FP RX12 23 23 7 (.array .int) true := ⟨(RX12, TX12, 151), tyX12, rfl, by decide, lays_11, gw_1489, tyX12_ok, nmX12, rfl, by decide +kernel, fun _ => rfl⟩
theorem fp_raw_fp_RX12_232 : FP RX12 232 23 102 (.array .int) true := ⟨(RX12, TX12, 151), tyX12, rfl, by decide, lays_11, gw_1584, tyX12_ok, nmX12, rfl, by decide +kernel, fun _ => rfl⟩
theorem fp_raw_fp_RX12_235 : FP RX12 235 23 103 (.array .int) true := ⟨(RX12, TX12, 151), tyX12, rfl, by decide, lays_11, gw_1585, tyX12_ok, nmX12, rfl, by decide +kernel, fun _ => rfl⟩
theorem fp_raw_fp_RX12_238 : FP RX12 238 23 104 (.array .int) true := ⟨(RX12, TX12, 151), tyX12, rfl, by decide, lays_11, gw_1586, tyX12_ok, nmX12, rfl, by decide +kernel, fun _ => rfl⟩
theorem fp_raw_fp_RX12_241 : FP RX12 241 23 105 (.array .int) true := ⟨(RX12, TX12, 151), tyX12, rfl, by decide, lays_11, gw_1587, tyX12_ok, nmX12, rfl, by decide +kernel, fun _ => rfl⟩
theorem fp_raw_fp_RX12_244 : FP RX12 244 23 106 (.array .int) true := ⟨(RX12, TX12, 151), tyX12, rfl, by decide, lays_11, gw_1588, tyX12_ok, nmX12, rfl, by decide +kernel, fun _ => rfl⟩
theorem fp_raw_fp_RX12_247 : FP RX12 247 23 107 (.array .int) true := ⟨(RX12, TX12, 151), tyX12, rfl, by decide, lays_11, gw_1589, tyX12_ok, nmX12, rfl, by decide +kernel, fun _ => rfl⟩
theorem fp_raw_fp_RX12_250 : FP RX12 250 23 108 (.array .int) true := ⟨(RX12, TX12, 151), tyX12, rfl, by decide, lays_11, gw_1590, tyX12_ok, nmX12, rfl, by decide +kernel, fun _ => rfl⟩
theorem fp_raw_fp_RX12_253 : FP RX12 253 23 109 (.array .int) true := ⟨(RX12, TX12, 151), tyX12, rfl, by decide, lays_11, gw_1591, tyX12_ok, nmX12, rfl, by decide +kernel, fun _ => rfl⟩
theorem fp_raw_fp_RX12_256 : FP RX12 256 23 110 (.array .int) true := ⟨(RX12, TX12, 151), tyX12, rfl, by decide, lays_11, gw_1592, tyX12_ok, nmX12, rfl, by decide +kernel, fun _ => rfl⟩
theorem fp_raw_fp_RX12_259 : FP RX12 259 23 111 (.array .boolean) true := ⟨(RX12, TX12, 151), tyX12, rfl, by decide, lays_11, gw_1593, tyX12_ok, nmX12, rfl, by decide +kernel, fun _ => rfl⟩
theorem fp_raw_fp_RX12_26 : FP RX12 26 23 8 (.array .int) true := ⟨(RX12, TX12, 151), tyX12, rfl, by decide, lays_11, gw_1490, tyX12_ok, nmX12, rfl, by decide +kernel, fun _ => rfl⟩
theorem fp_raw_fp_RX12_262 : FP RX12 262 23 112 (.array .int) true := ⟨(RX12, TX12, 151), tyX12, rfl, by decide, lays_11, gw_1594, tyX12_ok, nmX12, rfl, by decide +kernel, fun _ => rfl⟩
theorem fp_raw_fp_RX12_265 : FP RX12 265 23 113 (.array .int) true := ⟨(RX12, TX12, 151), tyX12, rfl, by decide, lays_11, gw_1595, tyX12_ok, nmX12, rfl, by decide +kernel, fun _ => rfl⟩
theorem fp_raw_fp_RX12_268 : FP RX12 268 23 114 (.array .int) true := ⟨(RX12, TX12, 151), tyX12, rfl, by decide, lays_11, gw_1596, tyX12_ok, nmX12, rfl, by decide +kernel, fun _ => rfl⟩
theorem fp_raw_fp_RX12_271 : FP RX12 271 23 115 (.array .int) true := ⟨(RX12, TX12, 151), tyX12, rfl, by decide, lays_11, gw_1597, tyX12_ok, nmX12, rfl, by decide +kernel, fun _ => rfl⟩
theorem fp_raw_fp_RX12_274 : FP RX12 274 23 116 (.array .int) true := ⟨(RX12, TX12, 151), tyX12, rfl, by decide, lays_11, gw_1598, tyX12_ok, nmX12, rfl, by decide +kernel, fun _ => rfl⟩
theorem fp_raw_fp_RX12_277 : FP RX12 277 23 117 (.array .int) true := ⟨(RX12, TX12, 151), tyX12, rfl, by decide, lays_11, gw_1599, tyX12_ok, nmX12, rfl, by decide +kernel, fun _ => rfl⟩
theorem fp_raw_fp_RX12_280 : FP RX12 280 23 119 .int false := ⟨(RX12, TX12, 151), tyX12, rfl, by decide, lays_11, gw_1601, tyX12_ok, nmX12, rfl, by decide +kernel, fun h => by cases h⟩
theorem fp_raw_fp_RX12_283 : FP RX12 283 23 121 (.array .int) true := ⟨(RX12, TX12, 151), tyX12, rfl, by decide, lays_11, gw_1603, tyX12_ok, nmX12, rfl, by decide +kernel, fun _ => rfl⟩
theorem fp_raw_fp_RX12_286 : FP RX12 286 23 122 (.array .int) true := ⟨(RX12, TX12, 151), tyX12, rfl, by decide, lays_11, gw_1604, tyX12_ok, nmX12, rfl, by decide +kernel, fun _ => rfl⟩
theorem fp_raw_fp_RX12_289 : FP RX12 289 23 123 (.array .int) true := ⟨(RX12, TX12, 151), tyX12, rfl, by decide, lays_11, gw_1605, tyX12_ok, nmX12, rfl, by decide +kernel, fun _ => rfl⟩
theorem fp_raw_fp_RX12_29 : FP RX12 29 23 11 (.array .int) true := ⟨(RX12, TX12, 151), tyX12, rfl, by decide, lays_11, gw_1493, tyX12_ok, nmX12, rfl, by decide +kernel, fun _ => rfl⟩
theorem fp_raw_fp_RX12_292 : FP RX12 292 23 124 (.array .int) true := ⟨(RX12, TX12, 151), tyX12, rfl, by decide, lays_11, gw_1606, tyX12_ok, nmX12, rfl, by decide +kernel, fun _ => rfl⟩
theorem fp_raw_fp_RX12_295 : FP RX12 295 23 125 (.array .int) true := ⟨(RX12, TX12, 151), tyX12, rfl, by decide, lays_11, gw_1607, tyX12_ok, nmX12, rfl, by decide +kernel, fun _ => rfl⟩
theorem fp_raw_fp_RX12_298 : FP RX12 298 23 126 (.array .int) true := ⟨(RX12, TX12, 151), tyX12, rfl, by decide, lays_11, gw_1608, tyX12_ok, nmX12, rfl, by decide +kernel, fun _ => rfl⟩
theorem fp_raw_fp_RX12_301 : FP RX12 301 23 127 (.array .int) true := ⟨(RX12, TX12, 151), tyX12, rfl, by decide, lays_11, gw_1609, tyX12_ok, nmX12, rfl, by decide +kernel, fun _ => rfl⟩
theorem fp_raw_fp_RX12_304 : FP RX12 304 23 128 (.array .int) true := ⟨(RX12, TX12, 151), tyX12, rfl, by decide, lays_11, gw_1610, tyX12_ok, nmX12, rfl, by decide +kernel, fun _ => rfl⟩
theorem fp_raw_fp_RX12_307 : FP RX12 307 23 129 (.array .int) true := ⟨(RX12, TX12, 151), tyX12, rfl, by decide, lays_11, gw_1611, tyX12_ok, nmX12, rfl, by decide +kernel, fun _ => rfl⟩
theorem fp_raw_fp_RX12_310 : FP RX12 310 23 130 (.array .int) true := ⟨(RX12, TX12, 151), tyX12, rfl, by decide, lays_11, gw_1612, tyX12_ok, nmX12, rfl, by decide +kernel, fun _ => rfl⟩
theorem fp_raw_fp_RX12_313 : FP RX12 313 23 131 (.array .int) true := ⟨(RX12, TX12, 151), tyX12, rfl, by decide, lays_11, gw_1613, tyX12_ok, nmX12, rfl, by decide +kernel, fun _ => rfl⟩
theorem fp_raw_fp_RX12_316 : FP RX12 316 23 132 (.array .int) true := ⟨(RX12, TX12, 151), tyX12, rfl, by decide, lays_11, gw_1614, tyX12_ok, nmX12, rfl, by decide +kernel, fun _ => rfl⟩
theorem fp_raw_fp_RX12_319 : FP RX12 319 23 134 (.array .int) true := ⟨(RX12, TX12, 151), tyX12, rfl, by decide, lays_11, gw_1616, tyX12_ok, nmX12, rfl, by decide +kernel, fun _ => rfl⟩
theorem fp_raw_fp_RX12_32 : FP RX12 32 23 12 (.array .int) true := ⟨(RX12, TX12, 151), tyX12, rfl, by decide, lays_11, gw_1494, tyX12_ok, nmX12, rfl, by decide +kernel, fun _ => rfl⟩
theorem fp_raw_fp_RX12_322 : FP RX12 322 23 135 (.array .boolean) true := ⟨(RX12, TX12, 151), tyX12, rfl, by decide, lays_11, gw_1617, tyX12_ok, nmX12, rfl, by decide +kernel, fun _ => rfl⟩
theorem fp_raw_fp_RX12_325 : FP RX12 325 23 136 (.array .boolean) true := ⟨(RX12, TX12, 151), tyX12, rfl, by decide, lays_11, gw_1618, tyX12_ok, nmX12, rfl, by decide +kernel, fun _ => rfl⟩
theorem fp_raw_fp_RX12_328 : FP RX12 328 23 139 (.array .int) true := ⟨(RX12, TX12, 151), tyX12, rfl, by decide, lays_11, gw_1621, tyX12_ok, nmX12, rfl, by decide +kernel, fun _ => rfl⟩
theorem fp_raw_fp_RX12_331 : FP RX12 331 23 140 (.array .int) true := ⟨(RX12, TX12, 151), tyX12, rfl, by decide, lays_11, gw_1622, tyX12_ok, nmX12, rfl, by decide +kernel, fun _ => rfl⟩
theorem fp_raw_fp_RX12_334 : FP RX12 334 23 141 (.array .int) true := ⟨(RX12, TX12, 151), tyX12, rfl, by decide, lays_11, gw_1623, tyX12_ok, nmX12, rfl, by decide +kernel, fun _ => rfl⟩
theorem fp_raw_fp_RX12_337 : FP RX12 337 23 142 (.array .int) true := ⟨(RX12, TX12, 151), tyX12, rfl, by decide, lays_11, gw_1624, tyX12_ok, nmX12, rfl, by decide +kernel, fun _ => rfl⟩
theorem fp_raw_fp_RX12_340 : FP RX12 340 23 143 (.array .int) true := ⟨(RX12, TX12, 151), tyX12, rfl, by decide, lays_11, gw_1625, tyX12_ok, nmX12, rfl, by decide +kernel, fun _ => rfl⟩
theorem fp_raw_fp_RX12_343 : FP RX12 343 23 144 (.array .int) true := ⟨(RX12, TX12, 151), tyX12, rfl, by decide, lays_11, gw_1626, tyX12_ok, nmX12, rfl, by decide +kernel, fun _ => rfl⟩
theorem fp_raw_fp_RX12_346 : FP RX12 346 23 146 (.array .int) true := ⟨(RX12, TX12, 151), tyX12, rfl, by decide, lays_11, gw_1628, tyX12_ok, nmX12, rfl, by decide +kernel, fun _ => rfl⟩
theorem fp_raw_fp_RX12_349 : FP RX12 349 23 147 (.array .int) true := ⟨(RX12, TX12, 151), tyX12, rfl, by decide, lays_11, gw_1629, tyX12_ok, nmX12, rfl, by decide +kernel, fun _ => rfl⟩
theorem fp_raw_fp_RX12_35 : FP RX12 35 23 13 (.array .int) true := ⟨(RX12, TX12, 151), tyX12, rfl, by decide, lays_11, gw_1495, tyX12_ok, nmX12, rfl, by decide +kernel, fun _ => rfl⟩
theorem fp_raw_fp_RX12_352 : FP RX12 352 23 148 (.array .int) true := ⟨(RX12, TX12, 151), tyX12, rfl, by decide, lays_11, gw_1630, tyX12_ok, nmX12, rfl, by decide +kernel, fun _ => rfl⟩
theorem fp_raw_fp_RX12_355 : FP RX12 355 23 149 (.array .int) true := ⟨(RX12, TX12, 151), tyX12, rfl, by decide, lays_11, gw_1631, tyX12_ok, nmX12, rfl, by decide +kernel, fun _ => rfl⟩
theorem fp_raw_fp_RX12_358 : FP RX12 358 23 150 (.array .boolean) true := ⟨(RX12, TX12, 151), tyX12, rfl, by decide, lays_11, gw_1632, tyX12_ok, nmX12, rfl, by decide +kernel, fun _ => rfl⟩
theorem fp_raw_fp_RX12_38 : FP RX12 38 23 14 (.array .int) true := ⟨(RX12, TX12, 151), tyX12, rfl, by decide, lays_11, gw_1496, tyX12_ok, nmX12, rfl, by decide +kernel, fun _ => rfl⟩
theorem fp_raw_fp_RX12_41 : FP RX12 41 23 15 (.array .int) true := ⟨(RX12, TX12, 151), tyX12, rfl, by decide, lays_11, gw_1497, tyX12_ok, nmX12, rfl, by decide +kernel, fun _ => rfl⟩
theorem fp_raw_fp_RX12_44 : FP RX12 44 23 16 (.array .int) true := ⟨(RX12, TX12, 151), tyX12, rfl, by decide, lays_11, gw_1498, tyX12_ok, nmX12, rfl, by decide +kernel, fun _ => rfl⟩
theorem fp_raw_fp_RX12_47 : FP RX12 47 23 17 (.array .int) true := ⟨(RX12, TX12, 151), tyX12, rfl, by decide, lays_11, gw_1499, tyX12_ok, nmX12, rfl, by decide +kernel, fun _ => rfl⟩
theorem fp_raw_fp_RX12_50 : FP RX12 50 23 18 (.array .int) true := ⟨(RX12, TX12, 151), tyX12, rfl, by decide, lays_11, gw_1500, tyX12_ok, nmX12, rfl, by decide +kernel, fun _ => rfl⟩
theorem fp_raw_fp_RX12_53 : FP RX12 53 23 19 (.array .int) true := ⟨(RX12, TX12, 151), tyX12, rfl, by decide, lays_11, gw_1501, tyX12_ok, nmX12, rfl, by decide +kernel, fun _ => rfl⟩
theorem fp_raw_fp_RX12_56 : FP RX12 56 23 20 (.array .int) true := ⟨(RX12, TX12, 151), tyX12, rfl, by decide, lays_11, gw_1502, tyX12_ok, nmX12, rfl, by decide +kernel, fun _ => rfl⟩
theorem fp_raw_fp_RX12_59 : FP RX12 59 23 21 (.array .int) true := ⟨(RX12, TX12, 151), tyX12, rfl, by decide, lays_11, gw_1503, tyX12_ok, nmX12, rfl, by decide +kernel, fun _ => rfl⟩
theorem fp_raw_fp_RX12_62 : FP RX12 62 23 22 (.array .int) true := ⟨(RX12, TX12, 151), tyX12, rfl, by decide, lays_11, gw_1504, tyX12_ok, nmX12, rfl, by decide +kernel, fun _ => rfl⟩
theorem fp_raw_fp_RX12_65 : FP RX12 65 23 23 (.array .int) true := ⟨(RX12, TX12, 151), tyX12, rfl, by decide, lays_11, gw_1505, tyX12_ok, nmX12, rfl, by decide +kernel, fun _ => rfl⟩
theorem fp_raw_fp_RX12_68 : FP RX12 68 23 24 (.array .int) true := ⟨(RX12, TX12, 151), tyX12, rfl, by decide, lays_11, gw_1506, tyX12_ok, nmX12, rfl, by decide +kernel, fun _ => rfl⟩
theorem fp_raw_fp_RX12_7 : FP RX12 7 23 3 .int false := ⟨(RX12, TX12, 151), tyX12, rfl, by decide, lays_11, gw_1485, tyX12_ok, nmX12, rfl, by decide +kernel, fun h => by cases h⟩
theorem fp_raw_fp_RX12_71 : FP RX12 71 23 25 (.array .int) true := ⟨(RX12, TX12, 151), tyX12, rfl, by decide, lays_11, gw_1507, tyX12_ok, nmX12, rfl, by decide +kernel, fun _ => rfl⟩
theorem fp_raw_fp_RX12_74 : FP RX12 74 23 26 (.array .int) true := ⟨(RX12, TX12, 151), tyX12, rfl, by decide, lays_11, gw_1508, tyX12_ok, nmX12, rfl, by decide +kernel, fun _ => rfl⟩
theorem fp_raw_fp_RX12_77 : FP RX12 77 23 27 (.array .int) true := ⟨(RX12, TX12, 151), tyX12, rfl, by decide, lays_11, gw_1509, tyX12_ok, nmX12, rfl, by decide +kernel, fun _ => rfl⟩
theorem fp_raw_fp_RX12_80 : FP RX12 80 23 28 (.array .boolean) true := ⟨(RX12, TX12, 151), tyX12, rfl, by decide, lays_11, gw_1510, tyX12_ok, nmX12, rfl, by decide +kernel, fun _ => rfl⟩
theorem fp_raw_fp_RX12_84 : FP RX12 84 23 29 (.array .byte) true := ⟨(RX12, TX12, 151), tyX12, rfl, by decide, lays_11, gw_1511, tyX12_ok, nmX12, rfl, by decide +kernel, fun _ => rfl⟩
theorem fp_raw_fp_RX12_88 : FP RX12 88 23 39 (.array .int) true := ⟨(RX12, TX12, 151), tyX12, rfl, by decide, lays_11, gw_1521, tyX12_ok, nmX12, rfl, by decide +kernel, fun _ => rfl⟩
theorem fp_raw_fp_RX12_91 : FP RX12 91 23 40 (.array .int) true := ⟨(RX12, TX12, 151), tyX12, rfl, by decide, lays_11, gw_1522, tyX12_ok, nmX12, rfl, by decide +kernel, fun _ => rfl⟩
theorem fp_raw_fp_RX12_94 : FP RX12 94 23 41 (.array .int) true := ⟨(RX12, TX12, 151), tyX12, rfl, by decide, lays_11, gw_1523, tyX12_ok, nmX12, rfl, by decide +kernel, fun _ => rfl⟩
theorem fp_raw_fp_RX12_97 : FP RX12 97 23 42 (.array .int) true := ⟨(RX12, TX12, 151), tyX12, rfl, by decide, lays_11, gw_1524, tyX12_ok, nmX12, rfl, by decide +kernel, fun _ => rfl⟩
theorem fp_raw_fp_RX1_11 : FP RX1 11 13 0 (.array (.object RX9)) true := ⟨(RX1, TX1, 13), tyX1, rfl, by decide, lays_1, gw_126, tyX1_ok, nmX1, rfl, by decide +kernel, fun _ => rfl⟩
theorem fp_raw_fp_RX1_17 : FP RX1 17 13 1 .int false := ⟨(RX1, TX1, 13), tyX1, rfl, by decide, lays_1, gw_127, tyX1_ok, nmX1, rfl, by decide +kernel, fun h => by cases h⟩
theorem fp_raw_fp_RX1_26 : FP RX1 26 13 2 (.object RX8) true := ⟨(RX1, TX1, 13), tyX1, rfl, by decide, lays_1, gw_129, tyX1_ok, nmX1, rfl, by decide +kernel, fun _ => rfl⟩
theorem fp_raw_fp_RX1_30 : FP RX1 30 13 3 (.array (.object RX9)) true := ⟨(RX1, TX1, 13), tyX1, rfl, by decide, lays_1, gw_131, tyX1_ok, nmX1, rfl, by decide +kernel, fun _ => rfl⟩
theorem fp_raw_fp_RX1_33 : FP RX1 33 13 4 (.array .int) true := ⟨(RX1, TX1, 13), tyX1, rfl, by decide, lays_1, gw_132, tyX1_ok, nmX1, rfl, by decide +kernel, fun _ => rfl⟩
theorem fp_raw_fp_RX1_37 : FP RX1 37 13 5 (.array .int) true := ⟨(RX1, TX1, 13), tyX1, rfl, by decide, lays_1, gw_134, tyX1_ok, nmX1, rfl, by decide +kernel, fun _ => rfl⟩
theorem fp_raw_fp_RX1_40 : FP RX1 40 13 6 .int false := ⟨(RX1, TX1, 13), tyX1, rfl, by decide, lays_1, gw_135, tyX1_ok, nmX1, rfl, by decide +kernel, fun h => by cases h⟩
theorem fp_raw_fp_RX1_43 : FP RX1 43 13 7 .int false := ⟨(RX1, TX1, 13), tyX1, rfl, by decide, lays_1, gw_136, tyX1_ok, nmX1, rfl, by decide +kernel, fun h => by cases h⟩
theorem fp_raw_fp_RX1_46 : FP RX1 46 13 8 (.array .int) true := ⟨(RX1, TX1, 13), tyX1, rfl, by decide, lays_1, gw_137, tyX1_ok, nmX1, rfl, by decide +kernel, fun _ => rfl⟩
theorem fp_raw_fp_RX1_49 : FP RX1 49 13 9 (.array .int) true := ⟨(RX1, TX1, 13), tyX1, rfl, by decide, lays_1, gw_139, tyX1_ok, nmX1, rfl, by decide +kernel, fun _ => rfl⟩
theorem fp_raw_fp_RX1_52 : FP RX1 52 13 10 .int false := ⟨(RX1, TX1, 13), tyX1, rfl, by decide, lays_1, gw_140, tyX1_ok, nmX1, rfl, by decide +kernel, fun h => by cases h⟩
theorem fp_raw_fp_RX1_55 : FP RX1 55 13 11 .int false := ⟨(RX1, TX1, 13), tyX1, rfl, by decide, lays_1, gw_141, tyX1_ok, nmX1, rfl, by decide +kernel, fun h => by cases h⟩
theorem fp_raw_fp_RX1_58 : FP RX1 58 13 12 .int false := ⟨(RX1, TX1, 13), tyX1, rfl, by decide, lays_1, gw_143, tyX1_ok, nmX1, rfl, by decide +kernel, fun h => by cases h⟩
theorem fp_raw_fp_RX2_15 : FP RX2 15 14 2 .int false := ⟨(RX2, TX2, 5), tyX2, rfl, by decide, lays_2, gw_335, tyX2_ok, nmX2, rfl, by decide +kernel, fun h => by cases h⟩
theorem fp_raw_fp_RX2_18 : FP RX2 18 14 3 (.array .int) true := ⟨(RX2, TX2, 5), tyX2, rfl, by decide, lays_2, gw_337, tyX2_ok, nmX2, rfl, by decide +kernel, fun _ => rfl⟩
theorem fp_raw_fp_RX2_22 : FP RX2 22 14 4 (.array .int) true := ⟨(RX2, TX2, 5), tyX2, rfl, by decide, lays_2, gw_340, tyX2_ok, nmX2, rfl, by decide +kernel, fun _ => rfl⟩
theorem fp_raw_fp_RX2_25 : FP RX2 25 14 0 .int false := ⟨(RX2, TX2, 5), tyX2, rfl, by decide, lays_2, gw_331, tyX2_ok, nmX2, rfl, by decide +kernel, fun h => by cases h⟩
theorem fp_raw_fp_RX2_9 : FP RX2 9 14 1 .int false := ⟨(RX2, TX2, 5), tyX2, rfl, by decide, lays_2, gw_333, tyX2_ok, nmX2, rfl, by decide +kernel, fun h => by cases h⟩
theorem fp_raw_fp_RX3_15 : FP RX3 15 15 6 .int false := ⟨(RX3, TX3, 16), tyX3, rfl, by decide, lays_3, gw_445, tyX3_ok, nmX3, rfl, by decide +kernel, fun h => by cases h⟩
theorem fp_raw_fp_RX3_19 : FP RX3 19 15 7 .int false := ⟨(RX3, TX3, 16), tyX3, rfl, by decide, lays_3, gw_447, tyX3_ok, nmX3, rfl, by decide +kernel, fun h => by cases h⟩
theorem fp_raw_fp_RX3_22 : FP RX3 22 15 8 .int false := ⟨(RX3, TX3, 16), tyX3, rfl, by decide, lays_3, gw_449, tyX3_ok, nmX3, rfl, by decide +kernel, fun h => by cases h⟩
theorem fp_raw_fp_RX3_25 : FP RX3 25 15 9 .int false := ⟨(RX3, TX3, 16), tyX3, rfl, by decide, lays_3, gw_451, tyX3_ok, nmX3, rfl, by decide +kernel, fun h => by cases h⟩
theorem fp_raw_fp_RX3_28 : FP RX3 28 15 10 .int false := ⟨(RX3, TX3, 16), tyX3, rfl, by decide, lays_3, gw_453, tyX3_ok, nmX3, rfl, by decide +kernel, fun h => by cases h⟩
theorem fp_raw_fp_RX3_31 : FP RX3 31 15 11 .int false := ⟨(RX3, TX3, 16), tyX3, rfl, by decide, lays_3, gw_455, tyX3_ok, nmX3, rfl, by decide +kernel, fun h => by cases h⟩
theorem fp_raw_fp_RX3_34 : FP RX3 34 15 12 .int false := ⟨(RX3, TX3, 16), tyX3, rfl, by decide, lays_3, gw_457, tyX3_ok, nmX3, rfl, by decide +kernel, fun h => by cases h⟩
theorem fp_raw_fp_RX3_37 : FP RX3 37 15 0 .int true := ⟨(RX3, TX3, 16), tyX3, rfl, by decide, lays_3, gw_433, tyX3_ok, nmX3, rfl, by decide +kernel, fun _ => rfl⟩
theorem fp_raw_fp_RX3_40 : FP RX3 40 15 1 .int true := ⟨(RX3, TX3, 16), tyX3, rfl, by decide, lays_3, gw_435, tyX3_ok, nmX3, rfl, by decide +kernel, fun _ => rfl⟩
theorem fp_raw_fp_RX3_43 : FP RX3 43 15 2 .int false := ⟨(RX3, TX3, 16), tyX3, rfl, by decide, lays_3, gw_437, tyX3_ok, nmX3, rfl, by decide +kernel, fun h => by cases h⟩
theorem fp_raw_fp_RX3_46 : FP RX3 46 15 3 .int true := ⟨(RX3, TX3, 16), tyX3, rfl, by decide, lays_3, gw_439, tyX3_ok, nmX3, rfl, by decide +kernel, fun _ => rfl⟩
theorem fp_raw_fp_RX3_49 : FP RX3 49 15 4 .int false := ⟨(RX3, TX3, 16), tyX3, rfl, by decide, lays_3, gw_441, tyX3_ok, nmX3, rfl, by decide +kernel, fun h => by cases h⟩
theorem fp_raw_fp_RX3_52 : FP RX3 52 15 13 (.array .int) true := ⟨(RX3, TX3, 16), tyX3, rfl, by decide, lays_3, gw_459, tyX3_ok, nmX3, rfl, by decide +kernel, fun _ => rfl⟩
theorem fp_raw_fp_RX3_56 : FP RX3 56 15 14 (.array .int) true := ⟨(RX3, TX3, 16), tyX3, rfl, by decide, lays_3, gw_461, tyX3_ok, nmX3, rfl, by decide +kernel, fun _ => rfl⟩
theorem fp_raw_fp_RX3_64 : FP RX3 64 15 15 (.object RX8) true := ⟨(RX3, TX3, 16), tyX3, rfl, by decide, lays_3, gw_463, tyX3_ok, nmX3, rfl, by decide +kernel, fun _ => rfl⟩
theorem fp_raw_fp_RX3_9 : FP RX3 9 15 5 .boolean false := ⟨(RX3, TX3, 16), tyX3, rfl, by decide, lays_3, gw_443, tyX3_ok, nmX3, rfl, by decide +kernel, fun h => by cases h⟩
theorem fp_raw_fp_RX5_15 : FP RX5 15 16 4 .int false := ⟨(RX5, TX5, 7), tyX5, rfl, by decide, lays_4, gw_609, tyX5_ok, nmX5, rfl, by decide +kernel, fun h => by cases h⟩
theorem fp_raw_fp_RX5_18 : FP RX5 18 16 5 .int false := ⟨(RX5, TX5, 7), tyX5, rfl, by decide, lays_4, gw_610, tyX5_ok, nmX5, rfl, by decide +kernel, fun h => by cases h⟩
theorem fp_raw_fp_RX5_21 : FP RX5 21 16 6 .int false := ⟨(RX5, TX5, 7), tyX5, rfl, by decide, lays_4, gw_612, tyX5_ok, nmX5, rfl, by decide +kernel, fun h => by cases h⟩
theorem fp_raw_fp_RX5_24 : FP RX5 24 16 0 (.array .int) true := ⟨(RX5, TX5, 7), tyX5, rfl, by decide, lays_4, gw_605, tyX5_ok, nmX5, rfl, by decide +kernel, fun _ => rfl⟩
theorem fp_raw_fp_RX5_28 : FP RX5 28 16 1 .int true := ⟨(RX5, TX5, 7), tyX5, rfl, by decide, lays_4, gw_606, tyX5_ok, nmX5, rfl, by decide +kernel, fun _ => rfl⟩
theorem fp_raw_fp_RX5_31 : FP RX5 31 16 2 (.object RX9) true := ⟨(RX5, TX5, 7), tyX5, rfl, by decide, lays_4, gw_607, tyX5_ok, nmX5, rfl, by decide +kernel, fun _ => rfl⟩
theorem fp_raw_fp_RX5_9 : FP RX5 9 16 3 .int false := ⟨(RX5, TX5, 7), tyX5, rfl, by decide, lays_4, gw_608, tyX5_ok, nmX5, rfl, by decide +kernel, fun h => by cases h⟩
theorem fp_raw_fp_RX6_14 : FP RX6 14 17 0 (.object RX8) true := ⟨(RX6, TX6, 10), tyX6, rfl, by decide, lays_5, gw_181, tyX6_ok, nmX6, rfl, by decide +kernel, fun _ => rfl⟩
theorem fp_raw_fp_RX6_20 : FP RX6 20 17 1 (.array .int) true := ⟨(RX6, TX6, 10), tyX6, rfl, by decide, lays_5, gw_183, tyX6_ok, nmX6, rfl, by decide +kernel, fun _ => rfl⟩
theorem fp_raw_fp_RX6_24 : FP RX6 24 17 2 (.array .int) true := ⟨(RX6, TX6, 10), tyX6, rfl, by decide, lays_5, gw_185, tyX6_ok, nmX6, rfl, by decide +kernel, fun _ => rfl⟩
theorem fp_raw_fp_RX6_27 : FP RX6 27 17 3 (.array .int) true := ⟨(RX6, TX6, 10), tyX6, rfl, by decide, lays_5, gw_187, tyX6_ok, nmX6, rfl, by decide +kernel, fun _ => rfl⟩
theorem fp_raw_fp_RX6_30 : FP RX6 30 17 4 (.array .int) true := ⟨(RX6, TX6, 10), tyX6, rfl, by decide, lays_5, gw_189, tyX6_ok, nmX6, rfl, by decide +kernel, fun _ => rfl⟩
theorem fp_raw_fp_RX6_33 : FP RX6 33 17 5 (.array .int) true := ⟨(RX6, TX6, 10), tyX6, rfl, by decide, lays_5, gw_190, tyX6_ok, nmX6, rfl, by decide +kernel, fun _ => rfl⟩
theorem fp_raw_fp_RX6_36 : FP RX6 36 17 6 (.array .int) true := ⟨(RX6, TX6, 10), tyX6, rfl, by decide, lays_5, gw_191, tyX6_ok, nmX6, rfl, by decide +kernel, fun _ => rfl⟩
theorem fp_raw_fp_RX6_39 : FP RX6 39 17 7 (.array .int) true := ⟨(RX6, TX6, 10), tyX6, rfl, by decide, lays_5, gw_192, tyX6_ok, nmX6, rfl, by decide +kernel, fun _ => rfl⟩
theorem fp_raw_fp_RX6_42 : FP RX6 42 17 8 .int false := ⟨(RX6, TX6, 10), tyX6, rfl, by decide, lays_5, gw_194, tyX6_ok, nmX6, rfl, by decide +kernel, fun h => by cases h⟩
theorem fp_raw_fp_RX6_46 : FP RX6 46 17 9 .int false := ⟨(RX6, TX6, 10), tyX6, rfl, by decide, lays_5, gw_196, tyX6_ok, nmX6, rfl, by decide +kernel, fun h => by cases h⟩
theorem fp_raw_fp_RX7_15 : FP RX7 15 18 4 .int false := ⟨(RX7, TX7, 11), tyX7, rfl, by decide, lays_6, gw_1058, tyX7_ok, nmX7, rfl, by decide +kernel, fun h => by cases h⟩
theorem fp_raw_fp_RX7_18 : FP RX7 18 18 5 .int false := ⟨(RX7, TX7, 11), tyX7, rfl, by decide, lays_6, gw_1060, tyX7_ok, nmX7, rfl, by decide +kernel, fun h => by cases h⟩
theorem fp_raw_fp_RX7_21 : FP RX7 21 18 6 .int false := ⟨(RX7, TX7, 11), tyX7, rfl, by decide, lays_6, gw_1062, tyX7_ok, nmX7, rfl, by decide +kernel, fun h => by cases h⟩
theorem fp_raw_fp_RX7_24 : FP RX7 24 18 7 .int false := ⟨(RX7, TX7, 11), tyX7, rfl, by decide, lays_6, gw_1064, tyX7_ok, nmX7, rfl, by decide +kernel, fun h => by cases h⟩
theorem fp_raw_fp_RX7_27 : FP RX7 27 18 8 .int false := ⟨(RX7, TX7, 11), tyX7, rfl, by decide, lays_6, gw_1066, tyX7_ok, nmX7, rfl, by decide +kernel, fun h => by cases h⟩
theorem fp_raw_fp_RX7_30 : FP RX7 30 18 9 .int false := ⟨(RX7, TX7, 11), tyX7, rfl, by decide, lays_6, gw_1068, tyX7_ok, nmX7, rfl, by decide +kernel, fun h => by cases h⟩
theorem fp_raw_fp_RX7_33 : FP RX7 33 18 10 .int false := ⟨(RX7, TX7, 11), tyX7, rfl, by decide, lays_6, gw_1070, tyX7_ok, nmX7, rfl, by decide +kernel, fun h => by cases h⟩
theorem fp_raw_fp_RX7_36 : FP RX7 36 18 0 .int true := ⟨(RX7, TX7, 11), tyX7, rfl, by decide, lays_6, gw_1050, tyX7_ok, nmX7, rfl, by decide +kernel, fun _ => rfl⟩
theorem fp_raw_fp_RX7_39 : FP RX7 39 18 1 .int true := ⟨(RX7, TX7, 11), tyX7, rfl, by decide, lays_6, gw_1052, tyX7_ok, nmX7, rfl, by decide +kernel, fun _ => rfl⟩
theorem fp_raw_fp_RX7_42 : FP RX7 42 18 2 .int true := ⟨(RX7, TX7, 11), tyX7, rfl, by decide, lays_6, gw_1054, tyX7_ok, nmX7, rfl, by decide +kernel, fun _ => rfl⟩
theorem fp_raw_fp_RX7_9 : FP RX7 9 18 3 .int false := ⟨(RX7, TX7, 11), tyX7, rfl, by decide, lays_6, gw_1056, tyX7_ok, nmX7, rfl, by decide +kernel, fun h => by cases h⟩
theorem fp_raw_fp_RX8_15 : FP RX8 15 19 0 .int true := ⟨(RX8, TX8, 4), tyX8, rfl, by decide, lays_7, gw_107, tyX8_ok, nmX8, rfl, by decide +kernel, fun _ => rfl⟩
theorem fp_raw_fp_RX8_18 : FP RX8 18 19 1 .int true := ⟨(RX8, TX8, 4), tyX8, rfl, by decide, lays_7, gw_108, tyX8_ok, nmX8, rfl, by decide +kernel, fun _ => rfl⟩
theorem fp_raw_fp_RX8_27 : FP RX8 27 19 2 (.array .int) true := ⟨(RX8, TX8, 4), tyX8, rfl, by decide, lays_7, gw_109, tyX8_ok, nmX8, rfl, by decide +kernel, fun _ => rfl⟩
theorem fp_raw_fp_RX8_9 : FP RX8 9 19 3 .int false := ⟨(RX8, TX8, 4), tyX8, rfl, by decide, lays_7, gw_111, tyX8_ok, nmX8, rfl, by decide +kernel, fun h => by cases h⟩
theorem fp_raw_fp_RX9_15 : FP RX9 15 20 0 .int true := ⟨(RX9, TX9, 5), tyX9, rfl, by decide, lays_8, gw_579, tyX9_ok, nmX9, rfl, by decide +kernel, fun _ => rfl⟩
theorem fp_raw_fp_RX9_18 : FP RX9 18 20 1 .int true := ⟨(RX9, TX9, 5), tyX9, rfl, by decide, lays_8, gw_580, tyX9_ok, nmX9, rfl, by decide +kernel, fun _ => rfl⟩
theorem fp_raw_fp_RX9_26 : FP RX9 26 20 2 (.object RX8) true := ⟨(RX9, TX9, 5), tyX9, rfl, by decide, lays_8, gw_581, tyX9_ok, nmX9, rfl, by decide +kernel, fun _ => rfl⟩
theorem fp_raw_fp_RX9_36 : FP RX9 36 20 3 (.array .int) true := ⟨(RX9, TX9, 5), tyX9, rfl, by decide, lays_8, gw_584, tyX9_ok, nmX9, rfl, by decide +kernel, fun _ => rfl⟩
theorem fp_raw_fp_RX9_9 : FP RX9 9 20 4 .int false := ⟨(RX9, TX9, 5), tyX9, rfl, by decide, lays_8, gw_586, tyX9_ok, nmX9, rfl, by decide +kernel, fun h => by cases h⟩
theorem fl_RX11_199_k24 : FL RX11 199 24 3 := ⟨(RX8, TX8, 4), rfl, by decide, lays_7, gw_115⟩
theorem fl_RX11_199_k25 : FL RX11 199 25 3 := ⟨(RX8, TX8, 4), rfl, by decide, lays_7, gw_115⟩
theorem fl_RX11_199_k26 : FL RX11 199 26 3 := ⟨(RX8, TX8, 4), rfl, by decide, lays_7, gw_115⟩
theorem fl_RX11_199_k27 : FL RX11 199 27 3 := ⟨(RX8, TX8, 4), rfl, by decide, lays_7, gw_115⟩
theorem fl_RX11_199_k28 : FL RX11 199 28 3 := ⟨(RX8, TX8, 4), rfl, by decide, lays_7, gw_115⟩
theorem fl_RX11_199_k29 : FL RX11 199 29 3 := ⟨(RX8, TX8, 4), rfl, by decide, lays_7, gw_115⟩
theorem fl_RX11_199_k30 : FL RX11 199 30 3 := ⟨(RX8, TX8, 4), rfl, by decide, lays_7, gw_115⟩
theorem fl_RX11_199_k31 : FL RX11 199 31 3 := ⟨(RX8, TX8, 4), rfl, by decide, lays_7, gw_115⟩
theorem fl_RX11_199_k32 : FL RX11 199 32 3 := ⟨(RX8, TX8, 4), rfl, by decide, lays_7, gw_115⟩
theorem fl_RX11_226_k31 : FL RX11 226 31 2 := ⟨(RX8, TX8, 4), rfl, by decide, lays_7, gw_110⟩
theorem fl_RX1_105_k32 : FL RX1 105 32 3 := ⟨(RX8, TX8, 4), rfl, by decide, lays_7, gw_114⟩
theorem fl_RX1_105_k33 : FL RX1 105 33 3 := ⟨(RX8, TX8, 4), rfl, by decide, lays_7, gw_114⟩
theorem fl_RX3_78_k34 : FL RX3 78 34 3 := ⟨(RX8, TX8, 4), rfl, by decide, lays_7, gw_113⟩
theorem fl_RX5_127_k33 : FL RX5 127 33 3 := ⟨(RX8, TX8, 4), rfl, by decide, lays_7, gw_116⟩
theorem fl_RX6_55_k24 : FL RX6 55 24 3 := ⟨(RX8, TX8, 4), rfl, by decide, lays_7, gw_112⟩
theorem fl_RX8_15_k24 : FL RX8 15 24 0 := ⟨(RX8, TX8, 4), rfl, by decide, lays_7, gw_107⟩
theorem fl_RX8_15_k25 : FL RX8 15 25 0 := ⟨(RX8, TX8, 4), rfl, by decide, lays_7, gw_107⟩
theorem fl_RX8_15_k26 : FL RX8 15 26 0 := ⟨(RX8, TX8, 4), rfl, by decide, lays_7, gw_107⟩
theorem fl_RX8_15_k27 : FL RX8 15 27 0 := ⟨(RX8, TX8, 4), rfl, by decide, lays_7, gw_107⟩
theorem fl_RX8_15_k28 : FL RX8 15 28 0 := ⟨(RX8, TX8, 4), rfl, by decide, lays_7, gw_107⟩
theorem fl_RX8_15_k29 : FL RX8 15 29 0 := ⟨(RX8, TX8, 4), rfl, by decide, lays_7, gw_107⟩
theorem fl_RX8_15_k30 : FL RX8 15 30 0 := ⟨(RX8, TX8, 4), rfl, by decide, lays_7, gw_107⟩
theorem fl_RX8_15_k31 : FL RX8 15 31 0 := ⟨(RX8, TX8, 4), rfl, by decide, lays_7, gw_107⟩
theorem fl_RX8_15_k32 : FL RX8 15 32 0 := ⟨(RX8, TX8, 4), rfl, by decide, lays_7, gw_107⟩
theorem fl_RX8_15_k33 : FL RX8 15 33 0 := ⟨(RX8, TX8, 4), rfl, by decide, lays_7, gw_107⟩
theorem fl_RX8_15_k34 : FL RX8 15 34 0 := ⟨(RX8, TX8, 4), rfl, by decide, lays_7, gw_107⟩
theorem fl_RX8_18_k24 : FL RX8 18 24 1 := ⟨(RX8, TX8, 4), rfl, by decide, lays_7, gw_108⟩
theorem fl_RX8_18_k25 : FL RX8 18 25 1 := ⟨(RX8, TX8, 4), rfl, by decide, lays_7, gw_108⟩
theorem fl_RX8_18_k26 : FL RX8 18 26 1 := ⟨(RX8, TX8, 4), rfl, by decide, lays_7, gw_108⟩
theorem fl_RX8_18_k27 : FL RX8 18 27 1 := ⟨(RX8, TX8, 4), rfl, by decide, lays_7, gw_108⟩
theorem fl_RX8_18_k28 : FL RX8 18 28 1 := ⟨(RX8, TX8, 4), rfl, by decide, lays_7, gw_108⟩
theorem fl_RX8_18_k29 : FL RX8 18 29 1 := ⟨(RX8, TX8, 4), rfl, by decide, lays_7, gw_108⟩
theorem fl_RX8_18_k30 : FL RX8 18 30 1 := ⟨(RX8, TX8, 4), rfl, by decide, lays_7, gw_108⟩
theorem fl_RX8_18_k31 : FL RX8 18 31 1 := ⟨(RX8, TX8, 4), rfl, by decide, lays_7, gw_108⟩
theorem fl_RX8_18_k32 : FL RX8 18 32 1 := ⟨(RX8, TX8, 4), rfl, by decide, lays_7, gw_108⟩
theorem fl_RX8_18_k33 : FL RX8 18 33 1 := ⟨(RX8, TX8, 4), rfl, by decide, lays_7, gw_108⟩
theorem fl_RX8_18_k34 : FL RX8 18 34 1 := ⟨(RX8, TX8, 4), rfl, by decide, lays_7, gw_108⟩
theorem fl_RX8_27_k24 : FL RX8 27 24 2 := ⟨(RX8, TX8, 4), rfl, by decide, lays_7, gw_109⟩
theorem fl_RX8_27_k25 : FL RX8 27 25 2 := ⟨(RX8, TX8, 4), rfl, by decide, lays_7, gw_109⟩
theorem fl_RX8_27_k26 : FL RX8 27 26 2 := ⟨(RX8, TX8, 4), rfl, by decide, lays_7, gw_109⟩
theorem fl_RX8_27_k27 : FL RX8 27 27 2 := ⟨(RX8, TX8, 4), rfl, by decide, lays_7, gw_109⟩
theorem fl_RX8_27_k28 : FL RX8 27 28 2 := ⟨(RX8, TX8, 4), rfl, by decide, lays_7, gw_109⟩
theorem fl_RX8_27_k29 : FL RX8 27 29 2 := ⟨(RX8, TX8, 4), rfl, by decide, lays_7, gw_109⟩
theorem fl_RX8_27_k30 : FL RX8 27 30 2 := ⟨(RX8, TX8, 4), rfl, by decide, lays_7, gw_109⟩
theorem fl_RX8_27_k31 : FL RX8 27 31 2 := ⟨(RX8, TX8, 4), rfl, by decide, lays_7, gw_109⟩
theorem fl_RX8_27_k32 : FL RX8 27 32 2 := ⟨(RX8, TX8, 4), rfl, by decide, lays_7, gw_109⟩
theorem fl_RX8_27_k33 : FL RX8 27 33 2 := ⟨(RX8, TX8, 4), rfl, by decide, lays_7, gw_109⟩
theorem fl_RX8_27_k34 : FL RX8 27 34 2 := ⟨(RX8, TX8, 4), rfl, by decide, lays_7, gw_109⟩
theorem fl_RX8_9_k24 : FL RX8 9 24 3 := ⟨(RX8, TX8, 4), rfl, by decide, lays_7, gw_111⟩
theorem fl_RX8_9_k25 : FL RX8 9 25 3 := ⟨(RX8, TX8, 4), rfl, by decide, lays_7, gw_111⟩
theorem fl_RX8_9_k26 : FL RX8 9 26 3 := ⟨(RX8, TX8, 4), rfl, by decide, lays_7, gw_111⟩
theorem fl_RX8_9_k27 : FL RX8 9 27 3 := ⟨(RX8, TX8, 4), rfl, by decide, lays_7, gw_111⟩
theorem fl_RX8_9_k28 : FL RX8 9 28 3 := ⟨(RX8, TX8, 4), rfl, by decide, lays_7, gw_111⟩
theorem fl_RX8_9_k29 : FL RX8 9 29 3 := ⟨(RX8, TX8, 4), rfl, by decide, lays_7, gw_111⟩
theorem fl_RX8_9_k30 : FL RX8 9 30 3 := ⟨(RX8, TX8, 4), rfl, by decide, lays_7, gw_111⟩
theorem fl_RX8_9_k31 : FL RX8 9 31 3 := ⟨(RX8, TX8, 4), rfl, by decide, lays_7, gw_111⟩
theorem fl_RX8_9_k32 : FL RX8 9 32 3 := ⟨(RX8, TX8, 4), rfl, by decide, lays_7, gw_111⟩
theorem fl_RX8_9_k33 : FL RX8 9 33 3 := ⟨(RX8, TX8, 4), rfl, by decide, lays_7, gw_111⟩
theorem fl_RX8_9_k34 : FL RX8 9 34 3 := ⟨(RX8, TX8, 4), rfl, by decide, lays_7, gw_111⟩
theorem fp_RX11_199_k31 : FP RX11 199 31 3 .int false := ⟨(RX8, TX8, 4), tyX8, rfl, by decide, lays_7, gw_115, tyX8_ok, nmX8, rfl, by decide +kernel, fun h => by cases h⟩
theorem fp_RX8_9_k24 : FP RX8 9 24 3 .int false := ⟨(RX8, TX8, 4), tyX8, rfl, by decide, lays_7, gw_111, tyX8_ok, nmX8, rfl, by decide +kernel, fun h => by cases h⟩
theorem fp_RX8_9_k25 : FP RX8 9 25 3 .int false := ⟨(RX8, TX8, 4), tyX8, rfl, by decide, lays_7, gw_111, tyX8_ok, nmX8, rfl, by decide +kernel, fun h => by cases h⟩
theorem fp_RX8_9_k26 : FP RX8 9 26 3 .int false := ⟨(RX8, TX8, 4), tyX8, rfl, by decide, lays_7, gw_111, tyX8_ok, nmX8, rfl, by decide +kernel, fun h => by cases h⟩
theorem fp_RX8_9_k27 : FP RX8 9 27 3 .int false := ⟨(RX8, TX8, 4), tyX8, rfl, by decide, lays_7, gw_111, tyX8_ok, nmX8, rfl, by decide +kernel, fun h => by cases h⟩
theorem fp_RX8_9_k28 : FP RX8 9 28 3 .int false := ⟨(RX8, TX8, 4), tyX8, rfl, by decide, lays_7, gw_111, tyX8_ok, nmX8, rfl, by decide +kernel, fun h => by cases h⟩
theorem fp_RX8_9_k29 : FP RX8 9 29 3 .int false := ⟨(RX8, TX8, 4), tyX8, rfl, by decide, lays_7, gw_111, tyX8_ok, nmX8, rfl, by decide +kernel, fun h => by cases h⟩
theorem fp_RX8_9_k30 : FP RX8 9 30 3 .int false := ⟨(RX8, TX8, 4), tyX8, rfl, by decide, lays_7, gw_111, tyX8_ok, nmX8, rfl, by decide +kernel, fun h => by cases h⟩
theorem fp_RX8_9_k31 : FP RX8 9 31 3 .int false := ⟨(RX8, TX8, 4), tyX8, rfl, by decide, lays_7, gw_111, tyX8_ok, nmX8, rfl, by decide +kernel, fun h => by cases h⟩
theorem fp_RX8_9_k32 : FP RX8 9 32 3 .int false := ⟨(RX8, TX8, 4), tyX8, rfl, by decide, lays_7, gw_111, tyX8_ok, nmX8, rfl, by decide +kernel, fun h => by cases h⟩
theorem fp_RX8_9_k33 : FP RX8 9 33 3 .int false := ⟨(RX8, TX8, 4), tyX8, rfl, by decide, lays_7, gw_111, tyX8_ok, nmX8, rfl, by decide +kernel, fun h => by cases h⟩
theorem fp_RX8_9_k34 : FP RX8 9 34 3 .int false := ⟨(RX8, TX8, 4), tyX8, rfl, by decide, lays_7, gw_111, tyX8_ok, nmX8, rfl, by decide +kernel, fun h => by cases h⟩
