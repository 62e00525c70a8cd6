set_option maxHeartbeats 2000000 in
theorem law_case_16 {p : Program} {l : Launch} {e : Env} {s : State} {m : MethodId} {below : List Frame} {meth : Method} {c : Code} {b L : Nat} {xs : Nat → Int32} {D : va_G} {dA : Nat → ClassId} {K : Kmap} {V : Vmap} {cells slots x m0 : Nat} {i : Int} (hI : LI K V x m0) (hR : REL K V x m0) (hL : L ≤ 4096) (h0 : 0 ≤ i) (h8 : i + 8 ≤ L) (hcs : cells + 8 ≤ 600000 ∧ slots + 2704 ≤ 7302250) (kk : ∀ (K1 : Kmap) (V1 : Vmap), LI K1 V1 x m0 → REL K1 V1 x m0 → LG p l e s m below meth c b L xs D dA K1 V1 (cells + 8) (slots + 2704) 2745 [some (.ref b), some (.ref x), some (.ref m0), some (ti i)] []) : LG p l e s m below meth c b L xs D dA K V cells slots 1002 [some (.ref b), some (.ref x), some (.ref m0), some (ti i)] [] := by
  have hR0 := hR.1
  have hA0 := hR.2.1
  have hT0 := hR.2.2.1
  have hY0 := hR.2.2.2.1
  have hP0 := hR.2.2.2.2.1
  have hK0 := hR.2.2.2.2.2.1
  have hS0 := hR.2.2.2.2.2.2
  unfold RLI at hR0
  refine LG.aload_n dL_law_1002 rfl rfl ?_
  refine LG.aload_n dL_law_1003 rfl rfl ?_
  refine LG.iload_n dL_law_1004 rfl rfl ?_
  refine LG.iconst dL_law_1005 ?_
  refine LG.iadd dL_law_1006 ?_
  refine LG.sld (Y := i + 1) dL_law_1007 (by omega) (by omega) hL ?_
  refine LG.aload_n dL_law_1008 rfl rfl ?_
  refine LG.iload_n dL_law_1009 rfl rfl ?_
  refine LG.iconst dL_law_1010 ?_
  refine LG.iadd dL_law_1011 ?_
  refine LG.sld (Y := i + 2) dL_law_1012 (by omega) (by omega) hL ?_
  refine LG.useWT (fun hW => ?_)
  refine LG.callV (ci := 10) (N := mX11_decides) (As := [ti (xv xs (i + 1)), ti (xv xs (i + 2))]) dL_law_1013 (RX11, TX11, 20) rfl gV_RL_85 hI.1 (t_X11_decides hI.1 xv_ir xv_ir) rfl [] rfl rfl (le_cs hcs rfl) (Nat.le_of_ble_eq_true rfl) (g_ip fun X7 K1 V2 r3 h4 hE5 hF6 => ?_)
  have hI10 : LI K1 V2 x m0 := ⟨hE5.obj (by decide) hI.1, hE5.obj (by decide) hI.2.1, (GX.frx hF6 hE5 hI.2.2.1 hW hI.2.1 (by decide +kernel)), (PX0.frx hF6 hE5 hI.2.2.2.1 hW hI.2.1 (by decide +kernel)), (NN.frx 4 3 4 rfl rfl hF6 hE5 hI.2.2.2.2.1 hW hI.1 (by decide +kernel)), (NN.frx 10 9 7 rfl rfl hF6 hE5 hI.2.2.2.2.2.1 hW hI.1 (by decide +kernel)), (PI.frx hI.2.2.2.2.2.2.1 hF6 hE5 hW hI.1 hI.2.2.2.2.1 (by decide +kernel)), (CWI.fr hI.2.2.2.2.2.2.2 hF6 hE5 hW hI.1 (by decide +kernel) (by decide +kernel) (by decide +kernel))⟩
  have hWp11 := hW
  have hY12 : YRL V2 x m0 := YRL.frx hY0 hF6 hE5 hW hI.1 hI.2.1 hI.2.2.2.2.1 (by decide +kernel) (by decide +kernel)
  have hT13 : TXE K1 V2 x m0 := TXE.frx hT0 hF6 hE5 hW hI.1 hI.2.1 (by decide +kernel)
  have hA14 : AB V2 x m0 := AB.frx hA0 hF6 hE5 hW hI.1 hI.2.1 hI.2.2.2.2.1 (by decide +kernel) (by decide +kernel) (Int.le_of_eq (vi_fr hF6 hI.2.1 (hE5.obj (by decide) hI.2.1) (by decide +kernel)).symm)
  have s15 : tdy V2 x = tdy V x := tdy_fr hF6 hE5 hW hI.1 (by decide +kernel) (by decide +kernel)
  have s16 : wsz V2 x = wsz V x := wsz_fr hF6 hE5 hW hI.1 (by decide +kernel) (by decide +kernel)
  have s17 : csz V2 x = csz V x := csz_fr hF6 hE5 hW hI.1 (by decide +kernel) (by decide +kernel)
  have s18 : dsz V2 x = dsz V x := dsz_fr hF6 hE5 hW hI.1 (by decide +kernel) (by decide +kernel)
  clear hW
  have s19 : vi V2 x 4 = vi V x 4 := vi_fr hF6 hI.1 (hE5.obj (by decide) hI.1) (by decide +kernel)
  have s20 : vi V2 x 10 = vi V x 10 := vi_fr hF6 hI.1 (hE5.obj (by decide) hI.1) (by decide +kernel)
  have s21 : vi V2 m0 9 = vi V m0 9 := vi_fr hF6 hI.2.1 (hE5.obj (by decide) hI.2.1) (by decide +kernel)
  have s22 : vi V2 m0 2 = vi V m0 2 := vi_fr hF6 hI.2.1 (hE5.obj (by decide) hI.2.1) (by decide +kernel)
  have s23 : vi V2 m0 91 = vi V m0 91 := vi_fr hF6 hI.2.1 (hE5.obj (by decide) hI.2.1) (by decide +kernel)
  have s24 : vi V2 m0 133 = vi V m0 133 := vi_fr hF6 hI.2.1 (hE5.obj (by decide) hI.2.1) (by decide +kernel)
  have s25 : vi V2 m0 120 = vi V m0 120 := vi_fr hF6 hI.2.1 (hE5.obj (by decide) hI.2.1) (by decide +kernel)
  have s26 : vi V2 x 8 = vi V x 8 := vi_fr hF6 hI.1 (hE5.obj (by decide) hI.1) (by decide +kernel)
  have s27 : vi V2 m0 66 = vi V m0 66 := vi_fr hF6 hI.2.1 (hE5.obj (by decide) hI.2.1) (by decide +kernel)
  have s28 : vi V2 m0 118 = vi V m0 118 := vi_fr hF6 hI.2.1 (hE5.obj (by decide) hI.2.1) (by decide +kernel)
  have hS29 : STE V2 x m0 := STE.frx hS0 hF6 hE5 hWp11 hI.1 hI.2.1 (by decide +kernel) (by decide +kernel)
  have hK30 : WKE V2 x m0 := WKE.frx hK0 hF6 hE5 hWp11 hI.1 hI.2.1 (by decide +kernel) (by decide +kernel)
  have hP31 : PLE V2 x m0 := PLE.frx hP0 hF6 hE5 hWp11 hI.1 hI.2.1 (by omega) (by decide +kernel) (by decide +kernel) (by decide +kernel) (by decide +kernel) (by decide +kernel) (by decide +kernel)
  refine LG.pop dL_law_1016 rfl ?_
  refine LG.aload_n dL_law_1017 rfl rfl ?_
  refine LG.aload_n dL_law_1018 rfl rfl ?_
  refine LG.iload_n dL_law_1019 rfl rfl ?_
  refine LG.iconst dL_law_1020 ?_
  refine LG.iadd dL_law_1021 ?_
  refine LG.sld (Y := i + 1) dL_law_1022 (by omega) (by omega) hL ?_
  refine LG.aload_n dL_law_1023 rfl rfl ?_
  refine LG.iload_n dL_law_1024 rfl rfl ?_
  refine LG.iconst dL_law_1025 ?_
  refine LG.iadd dL_law_1026 ?_
  refine LG.sld (Y := i + 2) dL_law_1027 (by omega) (by omega) hL ?_
  refine LG.useWT (fun hW => ?_)
  refine LG.callV (ci := 11) (N := mX12_decides) (As := [ti (xv xs (i + 1)), ti (xv xs (i + 2))]) dL_law_1028 (RX12, TX12, 151) rfl gV_RL_88 hI10.2.1 (t_X12_decides hI10.2.1 xv_ir xv_ir) rfl [] rfl rfl (le_csb hcs rfl) (Nat.le_of_ble_eq_true rfl) (g_ip fun X38 K32 V33 r34 h35 hE36 hF37 => ?_)
  have hI41 : LI K32 V33 x m0 := ⟨hE36.obj (by decide) hI10.1, hE36.obj (by decide) hI10.2.1, (GX.frx hF37 hE36 hI10.2.2.1 hW hI10.2.1 (by decide +kernel)), (PX0.frx hF37 hE36 hI10.2.2.2.1 hW hI10.2.1 (by decide +kernel)), (NN.frx 4 3 4 rfl rfl hF37 hE36 hI10.2.2.2.2.1 hW hI10.1 (by decide +kernel)), (NN.frx 10 9 7 rfl rfl hF37 hE36 hI10.2.2.2.2.2.1 hW hI10.1 (by decide +kernel)), (PI.frx hI10.2.2.2.2.2.2.1 hF37 hE36 hW hI10.1 hI10.2.2.2.2.1 (by decide +kernel)), (CWI.fr hI10.2.2.2.2.2.2.2 hF37 hE36 hW hI10.1 (by decide +kernel) (by decide +kernel) (by decide +kernel))⟩
  have hWp42 := hW
  have hY43 : YRL V33 x m0 := YRL.frx hY12 hF37 hE36 hW hI10.1 hI10.2.1 hI10.2.2.2.2.1 (by decide +kernel) (by decide +kernel)
  have hT44 : TXE K32 V33 x m0 := TXE.frx hT13 hF37 hE36 hW hI10.1 hI10.2.1 (by decide +kernel)
  have hA45 : AB V33 x m0 := AB.frx hA14 hF37 hE36 hW hI10.1 hI10.2.1 hI10.2.2.2.2.1 (by decide +kernel) (by decide +kernel) (Int.le_of_eq (vi_fr hF37 hI10.2.1 (hE36.obj (by decide) hI10.2.1) (by decide +kernel)).symm)
  have s46 : tdy V33 x = tdy V2 x := tdy_fr hF37 hE36 hW hI10.1 (by decide +kernel) (by decide +kernel)
  have s47 : wsz V33 x = wsz V2 x := wsz_fr hF37 hE36 hW hI10.1 (by decide +kernel) (by decide +kernel)
  have s48 : csz V33 x = csz V2 x := csz_fr hF37 hE36 hW hI10.1 (by decide +kernel) (by decide +kernel)
  have s49 : dsz V33 x = dsz V2 x := dsz_fr hF37 hE36 hW hI10.1 (by decide +kernel) (by decide +kernel)
  clear hW
  have s50 : vi V33 x 4 = vi V2 x 4 := vi_fr hF37 hI10.1 (hE36.obj (by decide) hI10.1) (by decide +kernel)
  have s51 : vi V33 x 10 = vi V2 x 10 := vi_fr hF37 hI10.1 (hE36.obj (by decide) hI10.1) (by decide +kernel)
  have s52 : vi V33 m0 9 = vi V2 m0 9 := vi_fr hF37 hI10.2.1 (hE36.obj (by decide) hI10.2.1) (by decide +kernel)
  have s53 : vi V33 m0 2 = vi V2 m0 2 := vi_fr hF37 hI10.2.1 (hE36.obj (by decide) hI10.2.1) (by decide +kernel)
  have s54 : vi V33 m0 91 = vi V2 m0 91 := vi_fr hF37 hI10.2.1 (hE36.obj (by decide) hI10.2.1) (by decide +kernel)
  have s55 : vi V33 m0 133 = vi V2 m0 133 := vi_fr hF37 hI10.2.1 (hE36.obj (by decide) hI10.2.1) (by decide +kernel)
  have s56 : vi V33 m0 120 = vi V2 m0 120 := vi_fr hF37 hI10.2.1 (hE36.obj (by decide) hI10.2.1) (by decide +kernel)
  have s57 : vi V33 x 8 = vi V2 x 8 := vi_fr hF37 hI10.1 (hE36.obj (by decide) hI10.1) (by decide +kernel)
  have s58 : vi V33 m0 66 = vi V2 m0 66 := vi_fr hF37 hI10.2.1 (hE36.obj (by decide) hI10.2.1) (by decide +kernel)
  have s59 : vi V33 m0 118 = vi V2 m0 118 := vi_fr hF37 hI10.2.1 (hE36.obj (by decide) hI10.2.1) (by decide +kernel)
  have hS60 : STE V33 x m0 := STE.frx hS29 hF37 hE36 hWp42 hI10.1 hI10.2.1 (by decide +kernel) (by decide +kernel)
  have hK61 : WKE V33 x m0 := WKE.frx hK30 hF37 hE36 hWp42 hI10.1 hI10.2.1 (by decide +kernel) (by decide +kernel)
  have hP62 : PLE V33 x m0 := PLE.frx hP31 hF37 hE36 hWp42 hI10.1 hI10.2.1 (by omega) (by decide +kernel) (by decide +kernel) (by decide +kernel) (by decide +kernel) (by decide +kernel) (by decide +kernel)
  refine LG.pop dL_law_1031 rfl ?_
  refine LG.goto (tgt := 2745) dL_law_1032 (by decide) ?_
  exact LG.widen (le_cs3 rfl) (kk _ _ hI41 (⟨by unfold RLI; omega, hA45, hT44, hY43, hP62, hK61, hS60⟩))

set_option maxHeartbeats 2000000 in
theorem law_case_17 {p : Program} {l : Launch} {e : Env} {s : State} {m : MethodId} {below : List Frame} {meth : Method} {c : Code} {b L : Nat} {xs : Nat → Int32} {D : va_G} {dA : Nat → ClassId} {K : Kmap} {V : Vmap} {cells slots x m0 : Nat} {i : Int} (hI : LI K V x m0) (hR : REL K V x m0) (hL : L ≤ 4096) (h0 : 0 ≤ i) (h8 : i + 8 ≤ L) (hcs : cells + 8 ≤ 600000 ∧ slots + 2704 ≤ 7302250) (kk : ∀ (K1 : Kmap) (V1 : Vmap), LI K1 V1 x m0 → REL K1 V1 x m0 → LG p l e s m below meth c b L xs D dA K1 V1 (cells + 8) (slots + 2704) 2745 [some (.ref b), some (.ref x), some (.ref m0), some (ti i)] []) : LG p l e s m below meth c b L xs D dA K V cells slots 1035 [some (.ref b), some (.ref x), some (.ref m0), some (ti i)] [] := by
  have hR0 := hR.1
  have hA0 := hR.2.1
  have hT0 := hR.2.2.1
  have hY0 := hR.2.2.2.1
  have hP0 := hR.2.2.2.2.1
  have hK0 := hR.2.2.2.2.2.1
  have hS0 := hR.2.2.2.2.2.2
  unfold RLI at hR0
  refine LG.aload_n dL_law_1035 rfl rfl ?_
  refine LG.aload_n dL_law_1036 rfl rfl ?_
  refine LG.iload_n dL_law_1037 rfl rfl ?_
  refine LG.iconst dL_law_1038 ?_
  refine LG.iadd dL_law_1039 ?_
  refine LG.sld (Y := i + 1) dL_law_1040 (by omega) (by omega) hL ?_
  refine LG.aload_n dL_law_1041 rfl rfl ?_
  refine LG.iload_n dL_law_1042 rfl rfl ?_
  refine LG.iconst dL_law_1043 ?_
  refine LG.iadd dL_law_1044 ?_
  refine LG.sld (Y := i + 2) dL_law_1045 (by omega) (by omega) hL ?_
  refine LG.aload_n dL_law_1046 rfl rfl ?_
  refine LG.iload_n dL_law_1047 rfl rfl ?_
  refine LG.iconst dL_law_1048 ?_
  refine LG.iadd dL_law_1049 ?_
  refine LG.sld (Y := i + 3) dL_law_1050 (by omega) (by omega) hL ?_
  refine LG.aload_n dL_law_1051 rfl rfl ?_
  refine LG.iload_n dL_law_1052 rfl rfl ?_
  refine LG.iconst dL_law_1053 ?_
  refine LG.iadd dL_law_1054 ?_
  refine LG.sld (Y := i + 4) dL_law_1055 (by omega) (by omega) hL ?_
  refine LG.aload_n dL_law_1056 rfl rfl ?_
  refine LG.iload_n dL_law_1057 rfl rfl ?_
  refine LG.iconst dL_law_1058 ?_
  refine LG.iadd dL_law_1059 ?_
  refine LG.sld (Y := i + 5) dL_law_1060 (by omega) (by omega) hL ?_
  refine LG.aload_n dL_law_1061 rfl rfl ?_
  refine LG.iload_n dL_law_1062 rfl rfl ?_
  refine LG.bipush dL_law_1063 rfl ?_
  refine LG.iadd dL_law_1065 ?_
  refine LG.sld (Y := i + 6) dL_law_1066 (by omega) (by omega) hL ?_
  refine LG.aload_n dL_law_1067 rfl rfl ?_
  refine LG.iload_n dL_law_1068 rfl rfl ?_
  refine LG.bipush dL_law_1069 rfl ?_
  refine LG.iadd dL_law_1071 ?_
  refine LG.sld (Y := i + 7) dL_law_1072 (by omega) (by omega) hL ?_
  refine LG.useWT (fun hW => ?_)
  refine LG.callV (ci := 10) (N := mX11_work) (As := [ti (xv xs (i + 1)), ti (xv xs (i + 2)), ti (xv xs (i + 3)), ti (xv xs (i + 4)), ti (xv xs (i + 5)), ti (xv xs (i + 6)), ti (xv xs (i + 7))]) dL_law_1073 (RX11, TX11, 20) rfl gV_RL_89 hI.1 (t_X11_work hI.1 xv_ir xv_ir xv_ir xv_ir xv_ir xv_ir xv_ir hI.2.2.2.2.1) rfl [] rfl rfl (le_cs hcs rfl) (Nat.le_of_ble_eq_true rfl) (g_ix fun X7 K1 V2 r3 h4 hE5 hF6 => ?_)
  have hI10 : LI K1 V2 x m0 := ⟨hE5.obj (by decide) hI.1, hE5.obj (by decide) hI.2.1, (GX.frx hF6 hE5 hI.2.2.1 hW hI.2.1 (by decide +kernel)), (PX0.frx hF6 hE5 hI.2.2.2.1 hW hI.2.1 (by decide +kernel)), (NN.frx 4 3 4 rfl rfl hF6 hE5 hI.2.2.2.2.1 hW hI.1 (by decide +kernel)), (NN.frx 10 9 7 rfl rfl hF6 hE5 hI.2.2.2.2.2.1 hW hI.1 (by decide +kernel)), (PI.frx hI.2.2.2.2.2.2.1 hF6 hE5 hW hI.1 hI.2.2.2.2.1 (by decide +kernel)), (CWI.fr hI.2.2.2.2.2.2.2 hF6 hE5 hW hI.1 (by decide +kernel) (by decide +kernel) (by decide +kernel))⟩
  have hWp11 := hW
  have hY12 : YRL V2 x m0 := YRL.frx hY0 hF6 hE5 hW hI.1 hI.2.1 hI.2.2.2.2.1 (by decide +kernel) (by decide +kernel)
  have hT13 : TXE K1 V2 x m0 := TXE.frx hT0 hF6 hE5 hW hI.1 hI.2.1 (by decide +kernel)
  have hA14 : AB V2 x m0 := AB.frx hA0 hF6 hE5 hW hI.1 hI.2.1 hI.2.2.2.2.1 (by decide +kernel) (by decide +kernel) (Int.le_of_eq (vi_fr hF6 hI.2.1 (hE5.obj (by decide) hI.2.1) (by decide +kernel)).symm)
  have s15 : tdy V2 x = tdy V x := tdy_fr hF6 hE5 hW hI.1 (by decide +kernel) (by decide +kernel)
  have s16 : wsz V2 x = wsz V x := wsz_fr hF6 hE5 hW hI.1 (by decide +kernel) (by decide +kernel)
  have s17 : csz V2 x = csz V x := csz_fr hF6 hE5 hW hI.1 (by decide +kernel) (by decide +kernel)
  have s18 : dsz V2 x = dsz V x := dsz_fr hF6 hE5 hW hI.1 (by decide +kernel) (by decide +kernel)
  clear hW
  have s19 : vi V2 x 4 = vi V x 4 := vi_fr hF6 hI.1 (hE5.obj (by decide) hI.1) (by decide +kernel)
  have s20 : vi V2 x 10 = vi V x 10 := vi_fr hF6 hI.1 (hE5.obj (by decide) hI.1) (by decide +kernel)
  have s21 : vi V2 m0 9 = vi V m0 9 := vi_fr hF6 hI.2.1 (hE5.obj (by decide) hI.2.1) (by decide +kernel)
  have s22 : vi V2 m0 2 = vi V m0 2 := vi_fr hF6 hI.2.1 (hE5.obj (by decide) hI.2.1) (by decide +kernel)
  have s23 : vi V2 m0 91 = vi V m0 91 := vi_fr hF6 hI.2.1 (hE5.obj (by decide) hI.2.1) (by decide +kernel)
  have s24 : vi V2 m0 133 = vi V m0 133 := vi_fr hF6 hI.2.1 (hE5.obj (by decide) hI.2.1) (by decide +kernel)
  have s25 : vi V2 m0 120 = vi V m0 120 := vi_fr hF6 hI.2.1 (hE5.obj (by decide) hI.2.1) (by decide +kernel)
  have s26 : vi V2 m0 66 = vi V m0 66 := vi_fr hF6 hI.2.1 (hE5.obj (by decide) hI.2.1) (by decide +kernel)
  have s27 : vi V2 m0 118 = vi V m0 118 := vi_fr hF6 hI.2.1 (hE5.obj (by decide) hI.2.1) (by decide +kernel)
  have hS28 : STE V2 x m0 := STE.frx hS0 hF6 hE5 hWp11 hI.1 hI.2.1 (by decide +kernel) (by decide +kernel)
  have hP29 : PLE V2 x m0 := PLE.frx hP0 hF6 hE5 hWp11 hI.1 hI.2.1 (by omega) (by decide +kernel) (by decide +kernel) (by decide +kernel) (by decide +kernel) (by decide +kernel) (by decide +kernel)
  refine LG.pop dL_law_1076 rfl ?_
  refine LG.aload_n dL_law_1077 rfl rfl ?_
  refine LG.aload_n dL_law_1078 rfl rfl ?_
  refine LG.iload_n dL_law_1079 rfl rfl ?_
  refine LG.iconst dL_law_1080 ?_
  refine LG.iadd dL_law_1081 ?_
  refine LG.sld (Y := i + 1) dL_law_1082 (by omega) (by omega) hL ?_
  refine LG.aload_n dL_law_1083 rfl rfl ?_
  refine LG.iload_n dL_law_1084 rfl rfl ?_
  refine LG.iconst dL_law_1085 ?_
  refine LG.iadd dL_law_1086 ?_
  refine LG.sld (Y := i + 2) dL_law_1087 (by omega) (by omega) hL ?_
  refine LG.aload_n dL_law_1088 rfl rfl ?_
  refine LG.iload_n dL_law_1089 rfl rfl ?_
  refine LG.iconst dL_law_1090 ?_
  refine LG.iadd dL_law_1091 ?_
  refine LG.sld (Y := i + 3) dL_law_1092 (by omega) (by omega) hL ?_
  refine LG.aload_n dL_law_1093 rfl rfl ?_
  refine LG.iload_n dL_law_1094 rfl rfl ?_
  refine LG.iconst dL_law_1095 ?_
  refine LG.iadd dL_law_1096 ?_
  refine LG.sld (Y := i + 4) dL_law_1097 (by omega) (by omega) hL ?_
  refine LG.aload_n dL_law_1098 rfl rfl ?_
  refine LG.iload_n dL_law_1099 rfl rfl ?_
  refine LG.iconst dL_law_1100 ?_
  refine LG.iadd dL_law_1101 ?_
  refine LG.sld (Y := i + 5) dL_law_1102 (by omega) (by omega) hL ?_
  refine LG.aload_n dL_law_1103 rfl rfl ?_
  refine LG.iload_n dL_law_1104 rfl rfl ?_
  refine LG.bipush dL_law_1105 rfl ?_
  refine LG.iadd dL_law_1107 ?_
  refine LG.sld (Y := i + 6) dL_law_1108 (by omega) (by omega) hL ?_
  refine LG.aload_n dL_law_1109 rfl rfl ?_
  refine LG.iload_n dL_law_1110 rfl rfl ?_
  refine LG.bipush dL_law_1111 rfl ?_
  refine LG.iadd dL_law_1113 ?_
  refine LG.sld (Y := i + 7) dL_law_1114 (by omega) (by omega) hL ?_
  refine LG.useWT (fun hW => ?_)
  refine LG.callV (ci := 11) (N := mX12_work) (As := [ti (xv xs (i + 1)), ti (xv xs (i + 2)), ti (xv xs (i + 3)), ti (xv xs (i + 4)), ti (xv xs (i + 5)), ti (xv xs (i + 6)), ti (xv xs (i + 7))]) dL_law_1115 (RX12, TX12, 151) rfl gV_RL_93 hI10.2.1 (t_X12_work hI10.2.1 xv_ir xv_ir xv_ir xv_ir xv_ir xv_ir xv_ir) rfl [] rfl rfl (le_csb hcs rfl) (Nat.le_of_ble_eq_true rfl) (g_is fun X36 K30 V31 r32 h33 hE34 hF35 => ?_)
  have hI39 : LI K30 V31 x m0 := ⟨hE34.obj (by decide) hI10.1, hE34.obj (by decide) hI10.2.1, (GX.frx hF35 hE34 hI10.2.2.1 hW hI10.2.1 (by decide +kernel)), (PX0.frx hF35 hE34 hI10.2.2.2.1 hW hI10.2.1 (by decide +kernel)), (NN.frx 4 3 4 rfl rfl hF35 hE34 hI10.2.2.2.2.1 hW hI10.1 (by decide +kernel)), (NN.frx 10 9 7 rfl rfl hF35 hE34 hI10.2.2.2.2.2.1 hW hI10.1 (by decide +kernel)), (PI.frx hI10.2.2.2.2.2.2.1 hF35 hE34 hW hI10.1 hI10.2.2.2.2.1 (by decide +kernel)), (CWI.fr hI10.2.2.2.2.2.2.2 hF35 hE34 hW hI10.1 (by decide +kernel) (by decide +kernel) (by decide +kernel))⟩
  have hWp40 := hW
  have hY41 : YRL V31 x m0 := YRL.frx hY12 hF35 hE34 hW hI10.1 hI10.2.1 hI10.2.2.2.2.1 (by decide +kernel) (by decide +kernel)
  have hT42 : TXE K30 V31 x m0 := TXE.frx hT13 hF35 hE34 hW hI10.1 hI10.2.1 (by decide +kernel)
  have hA43 : AB V31 x m0 := AB.frx hA14 hF35 hE34 hW hI10.1 hI10.2.1 hI10.2.2.2.2.1 (by decide +kernel) (by decide +kernel) (Int.le_of_eq (vi_fr hF35 hI10.2.1 (hE34.obj (by decide) hI10.2.1) (by decide +kernel)).symm)
  have s44 : tdy V31 x = tdy V2 x := tdy_fr hF35 hE34 hW hI10.1 (by decide +kernel) (by decide +kernel)
  have s45 : wsz V31 x = wsz V2 x := wsz_fr hF35 hE34 hW hI10.1 (by decide +kernel) (by decide +kernel)
  have s46 : csz V31 x = csz V2 x := csz_fr hF35 hE34 hW hI10.1 (by decide +kernel) (by decide +kernel)
  have s47 : dsz V31 x = dsz V2 x := dsz_fr hF35 hE34 hW hI10.1 (by decide +kernel) (by decide +kernel)
  clear hW
  have s48 : vi V31 x 4 = vi V2 x 4 := vi_fr hF35 hI10.1 (hE34.obj (by decide) hI10.1) (by decide +kernel)
  have s49 : vi V31 x 10 = vi V2 x 10 := vi_fr hF35 hI10.1 (hE34.obj (by decide) hI10.1) (by decide +kernel)
  have s50 : vi V31 m0 9 = vi V2 m0 9 := vi_fr hF35 hI10.2.1 (hE34.obj (by decide) hI10.2.1) (by decide +kernel)
  have s51 : vi V31 m0 2 = vi V2 m0 2 := vi_fr hF35 hI10.2.1 (hE34.obj (by decide) hI10.2.1) (by decide +kernel)
  have s52 : vi V31 m0 91 = vi V2 m0 91 := vi_fr hF35 hI10.2.1 (hE34.obj (by decide) hI10.2.1) (by decide +kernel)
  have s53 : vi V31 m0 133 = vi V2 m0 133 := vi_fr hF35 hI10.2.1 (hE34.obj (by decide) hI10.2.1) (by decide +kernel)
  have s54 : vi V31 m0 120 = vi V2 m0 120 := vi_fr hF35 hI10.2.1 (hE34.obj (by decide) hI10.2.1) (by decide +kernel)
  have s55 : vi V31 x 8 = vi V2 x 8 := vi_fr hF35 hI10.1 (hE34.obj (by decide) hI10.1) (by decide +kernel)
  have s56 : vi V31 m0 118 = vi V2 m0 118 := vi_fr hF35 hI10.2.1 (hE34.obj (by decide) hI10.2.1) (by decide +kernel)
  have hz58 := (hWp40.int hI10.2.1 (j := 66) (Nat.le_of_ble_eq_true rfl) rfl).2
  have hKw57 := WKD.both hP0 hI.2.1 hWp11 hE5 hF6 (by omega) (by omega) (by omega) h4.2.1 (h33.2.1) (by decide +kernel)
  have hS59 : STE V31 x m0 := STE.frx hS28 hF35 hE34 hWp40 hI10.1 hI10.2.1 (by decide +kernel) (by decide +kernel)
  have hP60 : PLE V31 x m0 := PLE.frx hP29 hF35 hE34 hWp40 hI10.1 hI10.2.1 (by omega) (by decide +kernel) (by decide +kernel) (by decide +kernel) (by decide +kernel) (by decide +kernel) (by decide +kernel)
  have hKk61 := WKE.work hK0 hI.1 hI.2.1 hWp11 hWp40 hE5 hF6 hE34 hF35 (by omega) (by omega) (h4.2.2) (h33.2.2) (by decide +kernel) (by decide +kernel)
  refine LG.pop dL_law_1118 rfl ?_
  refine LG.goto (tgt := 2745) dL_law_1119 (by decide) ?_
  exact LG.widen (le_cs3 rfl) (kk _ _ hI39 (⟨by unfold RLI; omega, hA43, hT42, hY41, hP60, hKk61, hS59⟩))

set_option maxHeartbeats 2000000 in
theorem law_case_18 {p : Program} {l : Launch} {e : Env} {s : State} {m : MethodId} {below : List Frame} {meth : Method} {c : Code} {b L : Nat} {xs : Nat → Int32} {D : va_G} {dA : Nat → ClassId} {K : Kmap} {V : Vmap} {cells slots x m0 : Nat} {i : Int} (hI : LI K V x m0) (hR : REL K V x m0) (hL : L ≤ 4096) (h0 : 0 ≤ i) (h8 : i + 8 ≤ L) (hcs : cells + 8 ≤ 600000 ∧ slots + 2704 ≤ 7302250) (kk : ∀ (K1 : Kmap) (V1 : Vmap), LI K1 V1 x m0 → REL K1 V1 x m0 → LG p l e s m below meth c b L xs D dA K1 V1 (cells + 8) (slots + 2704) 2745 [some (.ref b), some (.ref x), some (.ref m0), some (ti i)] []) : LG p l e s m below meth c b L xs D dA K V cells slots 1122 [some (.ref b), some (.ref x), some (.ref m0), some (ti i)] [] := by
  have hR0 := hR.1
  have hA0 := hR.2.1
  have hT0 := hR.2.2.1
  have hY0 := hR.2.2.2.1
  have hP0 := hR.2.2.2.2.1
  have hK0 := hR.2.2.2.2.2.1
  have hS0 := hR.2.2.2.2.2.2
  unfold RLI at hR0
  refine LG.aload_n dL_law_1122 rfl rfl ?_
  refine LG.aload_n dL_law_1123 rfl rfl ?_
  refine LG.iload_n dL_law_1124 rfl rfl ?_
  refine LG.iconst dL_law_1125 ?_
  refine LG.iadd dL_law_1126 ?_
  refine LG.sld (Y := i + 1) dL_law_1127 (by omega) (by omega) hL ?_
  refine LG.aload_n dL_law_1128 rfl rfl ?_
  refine LG.iload_n dL_law_1129 rfl rfl ?_
  refine LG.iconst dL_law_1130 ?_
  refine LG.iadd dL_law_1131 ?_
  refine LG.sld (Y := i + 2) dL_law_1132 (by omega) (by omega) hL ?_
  refine LG.useWT (fun hW => ?_)
  refine LG.callV (ci := 10) (N := mX11_tell) (As := [ti (xv xs (i + 1)), ti (xv xs (i + 2))]) dL_law_1133 (RX11, TX11, 20) rfl gV_RL_94 hI.1 (t_X11_tell hI.1 xv_ir xv_ir) rfl [] rfl rfl (le_cs hcs rfl) (Nat.le_of_ble_eq_true rfl) (g_is fun X7 K1 V2 r3 h4 hE5 hF6 => ?_)
  have hI10 : LI K1 V2 x m0 := ⟨hE5.obj (by decide) hI.1, hE5.obj (by decide) hI.2.1, (GX.frx hF6 hE5 hI.2.2.1 hW hI.2.1 (by decide +kernel)), (PX0.frx hF6 hE5 hI.2.2.2.1 hW hI.2.1 (by decide +kernel)), (NN.frx 4 3 4 rfl rfl hF6 hE5 hI.2.2.2.2.1 hW hI.1 (by decide +kernel)), (NN.frx 10 9 7 rfl rfl hF6 hE5 hI.2.2.2.2.2.1 hW hI.1 (by decide +kernel)), (PI.frx hI.2.2.2.2.2.2.1 hF6 hE5 hW hI.1 hI.2.2.2.2.1 (by decide +kernel)), (CWI.fr hI.2.2.2.2.2.2.2 hF6 hE5 hW hI.1 (by decide +kernel) (by decide +kernel) (by decide +kernel))⟩
  have hWp11 := hW
  have hY12 : YRL V2 x m0 := YRL.frx hY0 hF6 hE5 hW hI.1 hI.2.1 hI.2.2.2.2.1 (by decide +kernel) (by decide +kernel)
  have hT13 : TXE K1 V2 x m0 := TXE.frx hT0 hF6 hE5 hW hI.1 hI.2.1 (by decide +kernel)
  have hA14 : AB V2 x m0 := AB.frx hA0 hF6 hE5 hW hI.1 hI.2.1 hI.2.2.2.2.1 (by decide +kernel) (by decide +kernel) (Int.le_of_eq (vi_fr hF6 hI.2.1 (hE5.obj (by decide) hI.2.1) (by decide +kernel)).symm)
  have s15 : tdy V2 x = tdy V x := tdy_fr hF6 hE5 hW hI.1 (by decide +kernel) (by decide +kernel)
  have s16 : wsz V2 x = wsz V x := wsz_fr hF6 hE5 hW hI.1 (by decide +kernel) (by decide +kernel)
  have s17 : csz V2 x = csz V x := csz_fr hF6 hE5 hW hI.1 (by decide +kernel) (by decide +kernel)
  have s18 : dsz V2 x = dsz V x := dsz_fr hF6 hE5 hW hI.1 (by decide +kernel) (by decide +kernel)
  clear hW
  have s19 : vi V2 x 4 = vi V x 4 := vi_fr hF6 hI.1 (hE5.obj (by decide) hI.1) (by decide +kernel)
  have s20 : vi V2 x 10 = vi V x 10 := vi_fr hF6 hI.1 (hE5.obj (by decide) hI.1) (by decide +kernel)
  have s21 : vi V2 m0 9 = vi V m0 9 := vi_fr hF6 hI.2.1 (hE5.obj (by decide) hI.2.1) (by decide +kernel)
  have s22 : vi V2 m0 2 = vi V m0 2 := vi_fr hF6 hI.2.1 (hE5.obj (by decide) hI.2.1) (by decide +kernel)
  have s23 : vi V2 m0 91 = vi V m0 91 := vi_fr hF6 hI.2.1 (hE5.obj (by decide) hI.2.1) (by decide +kernel)
  have s24 : vi V2 m0 133 = vi V m0 133 := vi_fr hF6 hI.2.1 (hE5.obj (by decide) hI.2.1) (by decide +kernel)
  have s25 : vi V2 m0 120 = vi V m0 120 := vi_fr hF6 hI.2.1 (hE5.obj (by decide) hI.2.1) (by decide +kernel)
  have s26 : vi V2 x 8 = vi V x 8 := vi_fr hF6 hI.1 (hE5.obj (by decide) hI.1) (by decide +kernel)
  have s27 : vi V2 m0 66 = vi V m0 66 := vi_fr hF6 hI.2.1 (hE5.obj (by decide) hI.2.1) (by decide +kernel)
  have s28 : vi V2 m0 118 = vi V m0 118 := vi_fr hF6 hI.2.1 (hE5.obj (by decide) hI.2.1) (by decide +kernel)
  have hS29 : STE V2 x m0 := STE.frx hS0 hF6 hE5 hWp11 hI.1 hI.2.1 (by decide +kernel) (by decide +kernel)
  have hP30 : PLE V2 x m0 := PLE.frx hP0 hF6 hE5 hWp11 hI.1 hI.2.1 (by omega) (by decide +kernel) (by decide +kernel) (by decide +kernel) (by decide +kernel) (by decide +kernel) (by decide +kernel)
  refine LG.pop dL_law_1136 rfl ?_
  refine LG.aload_n dL_law_1137 rfl rfl ?_
  refine LG.aload_n dL_law_1138 rfl rfl ?_
  refine LG.iload_n dL_law_1139 rfl rfl ?_
  refine LG.iconst dL_law_1140 ?_
  refine LG.iadd dL_law_1141 ?_
  refine LG.sld (Y := i + 1) dL_law_1142 (by omega) (by omega) hL ?_
  refine LG.aload_n dL_law_1143 rfl rfl ?_
  refine LG.iload_n dL_law_1144 rfl rfl ?_
  refine LG.iconst dL_law_1145 ?_
  refine LG.iadd dL_law_1146 ?_
  refine LG.sld (Y := i + 2) dL_law_1147 (by omega) (by omega) hL ?_
  refine LG.useWT (fun hW => ?_)
  refine LG.callV (ci := 11) (N := mX12_tell) (As := [ti (xv xs (i + 1)), ti (xv xs (i + 2))]) dL_law_1148 (RX12, TX12, 151) rfl gV_RL_97 hI10.2.1 (t_X12_tell hI10.2.1 xv_ir xv_ir) rfl [] rfl rfl (le_csb hcs rfl) (Nat.le_of_ble_eq_true rfl) (g_is fun X37 K31 V32 r33 h34 hE35 hF36 => ?_)
  have hI40 : LI K31 V32 x m0 := ⟨hE35.obj (by decide) hI10.1, hE35.obj (by decide) hI10.2.1, (GX.frx hF36 hE35 hI10.2.2.1 hW hI10.2.1 (by decide +kernel)), (PX0.frx hF36 hE35 hI10.2.2.2.1 hW hI10.2.1 (by decide +kernel)), (NN.frx 4 3 4 rfl rfl hF36 hE35 hI10.2.2.2.2.1 hW hI10.1 (by decide +kernel)), (NN.frx 10 9 7 rfl rfl hF36 hE35 hI10.2.2.2.2.2.1 hW hI10.1 (by decide +kernel)), (PI.frx hI10.2.2.2.2.2.2.1 hF36 hE35 hW hI10.1 hI10.2.2.2.2.1 (by decide +kernel)), (CWI.fr hI10.2.2.2.2.2.2.2 hF36 hE35 hW hI10.1 (by decide +kernel) (by decide +kernel) (by decide +kernel))⟩
  have hWp41 := hW
  have hY42 : YRL V32 x m0 := YRL.frx hY12 hF36 hE35 hW hI10.1 hI10.2.1 hI10.2.2.2.2.1 (by decide +kernel) (by decide +kernel)
  have hT43 : TXE K31 V32 x m0 := TXE.frx hT13 hF36 hE35 hW hI10.1 hI10.2.1 (by decide +kernel)
  have hA44 : AB V32 x m0 := AB.frx hA14 hF36 hE35 hW hI10.1 hI10.2.1 hI10.2.2.2.2.1 (by decide +kernel) (by decide +kernel) (Int.le_of_eq (vi_fr hF36 hI10.2.1 (hE35.obj (by decide) hI10.2.1) (by decide +kernel)).symm)
  have s45 : tdy V32 x = tdy V2 x := tdy_fr hF36 hE35 hW hI10.1 (by decide +kernel) (by decide +kernel)
  have s46 : wsz V32 x = wsz V2 x := wsz_fr hF36 hE35 hW hI10.1 (by decide +kernel) (by decide +kernel)
  have s47 : csz V32 x = csz V2 x := csz_fr hF36 hE35 hW hI10.1 (by decide +kernel) (by decide +kernel)
  have s48 : dsz V32 x = dsz V2 x := dsz_fr hF36 hE35 hW hI10.1 (by decide +kernel) (by decide +kernel)
  clear hW
  have s49 : vi V32 x 4 = vi V2 x 4 := vi_fr hF36 hI10.1 (hE35.obj (by decide) hI10.1) (by decide +kernel)
  have s50 : vi V32 x 10 = vi V2 x 10 := vi_fr hF36 hI10.1 (hE35.obj (by decide) hI10.1) (by decide +kernel)
  have s51 : vi V32 m0 9 = vi V2 m0 9 := vi_fr hF36 hI10.2.1 (hE35.obj (by decide) hI10.2.1) (by decide +kernel)
  have s52 : vi V32 m0 2 = vi V2 m0 2 := vi_fr hF36 hI10.2.1 (hE35.obj (by decide) hI10.2.1) (by decide +kernel)
  have s53 : vi V32 m0 91 = vi V2 m0 91 := vi_fr hF36 hI10.2.1 (hE35.obj (by decide) hI10.2.1) (by decide +kernel)
  have s54 : vi V32 m0 133 = vi V2 m0 133 := vi_fr hF36 hI10.2.1 (hE35.obj (by decide) hI10.2.1) (by decide +kernel)
  have s55 : vi V32 m0 120 = vi V2 m0 120 := vi_fr hF36 hI10.2.1 (hE35.obj (by decide) hI10.2.1) (by decide +kernel)
  have s56 : vi V32 x 8 = vi V2 x 8 := vi_fr hF36 hI10.1 (hE35.obj (by decide) hI10.1) (by decide +kernel)
  have s57 : vi V32 m0 66 = vi V2 m0 66 := vi_fr hF36 hI10.2.1 (hE35.obj (by decide) hI10.2.1) (by decide +kernel)
  have s58 : vi V32 m0 118 = vi V2 m0 118 := vi_fr hF36 hI10.2.1 (hE35.obj (by decide) hI10.2.1) (by decide +kernel)
  have hS59 : STE V32 x m0 := STE.frx hS29 hF36 hE35 hWp41 hI10.1 hI10.2.1 (by decide +kernel) (by decide +kernel)
  have hP60 : PLE V32 x m0 := PLE.frx hP30 hF36 hE35 hWp41 hI10.1 hI10.2.1 (by omega) (by decide +kernel) (by decide +kernel) (by decide +kernel) (by decide +kernel) (by decide +kernel) (by decide +kernel)
  have hKk61 := WKE.set hK0 hI.1 hI.2.1 hWp11 hWp41 hE5 hF6 hE35 hF36 (congrArg (TLr _) (by omega)) (h4.2.2.2) (h34.2.2.2) (by decide +kernel) (by decide +kernel)
  have hKb62 := hKk61.1
  refine LG.pop dL_law_1151 rfl ?_
  refine LG.goto (tgt := 2745) dL_law_1152 (by decide) ?_
  exact LG.widen (le_cs3 rfl) (kk _ _ hI40 (⟨by unfold RLI; omega, hA44, hT43, hY42, hP60, hKk61.2, hS59⟩))

set_option maxHeartbeats 2000000 in
theorem law_case_19 {p : Program} {l : Launch} {e : Env} {s : State} {m : MethodId} {below : List Frame} {meth : Method} {c : Code} {b L : Nat} {xs : Nat → Int32} {D : va_G} {dA : Nat → ClassId} {K : Kmap} {V : Vmap} {cells slots x m0 : Nat} {i : Int} (hI : LI K V x m0) (hR : REL K V x m0) (hL : L ≤ 4096) (h0 : 0 ≤ i) (h8 : i + 8 ≤ L) (hcs : cells + 8 ≤ 600000 ∧ slots + 2704 ≤ 7302250) (kk : ∀ (K1 : Kmap) (V1 : Vmap), LI K1 V1 x m0 → REL K1 V1 x m0 → LG p l e s m below meth c b L xs D dA K1 V1 (cells + 8) (slots + 2704) 2745 [some (.ref b), some (.ref x), some (.ref m0), some (ti i)] []) : LG p l e s m below meth c b L xs D dA K V cells slots 1155 [some (.ref b), some (.ref x), some (.ref m0), some (ti i)] [] := by
  have hR0 := hR.1
  have hA0 := hR.2.1
  have hT0 := hR.2.2.1
  have hY0 := hR.2.2.2.1
  have hP0 := hR.2.2.2.2.1
  have hK0 := hR.2.2.2.2.2.1
  have hS0 := hR.2.2.2.2.2.2
  unfold RLI at hR0
  refine LG.aload_n dL_law_1155 rfl rfl ?_
  refine LG.aload_n dL_law_1156 rfl rfl ?_
  refine LG.iload_n dL_law_1157 rfl rfl ?_
  refine LG.iconst dL_law_1158 ?_
  refine LG.iadd dL_law_1159 ?_
  refine LG.sld (Y := i + 1) dL_law_1160 (by omega) (by omega) hL ?_
  refine LG.aload_n dL_law_1161 rfl rfl ?_
  refine LG.iload_n dL_law_1162 rfl rfl ?_
  refine LG.iconst dL_law_1163 ?_
  refine LG.iadd dL_law_1164 ?_
  refine LG.sld (Y := i + 2) dL_law_1165 (by omega) (by omega) hL ?_
  refine LG.useWT (fun hW => ?_)
  refine LG.callV (ci := 10) (N := mX11_study) (As := [ti (xv xs (i + 1)), ti (xv xs (i + 2))]) dL_law_1166 (RX11, TX11, 20) rfl gV_RL_98 hI.1 (t_X11_study hI.1 xv_ir xv_ir) rfl [] rfl rfl (le_cs hcs rfl) (Nat.le_of_ble_eq_true rfl) (g_is fun X7 K1 V2 r3 h4 hE5 hF6 => ?_)
  have hI10 : LI K1 V2 x m0 := ⟨hE5.obj (by decide) hI.1, hE5.obj (by decide) hI.2.1, (GX.frx hF6 hE5 hI.2.2.1 hW hI.2.1 (by decide +kernel)), (PX0.frx hF6 hE5 hI.2.2.2.1 hW hI.2.1 (by decide +kernel)), (NN.frx 4 3 4 rfl rfl hF6 hE5 hI.2.2.2.2.1 hW hI.1 (by decide +kernel)), (NN.frx 10 9 7 rfl rfl hF6 hE5 hI.2.2.2.2.2.1 hW hI.1 (by decide +kernel)), (PI.frx hI.2.2.2.2.2.2.1 hF6 hE5 hW hI.1 hI.2.2.2.2.1 (by decide +kernel)), (CWI.fr hI.2.2.2.2.2.2.2 hF6 hE5 hW hI.1 (by decide +kernel) (by decide +kernel) (by decide +kernel))⟩
  have hWp11 := hW
  have hY12 : YRL V2 x m0 := YRL.frx hY0 hF6 hE5 hW hI.1 hI.2.1 hI.2.2.2.2.1 (by decide +kernel) (by decide +kernel)
  have hT13 : TXE K1 V2 x m0 := TXE.frx hT0 hF6 hE5 hW hI.1 hI.2.1 (by decide +kernel)
  have hA14 : AB V2 x m0 := AB.frx hA0 hF6 hE5 hW hI.1 hI.2.1 hI.2.2.2.2.1 (by decide +kernel) (by decide +kernel) (Int.le_of_eq (vi_fr hF6 hI.2.1 (hE5.obj (by decide) hI.2.1) (by decide +kernel)).symm)
  have s15 : tdy V2 x = tdy V x := tdy_fr hF6 hE5 hW hI.1 (by decide +kernel) (by decide +kernel)
  have s16 : wsz V2 x = wsz V x := wsz_fr hF6 hE5 hW hI.1 (by decide +kernel) (by decide +kernel)
  have s17 : csz V2 x = csz V x := csz_fr hF6 hE5 hW hI.1 (by decide +kernel) (by decide +kernel)
  have s18 : dsz V2 x = dsz V x := dsz_fr hF6 hE5 hW hI.1 (by decide +kernel) (by decide +kernel)
  clear hW
  have s19 : vi V2 x 4 = vi V x 4 := vi_fr hF6 hI.1 (hE5.obj (by decide) hI.1) (by decide +kernel)
  have s20 : vi V2 x 10 = vi V x 10 := vi_fr hF6 hI.1 (hE5.obj (by decide) hI.1) (by decide +kernel)
  have s21 : vi V2 m0 9 = vi V m0 9 := vi_fr hF6 hI.2.1 (hE5.obj (by decide) hI.2.1) (by decide +kernel)
  have s22 : vi V2 m0 2 = vi V m0 2 := vi_fr hF6 hI.2.1 (hE5.obj (by decide) hI.2.1) (by decide +kernel)
  have s23 : vi V2 m0 91 = vi V m0 91 := vi_fr hF6 hI.2.1 (hE5.obj (by decide) hI.2.1) (by decide +kernel)
  have s24 : vi V2 m0 133 = vi V m0 133 := vi_fr hF6 hI.2.1 (hE5.obj (by decide) hI.2.1) (by decide +kernel)
  have s25 : vi V2 m0 120 = vi V m0 120 := vi_fr hF6 hI.2.1 (hE5.obj (by decide) hI.2.1) (by decide +kernel)
  have s26 : vi V2 x 8 = vi V x 8 := vi_fr hF6 hI.1 (hE5.obj (by decide) hI.1) (by decide +kernel)
  have s27 : vi V2 m0 66 = vi V m0 66 := vi_fr hF6 hI.2.1 (hE5.obj (by decide) hI.2.1) (by decide +kernel)
  have s28 : vi V2 m0 118 = vi V m0 118 := vi_fr hF6 hI.2.1 (hE5.obj (by decide) hI.2.1) (by decide +kernel)
  have hS29 : STE V2 x m0 := STE.frx hS0 hF6 hE5 hWp11 hI.1 hI.2.1 (by decide +kernel) (by decide +kernel)
  have hP30 : PLE V2 x m0 := PLE.frx hP0 hF6 hE5 hWp11 hI.1 hI.2.1 (by omega) (by decide +kernel) (by decide +kernel) (by decide +kernel) (by decide +kernel) (by decide +kernel) (by decide +kernel)
  refine LG.pop dL_law_1169 rfl ?_
  refine LG.aload_n dL_law_1170 rfl rfl ?_
  refine LG.aload_n dL_law_1171 rfl rfl ?_
  refine LG.iload_n dL_law_1172 rfl rfl ?_
  refine LG.iconst dL_law_1173 ?_
  refine LG.iadd dL_law_1174 ?_
  refine LG.sld (Y := i + 1) dL_law_1175 (by omega) (by omega) hL ?_
  refine LG.aload_n dL_law_1176 rfl rfl ?_
  refine LG.iload_n dL_law_1177 rfl rfl ?_
  refine LG.iconst dL_law_1178 ?_
  refine LG.iadd dL_law_1179 ?_
  refine LG.sld (Y := i + 2) dL_law_1180 (by omega) (by omega) hL ?_
  refine LG.useWT (fun hW => ?_)
  refine LG.callV (ci := 11) (N := mX12_study) (As := [ti (xv xs (i + 1)), ti (xv xs (i + 2))]) dL_law_1181 (RX12, TX12, 151) rfl gV_RL_101 hI10.2.1 (t_X12_study hI10.2.1 xv_ir xv_ir) rfl [] rfl rfl (le_csb hcs rfl) (Nat.le_of_ble_eq_true rfl) (g_is fun X37 K31 V32 r33 h34 hE35 hF36 => ?_)
  have hI40 : LI K31 V32 x m0 := ⟨hE35.obj (by decide) hI10.1, hE35.obj (by decide) hI10.2.1, (GX.frx hF36 hE35 hI10.2.2.1 hW hI10.2.1 (by decide +kernel)), (PX0.frx hF36 hE35 hI10.2.2.2.1 hW hI10.2.1 (by decide +kernel)), (NN.frx 4 3 4 rfl rfl hF36 hE35 hI10.2.2.2.2.1 hW hI10.1 (by decide +kernel)), (NN.frx 10 9 7 rfl rfl hF36 hE35 hI10.2.2.2.2.2.1 hW hI10.1 (by decide +kernel)), (PI.frx hI10.2.2.2.2.2.2.1 hF36 hE35 hW hI10.1 hI10.2.2.2.2.1 (by decide +kernel)), (CWI.fr hI10.2.2.2.2.2.2.2 hF36 hE35 hW hI10.1 (by decide +kernel) (by decide +kernel) (by decide +kernel))⟩
  have hWp41 := hW
  have hY42 : YRL V32 x m0 := YRL.frx hY12 hF36 hE35 hW hI10.1 hI10.2.1 hI10.2.2.2.2.1 (by decide +kernel) (by decide +kernel)
  have hT43 : TXE K31 V32 x m0 := TXE.frx hT13 hF36 hE35 hW hI10.1 hI10.2.1 (by decide +kernel)
  have hA44 : AB V32 x m0 := AB.frx hA14 hF36 hE35 hW hI10.1 hI10.2.1 hI10.2.2.2.2.1 (by decide +kernel) (by decide +kernel) (Int.le_of_eq (vi_fr hF36 hI10.2.1 (hE35.obj (by decide) hI10.2.1) (by decide +kernel)).symm)
  have s45 : tdy V32 x = tdy V2 x := tdy_fr hF36 hE35 hW hI10.1 (by decide +kernel) (by decide +kernel)
  have s46 : wsz V32 x = wsz V2 x := wsz_fr hF36 hE35 hW hI10.1 (by decide +kernel) (by decide +kernel)
  have s47 : csz V32 x = csz V2 x := csz_fr hF36 hE35 hW hI10.1 (by decide +kernel) (by decide +kernel)
  have s48 : dsz V32 x = dsz V2 x := dsz_fr hF36 hE35 hW hI10.1 (by decide +kernel) (by decide +kernel)
  clear hW
  have s49 : vi V32 x 4 = vi V2 x 4 := vi_fr hF36 hI10.1 (hE35.obj (by decide) hI10.1) (by decide +kernel)
  have s50 : vi V32 x 10 = vi V2 x 10 := vi_fr hF36 hI10.1 (hE35.obj (by decide) hI10.1) (by decide +kernel)
  have s51 : vi V32 m0 9 = vi V2 m0 9 := vi_fr hF36 hI10.2.1 (hE35.obj (by decide) hI10.2.1) (by decide +kernel)
  have s52 : vi V32 m0 2 = vi V2 m0 2 := vi_fr hF36 hI10.2.1 (hE35.obj (by decide) hI10.2.1) (by decide +kernel)
  have s53 : vi V32 m0 91 = vi V2 m0 91 := vi_fr hF36 hI10.2.1 (hE35.obj (by decide) hI10.2.1) (by decide +kernel)
  have s54 : vi V32 m0 133 = vi V2 m0 133 := vi_fr hF36 hI10.2.1 (hE35.obj (by decide) hI10.2.1) (by decide +kernel)
  have s55 : vi V32 m0 120 = vi V2 m0 120 := vi_fr hF36 hI10.2.1 (hE35.obj (by decide) hI10.2.1) (by decide +kernel)
  have s56 : vi V32 x 8 = vi V2 x 8 := vi_fr hF36 hI10.1 (hE35.obj (by decide) hI10.1) (by decide +kernel)
  have s57 : vi V32 m0 66 = vi V2 m0 66 := vi_fr hF36 hI10.2.1 (hE35.obj (by decide) hI10.2.1) (by decide +kernel)
  have s58 : vi V32 m0 118 = vi V2 m0 118 := vi_fr hF36 hI10.2.1 (hE35.obj (by decide) hI10.2.1) (by decide +kernel)
  have hS59 : STE V32 x m0 := STE.frx hS29 hF36 hE35 hWp41 hI10.1 hI10.2.1 (by decide +kernel) (by decide +kernel)
  have hP60 : PLE V32 x m0 := PLE.frx hP30 hF36 hE35 hWp41 hI10.1 hI10.2.1 (by omega) (by decide +kernel) (by decide +kernel) (by decide +kernel) (by decide +kernel) (by decide +kernel) (by decide +kernel)
  have hKk61 := WKE.set hK0 hI.1 hI.2.1 hWp11 hWp41 hE5 hF6 hE35 hF36 (congrArg (wset 11) (by omega)) (h4.2.2.2) (h34.2.2.2) (by decide +kernel) (by decide +kernel)
  have hKb62 := hKk61.1
  refine LG.pop dL_law_1184 rfl ?_
  refine LG.goto (tgt := 2745) dL_law_1185 (by decide) ?_
  exact LG.widen (le_cs3 rfl) (kk _ _ hI40 (⟨by unfold RLI; omega, hA44, hT43, hY42, hP60, hKk61.2, hS59⟩))

set_option maxHeartbeats 2000000 in
theorem law_case_20 {p : Program} {l : Launch} {e : Env} {s : State} {m : MethodId} {below : List Frame} {meth : Method} {c : Code} {b L : Nat} {xs : Nat → Int32} {D : va_G} {dA : Nat → ClassId} {K : Kmap} {V : Vmap} {cells slots x m0 : Nat} {i : Int} (hI : LI K V x m0) (hR : REL K V x m0) (hL : L ≤ 4096) (h0 : 0 ≤ i) (h8 : i + 8 ≤ L) (hcs : cells + 8 ≤ 600000 ∧ slots + 2704 ≤ 7302250) (kk : ∀ (K1 : Kmap) (V1 : Vmap), LI K1 V1 x m0 → REL K1 V1 x m0 → LG p l e s m below meth c b L xs D dA K1 V1 (cells + 8) (slots + 2704) 2745 [some (.ref b), some (.ref x), some (.ref m0), some (ti i)] []) : LG p l e s m below meth c b L xs D dA K V cells slots 1188 [some (.ref b), some (.ref x), some (.ref m0), some (ti i)] [] := by
  have hR0 := hR.1
  have hA0 := hR.2.1
  have hT0 := hR.2.2.1
  have hY0 := hR.2.2.2.1
  have hP0 := hR.2.2.2.2.1
  have hK0 := hR.2.2.2.2.2.1
  have hS0 := hR.2.2.2.2.2.2
  unfold RLI at hR0
  refine LG.aload_n dL_law_1188 rfl rfl ?_
  refine LG.aload_n dL_law_1189 rfl rfl ?_
  refine LG.iload_n dL_law_1190 rfl rfl ?_
  refine LG.iconst dL_law_1191 ?_
  refine LG.iadd dL_law_1192 ?_
  refine LG.sld (Y := i + 1) dL_law_1193 (by omega) (by omega) hL ?_
  refine LG.aload_n dL_law_1194 rfl rfl ?_
  refine LG.iload_n dL_law_1195 rfl rfl ?_
  refine LG.iconst dL_law_1196 ?_
  refine LG.iadd dL_law_1197 ?_
  refine LG.sld (Y := i + 2) dL_law_1198 (by omega) (by omega) hL ?_
  refine LG.aload_n dL_law_1199 rfl rfl ?_
  refine LG.iload_n dL_law_1200 rfl rfl ?_
  refine LG.iconst dL_law_1201 ?_
  refine LG.iadd dL_law_1202 ?_
  refine LG.sld (Y := i + 3) dL_law_1203 (by omega) (by omega) hL ?_
  refine LG.nz (tgt := 1212) dL_law_1204 (by decide) dL_law_1207 dL_law_1208 (by decide) dL_law_1211 xv_ir rfl (fun B1 r2 h3 hbB1 => ?_)
  refine LG.useWT (fun hW => ?_)
  refine LG.callV (ci := 10) (N := mX11_say) (As := [ti (xv xs (i + 1)), ti (xv xs (i + 2)), ti (B1)]) dL_law_1212 (RX11, TX11, 20) rfl gV_RL_102 hI.1 (t_X11_say hI.1 xv_ir xv_ir r2 h3 hI.2.2.2.2.1) rfl [] rfl rfl (le_cs hcs rfl) (Nat.le_of_ble_eq_true rfl) (g_is fun X10 K4 V5 r6 h7 hE8 hF9 => ?_)
  have hI13 : LI K4 V5 x m0 := ⟨hE8.obj (by decide) hI.1, hE8.obj (by decide) hI.2.1, (GX.frx hF9 hE8 hI.2.2.1 hW hI.2.1 (by decide +kernel)), (PX0.frx hF9 hE8 hI.2.2.2.1 hW hI.2.1 (by decide +kernel)), (NN.frx 4 3 4 rfl rfl hF9 hE8 hI.2.2.2.2.1 hW hI.1 (by decide +kernel)), (NN.frx 10 9 7 rfl rfl hF9 hE8 hI.2.2.2.2.2.1 hW hI.1 (by decide +kernel)), (PI.frx hI.2.2.2.2.2.2.1 hF9 hE8 hW hI.1 hI.2.2.2.2.1 (by decide +kernel)), (CWI.fr hI.2.2.2.2.2.2.2 hF9 hE8 hW hI.1 (by decide +kernel) (by decide +kernel) (by decide +kernel))⟩
  have hWp14 := hW
  have hY15 : YRL V5 x m0 := YRL.frx hY0 hF9 hE8 hW hI.1 hI.2.1 hI.2.2.2.2.1 (by decide +kernel) (by decide +kernel)
  have hT16 : TXE K4 V5 x m0 := TXE.frx hT0 hF9 hE8 hW hI.1 hI.2.1 (by decide +kernel)
  have hA17 : AB V5 x m0 := AB.frx hA0 hF9 hE8 hW hI.1 hI.2.1 hI.2.2.2.2.1 (by decide +kernel) (by decide +kernel) (Int.le_of_eq (vi_fr hF9 hI.2.1 (hE8.obj (by decide) hI.2.1) (by decide +kernel)).symm)
  have s18 : tdy V5 x = tdy V x := tdy_fr hF9 hE8 hW hI.1 (by decide +kernel) (by decide +kernel)
  have s19 : wsz V5 x = wsz V x := wsz_fr hF9 hE8 hW hI.1 (by decide +kernel) (by decide +kernel)
  have s20 : csz V5 x = csz V x := csz_fr hF9 hE8 hW hI.1 (by decide +kernel) (by decide +kernel)
  have s21 : dsz V5 x = dsz V x := dsz_fr hF9 hE8 hW hI.1 (by decide +kernel) (by decide +kernel)
  clear hW
  have s22 : vi V5 x 4 = vi V x 4 := vi_fr hF9 hI.1 (hE8.obj (by decide) hI.1) (by decide +kernel)
  have s23 : vi V5 x 10 = vi V x 10 := vi_fr hF9 hI.1 (hE8.obj (by decide) hI.1) (by decide +kernel)
  have s24 : vi V5 m0 9 = vi V m0 9 := vi_fr hF9 hI.2.1 (hE8.obj (by decide) hI.2.1) (by decide +kernel)
  have s25 : vi V5 m0 2 = vi V m0 2 := vi_fr hF9 hI.2.1 (hE8.obj (by decide) hI.2.1) (by decide +kernel)
  have s26 : vi V5 m0 91 = vi V m0 91 := vi_fr hF9 hI.2.1 (hE8.obj (by decide) hI.2.1) (by decide +kernel)
  have s27 : vi V5 m0 133 = vi V m0 133 := vi_fr hF9 hI.2.1 (hE8.obj (by decide) hI.2.1) (by decide +kernel)
  have s28 : vi V5 m0 120 = vi V m0 120 := vi_fr hF9 hI.2.1 (hE8.obj (by decide) hI.2.1) (by decide +kernel)
  have s29 : vi V5 x 8 = vi V x 8 := vi_fr hF9 hI.1 (hE8.obj (by decide) hI.1) (by decide +kernel)
  have s30 : vi V5 m0 66 = vi V m0 66 := vi_fr hF9 hI.2.1 (hE8.obj (by decide) hI.2.1) (by decide +kernel)
  have s31 : vi V5 m0 118 = vi V m0 118 := vi_fr hF9 hI.2.1 (hE8.obj (by decide) hI.2.1) (by decide +kernel)
  have hS32 : STE V5 x m0 := STE.frx hS0 hF9 hE8 hWp14 hI.1 hI.2.1 (by decide +kernel) (by decide +kernel)
  have hK33 : WKE V5 x m0 := WKE.frx hK0 hF9 hE8 hWp14 hI.1 hI.2.1 (by decide +kernel) (by decide +kernel)
  have hP34 : PLE V5 x m0 := PLE.frx hP0 hF9 hE8 hWp14 hI.1 hI.2.1 (by omega) (by decide +kernel) (by decide +kernel) (by decide +kernel) (by decide +kernel) (by decide +kernel) (by decide +kernel)
  refine LG.pop dL_law_1215 rfl ?_
  refine LG.aload_n dL_law_1216 rfl rfl ?_
  refine LG.aload_n dL_law_1217 rfl rfl ?_
  refine LG.iload_n dL_law_1218 rfl rfl ?_
  refine LG.iconst dL_law_1219 ?_
  refine LG.iadd dL_law_1220 ?_
  refine LG.sld (Y := i + 1) dL_law_1221 (by omega) (by omega) hL ?_
  refine LG.aload_n dL_law_1222 rfl rfl ?_
  refine LG.iload_n dL_law_1223 rfl rfl ?_
  refine LG.iconst dL_law_1224 ?_
  refine LG.iadd dL_law_1225 ?_
  refine LG.sld (Y := i + 2) dL_law_1226 (by omega) (by omega) hL ?_
  refine LG.aload_n dL_law_1227 rfl rfl ?_
  refine LG.iload_n dL_law_1228 rfl rfl ?_
  refine LG.iconst dL_law_1229 ?_
  refine LG.iadd dL_law_1230 ?_
  refine LG.sld (Y := i + 3) dL_law_1231 (by omega) (by omega) hL ?_
  refine LG.nz (tgt := 1240) dL_law_1232 (by decide) dL_law_1235 dL_law_1236 (by decide) dL_law_1239 xv_ir rfl (fun B35 r36 h37 hbB35 => ?_)
  refine LG.useWT (fun hW => ?_)
  refine LG.callV (ci := 11) (N := mX12_say) (As := [ti (xv xs (i + 1)), ti (xv xs (i + 2)), ti (B35)]) dL_law_1240 (RX12, TX12, 151) rfl gV_RL_106 hI13.2.1 (t_X12_say hI13.2.1 xv_ir xv_ir r36 h37) rfl [] rfl rfl (le_csb hcs rfl) (Nat.le_of_ble_eq_true rfl) (g_is fun X44 K38 V39 r40 h41 hE42 hF43 => ?_)
  have hI47 : LI K38 V39 x m0 := ⟨hE42.obj (by decide) hI13.1, hE42.obj (by decide) hI13.2.1, (GX.frx hF43 hE42 hI13.2.2.1 hW hI13.2.1 (by decide +kernel)), (PX0.frx hF43 hE42 hI13.2.2.2.1 hW hI13.2.1 (by decide +kernel)), (NN.frx 4 3 4 rfl rfl hF43 hE42 hI13.2.2.2.2.1 hW hI13.1 (by decide +kernel)), (NN.frx 10 9 7 rfl rfl hF43 hE42 hI13.2.2.2.2.2.1 hW hI13.1 (by decide +kernel)), (PI.frx hI13.2.2.2.2.2.2.1 hF43 hE42 hW hI13.1 hI13.2.2.2.2.1 (by decide +kernel)), (CWI.fr hI13.2.2.2.2.2.2.2 hF43 hE42 hW hI13.1 (by decide +kernel) (by decide +kernel) (by decide +kernel))⟩
  have hWp48 := hW
  have hY49 : YRL V39 x m0 := YRL.frx hY15 hF43 hE42 hW hI13.1 hI13.2.1 hI13.2.2.2.2.1 (by decide +kernel) (by decide +kernel)
  have hT50 : TXE K38 V39 x m0 := TXE.frx hT16 hF43 hE42 hW hI13.1 hI13.2.1 (by decide +kernel)
  have hA51 : AB V39 x m0 := AB.frx hA17 hF43 hE42 hW hI13.1 hI13.2.1 hI13.2.2.2.2.1 (by decide +kernel) (by decide +kernel) (Int.le_of_eq (vi_fr hF43 hI13.2.1 (hE42.obj (by decide) hI13.2.1) (by decide +kernel)).symm)
  have s52 : tdy V39 x = tdy V5 x := tdy_fr hF43 hE42 hW hI13.1 (by decide +kernel) (by decide +kernel)
  have s53 : wsz V39 x = wsz V5 x := wsz_fr hF43 hE42 hW hI13.1 (by decide +kernel) (by decide +kernel)
  have s54 : csz V39 x = csz V5 x := csz_fr hF43 hE42 hW hI13.1 (by decide +kernel) (by decide +kernel)
  have s55 : dsz V39 x = dsz V5 x := dsz_fr hF43 hE42 hW hI13.1 (by decide +kernel) (by decide +kernel)
  clear hW
  have s56 : vi V39 x 4 = vi V5 x 4 := vi_fr hF43 hI13.1 (hE42.obj (by decide) hI13.1) (by decide +kernel)
  have s57 : vi V39 x 10 = vi V5 x 10 := vi_fr hF43 hI13.1 (hE42.obj (by decide) hI13.1) (by decide +kernel)
  have s58 : vi V39 m0 9 = vi V5 m0 9 := vi_fr hF43 hI13.2.1 (hE42.obj (by decide) hI13.2.1) (by decide +kernel)
  have s59 : vi V39 m0 2 = vi V5 m0 2 := vi_fr hF43 hI13.2.1 (hE42.obj (by decide) hI13.2.1) (by decide +kernel)
  have s60 : vi V39 m0 91 = vi V5 m0 91 := vi_fr hF43 hI13.2.1 (hE42.obj (by decide) hI13.2.1) (by decide +kernel)
  have s61 : vi V39 m0 133 = vi V5 m0 133 := vi_fr hF43 hI13.2.1 (hE42.obj (by decide) hI13.2.1) (by decide +kernel)
  have s62 : vi V39 m0 120 = vi V5 m0 120 := vi_fr hF43 hI13.2.1 (hE42.obj (by decide) hI13.2.1) (by decide +kernel)
  have s63 : vi V39 x 8 = vi V5 x 8 := vi_fr hF43 hI13.1 (hE42.obj (by decide) hI13.1) (by decide +kernel)
  have s64 : vi V39 m0 66 = vi V5 m0 66 := vi_fr hF43 hI13.2.1 (hE42.obj (by decide) hI13.2.1) (by decide +kernel)
  have s65 : vi V39 m0 118 = vi V5 m0 118 := vi_fr hF43 hI13.2.1 (hE42.obj (by decide) hI13.2.1) (by decide +kernel)
  have hKd66 := SAY.both ((h7.2.2.2) hK0.1.1) (h41.2.2.2) (by constructor <;> intro _ <;> omega)
  have hS67 : STE V39 x m0 := STE.frx hS32 hF43 hE42 hWp48 hI13.1 hI13.2.1 (by decide +kernel) (by decide +kernel)
  have hK68 : WKE V39 x m0 := WKE.frx hK33 hF43 hE42 hWp48 hI13.1 hI13.2.1 (by decide +kernel) (by decide +kernel)
  have hP69 : PLE V39 x m0 := PLE.frx hP34 hF43 hE42 hWp48 hI13.1 hI13.2.1 (by omega) (by decide +kernel) (by decide +kernel) (by decide +kernel) (by decide +kernel) (by decide +kernel) (by decide +kernel)
  refine LG.pop dL_law_1243 rfl ?_
  refine LG.goto (tgt := 2745) dL_law_1244 (by decide) ?_
  exact LG.widen (le_cs3 rfl) (kk _ _ hI47 (⟨by unfold RLI; omega, hA51, hT50, hY49, hP69, hK68, hS67⟩))

set_option maxHeartbeats 2000000 in
theorem law_case_21 {p : Program} {l : Launch} {e : Env} {s : State} {m : MethodId} {below : List Frame} {meth : Method} {c : Code} {b L : Nat} {xs : Nat → Int32} {D : va_G} {dA : Nat → ClassId} {K : Kmap} {V : Vmap} {cells slots x m0 : Nat} {i : Int} (hI : LI K V x m0) (hR : REL K V x m0) (hL : L ≤ 4096) (h0 : 0 ≤ i) (h8 : i + 8 ≤ L) (hcs : cells + 8 ≤ 600000 ∧ slots + 2704 ≤ 7302250) (kk : ∀ (K1 : Kmap) (V1 : Vmap), LI K1 V1 x m0 → REL K1 V1 x m0 → LG p l e s m below meth c b L xs D dA K1 V1 (cells + 8) (slots + 2704) 2745 [some (.ref b), some (.ref x), some (.ref m0), some (ti i)] []) : LG p l e s m below meth c b L xs D dA K V cells slots 1247 [some (.ref b), some (.ref x), some (.ref m0), some (ti i)] [] := by
  have hR0 := hR.1
  have hA0 := hR.2.1
  have hT0 := hR.2.2.1
  have hY0 := hR.2.2.2.1
  have hP0 := hR.2.2.2.2.1
  have hK0 := hR.2.2.2.2.2.1
  have hS0 := hR.2.2.2.2.2.2
  unfold RLI at hR0
  refine LG.aload_n dL_law_1247 rfl rfl ?_
  refine LG.aload_n dL_law_1248 rfl rfl ?_
  refine LG.iload_n dL_law_1249 rfl rfl ?_
  refine LG.iconst dL_law_1250 ?_
  refine LG.iadd dL_law_1251 ?_
  refine LG.sld (Y := i + 1) dL_law_1252 (by omega) (by omega) hL ?_
  refine LG.aload_n dL_law_1253 rfl rfl ?_
  refine LG.iload_n dL_law_1254 rfl rfl ?_
  refine LG.iconst dL_law_1255 ?_
  refine LG.iadd dL_law_1256 ?_
  refine LG.sld (Y := i + 2) dL_law_1257 (by omega) (by omega) hL ?_
  refine LG.aload_n dL_law_1258 rfl rfl ?_
  refine LG.iload_n dL_law_1259 rfl rfl ?_
  refine LG.iconst dL_law_1260 ?_
  refine LG.iadd dL_law_1261 ?_
  refine LG.sld (Y := i + 3) dL_law_1262 (by omega) (by omega) hL ?_
  refine LG.nz (tgt := 1271) dL_law_1263 (by decide) dL_law_1266 dL_law_1267 (by decide) dL_law_1270 xv_ir rfl (fun B1 r2 h3 hbB1 => ?_)
  refine LG.useWT (fun hW => ?_)
  refine LG.callV (ci := 10) (N := mX11_may) (As := [ti (xv xs (i + 1)), ti (xv xs (i + 2)), ti (B1)]) dL_law_1271 (RX11, TX11, 20) rfl gV_RL_107 hI.1 (t_X11_may hI.1 xv_ir xv_ir r2 h3 hI.2.2.2.2.2.2.2) rfl [] rfl rfl (le_cs hcs rfl) (Nat.le_of_ble_eq_true rfl) (g_is fun X10 K4 V5 r6 h7 hE8 hF9 => ?_)
  have hI13 : LI K4 V5 x m0 := ⟨hE8.obj (by decide) hI.1, hE8.obj (by decide) hI.2.1, (GX.frx hF9 hE8 hI.2.2.1 hW hI.2.1 (by decide +kernel)), (PX0.frx hF9 hE8 hI.2.2.2.1 hW hI.2.1 (by decide +kernel)), (NN.frx 4 3 4 rfl rfl hF9 hE8 hI.2.2.2.2.1 hW hI.1 (by decide +kernel)), (NN.frx 10 9 7 rfl rfl hF9 hE8 hI.2.2.2.2.2.1 hW hI.1 (by decide +kernel)), (PI.frx hI.2.2.2.2.2.2.1 hF9 hE8 hW hI.1 hI.2.2.2.2.1 (by decide +kernel)), (CWI.gro (h7.2) hE8)⟩
  have hWp14 := hW
  have hY15 : YRL V5 x m0 := YRL.frx hY0 hF9 hE8 hW hI.1 hI.2.1 hI.2.2.2.2.1 (by decide +kernel) (by decide +kernel)
  have hT16 : TXE K4 V5 x m0 := TXE.frx hT0 hF9 hE8 hW hI.1 hI.2.1 (by decide +kernel)
  have hA17 : AB V5 x m0 := AB.frx hA0 hF9 hE8 hW hI.1 hI.2.1 hI.2.2.2.2.1 (by decide +kernel) (by decide +kernel) (Int.le_of_eq (vi_fr hF9 hI.2.1 (hE8.obj (by decide) hI.2.1) (by decide +kernel)).symm)
  have s18 : tdy V5 x = tdy V x := tdy_fr hF9 hE8 hW hI.1 (by decide +kernel) (by decide +kernel)
  have s19 : wsz V5 x = wsz V x := wsz_fr hF9 hE8 hW hI.1 (by decide +kernel) (by decide +kernel)
  have s20 : csz V5 x = csz V x := csz_fr hF9 hE8 hW hI.1 (by decide +kernel) (by decide +kernel)
  have s21 : dsz V5 x = dsz V x := dsz_fr hF9 hE8 hW hI.1 (by decide +kernel) (by decide +kernel)
  clear hW
  have s22 : vi V5 x 4 = vi V x 4 := vi_fr hF9 hI.1 (hE8.obj (by decide) hI.1) (by decide +kernel)
  have s23 : vi V5 x 10 = vi V x 10 := vi_fr hF9 hI.1 (hE8.obj (by decide) hI.1) (by decide +kernel)
  have s24 : vi V5 m0 9 = vi V m0 9 := vi_fr hF9 hI.2.1 (hE8.obj (by decide) hI.2.1) (by decide +kernel)
  have s25 : vi V5 m0 2 = vi V m0 2 := vi_fr hF9 hI.2.1 (hE8.obj (by decide) hI.2.1) (by decide +kernel)
  have s26 : vi V5 m0 91 = vi V m0 91 := vi_fr hF9 hI.2.1 (hE8.obj (by decide) hI.2.1) (by decide +kernel)
  have s27 : vi V5 m0 133 = vi V m0 133 := vi_fr hF9 hI.2.1 (hE8.obj (by decide) hI.2.1) (by decide +kernel)
  have s28 : vi V5 m0 120 = vi V m0 120 := vi_fr hF9 hI.2.1 (hE8.obj (by decide) hI.2.1) (by decide +kernel)
  have s29 : vi V5 x 8 = vi V x 8 := vi_fr hF9 hI.1 (hE8.obj (by decide) hI.1) (by decide +kernel)
  have s30 : vi V5 m0 66 = vi V m0 66 := vi_fr hF9 hI.2.1 (hE8.obj (by decide) hI.2.1) (by decide +kernel)
  have s31 : vi V5 m0 118 = vi V m0 118 := vi_fr hF9 hI.2.1 (hE8.obj (by decide) hI.2.1) (by decide +kernel)
  have hS32 : STE V5 x m0 := STE.frx hS0 hF9 hE8 hWp14 hI.1 hI.2.1 (by decide +kernel) (by decide +kernel)
  have hK33 : WKE V5 x m0 := WKE.frx hK0 hF9 hE8 hWp14 hI.1 hI.2.1 (by decide +kernel) (by decide +kernel)
  have hP34 : PLE V5 x m0 := PLE.frx hP0 hF9 hE8 hWp14 hI.1 hI.2.1 (by omega) (by decide +kernel) (by decide +kernel) (by decide +kernel) (by decide +kernel) (by decide +kernel) (by decide +kernel)
  refine LG.pop dL_law_1274 rfl ?_
  refine LG.aload_n dL_law_1275 rfl rfl ?_
  refine LG.aload_n dL_law_1276 rfl rfl ?_
  refine LG.iload_n dL_law_1277 rfl rfl ?_
  refine LG.iconst dL_law_1278 ?_
  refine LG.iadd dL_law_1279 ?_
  refine LG.sld (Y := i + 1) dL_law_1280 (by omega) (by omega) hL ?_
  refine LG.aload_n dL_law_1281 rfl rfl ?_
  refine LG.iload_n dL_law_1282 rfl rfl ?_
  refine LG.iconst dL_law_1283 ?_
  refine LG.iadd dL_law_1284 ?_
  refine LG.sld (Y := i + 2) dL_law_1285 (by omega) (by omega) hL ?_
  refine LG.aload_n dL_law_1286 rfl rfl ?_
  refine LG.iload_n dL_law_1287 rfl rfl ?_
  refine LG.iconst dL_law_1288 ?_
  refine LG.iadd dL_law_1289 ?_
  refine LG.sld (Y := i + 3) dL_law_1290 (by omega) (by omega) hL ?_
  refine LG.nz (tgt := 1299) dL_law_1291 (by decide) dL_law_1294 dL_law_1295 (by decide) dL_law_1298 xv_ir rfl (fun B35 r36 h37 hbB35 => ?_)
  refine LG.useWT (fun hW => ?_)
  refine LG.callV (ci := 11) (N := mX12_may) (As := [ti (xv xs (i + 1)), ti (xv xs (i + 2)), ti (B35)]) dL_law_1299 (RX12, TX12, 151) rfl gV_RL_111 hI13.2.1 (t_X12_may hI13.2.1 xv_ir xv_ir r36 h37 hI13.2.2.1) rfl [] rfl rfl (le_csb hcs rfl) (Nat.le_of_ble_eq_true rfl) (g_is fun X44 K38 V39 r40 h41 hE42 hF43 => ?_)
  have hI47 : LI K38 V39 x m0 := ⟨hE42.obj (by decide) hI13.1, hE42.obj (by decide) hI13.2.1, (GX.frx hF43 hE42 hI13.2.2.1 hW hI13.2.1 (by decide +kernel)), (PX0.frx hF43 hE42 hI13.2.2.2.1 hW hI13.2.1 (by decide +kernel)), (NN.frx 4 3 4 rfl rfl hF43 hE42 hI13.2.2.2.2.1 hW hI13.1 (by decide +kernel)), (NN.frx 10 9 7 rfl rfl hF43 hE42 hI13.2.2.2.2.2.1 hW hI13.1 (by decide +kernel)), (PI.frx hI13.2.2.2.2.2.2.1 hF43 hE42 hW hI13.1 hI13.2.2.2.2.1 (by decide +kernel)), (CWI.fr hI13.2.2.2.2.2.2.2 hF43 hE42 hW hI13.1 (by decide +kernel) (by decide +kernel) (by decide +kernel))⟩
  have hWp48 := hW
  have hY49 : YRL V39 x m0 := YRL.frx hY15 hF43 hE42 hW hI13.1 hI13.2.1 hI13.2.2.2.2.1 (by decide +kernel) (by decide +kernel)
  have hT50 : TXE K38 V39 x m0 := TXE.frx hT16 hF43 hE42 hW hI13.1 hI13.2.1 (by decide +kernel)
  have hA51 : AB V39 x m0 := AB.frx hA17 hF43 hE42 hW hI13.1 hI13.2.1 hI13.2.2.2.2.1 (by decide +kernel) (by decide +kernel) (Int.le_of_eq (vi_fr hF43 hI13.2.1 (hE42.obj (by decide) hI13.2.1) (by decide +kernel)).symm)
  have s52 : tdy V39 x = tdy V5 x := tdy_fr hF43 hE42 hW hI13.1 (by decide +kernel) (by decide +kernel)
  have s53 : wsz V39 x = wsz V5 x := wsz_fr hF43 hE42 hW hI13.1 (by decide +kernel) (by decide +kernel)
  have s54 : csz V39 x = csz V5 x := csz_fr hF43 hE42 hW hI13.1 (by decide +kernel) (by decide +kernel)
  have s55 : dsz V39 x = dsz V5 x := dsz_fr hF43 hE42 hW hI13.1 (by decide +kernel) (by decide +kernel)
  clear hW
  have s56 : vi V39 x 4 = vi V5 x 4 := vi_fr hF43 hI13.1 (hE42.obj (by decide) hI13.1) (by decide +kernel)
  have s57 : vi V39 x 10 = vi V5 x 10 := vi_fr hF43 hI13.1 (hE42.obj (by decide) hI13.1) (by decide +kernel)
  have s58 : vi V39 m0 9 = vi V5 m0 9 := vi_fr hF43 hI13.2.1 (hE42.obj (by decide) hI13.2.1) (by decide +kernel)
  have s59 : vi V39 m0 2 = vi V5 m0 2 := vi_fr hF43 hI13.2.1 (hE42.obj (by decide) hI13.2.1) (by decide +kernel)
  have s60 : vi V39 m0 91 = vi V5 m0 91 := vi_fr hF43 hI13.2.1 (hE42.obj (by decide) hI13.2.1) (by decide +kernel)
  have s61 : vi V39 m0 133 = vi V5 m0 133 := vi_fr hF43 hI13.2.1 (hE42.obj (by decide) hI13.2.1) (by decide +kernel)
  have s62 : vi V39 m0 120 = vi V5 m0 120 := vi_fr hF43 hI13.2.1 (hE42.obj (by decide) hI13.2.1) (by decide +kernel)
  have s63 : vi V39 x 8 = vi V5 x 8 := vi_fr hF43 hI13.1 (hE42.obj (by decide) hI13.1) (by decide +kernel)
  have s64 : vi V39 m0 66 = vi V5 m0 66 := vi_fr hF43 hI13.2.1 (hE42.obj (by decide) hI13.2.1) (by decide +kernel)
  have s65 : vi V39 m0 118 = vi V5 m0 118 := vi_fr hF43 hI13.2.1 (hE42.obj (by decide) hI13.2.1) (by decide +kernel)
  have hS66 : STE V39 x m0 := STE.frx hS32 hF43 hE42 hWp48 hI13.1 hI13.2.1 (by decide +kernel) (by decide +kernel)
  have hK67 : WKE V39 x m0 := WKE.frx hK33 hF43 hE42 hWp48 hI13.1 hI13.2.1 (by decide +kernel) (by decide +kernel)
  have hP68 : PLE V39 x m0 := PLE.frx hP34 hF43 hE42 hWp48 hI13.1 hI13.2.1 (by omega) (by decide +kernel) (by decide +kernel) (by decide +kernel) (by decide +kernel) (by decide +kernel) (by decide +kernel)
  refine LG.pop dL_law_1302 rfl ?_
  refine LG.goto (tgt := 2745) dL_law_1303 (by decide) ?_
  exact LG.widen (le_cs3 rfl) (kk _ _ hI47 (⟨by unfold RLI; omega, hA51, hT50, hY49, hP68, hK67, hS66⟩))

set_option maxHeartbeats 2000000 in
theorem law_case_22 {p : Program} {l : Launch} {e : Env} {s : State} {m : MethodId} {below : List Frame} {meth : Method} {c : Code} {b L : Nat} {xs : Nat → Int32} {D : va_G} {dA : Nat → ClassId} {K : Kmap} {V : Vmap} {cells slots x m0 : Nat} {i : Int} (hI : LI K V x m0) (hR : REL K V x m0) (hL : L ≤ 4096) (h0 : 0 ≤ i) (h8 : i + 8 ≤ L) (hcs : cells + 8 ≤ 600000 ∧ slots + 2704 ≤ 7302250) (kk : ∀ (K1 : Kmap) (V1 : Vmap), LI K1 V1 x m0 → REL K1 V1 x m0 → LG p l e s m below meth c b L xs D dA K1 V1 (cells + 8) (slots + 2704) 2745 [some (.ref b), some (.ref x), some (.ref m0), some (ti i)] []) : LG p l e s m below meth c b L xs D dA K V cells slots 1306 [some (.ref b), some (.ref x), some (.ref m0), some (ti i)] [] := by
  have hR0 := hR.1
  have hA0 := hR.2.1
  have hT0 := hR.2.2.1
  have hY0 := hR.2.2.2.1
  have hP0 := hR.2.2.2.2.1
  have hK0 := hR.2.2.2.2.2.1
  have hS0 := hR.2.2.2.2.2.2
  unfold RLI at hR0
  refine LG.aload_n dL_law_1306 rfl rfl ?_
  refine LG.aload_n dL_law_1307 rfl rfl ?_
  refine LG.iload_n dL_law_1308 rfl rfl ?_
  refine LG.iconst dL_law_1309 ?_
  refine LG.iadd dL_law_1310 ?_
  refine LG.sld (Y := i + 1) dL_law_1311 (by omega) (by omega) hL ?_
  refine LG.aload_n dL_law_1312 rfl rfl ?_
  refine LG.iload_n dL_law_1313 rfl rfl ?_
  refine LG.iconst dL_law_1314 ?_
  refine LG.iadd dL_law_1315 ?_
  refine LG.sld (Y := i + 2) dL_law_1316 (by omega) (by omega) hL ?_
  refine LG.aload_n dL_law_1317 rfl rfl ?_
  refine LG.iload_n dL_law_1318 rfl rfl ?_
  refine LG.iconst dL_law_1319 ?_
  refine LG.iadd dL_law_1320 ?_
  refine LG.sld (Y := i + 3) dL_law_1321 (by omega) (by omega) hL ?_
  refine LG.nz (tgt := 1330) dL_law_1322 (by decide) dL_law_1325 dL_law_1326 (by decide) dL_law_1329 xv_ir rfl (fun B1 r2 h3 hbB1 => ?_)
  refine LG.aload_n dL_law_1330 rfl rfl ?_
  refine LG.iload_n dL_law_1331 rfl rfl ?_
  refine LG.iconst dL_law_1332 ?_
  refine LG.iadd dL_law_1333 ?_
  refine LG.sld (Y := i + 4) dL_law_1334 (by omega) (by omega) hL ?_
  refine LG.useWT (fun hW => ?_)
  refine LG.callV (ci := 10) (N := mX11_why) (As := [ti (xv xs (i + 1)), ti (xv xs (i + 2)), ti (B1), ti (xv xs (i + 4))]) dL_law_1335 (RX11, TX11, 20) rfl gV_RL_112 hI.1 (t_X11_why hI.1 xv_ir xv_ir r2 h3 xv_ir hI.2.2.2.2.2.2.2) rfl [] rfl rfl (le_cs hcs rfl) (Nat.le_of_ble_eq_true rfl) (g_is fun X10 K4 V5 r6 h7 hE8 hF9 => ?_)
  have hI13 : LI K4 V5 x m0 := ⟨hE8.obj (by decide) hI.1, hE8.obj (by decide) hI.2.1, (GX.frx hF9 hE8 hI.2.2.1 hW hI.2.1 (by decide +kernel)), (PX0.frx hF9 hE8 hI.2.2.2.1 hW hI.2.1 (by decide +kernel)), (NN.frx 4 3 4 rfl rfl hF9 hE8 hI.2.2.2.2.1 hW hI.1 (by decide +kernel)), (NN.frx 10 9 7 rfl rfl hF9 hE8 hI.2.2.2.2.2.1 hW hI.1 (by decide +kernel)), (PI.frx hI.2.2.2.2.2.2.1 hF9 hE8 hW hI.1 hI.2.2.2.2.1 (by decide +kernel)), (CWI.gro (h7.2) hE8)⟩
  have hWp14 := hW
  have hY15 : YRL V5 x m0 := YRL.frx hY0 hF9 hE8 hW hI.1 hI.2.1 hI.2.2.2.2.1 (by decide +kernel) (by decide +kernel)
  have hT16 : TXE K4 V5 x m0 := TXE.frx hT0 hF9 hE8 hW hI.1 hI.2.1 (by decide +kernel)
  have hA17 : AB V5 x m0 := AB.frx hA0 hF9 hE8 hW hI.1 hI.2.1 hI.2.2.2.2.1 (by decide +kernel) (by decide +kernel) (Int.le_of_eq (vi_fr hF9 hI.2.1 (hE8.obj (by decide) hI.2.1) (by decide +kernel)).symm)
  have s18 : tdy V5 x = tdy V x := tdy_fr hF9 hE8 hW hI.1 (by decide +kernel) (by decide +kernel)
  have s19 : wsz V5 x = wsz V x := wsz_fr hF9 hE8 hW hI.1 (by decide +kernel) (by decide +kernel)
  have s20 : csz V5 x = csz V x := csz_fr hF9 hE8 hW hI.1 (by decide +kernel) (by decide +kernel)
  have s21 : dsz V5 x = dsz V x := dsz_fr hF9 hE8 hW hI.1 (by decide +kernel) (by decide +kernel)
  clear hW
  have s22 : vi V5 x 4 = vi V x 4 := vi_fr hF9 hI.1 (hE8.obj (by decide) hI.1) (by decide +kernel)
  have s23 : vi V5 x 10 = vi V x 10 := vi_fr hF9 hI.1 (hE8.obj (by decide) hI.1) (by decide +kernel)
  have s24 : vi V5 m0 9 = vi V m0 9 := vi_fr hF9 hI.2.1 (hE8.obj (by decide) hI.2.1) (by decide +kernel)
  have s25 : vi V5 m0 2 = vi V m0 2 := vi_fr hF9 hI.2.1 (hE8.obj (by decide) hI.2.1) (by decide +kernel)
  have s26 : vi V5 m0 91 = vi V m0 91 := vi_fr hF9 hI.2.1 (hE8.obj (by decide) hI.2.1) (by decide +kernel)
  have s27 : vi V5 m0 133 = vi V m0 133 := vi_fr hF9 hI.2.1 (hE8.obj (by decide) hI.2.1) (by decide +kernel)
  have s28 : vi V5 m0 120 = vi V m0 120 := vi_fr hF9 hI.2.1 (hE8.obj (by decide) hI.2.1) (by decide +kernel)
  have s29 : vi V5 x 8 = vi V x 8 := vi_fr hF9 hI.1 (hE8.obj (by decide) hI.1) (by decide +kernel)
  have s30 : vi V5 m0 66 = vi V m0 66 := vi_fr hF9 hI.2.1 (hE8.obj (by decide) hI.2.1) (by decide +kernel)
  have s31 : vi V5 m0 118 = vi V m0 118 := vi_fr hF9 hI.2.1 (hE8.obj (by decide) hI.2.1) (by decide +kernel)
  have hS32 : STE V5 x m0 := STE.frx hS0 hF9 hE8 hWp14 hI.1 hI.2.1 (by decide +kernel) (by decide +kernel)
  have hK33 : WKE V5 x m0 := WKE.frx hK0 hF9 hE8 hWp14 hI.1 hI.2.1 (by decide +kernel) (by decide +kernel)
  have hP34 : PLE V5 x m0 := PLE.frx hP0 hF9 hE8 hWp14 hI.1 hI.2.1 (by omega) (by decide +kernel) (by decide +kernel) (by decide +kernel) (by decide +kernel) (by decide +kernel) (by decide +kernel)
  refine LG.pop dL_law_1338 rfl ?_
  refine LG.aload_n dL_law_1339 rfl rfl ?_
  refine LG.aload_n dL_law_1340 rfl rfl ?_
  refine LG.iload_n dL_law_1341 rfl rfl ?_
  refine LG.iconst dL_law_1342 ?_
  refine LG.iadd dL_law_1343 ?_
  refine LG.sld (Y := i + 1) dL_law_1344 (by omega) (by omega) hL ?_
  refine LG.aload_n dL_law_1345 rfl rfl ?_
  refine LG.iload_n dL_law_1346 rfl rfl ?_
  refine LG.iconst dL_law_1347 ?_
  refine LG.iadd dL_law_1348 ?_
  refine LG.sld (Y := i + 2) dL_law_1349 (by omega) (by omega) hL ?_
  refine LG.aload_n dL_law_1350 rfl rfl ?_
  refine LG.iload_n dL_law_1351 rfl rfl ?_
  refine LG.iconst dL_law_1352 ?_
  refine LG.iadd dL_law_1353 ?_
  refine LG.sld (Y := i + 3) dL_law_1354 (by omega) (by omega) hL ?_
  refine LG.nz (tgt := 1363) dL_law_1355 (by decide) dL_law_1358 dL_law_1359 (by decide) dL_law_1362 xv_ir rfl (fun B35 r36 h37 hbB35 => ?_)
  refine LG.aload_n dL_law_1363 rfl rfl ?_
  refine LG.iload_n dL_law_1364 rfl rfl ?_
  refine LG.iconst dL_law_1365 ?_
  refine LG.iadd dL_law_1366 ?_
  refine LG.sld (Y := i + 4) dL_law_1367 (by omega) (by omega) hL ?_
  refine LG.useWT (fun hW => ?_)
  refine LG.callV (ci := 11) (N := mX12_why) (As := [ti (xv xs (i + 1)), ti (xv xs (i + 2)), ti (B35), ti (xv xs (i + 4))]) dL_law_1368 (RX12, TX12, 151) rfl gV_RL_116 hI13.2.1 (t_X12_why hI13.2.1 xv_ir xv_ir r36 h37 xv_ir hI13.2.2.1) rfl [] rfl rfl (le_csb hcs rfl) (Nat.le_of_ble_eq_true rfl) (g_is fun X44 K38 V39 r40 h41 hE42 hF43 => ?_)
  have hI47 : LI K38 V39 x m0 := ⟨hE42.obj (by decide) hI13.1, hE42.obj (by decide) hI13.2.1, (GX.frx hF43 hE42 hI13.2.2.1 hW hI13.2.1 (by decide +kernel)), (PX0.frx hF43 hE42 hI13.2.2.2.1 hW hI13.2.1 (by decide +kernel)), (NN.frx 4 3 4 rfl rfl hF43 hE42 hI13.2.2.2.2.1 hW hI13.1 (by decide +kernel)), (NN.frx 10 9 7 rfl rfl hF43 hE42 hI13.2.2.2.2.2.1 hW hI13.1 (by decide +kernel)), (PI.frx hI13.2.2.2.2.2.2.1 hF43 hE42 hW hI13.1 hI13.2.2.2.2.1 (by decide +kernel)), (CWI.fr hI13.2.2.2.2.2.2.2 hF43 hE42 hW hI13.1 (by decide +kernel) (by decide +kernel) (by decide +kernel))⟩
  have hWp48 := hW
  have hY49 : YRL V39 x m0 := YRL.frx hY15 hF43 hE42 hW hI13.1 hI13.2.1 hI13.2.2.2.2.1 (by decide +kernel) (by decide +kernel)
  have hT50 : TXE K38 V39 x m0 := TXE.frx hT16 hF43 hE42 hW hI13.1 hI13.2.1 (by decide +kernel)
  have hA51 : AB V39 x m0 := AB.frx hA17 hF43 hE42 hW hI13.1 hI13.2.1 hI13.2.2.2.2.1 (by decide +kernel) (by decide +kernel) (Int.le_of_eq (vi_fr hF43 hI13.2.1 (hE42.obj (by decide) hI13.2.1) (by decide +kernel)).symm)
  have s52 : tdy V39 x = tdy V5 x := tdy_fr hF43 hE42 hW hI13.1 (by decide +kernel) (by decide +kernel)
  have s53 : wsz V39 x = wsz V5 x := wsz_fr hF43 hE42 hW hI13.1 (by decide +kernel) (by decide +kernel)
  have s54 : csz V39 x = csz V5 x := csz_fr hF43 hE42 hW hI13.1 (by decide +kernel) (by decide +kernel)
  have s55 : dsz V39 x = dsz V5 x := dsz_fr hF43 hE42 hW hI13.1 (by decide +kernel) (by decide +kernel)
  clear hW
  have s56 : vi V39 x 4 = vi V5 x 4 := vi_fr hF43 hI13.1 (hE42.obj (by decide) hI13.1) (by decide +kernel)
  have s57 : vi V39 x 10 = vi V5 x 10 := vi_fr hF43 hI13.1 (hE42.obj (by decide) hI13.1) (by decide +kernel)
  have s58 : vi V39 m0 9 = vi V5 m0 9 := vi_fr hF43 hI13.2.1 (hE42.obj (by decide) hI13.2.1) (by decide +kernel)
  have s59 : vi V39 m0 2 = vi V5 m0 2 := vi_fr hF43 hI13.2.1 (hE42.obj (by decide) hI13.2.1) (by decide +kernel)
  have s60 : vi V39 m0 91 = vi V5 m0 91 := vi_fr hF43 hI13.2.1 (hE42.obj (by decide) hI13.2.1) (by decide +kernel)
  have s61 : vi V39 m0 133 = vi V5 m0 133 := vi_fr hF43 hI13.2.1 (hE42.obj (by decide) hI13.2.1) (by decide +kernel)
  have s62 : vi V39 m0 120 = vi V5 m0 120 := vi_fr hF43 hI13.2.1 (hE42.obj (by decide) hI13.2.1) (by decide +kernel)
  have s63 : vi V39 x 8 = vi V5 x 8 := vi_fr hF43 hI13.1 (hE42.obj (by decide) hI13.1) (by decide +kernel)
  have s64 : vi V39 m0 66 = vi V5 m0 66 := vi_fr hF43 hI13.2.1 (hE42.obj (by decide) hI13.2.1) (by decide +kernel)
  have s65 : vi V39 m0 118 = vi V5 m0 118 := vi_fr hF43 hI13.2.1 (hE42.obj (by decide) hI13.2.1) (by decide +kernel)
  have hS66 : STE V39 x m0 := STE.frx hS32 hF43 hE42 hWp48 hI13.1 hI13.2.1 (by decide +kernel) (by decide +kernel)
  have hK67 : WKE V39 x m0 := WKE.frx hK33 hF43 hE42 hWp48 hI13.1 hI13.2.1 (by decide +kernel) (by decide +kernel)
  have hP68 : PLE V39 x m0 := PLE.frx hP34 hF43 hE42 hWp48 hI13.1 hI13.2.1 (by omega) (by decide +kernel) (by decide +kernel) (by decide +kernel) (by decide +kernel) (by decide +kernel) (by decide +kernel)
  refine LG.pop dL_law_1371 rfl ?_
  refine LG.goto (tgt := 2745) dL_law_1372 (by decide) ?_
  exact LG.widen (le_cs3 rfl) (kk _ _ hI47 (⟨by unfold RLI; omega, hA51, hT50, hY49, hP68, hK67, hS66⟩))

set_option maxHeartbeats 2000000 in
theorem law_case_23 {p : Program} {l : Launch} {e : Env} {s : State} {m : MethodId} {below : List Frame} {meth : Method} {c : Code} {b L : Nat} {xs : Nat → Int32} {D : va_G} {dA : Nat → ClassId} {K : Kmap} {V : Vmap} {cells slots x m0 : Nat} {i : Int} (hI : LI K V x m0) (hR : REL K V x m0) (hL : L ≤ 4096) (h0 : 0 ≤ i) (h8 : i + 8 ≤ L) (hcs : cells + 8 ≤ 600000 ∧ slots + 2704 ≤ 7302250) (kk : ∀ (K1 : Kmap) (V1 : Vmap), LI K1 V1 x m0 → REL K1 V1 x m0 → LG p l e s m below meth c b L xs D dA K1 V1 (cells + 8) (slots + 2704) 2745 [some (.ref b), some (.ref x), some (.ref m0), some (ti i)] []) : LG p l e s m below meth c b L xs D dA K V cells slots 1375 [some (.ref b), some (.ref x), some (.ref m0), some (ti i)] [] := by
  have hR0 := hR.1
  have hA0 := hR.2.1
  have hT0 := hR.2.2.1
  have hY0 := hR.2.2.2.1
  have hP0 := hR.2.2.2.2.1
  have hK0 := hR.2.2.2.2.2.1
  have hS0 := hR.2.2.2.2.2.2
  unfold RLI at hR0
  refine LG.aload_n dL_law_1375 rfl rfl ?_
  refine LG.aload_n dL_law_1376 rfl rfl ?_
  refine LG.iload_n dL_law_1377 rfl rfl ?_
  refine LG.iconst dL_law_1378 ?_
  refine LG.iadd dL_law_1379 ?_
  refine LG.sld (Y := i + 1) dL_law_1380 (by omega) (by omega) hL ?_
  refine LG.aload_n dL_law_1381 rfl rfl ?_
  refine LG.iload_n dL_law_1382 rfl rfl ?_
  refine LG.iconst dL_law_1383 ?_
  refine LG.iadd dL_law_1384 ?_
  refine LG.sld (Y := i + 2) dL_law_1385 (by omega) (by omega) hL ?_
  refine LG.useWT (fun hW => ?_)
  refine LG.callV (ci := 10) (N := mX11_whose) (As := [ti (xv xs (i + 1)), ti (xv xs (i + 2))]) dL_law_1386 (RX11, TX11, 20) rfl gV_RL_117 hI.1 (t_X11_whose hI.1 xv_ir xv_ir hI.2.2.2.2.2.2.2) rfl [] rfl rfl (le_cs hcs rfl) (Nat.le_of_ble_eq_true rfl) (g_is fun X7 K1 V2 r3 h4 hE5 hF6 => ?_)
  have hI10 : LI K1 V2 x m0 := ⟨hE5.obj (by decide) hI.1, hE5.obj (by decide) hI.2.1, (GX.frx hF6 hE5 hI.2.2.1 hW hI.2.1 (by decide +kernel)), (PX0.frx hF6 hE5 hI.2.2.2.1 hW hI.2.1 (by decide +kernel)), (NN.frx 4 3 4 rfl rfl hF6 hE5 hI.2.2.2.2.1 hW hI.1 (by decide +kernel)), (NN.frx 10 9 7 rfl rfl hF6 hE5 hI.2.2.2.2.2.1 hW hI.1 (by decide +kernel)), (PI.frx hI.2.2.2.2.2.2.1 hF6 hE5 hW hI.1 hI.2.2.2.2.1 (by decide +kernel)), (CWI.gro (h4.2) hE5)⟩
  have hWp11 := hW
  have hY12 : YRL V2 x m0 := YRL.frx hY0 hF6 hE5 hW hI.1 hI.2.1 hI.2.2.2.2.1 (by decide +kernel) (by decide +kernel)
  have hT13 : TXE K1 V2 x m0 := TXE.frx hT0 hF6 hE5 hW hI.1 hI.2.1 (by decide +kernel)
  have hA14 : AB V2 x m0 := AB.frx hA0 hF6 hE5 hW hI.1 hI.2.1 hI.2.2.2.2.1 (by decide +kernel) (by decide +kernel) (Int.le_of_eq (vi_fr hF6 hI.2.1 (hE5.obj (by decide) hI.2.1) (by decide +kernel)).symm)
  have s15 : tdy V2 x = tdy V x := tdy_fr hF6 hE5 hW hI.1 (by decide +kernel) (by decide +kernel)
  have s16 : wsz V2 x = wsz V x := wsz_fr hF6 hE5 hW hI.1 (by decide +kernel) (by decide +kernel)
  have s17 : csz V2 x = csz V x := csz_fr hF6 hE5 hW hI.1 (by decide +kernel) (by decide +kernel)
  have s18 : dsz V2 x = dsz V x := dsz_fr hF6 hE5 hW hI.1 (by decide +kernel) (by decide +kernel)
  clear hW
  have s19 : vi V2 x 4 = vi V x 4 := vi_fr hF6 hI.1 (hE5.obj (by decide) hI.1) (by decide +kernel)
  have s20 : vi V2 x 10 = vi V x 10 := vi_fr hF6 hI.1 (hE5.obj (by decide) hI.1) (by decide +kernel)
  have s21 : vi V2 m0 9 = vi V m0 9 := vi_fr hF6 hI.2.1 (hE5.obj (by decide) hI.2.1) (by decide +kernel)
  have s22 : vi V2 m0 2 = vi V m0 2 := vi_fr hF6 hI.2.1 (hE5.obj (by decide) hI.2.1) (by decide +kernel)
  have s23 : vi V2 m0 91 = vi V m0 91 := vi_fr hF6 hI.2.1 (hE5.obj (by decide) hI.2.1) (by decide +kernel)
  have s24 : vi V2 m0 133 = vi V m0 133 := vi_fr hF6 hI.2.1 (hE5.obj (by decide) hI.2.1) (by decide +kernel)
  have s25 : vi V2 m0 120 = vi V m0 120 := vi_fr hF6 hI.2.1 (hE5.obj (by decide) hI.2.1) (by decide +kernel)
  have s26 : vi V2 x 8 = vi V x 8 := vi_fr hF6 hI.1 (hE5.obj (by decide) hI.1) (by decide +kernel)
  have s27 : vi V2 m0 66 = vi V m0 66 := vi_fr hF6 hI.2.1 (hE5.obj (by decide) hI.2.1) (by decide +kernel)
  have s28 : vi V2 m0 118 = vi V m0 118 := vi_fr hF6 hI.2.1 (hE5.obj (by decide) hI.2.1) (by decide +kernel)
  have hS29 : STE V2 x m0 := STE.frx hS0 hF6 hE5 hWp11 hI.1 hI.2.1 (by decide +kernel) (by decide +kernel)
  have hK30 : WKE V2 x m0 := WKE.frx hK0 hF6 hE5 hWp11 hI.1 hI.2.1 (by decide +kernel) (by decide +kernel)
  have hP31 : PLE V2 x m0 := PLE.frx hP0 hF6 hE5 hWp11 hI.1 hI.2.1 (by omega) (by decide +kernel) (by decide +kernel) (by decide +kernel) (by decide +kernel) (by decide +kernel) (by decide +kernel)
  refine LG.pop dL_law_1389 rfl ?_
  refine LG.aload_n dL_law_1390 rfl rfl ?_
  refine LG.aload_n dL_law_1391 rfl rfl ?_
  refine LG.iload_n dL_law_1392 rfl rfl ?_
  refine LG.iconst dL_law_1393 ?_
  refine LG.iadd dL_law_1394 ?_
  refine LG.sld (Y := i + 1) dL_law_1395 (by omega) (by omega) hL ?_
  refine LG.aload_n dL_law_1396 rfl rfl ?_
  refine LG.iload_n dL_law_1397 rfl rfl ?_
  refine LG.iconst dL_law_1398 ?_
  refine LG.iadd dL_law_1399 ?_
  refine LG.sld (Y := i + 2) dL_law_1400 (by omega) (by omega) hL ?_
  refine LG.useWT (fun hW => ?_)
  refine LG.callV (ci := 11) (N := mX12_whose) (As := [ti (xv xs (i + 1)), ti (xv xs (i + 2))]) dL_law_1401 (RX12, TX12, 151) rfl gV_RL_120 hI10.2.1 (t_X12_whose hI10.2.1 xv_ir xv_ir) rfl [] rfl rfl (le_csb hcs rfl) (Nat.le_of_ble_eq_true rfl) (g_is fun X38 K32 V33 r34 h35 hE36 hF37 => ?_)
  have hI41 : LI K32 V33 x m0 := ⟨hE36.obj (by decide) hI10.1, hE36.obj (by decide) hI10.2.1, (GX.frx hF37 hE36 hI10.2.2.1 hW hI10.2.1 (by decide +kernel)), (PX0.frx hF37 hE36 hI10.2.2.2.1 hW hI10.2.1 (by decide +kernel)), (NN.frx 4 3 4 rfl rfl hF37 hE36 hI10.2.2.2.2.1 hW hI10.1 (by decide +kernel)), (NN.frx 10 9 7 rfl rfl hF37 hE36 hI10.2.2.2.2.2.1 hW hI10.1 (by decide +kernel)), (PI.frx hI10.2.2.2.2.2.2.1 hF37 hE36 hW hI10.1 hI10.2.2.2.2.1 (by decide +kernel)), (CWI.fr hI10.2.2.2.2.2.2.2 hF37 hE36 hW hI10.1 (by decide +kernel) (by decide +kernel) (by decide +kernel))⟩
  have hWp42 := hW
  have hY43 : YRL V33 x m0 := YRL.frx hY12 hF37 hE36 hW hI10.1 hI10.2.1 hI10.2.2.2.2.1 (by decide +kernel) (by decide +kernel)
  have hT44 : TXE K32 V33 x m0 := TXE.frx hT13 hF37 hE36 hW hI10.1 hI10.2.1 (by decide +kernel)
  have hA45 : AB V33 x m0 := AB.frx hA14 hF37 hE36 hW hI10.1 hI10.2.1 hI10.2.2.2.2.1 (by decide +kernel) (by decide +kernel) (Int.le_of_eq (vi_fr hF37 hI10.2.1 (hE36.obj (by decide) hI10.2.1) (by decide +kernel)).symm)
  have s46 : tdy V33 x = tdy V2 x := tdy_fr hF37 hE36 hW hI10.1 (by decide +kernel) (by decide +kernel)
  have s47 : wsz V33 x = wsz V2 x := wsz_fr hF37 hE36 hW hI10.1 (by decide +kernel) (by decide +kernel)
  have s48 : csz V33 x = csz V2 x := csz_fr hF37 hE36 hW hI10.1 (by decide +kernel) (by decide +kernel)
  have s49 : dsz V33 x = dsz V2 x := dsz_fr hF37 hE36 hW hI10.1 (by decide +kernel) (by decide +kernel)
  clear hW
  have s50 : vi V33 x 4 = vi V2 x 4 := vi_fr hF37 hI10.1 (hE36.obj (by decide) hI10.1) (by decide +kernel)
  have s51 : vi V33 x 10 = vi V2 x 10 := vi_fr hF37 hI10.1 (hE36.obj (by decide) hI10.1) (by decide +kernel)
  have s52 : vi V33 m0 9 = vi V2 m0 9 := vi_fr hF37 hI10.2.1 (hE36.obj (by decide) hI10.2.1) (by decide +kernel)
  have s53 : vi V33 m0 2 = vi V2 m0 2 := vi_fr hF37 hI10.2.1 (hE36.obj (by decide) hI10.2.1) (by decide +kernel)
  have s54 : vi V33 m0 91 = vi V2 m0 91 := vi_fr hF37 hI10.2.1 (hE36.obj (by decide) hI10.2.1) (by decide +kernel)
  have s55 : vi V33 m0 133 = vi V2 m0 133 := vi_fr hF37 hI10.2.1 (hE36.obj (by decide) hI10.2.1) (by decide +kernel)
  have s56 : vi V33 m0 120 = vi V2 m0 120 := vi_fr hF37 hI10.2.1 (hE36.obj (by decide) hI10.2.1) (by decide +kernel)
  have s57 : vi V33 x 8 = vi V2 x 8 := vi_fr hF37 hI10.1 (hE36.obj (by decide) hI10.1) (by decide +kernel)
  have s58 : vi V33 m0 66 = vi V2 m0 66 := vi_fr hF37 hI10.2.1 (hE36.obj (by decide) hI10.2.1) (by decide +kernel)
  have s59 : vi V33 m0 118 = vi V2 m0 118 := vi_fr hF37 hI10.2.1 (hE36.obj (by decide) hI10.2.1) (by decide +kernel)
  have hS60 : STE V33 x m0 := STE.frx hS29 hF37 hE36 hWp42 hI10.1 hI10.2.1 (by decide +kernel) (by decide +kernel)
  have hK61 : WKE V33 x m0 := WKE.frx hK30 hF37 hE36 hWp42 hI10.1 hI10.2.1 (by decide +kernel) (by decide +kernel)
  have hP62 : PLE V33 x m0 := PLE.frx hP31 hF37 hE36 hWp42 hI10.1 hI10.2.1 (by omega) (by decide +kernel) (by decide +kernel) (by decide +kernel) (by decide +kernel) (by decide +kernel) (by decide +kernel)
  refine LG.pop dL_law_1404 rfl ?_
  refine LG.goto (tgt := 2745) dL_law_1405 (by decide) ?_
  exact LG.widen (le_cs3 rfl) (kk _ _ hI41 (⟨by unfold RLI; omega, hA45, hT44, hY43, hP62, hK61, hS60⟩))

set_option maxHeartbeats 2000000 in
theorem law_case_24 {p : Program} {l : Launch} {e : Env} {s : State} {m : MethodId} {below : List Frame} {meth : Method} {c : Code} {b L : Nat} {xs : Nat → Int32} {D : va_G} {dA : Nat → ClassId} {K : Kmap} {V : Vmap} {cells slots x m0 : Nat} {i : Int} (hI : LI K V x m0) (hR : REL K V x m0) (hL : L ≤ 4096) (h0 : 0 ≤ i) (h8 : i + 8 ≤ L) (hcs : cells + 8 ≤ 600000 ∧ slots + 2704 ≤ 7302250) (kk : ∀ (K1 : Kmap) (V1 : Vmap), LI K1 V1 x m0 → REL K1 V1 x m0 → LG p l e s m below meth c b L xs D dA K1 V1 (cells + 8) (slots + 2704) 2745 [some (.ref b), some (.ref x), some (.ref m0), some (ti i)] []) : LG p l e s m below meth c b L xs D dA K V cells slots 1408 [some (.ref b), some (.ref x), some (.ref m0), some (ti i)] [] := by
  have hR0 := hR.1
  have hA0 := hR.2.1
  have hT0 := hR.2.2.1
  have hY0 := hR.2.2.2.1
  have hP0 := hR.2.2.2.2.1
  have hK0 := hR.2.2.2.2.2.1
  have hS0 := hR.2.2.2.2.2.2
  unfold RLI at hR0
  refine LG.aload_n dL_law_1408 rfl rfl ?_
  refine LG.aload_n dL_law_1409 rfl rfl ?_
  refine LG.iload_n dL_law_1410 rfl rfl ?_
  refine LG.iconst dL_law_1411 ?_
  refine LG.iadd dL_law_1412 ?_
  refine LG.sld (Y := i + 1) dL_law_1413 (by omega) (by omega) hL ?_
  refine LG.aload_n dL_law_1414 rfl rfl ?_
  refine LG.iload_n dL_law_1415 rfl rfl ?_
  refine LG.iconst dL_law_1416 ?_
  refine LG.iadd dL_law_1417 ?_
  refine LG.sld (Y := i + 2) dL_law_1418 (by omega) (by omega) hL ?_
  refine LG.aload_n dL_law_1419 rfl rfl ?_
  refine LG.iload_n dL_law_1420 rfl rfl ?_
  refine LG.iconst dL_law_1421 ?_
  refine LG.iadd dL_law_1422 ?_
  refine LG.sld (Y := i + 3) dL_law_1423 (by omega) (by omega) hL ?_
  refine LG.useWT (fun hW => ?_)
  refine LG.callV (ci := 10) (N := mX11_ship) (As := [ti (xv xs (i + 1)), ti (xv xs (i + 2)), ti (xv xs (i + 3))]) dL_law_1424 (RX11, TX11, 20) rfl gV_RL_121 hI.1 (t_X11_ship hI.1 xv_ir xv_ir xv_ir hI.2.2.2.2.1 hI.2.2.2.2.2.1) rfl [] rfl rfl (le_cs hcs rfl) (Nat.le_of_ble_eq_true rfl) (g_ix fun X7 K1 V2 r3 h4 hE5 hF6 => ?_)
  have hI10 : LI K1 V2 x m0 := ⟨hE5.obj (by decide) hI.1, hE5.obj (by decide) hI.2.1, (GX.frx hF6 hE5 hI.2.2.1 hW hI.2.1 (by decide +kernel)), (PX0.frx hF6 hE5 hI.2.2.2.1 hW hI.2.1 (by decide +kernel)), (NN.frx 4 3 4 rfl rfl hF6 hE5 hI.2.2.2.2.1 hW hI.1 (by decide +kernel)), (h4.2), (PI.frx hI.2.2.2.2.2.2.1 hF6 hE5 hW hI.1 hI.2.2.2.2.1 (by decide +kernel)), (CWI.fr hI.2.2.2.2.2.2.2 hF6 hE5 hW hI.1 (by decide +kernel) (by decide +kernel) (by decide +kernel))⟩
  have hWp11 := hW
  have hY12 : YRL V2 x m0 := YRL.frx hY0 hF6 hE5 hW hI.1 hI.2.1 hI.2.2.2.2.1 (by decide +kernel) (by decide +kernel)
  have hT13 : TXE K1 V2 x m0 := TXE.frx hT0 hF6 hE5 hW hI.1 hI.2.1 (by decide +kernel)
  have hA14 : AB V2 x m0 := AB.frx hA0 hF6 hE5 hW hI.1 hI.2.1 hI.2.2.2.2.1 (by decide +kernel) (by decide +kernel) (Int.le_of_eq (vi_fr hF6 hI.2.1 (hE5.obj (by decide) hI.2.1) (by decide +kernel)).symm)
  have s15 : tdy V2 x = tdy V x := tdy_fr hF6 hE5 hW hI.1 (by decide +kernel) (by decide +kernel)
  have s16 : wsz V2 x = wsz V x := wsz_fr hF6 hE5 hW hI.1 (by decide +kernel) (by decide +kernel)
  have s17 : csz V2 x = csz V x := csz_fr hF6 hE5 hW hI.1 (by decide +kernel) (by decide +kernel)
  have s18 : dsz V2 x = dsz V x := dsz_fr hF6 hE5 hW hI.1 (by decide +kernel) (by decide +kernel)
  clear hW
  have s19 : vi V2 x 4 = vi V x 4 := vi_fr hF6 hI.1 (hE5.obj (by decide) hI.1) (by decide +kernel)
  have s20 : vi V2 m0 9 = vi V m0 9 := vi_fr hF6 hI.2.1 (hE5.obj (by decide) hI.2.1) (by decide +kernel)
  have s21 : vi V2 m0 2 = vi V m0 2 := vi_fr hF6 hI.2.1 (hE5.obj (by decide) hI.2.1) (by decide +kernel)
  have s22 : vi V2 m0 91 = vi V m0 91 := vi_fr hF6 hI.2.1 (hE5.obj (by decide) hI.2.1) (by decide +kernel)
  have s23 : vi V2 m0 133 = vi V m0 133 := vi_fr hF6 hI.2.1 (hE5.obj (by decide) hI.2.1) (by decide +kernel)
  have s24 : vi V2 m0 120 = vi V m0 120 := vi_fr hF6 hI.2.1 (hE5.obj (by decide) hI.2.1) (by decide +kernel)
  have s25 : vi V2 x 8 = vi V x 8 := vi_fr hF6 hI.1 (hE5.obj (by decide) hI.1) (by decide +kernel)
  have s26 : vi V2 m0 66 = vi V m0 66 := vi_fr hF6 hI.2.1 (hE5.obj (by decide) hI.2.1) (by decide +kernel)
  have s27 : vi V2 m0 118 = vi V m0 118 := vi_fr hF6 hI.2.1 (hE5.obj (by decide) hI.2.1) (by decide +kernel)
  have hS28 : STE V2 x m0 := STE.frx hS0 hF6 hE5 hWp11 hI.1 hI.2.1 (by decide +kernel) (by decide +kernel)
  have hK29 : WKE V2 x m0 := WKE.frx hK0 hF6 hE5 hWp11 hI.1 hI.2.1 (by decide +kernel) (by decide +kernel)
  have hP30 : PLE V2 x m0 := PLE.frx hP0 hF6 hE5 hWp11 hI.1 hI.2.1 (by omega) (by decide +kernel) (by decide +kernel) (by decide +kernel) (by decide +kernel) (by decide +kernel) (by decide +kernel)
  refine LG.pop dL_law_1427 rfl ?_
  refine LG.aload_n dL_law_1428 rfl rfl ?_
  refine LG.aload_n dL_law_1429 rfl rfl ?_
  refine LG.iload_n dL_law_1430 rfl rfl ?_
  refine LG.iconst dL_law_1431 ?_
  refine LG.iadd dL_law_1432 ?_
  refine LG.sld (Y := i + 1) dL_law_1433 (by omega) (by omega) hL ?_
  refine LG.aload_n dL_law_1434 rfl rfl ?_
  refine LG.iload_n dL_law_1435 rfl rfl ?_
  refine LG.iconst dL_law_1436 ?_
  refine LG.iadd dL_law_1437 ?_
  refine LG.sld (Y := i + 2) dL_law_1438 (by omega) (by omega) hL ?_
  refine LG.aload_n dL_law_1439 rfl rfl ?_
  refine LG.iload_n dL_law_1440 rfl rfl ?_
  refine LG.iconst dL_law_1441 ?_
  refine LG.iadd dL_law_1442 ?_
  refine LG.sld (Y := i + 3) dL_law_1443 (by omega) (by omega) hL ?_
  refine LG.useWT (fun hW => ?_)
  refine LG.callV (ci := 11) (N := mX12_ship) (As := [ti (xv xs (i + 1)), ti (xv xs (i + 2)), ti (xv xs (i + 3))]) dL_law_1444 (RX12, TX12, 151) rfl gV_RL_124 hI10.2.1 (t_X12_ship hI10.2.1 xv_ir xv_ir xv_ir) rfl [] rfl rfl (le_csb hcs rfl) (Nat.le_of_ble_eq_true rfl) (g_is fun X37 K31 V32 r33 h34 hE35 hF36 => ?_)
  have hI40 : LI K31 V32 x m0 := ⟨hE35.obj (by decide) hI10.1, hE35.obj (by decide) hI10.2.1, (GX.frx hF36 hE35 hI10.2.2.1 hW hI10.2.1 (by decide +kernel)), (PX0.frx hF36 hE35 hI10.2.2.2.1 hW hI10.2.1 (by decide +kernel)), (NN.frx 4 3 4 rfl rfl hF36 hE35 hI10.2.2.2.2.1 hW hI10.1 (by decide +kernel)), (NN.frx 10 9 7 rfl rfl hF36 hE35 hI10.2.2.2.2.2.1 hW hI10.1 (by decide +kernel)), (PI.frx hI10.2.2.2.2.2.2.1 hF36 hE35 hW hI10.1 hI10.2.2.2.2.1 (by decide +kernel)), (CWI.fr hI10.2.2.2.2.2.2.2 hF36 hE35 hW hI10.1 (by decide +kernel) (by decide +kernel) (by decide +kernel))⟩
  have hWp41 := hW
  have hY42 : YRL V32 x m0 := YRL.frx hY12 hF36 hE35 hW hI10.1 hI10.2.1 hI10.2.2.2.2.1 (by decide +kernel) (by decide +kernel)
  have hT43 : TXE K31 V32 x m0 := TXE.frx hT13 hF36 hE35 hW hI10.1 hI10.2.1 (by decide +kernel)
  have hA44 : AB V32 x m0 := AB.frx hA14 hF36 hE35 hW hI10.1 hI10.2.1 hI10.2.2.2.2.1 (by decide +kernel) (by decide +kernel) (Int.le_of_eq (vi_fr hF36 hI10.2.1 (hE35.obj (by decide) hI10.2.1) (by decide +kernel)).symm)
  have s45 : tdy V32 x = tdy V2 x := tdy_fr hF36 hE35 hW hI10.1 (by decide +kernel) (by decide +kernel)
  have s46 : wsz V32 x = wsz V2 x := wsz_fr hF36 hE35 hW hI10.1 (by decide +kernel) (by decide +kernel)
  have s47 : csz V32 x = csz V2 x := csz_fr hF36 hE35 hW hI10.1 (by decide +kernel) (by decide +kernel)
  have s48 : dsz V32 x = dsz V2 x := dsz_fr hF36 hE35 hW hI10.1 (by decide +kernel) (by decide +kernel)
  clear hW
  have s49 : vi V32 x 4 = vi V2 x 4 := vi_fr hF36 hI10.1 (hE35.obj (by decide) hI10.1) (by decide +kernel)
  have s50 : vi V32 x 10 = vi V2 x 10 := vi_fr hF36 hI10.1 (hE35.obj (by decide) hI10.1) (by decide +kernel)
  have s51 : vi V32 m0 9 = vi V2 m0 9 := vi_fr hF36 hI10.2.1 (hE35.obj (by decide) hI10.2.1) (by decide +kernel)
  have s52 : vi V32 m0 2 = vi V2 m0 2 := vi_fr hF36 hI10.2.1 (hE35.obj (by decide) hI10.2.1) (by decide +kernel)
  have s53 : vi V32 m0 133 = vi V2 m0 133 := vi_fr hF36 hI10.2.1 (hE35.obj (by decide) hI10.2.1) (by decide +kernel)
  have s54 : vi V32 m0 120 = vi V2 m0 120 := vi_fr hF36 hI10.2.1 (hE35.obj (by decide) hI10.2.1) (by decide +kernel)
  have s55 : vi V32 x 8 = vi V2 x 8 := vi_fr hF36 hI10.1 (hE35.obj (by decide) hI10.1) (by decide +kernel)
  have s56 : vi V32 m0 66 = vi V2 m0 66 := vi_fr hF36 hI10.2.1 (hE35.obj (by decide) hI10.2.1) (by decide +kernel)
  have s57 : vi V32 m0 118 = vi V2 m0 118 := vi_fr hF36 hI10.2.1 (hE35.obj (by decide) hI10.2.1) (by decide +kernel)
  have hS58 : STE V32 x m0 := STE.frx hS28 hF36 hE35 hWp41 hI10.1 hI10.2.1 (by decide +kernel) (by decide +kernel)
  have hK59 : WKE V32 x m0 := WKE.frx hK29 hF36 hE35 hWp41 hI10.1 hI10.2.1 (by decide +kernel) (by decide +kernel)
  have hP60 : PLE V32 x m0 := PLE.frx hP30 hF36 hE35 hWp41 hI10.1 hI10.2.1 (by omega) (by decide +kernel) (by decide +kernel) (by decide +kernel) (by decide +kernel) (by decide +kernel) (by decide +kernel)
  refine LG.pop dL_law_1447 rfl ?_
  refine LG.goto (tgt := 2745) dL_law_1448 (by decide) ?_
  exact LG.widen (le_cs3 rfl) (kk _ _ hI40 (⟨by unfold RLI; omega, hA44, hT43, hY42, hP60, hK59, hS58⟩))

set_option maxHeartbeats 2000000 in
theorem law_case_25 {p : Program} {l : Launch} {e : Env} {s : State} {m : MethodId} {below : List Frame} {meth : Method} {c : Code} {b L : Nat} {xs : Nat → Int32} {D : va_G} {dA : Nat → ClassId} {K : Kmap} {V : Vmap} {cells slots x m0 : Nat} {i : Int} (hI : LI K V x m0) (hR : REL K V x m0) (hL : L ≤ 4096) (h0 : 0 ≤ i) (h8 : i + 8 ≤ L) (hcs : cells + 8 ≤ 600000 ∧ slots + 2704 ≤ 7302250) (kk : ∀ (K1 : Kmap) (V1 : Vmap), LI K1 V1 x m0 → REL K1 V1 x m0 → LG p l e s m below meth c b L xs D dA K1 V1 (cells + 8) (slots + 2704) 2745 [some (.ref b), some (.ref x), some (.ref m0), some (ti i)] []) : LG p l e s m below meth c b L xs D dA K V cells slots 1451 [some (.ref b), some (.ref x), some (.ref m0), some (ti i)] [] := by
  have hR0 := hR.1
  have hA0 := hR.2.1
  have hT0 := hR.2.2.1
  have hY0 := hR.2.2.2.1
  have hP0 := hR.2.2.2.2.1
  have hK0 := hR.2.2.2.2.2.1
  have hS0 := hR.2.2.2.2.2.2
  unfold RLI at hR0
  refine LG.aload_n dL_law_1451 rfl rfl ?_
  refine LG.aload_n dL_law_1452 rfl rfl ?_
  refine LG.iload_n dL_law_1453 rfl rfl ?_
  refine LG.iconst dL_law_1454 ?_
  refine LG.iadd dL_law_1455 ?_
  refine LG.sld (Y := i + 1) dL_law_1456 (by omega) (by omega) hL ?_
  refine LG.aload_n dL_law_1457 rfl rfl ?_
  refine LG.iload_n dL_law_1458 rfl rfl ?_
  refine LG.iconst dL_law_1459 ?_
  refine LG.iadd dL_law_1460 ?_
  refine LG.sld (Y := i + 2) dL_law_1461 (by omega) (by omega) hL ?_
  refine LG.aload_n dL_law_1462 rfl rfl ?_
  refine LG.iload_n dL_law_1463 rfl rfl ?_
  refine LG.iconst dL_law_1464 ?_
  refine LG.iadd dL_law_1465 ?_
  refine LG.sld (Y := i + 3) dL_law_1466 (by omega) (by omega) hL ?_
  refine LG.useWT (fun hW => ?_)
  refine LG.callV (ci := 10) (N := mX11_cover) (As := [ti (xv xs (i + 1)), ti (xv xs (i + 2)), ti (xv xs (i + 3))]) dL_law_1467 (RX11, TX11, 20) rfl gV_RL_125 hI.1 (t_X11_cover hI.1 xv_ir xv_ir xv_ir) rfl [] rfl rfl (le_cs hcs rfl) (Nat.le_of_ble_eq_true rfl) (g_is fun X7 K1 V2 r3 h4 hE5 hF6 => ?_)
  have hI10 : LI K1 V2 x m0 := ⟨hE5.obj (by decide) hI.1, hE5.obj (by decide) hI.2.1, (GX.frx hF6 hE5 hI.2.2.1 hW hI.2.1 (by decide +kernel)), (PX0.frx hF6 hE5 hI.2.2.2.1 hW hI.2.1 (by decide +kernel)), (NN.frx 4 3 4 rfl rfl hF6 hE5 hI.2.2.2.2.1 hW hI.1 (by decide +kernel)), (NN.frx 10 9 7 rfl rfl hF6 hE5 hI.2.2.2.2.2.1 hW hI.1 (by decide +kernel)), (PI.frx hI.2.2.2.2.2.2.1 hF6 hE5 hW hI.1 hI.2.2.2.2.1 (by decide +kernel)), (CWI.fr hI.2.2.2.2.2.2.2 hF6 hE5 hW hI.1 (by decide +kernel) (by decide +kernel) (by decide +kernel))⟩
  have hWp11 := hW
  have hY12 : YRL V2 x m0 := YRL.frx hY0 hF6 hE5 hW hI.1 hI.2.1 hI.2.2.2.2.1 (by decide +kernel) (by decide +kernel)
  have hT13 : TXE K1 V2 x m0 := TXE.frx hT0 hF6 hE5 hW hI.1 hI.2.1 (by decide +kernel)
  have hA14 : AB V2 x m0 := AB.frx hA0 hF6 hE5 hW hI.1 hI.2.1 hI.2.2.2.2.1 (by decide +kernel) (by decide +kernel) (Int.le_of_eq (vi_fr hF6 hI.2.1 (hE5.obj (by decide) hI.2.1) (by decide +kernel)).symm)
  have s15 : tdy V2 x = tdy V x := tdy_fr hF6 hE5 hW hI.1 (by decide +kernel) (by decide +kernel)
  have s16 : wsz V2 x = wsz V x := wsz_fr hF6 hE5 hW hI.1 (by decide +kernel) (by decide +kernel)
  have s17 : csz V2 x = csz V x := csz_fr hF6 hE5 hW hI.1 (by decide +kernel) (by decide +kernel)
  have s18 : dsz V2 x = dsz V x := dsz_fr hF6 hE5 hW hI.1 (by decide +kernel) (by decide +kernel)
  clear hW
  have s19 : vi V2 x 4 = vi V x 4 := vi_fr hF6 hI.1 (hE5.obj (by decide) hI.1) (by decide +kernel)
  have s20 : vi V2 x 10 = vi V x 10 := vi_fr hF6 hI.1 (hE5.obj (by decide) hI.1) (by decide +kernel)
  have s21 : vi V2 m0 9 = vi V m0 9 := vi_fr hF6 hI.2.1 (hE5.obj (by decide) hI.2.1) (by decide +kernel)
  have s22 : vi V2 m0 2 = vi V m0 2 := vi_fr hF6 hI.2.1 (hE5.obj (by decide) hI.2.1) (by decide +kernel)
  have s23 : vi V2 m0 91 = vi V m0 91 := vi_fr hF6 hI.2.1 (hE5.obj (by decide) hI.2.1) (by decide +kernel)
  have s24 : vi V2 m0 133 = vi V m0 133 := vi_fr hF6 hI.2.1 (hE5.obj (by decide) hI.2.1) (by decide +kernel)
  have s25 : vi V2 m0 120 = vi V m0 120 := vi_fr hF6 hI.2.1 (hE5.obj (by decide) hI.2.1) (by decide +kernel)
  have s26 : vi V2 x 8 = vi V x 8 := vi_fr hF6 hI.1 (hE5.obj (by decide) hI.1) (by decide +kernel)
  have s27 : vi V2 m0 66 = vi V m0 66 := vi_fr hF6 hI.2.1 (hE5.obj (by decide) hI.2.1) (by decide +kernel)
  have s28 : vi V2 m0 118 = vi V m0 118 := vi_fr hF6 hI.2.1 (hE5.obj (by decide) hI.2.1) (by decide +kernel)
  have hS29 : STE V2 x m0 := STE.frx hS0 hF6 hE5 hWp11 hI.1 hI.2.1 (by decide +kernel) (by decide +kernel)
  have hK30 : WKE V2 x m0 := WKE.frx hK0 hF6 hE5 hWp11 hI.1 hI.2.1 (by decide +kernel) (by decide +kernel)
  have hP31 : PLE V2 x m0 := PLE.frx hP0 hF6 hE5 hWp11 hI.1 hI.2.1 (by omega) (by decide +kernel) (by decide +kernel) (by decide +kernel) (by decide +kernel) (by decide +kernel) (by decide +kernel)
  refine LG.pop dL_law_1470 rfl ?_
  refine LG.aload_n dL_law_1471 rfl rfl ?_
  refine LG.aload_n dL_law_1472 rfl rfl ?_
  refine LG.iload_n dL_law_1473 rfl rfl ?_
  refine LG.iconst dL_law_1474 ?_
  refine LG.iadd dL_law_1475 ?_
  refine LG.sld (Y := i + 1) dL_law_1476 (by omega) (by omega) hL ?_
  refine LG.aload_n dL_law_1477 rfl rfl ?_
  refine LG.iload_n dL_law_1478 rfl rfl ?_
  refine LG.iconst dL_law_1479 ?_
  refine LG.iadd dL_law_1480 ?_
  refine LG.sld (Y := i + 2) dL_law_1481 (by omega) (by omega) hL ?_
  refine LG.aload_n dL_law_1482 rfl rfl ?_
  refine LG.iload_n dL_law_1483 rfl rfl ?_
  refine LG.iconst dL_law_1484 ?_
  refine LG.iadd dL_law_1485 ?_
  refine LG.sld (Y := i + 3) dL_law_1486 (by omega) (by omega) hL ?_
  refine LG.useWT (fun hW => ?_)
  refine LG.callV (ci := 11) (N := mX12_cover) (As := [ti (xv xs (i + 1)), ti (xv xs (i + 2)), ti (xv xs (i + 3))]) dL_law_1487 (RX12, TX12, 151) rfl gV_RL_129 hI10.2.1 (t_X12_cover hI10.2.1 xv_ir xv_ir xv_ir) rfl [] rfl rfl (le_csb hcs rfl) (Nat.le_of_ble_eq_true rfl) (g_is fun X38 K32 V33 r34 h35 hE36 hF37 => ?_)
  have hI41 : LI K32 V33 x m0 := ⟨hE36.obj (by decide) hI10.1, hE36.obj (by decide) hI10.2.1, (GX.frx hF37 hE36 hI10.2.2.1 hW hI10.2.1 (by decide +kernel)), (PX0.frx hF37 hE36 hI10.2.2.2.1 hW hI10.2.1 (by decide +kernel)), (NN.frx 4 3 4 rfl rfl hF37 hE36 hI10.2.2.2.2.1 hW hI10.1 (by decide +kernel)), (NN.frx 10 9 7 rfl rfl hF37 hE36 hI10.2.2.2.2.2.1 hW hI10.1 (by decide +kernel)), (PI.frx hI10.2.2.2.2.2.2.1 hF37 hE36 hW hI10.1 hI10.2.2.2.2.1 (by decide +kernel)), (CWI.fr hI10.2.2.2.2.2.2.2 hF37 hE36 hW hI10.1 (by decide +kernel) (by decide +kernel) (by decide +kernel))⟩
  have hWp42 := hW
  have hY43 : YRL V33 x m0 := YRL.frx hY12 hF37 hE36 hW hI10.1 hI10.2.1 hI10.2.2.2.2.1 (by decide +kernel) (by decide +kernel)
  have hT44 : TXE K32 V33 x m0 := TXE.frx hT13 hF37 hE36 hW hI10.1 hI10.2.1 (by decide +kernel)
  have hA45 : AB V33 x m0 := AB.frx hA14 hF37 hE36 hW hI10.1 hI10.2.1 hI10.2.2.2.2.1 (by decide +kernel) (by decide +kernel) (Int.le_of_eq (vi_fr hF37 hI10.2.1 (hE36.obj (by decide) hI10.2.1) (by decide +kernel)).symm)
  have s46 : tdy V33 x = tdy V2 x := tdy_fr hF37 hE36 hW hI10.1 (by decide +kernel) (by decide +kernel)
  have s47 : wsz V33 x = wsz V2 x := wsz_fr hF37 hE36 hW hI10.1 (by decide +kernel) (by decide +kernel)
  have s48 : csz V33 x = csz V2 x := csz_fr hF37 hE36 hW hI10.1 (by decide +kernel) (by decide +kernel)
  have s49 : dsz V33 x = dsz V2 x := dsz_fr hF37 hE36 hW hI10.1 (by decide +kernel) (by decide +kernel)
  clear hW
  have s50 : vi V33 x 4 = vi V2 x 4 := vi_fr hF37 hI10.1 (hE36.obj (by decide) hI10.1) (by decide +kernel)
  have s51 : vi V33 x 10 = vi V2 x 10 := vi_fr hF37 hI10.1 (hE36.obj (by decide) hI10.1) (by decide +kernel)
  have s52 : vi V33 m0 9 = vi V2 m0 9 := vi_fr hF37 hI10.2.1 (hE36.obj (by decide) hI10.2.1) (by decide +kernel)
  have s53 : vi V33 m0 2 = vi V2 m0 2 := vi_fr hF37 hI10.2.1 (hE36.obj (by decide) hI10.2.1) (by decide +kernel)
  have s54 : vi V33 m0 91 = vi V2 m0 91 := vi_fr hF37 hI10.2.1 (hE36.obj (by decide) hI10.2.1) (by decide +kernel)
  have s55 : vi V33 m0 133 = vi V2 m0 133 := vi_fr hF37 hI10.2.1 (hE36.obj (by decide) hI10.2.1) (by decide +kernel)
  have s56 : vi V33 m0 120 = vi V2 m0 120 := vi_fr hF37 hI10.2.1 (hE36.obj (by decide) hI10.2.1) (by decide +kernel)
  have s57 : vi V33 x 8 = vi V2 x 8 := vi_fr hF37 hI10.1 (hE36.obj (by decide) hI10.1) (by decide +kernel)
  have s58 : vi V33 m0 66 = vi V2 m0 66 := vi_fr hF37 hI10.2.1 (hE36.obj (by decide) hI10.2.1) (by decide +kernel)
  have s59 : vi V33 m0 118 = vi V2 m0 118 := vi_fr hF37 hI10.2.1 (hE36.obj (by decide) hI10.2.1) (by decide +kernel)
  have hS60 : STE V33 x m0 := STE.frx hS29 hF37 hE36 hWp42 hI10.1 hI10.2.1 (by decide +kernel) (by decide +kernel)
  have hK61 : WKE V33 x m0 := WKE.frx hK30 hF37 hE36 hWp42 hI10.1 hI10.2.1 (by decide +kernel) (by decide +kernel)
  have hP62 : PLE V33 x m0 := PLE.frx hP31 hF37 hE36 hWp42 hI10.1 hI10.2.1 (by omega) (by decide +kernel) (by decide +kernel) (by decide +kernel) (by decide +kernel) (by decide +kernel) (by decide +kernel)
  refine LG.pop dL_law_1490 rfl ?_
  refine LG.goto (tgt := 2745) dL_law_1491 (by decide) ?_
  exact LG.widen (le_cs3 rfl) (kk _ _ hI41 (⟨by unfold RLI; omega, hA45, hT44, hY43, hP62, hK61, hS60⟩))

set_option maxHeartbeats 2000000 in
theorem law_case_26 {p : Program} {l : Launch} {e : Env} {s : State} {m : MethodId} {below : List Frame} {meth : Method} {c : Code} {b L : Nat} {xs : Nat → Int32} {D : va_G} {dA : Nat → ClassId} {K : Kmap} {V : Vmap} {cells slots x m0 : Nat} {i : Int} (hI : LI K V x m0) (hR : REL K V x m0) (hL : L ≤ 4096) (h0 : 0 ≤ i) (h8 : i + 8 ≤ L) (hcs : cells + 8 ≤ 600000 ∧ slots + 2704 ≤ 7302250) (kk : ∀ (K1 : Kmap) (V1 : Vmap), LI K1 V1 x m0 → REL K1 V1 x m0 → LG p l e s m below meth c b L xs D dA K1 V1 (cells + 8) (slots + 2704) 2745 [some (.ref b), some (.ref x), some (.ref m0), some (ti i)] []) : LG p l e s m below meth c b L xs D dA K V cells slots 1494 [some (.ref b), some (.ref x), some (.ref m0), some (ti i)] [] := by
  have hR0 := hR.1
  have hA0 := hR.2.1
  have hT0 := hR.2.2.1
  have hY0 := hR.2.2.2.1
  have hP0 := hR.2.2.2.2.1
  have hK0 := hR.2.2.2.2.2.1
  have hS0 := hR.2.2.2.2.2.2
  unfold RLI at hR0
  refine LG.aload_n dL_law_1494 rfl rfl ?_
  refine LG.aload_n dL_law_1495 rfl rfl ?_
  refine LG.iload_n dL_law_1496 rfl rfl ?_
  refine LG.iconst dL_law_1497 ?_
  refine LG.iadd dL_law_1498 ?_
  refine LG.sld (Y := i + 1) dL_law_1499 (by omega) (by omega) hL ?_
  refine LG.aload_n dL_law_1500 rfl rfl ?_
  refine LG.iload_n dL_law_1501 rfl rfl ?_
  refine LG.iconst dL_law_1502 ?_
  refine LG.iadd dL_law_1503 ?_
  refine LG.sld (Y := i + 2) dL_law_1504 (by omega) (by omega) hL ?_
  refine LG.useWT (fun hW => ?_)
  refine LG.callV (ci := 10) (N := mX11_sea) (As := [ti (xv xs (i + 1)), ti (xv xs (i + 2))]) dL_law_1505 (RX11, TX11, 20) rfl gV_RL_130 hI.1 (t_X11_sea hI.1 xv_ir xv_ir) rfl [] rfl rfl (le_cs hcs rfl) (Nat.le_of_ble_eq_true rfl) (g_is fun X7 K1 V2 r3 h4 hE5 hF6 => ?_)
  have hI10 : LI K1 V2 x m0 := ⟨hE5.obj (by decide) hI.1, hE5.obj (by decide) hI.2.1, (GX.frx hF6 hE5 hI.2.2.1 hW hI.2.1 (by decide +kernel)), (PX0.frx hF6 hE5 hI.2.2.2.1 hW hI.2.1 (by decide +kernel)), (NN.frx 4 3 4 rfl rfl hF6 hE5 hI.2.2.2.2.1 hW hI.1 (by decide +kernel)), (NN.frx 10 9 7 rfl rfl hF6 hE5 hI.2.2.2.2.2.1 hW hI.1 (by decide +kernel)), (PI.frx hI.2.2.2.2.2.2.1 hF6 hE5 hW hI.1 hI.2.2.2.2.1 (by decide +kernel)), (CWI.fr hI.2.2.2.2.2.2.2 hF6 hE5 hW hI.1 (by decide +kernel) (by decide +kernel) (by decide +kernel))⟩
  have hWp11 := hW
  have hY12 : YRL V2 x m0 := YRL.frx hY0 hF6 hE5 hW hI.1 hI.2.1 hI.2.2.2.2.1 (by decide +kernel) (by decide +kernel)
  have hT13 : TXE K1 V2 x m0 := TXE.frx hT0 hF6 hE5 hW hI.1 hI.2.1 (by decide +kernel)
  have hA14 : AB V2 x m0 := AB.frx hA0 hF6 hE5 hW hI.1 hI.2.1 hI.2.2.2.2.1 (by decide +kernel) (by decide +kernel) (Int.le_of_eq (vi_fr hF6 hI.2.1 (hE5.obj (by decide) hI.2.1) (by decide +kernel)).symm)
  have s15 : tdy V2 x = tdy V x := tdy_fr hF6 hE5 hW hI.1 (by decide +kernel) (by decide +kernel)
  have s16 : wsz V2 x = wsz V x := wsz_fr hF6 hE5 hW hI.1 (by decide +kernel) (by decide +kernel)
  have s17 : csz V2 x = csz V x := csz_fr hF6 hE5 hW hI.1 (by decide +kernel) (by decide +kernel)
  have s18 : dsz V2 x = dsz V x := dsz_fr hF6 hE5 hW hI.1 (by decide +kernel) (by decide +kernel)
  clear hW
  have s19 : vi V2 x 4 = vi V x 4 := vi_fr hF6 hI.1 (hE5.obj (by decide) hI.1) (by decide +kernel)
  have s20 : vi V2 x 10 = vi V x 10 := vi_fr hF6 hI.1 (hE5.obj (by decide) hI.1) (by decide +kernel)
  have s21 : vi V2 m0 9 = vi V m0 9 := vi_fr hF6 hI.2.1 (hE5.obj (by decide) hI.2.1) (by decide +kernel)
  have s22 : vi V2 m0 2 = vi V m0 2 := vi_fr hF6 hI.2.1 (hE5.obj (by decide) hI.2.1) (by decide +kernel)
  have s23 : vi V2 m0 91 = vi V m0 91 := vi_fr hF6 hI.2.1 (hE5.obj (by decide) hI.2.1) (by decide +kernel)
  have s24 : vi V2 m0 133 = vi V m0 133 := vi_fr hF6 hI.2.1 (hE5.obj (by decide) hI.2.1) (by decide +kernel)
  have s25 : vi V2 m0 120 = vi V m0 120 := vi_fr hF6 hI.2.1 (hE5.obj (by decide) hI.2.1) (by decide +kernel)
  have s26 : vi V2 x 8 = vi V x 8 := vi_fr hF6 hI.1 (hE5.obj (by decide) hI.1) (by decide +kernel)
  have s27 : vi V2 m0 66 = vi V m0 66 := vi_fr hF6 hI.2.1 (hE5.obj (by decide) hI.2.1) (by decide +kernel)
  have s28 : vi V2 m0 118 = vi V m0 118 := vi_fr hF6 hI.2.1 (hE5.obj (by decide) hI.2.1) (by decide +kernel)
  have hS29 : STE V2 x m0 := STE.frx hS0 hF6 hE5 hWp11 hI.1 hI.2.1 (by decide +kernel) (by decide +kernel)
  have hK30 : WKE V2 x m0 := WKE.frx hK0 hF6 hE5 hWp11 hI.1 hI.2.1 (by decide +kernel) (by decide +kernel)
  have hP31 : PLE V2 x m0 := PLE.frx hP0 hF6 hE5 hWp11 hI.1 hI.2.1 (by omega) (by decide +kernel) (by decide +kernel) (by decide +kernel) (by decide +kernel) (by decide +kernel) (by decide +kernel)
  refine LG.pop dL_law_1508 rfl ?_
  refine LG.aload_n dL_law_1509 rfl rfl ?_
  refine LG.aload_n dL_law_1510 rfl rfl ?_
  refine LG.iload_n dL_law_1511 rfl rfl ?_
  refine LG.iconst dL_law_1512 ?_
  refine LG.iadd dL_law_1513 ?_
  refine LG.sld (Y := i + 1) dL_law_1514 (by omega) (by omega) hL ?_
  refine LG.aload_n dL_law_1515 rfl rfl ?_
  refine LG.iload_n dL_law_1516 rfl rfl ?_
  refine LG.iconst dL_law_1517 ?_
  refine LG.iadd dL_law_1518 ?_
  refine LG.sld (Y := i + 2) dL_law_1519 (by omega) (by omega) hL ?_
  refine LG.useWT (fun hW => ?_)
  refine LG.callV (ci := 11) (N := mX12_sea) (As := [ti (xv xs (i + 1)), ti (xv xs (i + 2))]) dL_law_1520 (RX12, TX12, 151) rfl gV_RL_133 hI10.2.1 (t_X12_sea hI10.2.1 xv_ir xv_ir) rfl [] rfl rfl (le_csb hcs rfl) (Nat.le_of_ble_eq_true rfl) (g_is fun X38 K32 V33 r34 h35 hE36 hF37 => ?_)
  have hI41 : LI K32 V33 x m0 := ⟨hE36.obj (by decide) hI10.1, hE36.obj (by decide) hI10.2.1, (GX.frx hF37 hE36 hI10.2.2.1 hW hI10.2.1 (by decide +kernel)), (PX0.frx hF37 hE36 hI10.2.2.2.1 hW hI10.2.1 (by decide +kernel)), (NN.frx 4 3 4 rfl rfl hF37 hE36 hI10.2.2.2.2.1 hW hI10.1 (by decide +kernel)), (NN.frx 10 9 7 rfl rfl hF37 hE36 hI10.2.2.2.2.2.1 hW hI10.1 (by decide +kernel)), (PI.frx hI10.2.2.2.2.2.2.1 hF37 hE36 hW hI10.1 hI10.2.2.2.2.1 (by decide +kernel)), (CWI.fr hI10.2.2.2.2.2.2.2 hF37 hE36 hW hI10.1 (by decide +kernel) (by decide +kernel) (by decide +kernel))⟩
  have hWp42 := hW
  have hY43 : YRL V33 x m0 := YRL.frx hY12 hF37 hE36 hW hI10.1 hI10.2.1 hI10.2.2.2.2.1 (by decide +kernel) (by decide +kernel)
  have hT44 : TXE K32 V33 x m0 := TXE.frx hT13 hF37 hE36 hW hI10.1 hI10.2.1 (by decide +kernel)
  have hA45 : AB V33 x m0 := AB.frx hA14 hF37 hE36 hW hI10.1 hI10.2.1 hI10.2.2.2.2.1 (by decide +kernel) (by decide +kernel) (Int.le_of_eq (vi_fr hF37 hI10.2.1 (hE36.obj (by decide) hI10.2.1) (by decide +kernel)).symm)
  have s46 : tdy V33 x = tdy V2 x := tdy_fr hF37 hE36 hW hI10.1 (by decide +kernel) (by decide +kernel)
  have s47 : wsz V33 x = wsz V2 x := wsz_fr hF37 hE36 hW hI10.1 (by decide +kernel) (by decide +kernel)
  have s48 : csz V33 x = csz V2 x := csz_fr hF37 hE36 hW hI10.1 (by decide +kernel) (by decide +kernel)
  have s49 : dsz V33 x = dsz V2 x := dsz_fr hF37 hE36 hW hI10.1 (by decide +kernel) (by decide +kernel)
  clear hW
  have s50 : vi V33 x 4 = vi V2 x 4 := vi_fr hF37 hI10.1 (hE36.obj (by decide) hI10.1) (by decide +kernel)
  have s51 : vi V33 x 10 = vi V2 x 10 := vi_fr hF37 hI10.1 (hE36.obj (by decide) hI10.1) (by decide +kernel)
  have s52 : vi V33 m0 9 = vi V2 m0 9 := vi_fr hF37 hI10.2.1 (hE36.obj (by decide) hI10.2.1) (by decide +kernel)
  have s53 : vi V33 m0 2 = vi V2 m0 2 := vi_fr hF37 hI10.2.1 (hE36.obj (by decide) hI10.2.1) (by decide +kernel)
  have s54 : vi V33 m0 91 = vi V2 m0 91 := vi_fr hF37 hI10.2.1 (hE36.obj (by decide) hI10.2.1) (by decide +kernel)
  have s55 : vi V33 m0 133 = vi V2 m0 133 := vi_fr hF37 hI10.2.1 (hE36.obj (by decide) hI10.2.1) (by decide +kernel)
  have s56 : vi V33 m0 120 = vi V2 m0 120 := vi_fr hF37 hI10.2.1 (hE36.obj (by decide) hI10.2.1) (by decide +kernel)
  have s57 : vi V33 x 8 = vi V2 x 8 := vi_fr hF37 hI10.1 (hE36.obj (by decide) hI10.1) (by decide +kernel)
  have s58 : vi V33 m0 66 = vi V2 m0 66 := vi_fr hF37 hI10.2.1 (hE36.obj (by decide) hI10.2.1) (by decide +kernel)
  have s59 : vi V33 m0 118 = vi V2 m0 118 := vi_fr hF37 hI10.2.1 (hE36.obj (by decide) hI10.2.1) (by decide +kernel)
  have hS60 : STE V33 x m0 := STE.frx hS29 hF37 hE36 hWp42 hI10.1 hI10.2.1 (by decide +kernel) (by decide +kernel)
  have hK61 : WKE V33 x m0 := WKE.frx hK30 hF37 hE36 hWp42 hI10.1 hI10.2.1 (by decide +kernel) (by decide +kernel)
  have hP62 : PLE V33 x m0 := PLE.frx hP31 hF37 hE36 hWp42 hI10.1 hI10.2.1 (by omega) (by decide +kernel) (by decide +kernel) (by decide +kernel) (by decide +kernel) (by decide +kernel) (by decide +kernel)
  refine LG.pop dL_law_1523 rfl ?_
  refine LG.goto (tgt := 2745) dL_law_1524 (by decide) ?_
  exact LG.widen (le_cs3 rfl) (kk _ _ hI41 (⟨by unfold RLI; omega, hA45, hT44, hY43, hP62, hK61, hS60⟩))

set_option maxHeartbeats 2000000 in
theorem law_case_27 {p : Program} {l : Launch} {e : Env} {s : State} {m : MethodId} {below : List Frame} {meth : Method} {c : Code} {b L : Nat} {xs : Nat → Int32} {D : va_G} {dA : Nat → ClassId} {K : Kmap} {V : Vmap} {cells slots x m0 : Nat} {i : Int} (hI : LI K V x m0) (hR : REL K V x m0) (hL : L ≤ 4096) (h0 : 0 ≤ i) (h8 : i + 8 ≤ L) (hcs : cells + 8 ≤ 600000 ∧ slots + 2704 ≤ 7302250) (kk : ∀ (K1 : Kmap) (V1 : Vmap), LI K1 V1 x m0 → REL K1 V1 x m0 → LG p l e s m below meth c b L xs D dA K1 V1 (cells + 8) (slots + 2704) 2745 [some (.ref b), some (.ref x), some (.ref m0), some (ti i)] []) : LG p l e s m below meth c b L xs D dA K V cells slots 1527 [some (.ref b), some (.ref x), some (.ref m0), some (ti i)] [] := by
  have hR0 := hR.1
  have hA0 := hR.2.1
  have hT0 := hR.2.2.1
  have hY0 := hR.2.2.2.1
  have hP0 := hR.2.2.2.2.1
  have hK0 := hR.2.2.2.2.2.1
  have hS0 := hR.2.2.2.2.2.2
  unfold RLI at hR0
  refine LG.aload_n dL_law_1527 rfl rfl ?_
  refine LG.aload_n dL_law_1528 rfl rfl ?_
  refine LG.iload_n dL_law_1529 rfl rfl ?_
  refine LG.iconst dL_law_1530 ?_
  refine LG.iadd dL_law_1531 ?_
  refine LG.sld (Y := i + 1) dL_law_1532 (by omega) (by omega) hL ?_
  refine LG.aload_n dL_law_1533 rfl rfl ?_
  refine LG.iload_n dL_law_1534 rfl rfl ?_
  refine LG.iconst dL_law_1535 ?_
  refine LG.iadd dL_law_1536 ?_
  refine LG.sld (Y := i + 2) dL_law_1537 (by omega) (by omega) hL ?_
  refine LG.aload_n dL_law_1538 rfl rfl ?_
  refine LG.iload_n dL_law_1539 rfl rfl ?_
  refine LG.iconst dL_law_1540 ?_
  refine LG.iadd dL_law_1541 ?_
  refine LG.sld (Y := i + 3) dL_law_1542 (by omega) (by omega) hL ?_
  refine LG.aload_n dL_law_1543 rfl rfl ?_
  refine LG.iload_n dL_law_1544 rfl rfl ?_
  refine LG.iconst dL_law_1545 ?_
  refine LG.iadd dL_law_1546 ?_
  refine LG.sld (Y := i + 4) dL_law_1547 (by omega) (by omega) hL ?_
  refine LG.useWT (fun hW => ?_)
  refine LG.callV (ci := 10) (N := mX11_voyage) (As := [ti (xv xs (i + 1)), ti (xv xs (i + 2)), ti (xv xs (i + 3)), ti (xv xs (i + 4))]) dL_law_1548 (RX11, TX11, 20) rfl gV_RL_134 hI.1 (t_X11_voyage hI.1 xv_ir xv_ir xv_ir xv_ir) rfl [] rfl rfl (le_cs hcs rfl) (Nat.le_of_ble_eq_true rfl) (g_is fun X7 K1 V2 r3 h4 hE5 hF6 => ?_)
  have hI10 : LI K1 V2 x m0 := ⟨hE5.obj (by decide) hI.1, hE5.obj (by decide) hI.2.1, (GX.frx hF6 hE5 hI.2.2.1 hW hI.2.1 (by decide +kernel)), (PX0.frx hF6 hE5 hI.2.2.2.1 hW hI.2.1 (by decide +kernel)), (NN.frx 4 3 4 rfl rfl hF6 hE5 hI.2.2.2.2.1 hW hI.1 (by decide +kernel)), (NN.frx 10 9 7 rfl rfl hF6 hE5 hI.2.2.2.2.2.1 hW hI.1 (by decide +kernel)), (PI.frx hI.2.2.2.2.2.2.1 hF6 hE5 hW hI.1 hI.2.2.2.2.1 (by decide +kernel)), (CWI.fr hI.2.2.2.2.2.2.2 hF6 hE5 hW hI.1 (by decide +kernel) (by decide +kernel) (by decide +kernel))⟩
  have hWp11 := hW
  have hY12 : YRL V2 x m0 := YRL.frx hY0 hF6 hE5 hW hI.1 hI.2.1 hI.2.2.2.2.1 (by decide +kernel) (by decide +kernel)
  have hT13 : TXE K1 V2 x m0 := TXE.frx hT0 hF6 hE5 hW hI.1 hI.2.1 (by decide +kernel)
  have hA14 : AB V2 x m0 := AB.frx hA0 hF6 hE5 hW hI.1 hI.2.1 hI.2.2.2.2.1 (by decide +kernel) (by decide +kernel) (Int.le_of_eq (vi_fr hF6 hI.2.1 (hE5.obj (by decide) hI.2.1) (by decide +kernel)).symm)
  have s15 : tdy V2 x = tdy V x := tdy_fr hF6 hE5 hW hI.1 (by decide +kernel) (by decide +kernel)
  have s16 : wsz V2 x = wsz V x := wsz_fr hF6 hE5 hW hI.1 (by decide +kernel) (by decide +kernel)
  have s17 : csz V2 x = csz V x := csz_fr hF6 hE5 hW hI.1 (by decide +kernel) (by decide +kernel)
  have s18 : dsz V2 x = dsz V x := dsz_fr hF6 hE5 hW hI.1 (by decide +kernel) (by decide +kernel)
  clear hW
  have s19 : vi V2 x 4 = vi V x 4 := vi_fr hF6 hI.1 (hE5.obj (by decide) hI.1) (by decide +kernel)
  have s20 : vi V2 x 10 = vi V x 10 := vi_fr hF6 hI.1 (hE5.obj (by decide) hI.1) (by decide +kernel)
  have s21 : vi V2 m0 9 = vi V m0 9 := vi_fr hF6 hI.2.1 (hE5.obj (by decide) hI.2.1) (by decide +kernel)
  have s22 : vi V2 m0 2 = vi V m0 2 := vi_fr hF6 hI.2.1 (hE5.obj (by decide) hI.2.1) (by decide +kernel)
  have s23 : vi V2 m0 91 = vi V m0 91 := vi_fr hF6 hI.2.1 (hE5.obj (by decide) hI.2.1) (by decide +kernel)
  have s24 : vi V2 m0 133 = vi V m0 133 := vi_fr hF6 hI.2.1 (hE5.obj (by decide) hI.2.1) (by decide +kernel)
  have s25 : vi V2 m0 120 = vi V m0 120 := vi_fr hF6 hI.2.1 (hE5.obj (by decide) hI.2.1) (by decide +kernel)
  have s26 : vi V2 x 8 = vi V x 8 := vi_fr hF6 hI.1 (hE5.obj (by decide) hI.1) (by decide +kernel)
  have s27 : vi V2 m0 66 = vi V m0 66 := vi_fr hF6 hI.2.1 (hE5.obj (by decide) hI.2.1) (by decide +kernel)
  have s28 : vi V2 m0 118 = vi V m0 118 := vi_fr hF6 hI.2.1 (hE5.obj (by decide) hI.2.1) (by decide +kernel)
  have hS29 : STE V2 x m0 := STE.frx hS0 hF6 hE5 hWp11 hI.1 hI.2.1 (by decide +kernel) (by decide +kernel)
  have hK30 : WKE V2 x m0 := WKE.frx hK0 hF6 hE5 hWp11 hI.1 hI.2.1 (by decide +kernel) (by decide +kernel)
  have hP31 : PLE V2 x m0 := PLE.frx hP0 hF6 hE5 hWp11 hI.1 hI.2.1 (by omega) (by decide +kernel) (by decide +kernel) (by decide +kernel) (by decide +kernel) (by decide +kernel) (by decide +kernel)
  refine LG.pop dL_law_1551 rfl ?_
  refine LG.aload_n dL_law_1552 rfl rfl ?_
  refine LG.aload_n dL_law_1553 rfl rfl ?_
  refine LG.iload_n dL_law_1554 rfl rfl ?_
  refine LG.iconst dL_law_1555 ?_
  refine LG.iadd dL_law_1556 ?_
  refine LG.sld (Y := i + 1) dL_law_1557 (by omega) (by omega) hL ?_
  refine LG.aload_n dL_law_1558 rfl rfl ?_
  refine LG.iload_n dL_law_1559 rfl rfl ?_
  refine LG.iconst dL_law_1560 ?_
  refine LG.iadd dL_law_1561 ?_
  refine LG.sld (Y := i + 2) dL_law_1562 (by omega) (by omega) hL ?_
  refine LG.aload_n dL_law_1563 rfl rfl ?_
  refine LG.iload_n dL_law_1564 rfl rfl ?_
  refine LG.iconst dL_law_1565 ?_
  refine LG.iadd dL_law_1566 ?_
  refine LG.sld (Y := i + 3) dL_law_1567 (by omega) (by omega) hL ?_
  refine LG.aload_n dL_law_1568 rfl rfl ?_
  refine LG.iload_n dL_law_1569 rfl rfl ?_
  refine LG.iconst dL_law_1570 ?_
  refine LG.iadd dL_law_1571 ?_
  refine LG.sld (Y := i + 4) dL_law_1572 (by omega) (by omega) hL ?_
  refine LG.useWT (fun hW => ?_)
  refine LG.callV (ci := 11) (N := mX12_voyage) (As := [ti (xv xs (i + 1)), ti (xv xs (i + 2)), ti (xv xs (i + 3)), ti (xv xs (i + 4))]) dL_law_1573 (RX12, TX12, 151) rfl gV_RL_138 hI10.2.1 (t_X12_voyage hI10.2.1 xv_ir xv_ir xv_ir xv_ir) rfl [] rfl rfl (le_csb hcs rfl) (Nat.le_of_ble_eq_true rfl) (g_is fun X38 K32 V33 r34 h35 hE36 hF37 => ?_)
  have hI41 : LI K32 V33 x m0 := ⟨hE36.obj (by decide) hI10.1, hE36.obj (by decide) hI10.2.1, (GX.frx hF37 hE36 hI10.2.2.1 hW hI10.2.1 (by decide +kernel)), (PX0.frx hF37 hE36 hI10.2.2.2.1 hW hI10.2.1 (by decide +kernel)), (NN.frx 4 3 4 rfl rfl hF37 hE36 hI10.2.2.2.2.1 hW hI10.1 (by decide +kernel)), (NN.frx 10 9 7 rfl rfl hF37 hE36 hI10.2.2.2.2.2.1 hW hI10.1 (by decide +kernel)), (PI.frx hI10.2.2.2.2.2.2.1 hF37 hE36 hW hI10.1 hI10.2.2.2.2.1 (by decide +kernel)), (CWI.fr hI10.2.2.2.2.2.2.2 hF37 hE36 hW hI10.1 (by decide +kernel) (by decide +kernel) (by decide +kernel))⟩
  have hWp42 := hW
  have hY43 : YRL V33 x m0 := YRL.frx hY12 hF37 hE36 hW hI10.1 hI10.2.1 hI10.2.2.2.2.1 (by decide +kernel) (by decide +kernel)
  have hT44 : TXE K32 V33 x m0 := TXE.frx hT13 hF37 hE36 hW hI10.1 hI10.2.1 (by decide +kernel)
  have hA45 : AB V33 x m0 := AB.frx hA14 hF37 hE36 hW hI10.1 hI10.2.1 hI10.2.2.2.2.1 (by decide +kernel) (by decide +kernel) (Int.le_of_eq (vi_fr hF37 hI10.2.1 (hE36.obj (by decide) hI10.2.1) (by decide +kernel)).symm)
  have s46 : tdy V33 x = tdy V2 x := tdy_fr hF37 hE36 hW hI10.1 (by decide +kernel) (by decide +kernel)
  have s47 : wsz V33 x = wsz V2 x := wsz_fr hF37 hE36 hW hI10.1 (by decide +kernel) (by decide +kernel)
  have s48 : csz V33 x = csz V2 x := csz_fr hF37 hE36 hW hI10.1 (by decide +kernel) (by decide +kernel)
  have s49 : dsz V33 x = dsz V2 x := dsz_fr hF37 hE36 hW hI10.1 (by decide +kernel) (by decide +kernel)
  clear hW
  have s50 : vi V33 x 4 = vi V2 x 4 := vi_fr hF37 hI10.1 (hE36.obj (by decide) hI10.1) (by decide +kernel)
  have s51 : vi V33 x 10 = vi V2 x 10 := vi_fr hF37 hI10.1 (hE36.obj (by decide) hI10.1) (by decide +kernel)
  have s52 : vi V33 m0 9 = vi V2 m0 9 := vi_fr hF37 hI10.2.1 (hE36.obj (by decide) hI10.2.1) (by decide +kernel)
  have s53 : vi V33 m0 2 = vi V2 m0 2 := vi_fr hF37 hI10.2.1 (hE36.obj (by decide) hI10.2.1) (by decide +kernel)
  have s54 : vi V33 m0 91 = vi V2 m0 91 := vi_fr hF37 hI10.2.1 (hE36.obj (by decide) hI10.2.1) (by decide +kernel)
  have s55 : vi V33 m0 133 = vi V2 m0 133 := vi_fr hF37 hI10.2.1 (hE36.obj (by decide) hI10.2.1) (by decide +kernel)
  have s56 : vi V33 m0 120 = vi V2 m0 120 := vi_fr hF37 hI10.2.1 (hE36.obj (by decide) hI10.2.1) (by decide +kernel)
  have s57 : vi V33 x 8 = vi V2 x 8 := vi_fr hF37 hI10.1 (hE36.obj (by decide) hI10.1) (by decide +kernel)
  have s58 : vi V33 m0 66 = vi V2 m0 66 := vi_fr hF37 hI10.2.1 (hE36.obj (by decide) hI10.2.1) (by decide +kernel)
  have s59 : vi V33 m0 118 = vi V2 m0 118 := vi_fr hF37 hI10.2.1 (hE36.obj (by decide) hI10.2.1) (by decide +kernel)
  have hS60 : STE V33 x m0 := STE.frx hS29 hF37 hE36 hWp42 hI10.1 hI10.2.1 (by decide +kernel) (by decide +kernel)
  have hK61 : WKE V33 x m0 := WKE.frx hK30 hF37 hE36 hWp42 hI10.1 hI10.2.1 (by decide +kernel) (by decide +kernel)
  have hP62 : PLE V33 x m0 := PLE.frx hP31 hF37 hE36 hWp42 hI10.1 hI10.2.1 (by omega) (by decide +kernel) (by decide +kernel) (by decide +kernel) (by decide +kernel) (by decide +kernel) (by decide +kernel)
  refine LG.pop dL_law_1576 rfl ?_
  refine LG.goto (tgt := 2745) dL_law_1577 (by decide) ?_
  exact LG.widen (le_cs3 rfl) (kk _ _ hI41 (⟨by unfold RLI; omega, hA45, hT44, hY43, hP62, hK61, hS60⟩))

set_option maxHeartbeats 2000000 in
theorem law_case_28 {p : Program} {l : Launch} {e : Env} {s : State} {m : MethodId} {below : List Frame} {meth : Method} {c : Code} {b L : Nat} {xs : Nat → Int32} {D : va_G} {dA : Nat → ClassId} {K : Kmap} {V : Vmap} {cells slots x m0 : Nat} {i : Int} (hI : LI K V x m0) (hR : REL K V x m0) (hL : L ≤ 4096) (h0 : 0 ≤ i) (h8 : i + 8 ≤ L) (hcs : cells + 8 ≤ 600000 ∧ slots + 2704 ≤ 7302250) (kk : ∀ (K1 : Kmap) (V1 : Vmap), LI K1 V1 x m0 → REL K1 V1 x m0 → LG p l e s m below meth c b L xs D dA K1 V1 (cells + 8) (slots + 2704) 2745 [some (.ref b), some (.ref x), some (.ref m0), some (ti i)] []) : LG p l e s m below meth c b L xs D dA K V cells slots 1580 [some (.ref b), some (.ref x), some (.ref m0), some (ti i)] [] := by
  have hR0 := hR.1
  have hA0 := hR.2.1
  have hT0 := hR.2.2.1
  have hY0 := hR.2.2.2.1
  have hP0 := hR.2.2.2.2.1
  have hK0 := hR.2.2.2.2.2.1
  have hS0 := hR.2.2.2.2.2.2
  unfold RLI at hR0
  refine LG.aload_n dL_law_1580 rfl rfl ?_
  refine LG.aload_n dL_law_1581 rfl rfl ?_
  refine LG.iload_n dL_law_1582 rfl rfl ?_
  refine LG.iconst dL_law_1583 ?_
  refine LG.iadd dL_law_1584 ?_
  refine LG.sld (Y := i + 1) dL_law_1585 (by omega) (by omega) hL ?_
  refine LG.aload_n dL_law_1586 rfl rfl ?_
  refine LG.iload_n dL_law_1587 rfl rfl ?_
  refine LG.iconst dL_law_1588 ?_
  refine LG.iadd dL_law_1589 ?_
  refine LG.sld (Y := i + 2) dL_law_1590 (by omega) (by omega) hL ?_
  refine LG.aload_n dL_law_1591 rfl rfl ?_
  refine LG.iload_n dL_law_1592 rfl rfl ?_
  refine LG.iconst dL_law_1593 ?_
  refine LG.iadd dL_law_1594 ?_
  refine LG.sld (Y := i + 3) dL_law_1595 (by omega) (by omega) hL ?_
  refine LG.useWT (fun hW => ?_)
  refine LG.callV (ci := 10) (N := mX11_sledge) (As := [ti (xv xs (i + 1)), ti (xv xs (i + 2)), ti (xv xs (i + 3))]) dL_law_1596 (RX11, TX11, 20) rfl gV_RL_139 hI.1 (t_X11_sledge hI.1 xv_ir xv_ir xv_ir) rfl [] rfl rfl (le_cs hcs rfl) (Nat.le_of_ble_eq_true rfl) (g_is fun X7 K1 V2 r3 h4 hE5 hF6 => ?_)
  have hI10 : LI K1 V2 x m0 := ⟨hE5.obj (by decide) hI.1, hE5.obj (by decide) hI.2.1, (GX.frx hF6 hE5 hI.2.2.1 hW hI.2.1 (by decide +kernel)), (PX0.frx hF6 hE5 hI.2.2.2.1 hW hI.2.1 (by decide +kernel)), (NN.frx 4 3 4 rfl rfl hF6 hE5 hI.2.2.2.2.1 hW hI.1 (by decide +kernel)), (NN.frx 10 9 7 rfl rfl hF6 hE5 hI.2.2.2.2.2.1 hW hI.1 (by decide +kernel)), (PI.frx hI.2.2.2.2.2.2.1 hF6 hE5 hW hI.1 hI.2.2.2.2.1 (by decide +kernel)), (CWI.fr hI.2.2.2.2.2.2.2 hF6 hE5 hW hI.1 (by decide +kernel) (by decide +kernel) (by decide +kernel))⟩
  have hWp11 := hW
  have hY12 : YRL V2 x m0 := YRL.frx hY0 hF6 hE5 hW hI.1 hI.2.1 hI.2.2.2.2.1 (by decide +kernel) (by decide +kernel)
  have hT13 : TXE K1 V2 x m0 := TXE.frx hT0 hF6 hE5 hW hI.1 hI.2.1 (by decide +kernel)
  have hA14 : AB V2 x m0 := AB.frx hA0 hF6 hE5 hW hI.1 hI.2.1 hI.2.2.2.2.1 (by decide +kernel) (by decide +kernel) (Int.le_of_eq (vi_fr hF6 hI.2.1 (hE5.obj (by decide) hI.2.1) (by decide +kernel)).symm)
  have s15 : tdy V2 x = tdy V x := tdy_fr hF6 hE5 hW hI.1 (by decide +kernel) (by decide +kernel)
  have s16 : wsz V2 x = wsz V x := wsz_fr hF6 hE5 hW hI.1 (by decide +kernel) (by decide +kernel)
  have s17 : csz V2 x = csz V x := csz_fr hF6 hE5 hW hI.1 (by decide +kernel) (by decide +kernel)
  have s18 : dsz V2 x = dsz V x := dsz_fr hF6 hE5 hW hI.1 (by decide +kernel) (by decide +kernel)
  clear hW
  have s19 : vi V2 x 4 = vi V x 4 := vi_fr hF6 hI.1 (hE5.obj (by decide) hI.1) (by decide +kernel)
  have s20 : vi V2 x 10 = vi V x 10 := vi_fr hF6 hI.1 (hE5.obj (by decide) hI.1) (by decide +kernel)
  have s21 : vi V2 m0 9 = vi V m0 9 := vi_fr hF6 hI.2.1 (hE5.obj (by decide) hI.2.1) (by decide +kernel)
  have s22 : vi V2 m0 2 = vi V m0 2 := vi_fr hF6 hI.2.1 (hE5.obj (by decide) hI.2.1) (by decide +kernel)
  have s23 : vi V2 m0 91 = vi V m0 91 := vi_fr hF6 hI.2.1 (hE5.obj (by decide) hI.2.1) (by decide +kernel)
  have s24 : vi V2 m0 133 = vi V m0 133 := vi_fr hF6 hI.2.1 (hE5.obj (by decide) hI.2.1) (by decide +kernel)
  have s25 : vi V2 m0 120 = vi V m0 120 := vi_fr hF6 hI.2.1 (hE5.obj (by decide) hI.2.1) (by decide +kernel)
  have s26 : vi V2 x 8 = vi V x 8 := vi_fr hF6 hI.1 (hE5.obj (by decide) hI.1) (by decide +kernel)
  have s27 : vi V2 m0 66 = vi V m0 66 := vi_fr hF6 hI.2.1 (hE5.obj (by decide) hI.2.1) (by decide +kernel)
  have s28 : vi V2 m0 118 = vi V m0 118 := vi_fr hF6 hI.2.1 (hE5.obj (by decide) hI.2.1) (by decide +kernel)
  have hS29 : STE V2 x m0 := STE.frx hS0 hF6 hE5 hWp11 hI.1 hI.2.1 (by decide +kernel) (by decide +kernel)
  have hK30 : WKE V2 x m0 := WKE.frx hK0 hF6 hE5 hWp11 hI.1 hI.2.1 (by decide +kernel) (by decide +kernel)
  have hP31 : PLE V2 x m0 := PLE.frx hP0 hF6 hE5 hWp11 hI.1 hI.2.1 (by omega) (by decide +kernel) (by decide +kernel) (by decide +kernel) (by decide +kernel) (by decide +kernel) (by decide +kernel)
  refine LG.pop dL_law_1599 rfl ?_
  refine LG.aload_n dL_law_1600 rfl rfl ?_
  refine LG.aload_n dL_law_1601 rfl rfl ?_
  refine LG.iload_n dL_law_1602 rfl rfl ?_
  refine LG.iconst dL_law_1603 ?_
  refine LG.iadd dL_law_1604 ?_
  refine LG.sld (Y := i + 1) dL_law_1605 (by omega) (by omega) hL ?_
  refine LG.aload_n dL_law_1606 rfl rfl ?_
  refine LG.iload_n dL_law_1607 rfl rfl ?_
  refine LG.iconst dL_law_1608 ?_
  refine LG.iadd dL_law_1609 ?_
  refine LG.sld (Y := i + 2) dL_law_1610 (by omega) (by omega) hL ?_
  refine LG.aload_n dL_law_1611 rfl rfl ?_
  refine LG.iload_n dL_law_1612 rfl rfl ?_
  refine LG.iconst dL_law_1613 ?_
  refine LG.iadd dL_law_1614 ?_
  refine LG.sld (Y := i + 3) dL_law_1615 (by omega) (by omega) hL ?_
  refine LG.useWT (fun hW => ?_)
  refine LG.callV (ci := 11) (N := mX12_sledge) (As := [ti (xv xs (i + 1)), ti (xv xs (i + 2)), ti (xv xs (i + 3))]) dL_law_1616 (RX12, TX12, 151) rfl gV_RL_142 hI10.2.1 (t_X12_sledge hI10.2.1 xv_ir xv_ir xv_ir) rfl [] rfl rfl (le_csb hcs rfl) (Nat.le_of_ble_eq_true rfl) (g_is fun X38 K32 V33 r34 h35 hE36 hF37 => ?_)
  have hI41 : LI K32 V33 x m0 := ⟨hE36.obj (by decide) hI10.1, hE36.obj (by decide) hI10.2.1, (GX.frx hF37 hE36 hI10.2.2.1 hW hI10.2.1 (by decide +kernel)), (PX0.frx hF37 hE36 hI10.2.2.2.1 hW hI10.2.1 (by decide +kernel)), (NN.frx 4 3 4 rfl rfl hF37 hE36 hI10.2.2.2.2.1 hW hI10.1 (by decide +kernel)), (NN.frx 10 9 7 rfl rfl hF37 hE36 hI10.2.2.2.2.2.1 hW hI10.1 (by decide +kernel)), (PI.frx hI10.2.2.2.2.2.2.1 hF37 hE36 hW hI10.1 hI10.2.2.2.2.1 (by decide +kernel)), (CWI.fr hI10.2.2.2.2.2.2.2 hF37 hE36 hW hI10.1 (by decide +kernel) (by decide +kernel) (by decide +kernel))⟩
  have hWp42 := hW
  have hY43 : YRL V33 x m0 := YRL.frx hY12 hF37 hE36 hW hI10.1 hI10.2.1 hI10.2.2.2.2.1 (by decide +kernel) (by decide +kernel)
  have hT44 : TXE K32 V33 x m0 := TXE.frx hT13 hF37 hE36 hW hI10.1 hI10.2.1 (by decide +kernel)
  have hA45 : AB V33 x m0 := AB.frx hA14 hF37 hE36 hW hI10.1 hI10.2.1 hI10.2.2.2.2.1 (by decide +kernel) (by decide +kernel) (Int.le_of_eq (vi_fr hF37 hI10.2.1 (hE36.obj (by decide) hI10.2.1) (by decide +kernel)).symm)
  have s46 : tdy V33 x = tdy V2 x := tdy_fr hF37 hE36 hW hI10.1 (by decide +kernel) (by decide +kernel)
  have s47 : wsz V33 x = wsz V2 x := wsz_fr hF37 hE36 hW hI10.1 (by decide +kernel) (by decide +kernel)
  have s48 : csz V33 x = csz V2 x := csz_fr hF37 hE36 hW hI10.1 (by decide +kernel) (by decide +kernel)
  have s49 : dsz V33 x = dsz V2 x := dsz_fr hF37 hE36 hW hI10.1 (by decide +kernel) (by decide +kernel)
  clear hW
  have s50 : vi V33 x 4 = vi V2 x 4 := vi_fr hF37 hI10.1 (hE36.obj (by decide) hI10.1) (by decide +kernel)
  have s51 : vi V33 x 10 = vi V2 x 10 := vi_fr hF37 hI10.1 (hE36.obj (by decide) hI10.1) (by decide +kernel)
  have s52 : vi V33 m0 9 = vi V2 m0 9 := vi_fr hF37 hI10.2.1 (hE36.obj (by decide) hI10.2.1) (by decide +kernel)
  have s53 : vi V33 m0 2 = vi V2 m0 2 := vi_fr hF37 hI10.2.1 (hE36.obj (by decide) hI10.2.1) (by decide +kernel)
  have s54 : vi V33 m0 91 = vi V2 m0 91 := vi_fr hF37 hI10.2.1 (hE36.obj (by decide) hI10.2.1) (by decide +kernel)
  have s55 : vi V33 m0 133 = vi V2 m0 133 := vi_fr hF37 hI10.2.1 (hE36.obj (by decide) hI10.2.1) (by decide +kernel)
  have s56 : vi V33 m0 120 = vi V2 m0 120 := vi_fr hF37 hI10.2.1 (hE36.obj (by decide) hI10.2.1) (by decide +kernel)
  have s57 : vi V33 x 8 = vi V2 x 8 := vi_fr hF37 hI10.1 (hE36.obj (by decide) hI10.1) (by decide +kernel)
  have s58 : vi V33 m0 66 = vi V2 m0 66 := vi_fr hF37 hI10.2.1 (hE36.obj (by decide) hI10.2.1) (by decide +kernel)
  have s59 : vi V33 m0 118 = vi V2 m0 118 := vi_fr hF37 hI10.2.1 (hE36.obj (by decide) hI10.2.1) (by decide +kernel)
  have hS60 : STE V33 x m0 := STE.frx hS29 hF37 hE36 hWp42 hI10.1 hI10.2.1 (by decide +kernel) (by decide +kernel)
  have hK61 : WKE V33 x m0 := WKE.frx hK30 hF37 hE36 hWp42 hI10.1 hI10.2.1 (by decide +kernel) (by decide +kernel)
  have hP62 : PLE V33 x m0 := PLE.frx hP31 hF37 hE36 hWp42 hI10.1 hI10.2.1 (by omega) (by decide +kernel) (by decide +kernel) (by decide +kernel) (by decide +kernel) (by decide +kernel) (by decide +kernel)
  refine LG.pop dL_law_1619 rfl ?_
  refine LG.goto (tgt := 2745) dL_law_1620 (by decide) ?_
  exact LG.widen (le_cs3 rfl) (kk _ _ hI41 (⟨by unfold RLI; omega, hA45, hT44, hY43, hP62, hK61, hS60⟩))

set_option maxHeartbeats 2000000 in
theorem law_case_29 {p : Program} {l : Launch} {e : Env} {s : State} {m : MethodId} {below : List Frame} {meth : Method} {c : Code} {b L : Nat} {xs : Nat → Int32} {D : va_G} {dA : Nat → ClassId} {K : Kmap} {V : Vmap} {cells slots x m0 : Nat} {i : Int} (hI : LI K V x m0) (hR : REL K V x m0) (hL : L ≤ 4096) (h0 : 0 ≤ i) (h8 : i + 8 ≤ L) (hcs : cells + 8 ≤ 600000 ∧ slots + 2704 ≤ 7302250) (kk : ∀ (K1 : Kmap) (V1 : Vmap), LI K1 V1 x m0 → REL K1 V1 x m0 → LG p l e s m below meth c b L xs D dA K1 V1 (cells + 8) (slots + 2704) 2745 [some (.ref b), some (.ref x), some (.ref m0), some (ti i)] []) : LG p l e s m below meth c b L xs D dA K V cells slots 1623 [some (.ref b), some (.ref x), some (.ref m0), some (ti i)] [] := by
  have hR0 := hR.1
  have hA0 := hR.2.1
  have hT0 := hR.2.2.1
  have hY0 := hR.2.2.2.1
  have hP0 := hR.2.2.2.2.1
  have hK0 := hR.2.2.2.2.2.1
  have hS0 := hR.2.2.2.2.2.2
  unfold RLI at hR0
  refine LG.aload_n dL_law_1623 rfl rfl ?_
  refine LG.aload_n dL_law_1624 rfl rfl ?_
  refine LG.iload_n dL_law_1625 rfl rfl ?_
  refine LG.iconst dL_law_1626 ?_
  refine LG.iadd dL_law_1627 ?_
  refine LG.sld (Y := i + 1) dL_law_1628 (by omega) (by omega) hL ?_
  refine LG.aload_n dL_law_1629 rfl rfl ?_
  refine LG.iload_n dL_law_1630 rfl rfl ?_
  refine LG.iconst dL_law_1631 ?_
  refine LG.iadd dL_law_1632 ?_
  refine LG.sld (Y := i + 2) dL_law_1633 (by omega) (by omega) hL ?_
  refine LG.useWT (fun hW => ?_)
  refine LG.callV (ci := 10) (N := mX11_people) (As := [ti (xv xs (i + 1)), ti (xv xs (i + 2))]) dL_law_1634 (RX11, TX11, 20) rfl gV_RL_143 hI.1 (t_X11_people hI.1 xv_ir xv_ir) rfl [] rfl rfl (le_cs hcs rfl) (Nat.le_of_ble_eq_true rfl) (g_is fun X7 K1 V2 r3 h4 hE5 hF6 => ?_)
  have hI10 : LI K1 V2 x m0 := ⟨hE5.obj (by decide) hI.1, hE5.obj (by decide) hI.2.1, (GX.frx hF6 hE5 hI.2.2.1 hW hI.2.1 (by decide +kernel)), (PX0.frx hF6 hE5 hI.2.2.2.1 hW hI.2.1 (by decide +kernel)), (NN.frx 4 3 4 rfl rfl hF6 hE5 hI.2.2.2.2.1 hW hI.1 (by decide +kernel)), (NN.frx 10 9 7 rfl rfl hF6 hE5 hI.2.2.2.2.2.1 hW hI.1 (by decide +kernel)), (PI.frx hI.2.2.2.2.2.2.1 hF6 hE5 hW hI.1 hI.2.2.2.2.1 (by decide +kernel)), (CWI.fr hI.2.2.2.2.2.2.2 hF6 hE5 hW hI.1 (by decide +kernel) (by decide +kernel) (by decide +kernel))⟩
  have hWp11 := hW
  have hY12 : YRL V2 x m0 := YRL.frx hY0 hF6 hE5 hW hI.1 hI.2.1 hI.2.2.2.2.1 (by decide +kernel) (by decide +kernel)
  have hT13 : TXE K1 V2 x m0 := TXE.frx hT0 hF6 hE5 hW hI.1 hI.2.1 (by decide +kernel)
  have hA14 : AB V2 x m0 := AB.frx hA0 hF6 hE5 hW hI.1 hI.2.1 hI.2.2.2.2.1 (by decide +kernel) (by decide +kernel) (Int.le_of_eq (vi_fr hF6 hI.2.1 (hE5.obj (by decide) hI.2.1) (by decide +kernel)).symm)
  have s15 : tdy V2 x = tdy V x := tdy_fr hF6 hE5 hW hI.1 (by decide +kernel) (by decide +kernel)
  have s16 : wsz V2 x = wsz V x := wsz_fr hF6 hE5 hW hI.1 (by decide +kernel) (by decide +kernel)
  have s17 : csz V2 x = csz V x := csz_fr hF6 hE5 hW hI.1 (by decide +kernel) (by decide +kernel)
  have s18 : dsz V2 x = dsz V x := dsz_fr hF6 hE5 hW hI.1 (by decide +kernel) (by decide +kernel)
  clear hW
  have s19 : vi V2 x 4 = vi V x 4 := vi_fr hF6 hI.1 (hE5.obj (by decide) hI.1) (by decide +kernel)
  have s20 : vi V2 x 10 = vi V x 10 := vi_fr hF6 hI.1 (hE5.obj (by decide) hI.1) (by decide +kernel)
  have s21 : vi V2 m0 9 = vi V m0 9 := vi_fr hF6 hI.2.1 (hE5.obj (by decide) hI.2.1) (by decide +kernel)
  have s22 : vi V2 m0 2 = vi V m0 2 := vi_fr hF6 hI.2.1 (hE5.obj (by decide) hI.2.1) (by decide +kernel)
  have s23 : vi V2 m0 91 = vi V m0 91 := vi_fr hF6 hI.2.1 (hE5.obj (by decide) hI.2.1) (by decide +kernel)
  have s24 : vi V2 m0 133 = vi V m0 133 := vi_fr hF6 hI.2.1 (hE5.obj (by decide) hI.2.1) (by decide +kernel)
  have s25 : vi V2 m0 120 = vi V m0 120 := vi_fr hF6 hI.2.1 (hE5.obj (by decide) hI.2.1) (by decide +kernel)
  have s26 : vi V2 x 8 = vi V x 8 := vi_fr hF6 hI.1 (hE5.obj (by decide) hI.1) (by decide +kernel)
  have s27 : vi V2 m0 66 = vi V m0 66 := vi_fr hF6 hI.2.1 (hE5.obj (by decide) hI.2.1) (by decide +kernel)
  have s28 : vi V2 m0 118 = vi V m0 118 := vi_fr hF6 hI.2.1 (hE5.obj (by decide) hI.2.1) (by decide +kernel)
  have hS29 : STE V2 x m0 := STE.frx hS0 hF6 hE5 hWp11 hI.1 hI.2.1 (by decide +kernel) (by decide +kernel)
  have hK30 : WKE V2 x m0 := WKE.frx hK0 hF6 hE5 hWp11 hI.1 hI.2.1 (by decide +kernel) (by decide +kernel)
  have hP31 : PLE V2 x m0 := PLE.frx hP0 hF6 hE5 hWp11 hI.1 hI.2.1 (by omega) (by decide +kernel) (by decide +kernel) (by decide +kernel) (by decide +kernel) (by decide +kernel) (by decide +kernel)
  refine LG.pop dL_law_1637 rfl ?_
  refine LG.aload_n dL_law_1638 rfl rfl ?_
  refine LG.aload_n dL_law_1639 rfl rfl ?_
  refine LG.iload_n dL_law_1640 rfl rfl ?_
  refine LG.iconst dL_law_1641 ?_
  refine LG.iadd dL_law_1642 ?_
  refine LG.sld (Y := i + 1) dL_law_1643 (by omega) (by omega) hL ?_
  refine LG.aload_n dL_law_1644 rfl rfl ?_
  refine LG.iload_n dL_law_1645 rfl rfl ?_
  refine LG.iconst dL_law_1646 ?_
  refine LG.iadd dL_law_1647 ?_
  refine LG.sld (Y := i + 2) dL_law_1648 (by omega) (by omega) hL ?_
  refine LG.useWT (fun hW => ?_)
  refine LG.callV (ci := 11) (N := mX12_people) (As := [ti (xv xs (i + 1)), ti (xv xs (i + 2))]) dL_law_1649 (RX12, TX12, 151) rfl gV_RL_146 hI10.2.1 (t_X12_people hI10.2.1 xv_ir xv_ir) rfl [] rfl rfl (le_csb hcs rfl) (Nat.le_of_ble_eq_true rfl) (g_is fun X38 K32 V33 r34 h35 hE36 hF37 => ?_)
  have hI41 : LI K32 V33 x m0 := ⟨hE36.obj (by decide) hI10.1, hE36.obj (by decide) hI10.2.1, (GX.frx hF37 hE36 hI10.2.2.1 hW hI10.2.1 (by decide +kernel)), (PX0.frx hF37 hE36 hI10.2.2.2.1 hW hI10.2.1 (by decide +kernel)), (NN.frx 4 3 4 rfl rfl hF37 hE36 hI10.2.2.2.2.1 hW hI10.1 (by decide +kernel)), (NN.frx 10 9 7 rfl rfl hF37 hE36 hI10.2.2.2.2.2.1 hW hI10.1 (by decide +kernel)), (PI.frx hI10.2.2.2.2.2.2.1 hF37 hE36 hW hI10.1 hI10.2.2.2.2.1 (by decide +kernel)), (CWI.fr hI10.2.2.2.2.2.2.2 hF37 hE36 hW hI10.1 (by decide +kernel) (by decide +kernel) (by decide +kernel))⟩
  have hWp42 := hW
  have hY43 : YRL V33 x m0 := YRL.frx hY12 hF37 hE36 hW hI10.1 hI10.2.1 hI10.2.2.2.2.1 (by decide +kernel) (by decide +kernel)
  have hT44 : TXE K32 V33 x m0 := TXE.frx hT13 hF37 hE36 hW hI10.1 hI10.2.1 (by decide +kernel)
  have hA45 : AB V33 x m0 := AB.frx hA14 hF37 hE36 hW hI10.1 hI10.2.1 hI10.2.2.2.2.1 (by decide +kernel) (by decide +kernel) (Int.le_of_eq (vi_fr hF37 hI10.2.1 (hE36.obj (by decide) hI10.2.1) (by decide +kernel)).symm)
  have s46 : tdy V33 x = tdy V2 x := tdy_fr hF37 hE36 hW hI10.1 (by decide +kernel) (by decide +kernel)
  have s47 : wsz V33 x = wsz V2 x := wsz_fr hF37 hE36 hW hI10.1 (by decide +kernel) (by decide +kernel)
  have s48 : csz V33 x = csz V2 x := csz_fr hF37 hE36 hW hI10.1 (by decide +kernel) (by decide +kernel)
  have s49 : dsz V33 x = dsz V2 x := dsz_fr hF37 hE36 hW hI10.1 (by decide +kernel) (by decide +kernel)
  clear hW
  have s50 : vi V33 x 4 = vi V2 x 4 := vi_fr hF37 hI10.1 (hE36.obj (by decide) hI10.1) (by decide +kernel)
  have s51 : vi V33 x 10 = vi V2 x 10 := vi_fr hF37 hI10.1 (hE36.obj (by decide) hI10.1) (by decide +kernel)
  have s52 : vi V33 m0 9 = vi V2 m0 9 := vi_fr hF37 hI10.2.1 (hE36.obj (by decide) hI10.2.1) (by decide +kernel)
  have s53 : vi V33 m0 2 = vi V2 m0 2 := vi_fr hF37 hI10.2.1 (hE36.obj (by decide) hI10.2.1) (by decide +kernel)
  have s54 : vi V33 m0 91 = vi V2 m0 91 := vi_fr hF37 hI10.2.1 (hE36.obj (by decide) hI10.2.1) (by decide +kernel)
  have s55 : vi V33 m0 133 = vi V2 m0 133 := vi_fr hF37 hI10.2.1 (hE36.obj (by decide) hI10.2.1) (by decide +kernel)
  have s56 : vi V33 m0 120 = vi V2 m0 120 := vi_fr hF37 hI10.2.1 (hE36.obj (by decide) hI10.2.1) (by decide +kernel)
  have s57 : vi V33 x 8 = vi V2 x 8 := vi_fr hF37 hI10.1 (hE36.obj (by decide) hI10.1) (by decide +kernel)
  have s58 : vi V33 m0 66 = vi V2 m0 66 := vi_fr hF37 hI10.2.1 (hE36.obj (by decide) hI10.2.1) (by decide +kernel)
  have s59 : vi V33 m0 118 = vi V2 m0 118 := vi_fr hF37 hI10.2.1 (hE36.obj (by decide) hI10.2.1) (by decide +kernel)
  have hS60 : STE V33 x m0 := STE.frx hS29 hF37 hE36 hWp42 hI10.1 hI10.2.1 (by decide +kernel) (by decide +kernel)
  have hK61 : WKE V33 x m0 := WKE.frx hK30 hF37 hE36 hWp42 hI10.1 hI10.2.1 (by decide +kernel) (by decide +kernel)
  have hP62 : PLE V33 x m0 := PLE.frx hP31 hF37 hE36 hWp42 hI10.1 hI10.2.1 (by omega) (by decide +kernel) (by decide +kernel) (by decide +kernel) (by decide +kernel) (by decide +kernel) (by decide +kernel)
  refine LG.pop dL_law_1652 rfl ?_
  refine LG.goto (tgt := 2745) dL_law_1653 (by decide) ?_
  exact LG.widen (le_cs3 rfl) (kk _ _ hI41 (⟨by unfold RLI; omega, hA45, hT44, hY43, hP62, hK61, hS60⟩))

set_option maxHeartbeats 2000000 in
theorem law_case_30 {p : Program} {l : Launch} {e : Env} {s : State} {m : MethodId} {below : List Frame} {meth : Method} {c : Code} {b L : Nat} {xs : Nat → Int32} {D : va_G} {dA : Nat → ClassId} {K : Kmap} {V : Vmap} {cells slots x m0 : Nat} {i : Int} (hI : LI K V x m0) (hR : REL K V x m0) (hL : L ≤ 4096) (h0 : 0 ≤ i) (h8 : i + 8 ≤ L) (hcs : cells + 8 ≤ 600000 ∧ slots + 2704 ≤ 7302250) (kk : ∀ (K1 : Kmap) (V1 : Vmap), LI K1 V1 x m0 → REL K1 V1 x m0 → LG p l e s m below meth c b L xs D dA K1 V1 (cells + 8) (slots + 2704) 2745 [some (.ref b), some (.ref x), some (.ref m0), some (ti i)] []) : LG p l e s m below meth c b L xs D dA K V cells slots 1656 [some (.ref b), some (.ref x), some (.ref m0), some (ti i)] [] := by
  have hR0 := hR.1
  have hA0 := hR.2.1
  have hT0 := hR.2.2.1
  have hY0 := hR.2.2.2.1
  have hP0 := hR.2.2.2.2.1
  have hK0 := hR.2.2.2.2.2.1
  have hS0 := hR.2.2.2.2.2.2
  unfold RLI at hR0
  refine LG.aload_n dL_law_1656 rfl rfl ?_
  refine LG.aload_n dL_law_1657 rfl rfl ?_
  refine LG.iload_n dL_law_1658 rfl rfl ?_
  refine LG.iconst dL_law_1659 ?_
  refine LG.iadd dL_law_1660 ?_
  refine LG.sld (Y := i + 1) dL_law_1661 (by omega) (by omega) hL ?_
  refine LG.aload_n dL_law_1662 rfl rfl ?_
  refine LG.iload_n dL_law_1663 rfl rfl ?_
  refine LG.iconst dL_law_1664 ?_
  refine LG.iadd dL_law_1665 ?_
  refine LG.sld (Y := i + 2) dL_law_1666 (by omega) (by omega) hL ?_
  refine LG.useWT (fun hW => ?_)
  refine LG.callV (ci := 10) (N := mX11_hide) (As := [ti (xv xs (i + 1)), ti (xv xs (i + 2))]) dL_law_1667 (RX11, TX11, 20) rfl gV_RL_147 hI.1 (t_X11_hide hI.1 xv_ir xv_ir) rfl [] rfl rfl (le_cs hcs rfl) (Nat.le_of_ble_eq_true rfl) (g_is fun X7 K1 V2 r3 h4 hE5 hF6 => ?_)
  have hI10 : LI K1 V2 x m0 := ⟨hE5.obj (by decide) hI.1, hE5.obj (by decide) hI.2.1, (GX.frx hF6 hE5 hI.2.2.1 hW hI.2.1 (by decide +kernel)), (PX0.frx hF6 hE5 hI.2.2.2.1 hW hI.2.1 (by decide +kernel)), (NN.frx 4 3 4 rfl rfl hF6 hE5 hI.2.2.2.2.1 hW hI.1 (by decide +kernel)), (NN.frx 10 9 7 rfl rfl hF6 hE5 hI.2.2.2.2.2.1 hW hI.1 (by decide +kernel)), (PI.frx hI.2.2.2.2.2.2.1 hF6 hE5 hW hI.1 hI.2.2.2.2.1 (by decide +kernel)), (CWI.fr hI.2.2.2.2.2.2.2 hF6 hE5 hW hI.1 (by decide +kernel) (by decide +kernel) (by decide +kernel))⟩
  have hWp11 := hW
  have hY12 : YRL V2 x m0 := YRL.frx hY0 hF6 hE5 hW hI.1 hI.2.1 hI.2.2.2.2.1 (by decide +kernel) (by decide +kernel)
  have hT13 : TXE K1 V2 x m0 := TXE.frx hT0 hF6 hE5 hW hI.1 hI.2.1 (by decide +kernel)
  have hA14 : AB V2 x m0 := AB.frx hA0 hF6 hE5 hW hI.1 hI.2.1 hI.2.2.2.2.1 (by decide +kernel) (by decide +kernel) (Int.le_of_eq (vi_fr hF6 hI.2.1 (hE5.obj (by decide) hI.2.1) (by decide +kernel)).symm)
  have s15 : tdy V2 x = tdy V x := tdy_fr hF6 hE5 hW hI.1 (by decide +kernel) (by decide +kernel)
  have s16 : wsz V2 x = wsz V x := wsz_fr hF6 hE5 hW hI.1 (by decide +kernel) (by decide +kernel)
  have s17 : csz V2 x = csz V x := csz_fr hF6 hE5 hW hI.1 (by decide +kernel) (by decide +kernel)
  have s18 : dsz V2 x = dsz V x := dsz_fr hF6 hE5 hW hI.1 (by decide +kernel) (by decide +kernel)
  clear hW
  have s19 : vi V2 x 4 = vi V x 4 := vi_fr hF6 hI.1 (hE5.obj (by decide) hI.1) (by decide +kernel)
  have s20 : vi V2 x 10 = vi V x 10 := vi_fr hF6 hI.1 (hE5.obj (by decide) hI.1) (by decide +kernel)
  have s21 : vi V2 m0 9 = vi V m0 9 := vi_fr hF6 hI.2.1 (hE5.obj (by decide) hI.2.1) (by decide +kernel)
  have s22 : vi V2 m0 2 = vi V m0 2 := vi_fr hF6 hI.2.1 (hE5.obj (by decide) hI.2.1) (by decide +kernel)
  have s23 : vi V2 m0 91 = vi V m0 91 := vi_fr hF6 hI.2.1 (hE5.obj (by decide) hI.2.1) (by decide +kernel)
  have s24 : vi V2 m0 133 = vi V m0 133 := vi_fr hF6 hI.2.1 (hE5.obj (by decide) hI.2.1) (by decide +kernel)
  have s25 : vi V2 m0 120 = vi V m0 120 := vi_fr hF6 hI.2.1 (hE5.obj (by decide) hI.2.1) (by decide +kernel)
  have s26 : vi V2 x 8 = vi V x 8 := vi_fr hF6 hI.1 (hE5.obj (by decide) hI.1) (by decide +kernel)
  have s27 : vi V2 m0 66 = vi V m0 66 := vi_fr hF6 hI.2.1 (hE5.obj (by decide) hI.2.1) (by decide +kernel)
  have s28 : vi V2 m0 118 = vi V m0 118 := vi_fr hF6 hI.2.1 (hE5.obj (by decide) hI.2.1) (by decide +kernel)
  have hS29 : STE V2 x m0 := STE.frx hS0 hF6 hE5 hWp11 hI.1 hI.2.1 (by decide +kernel) (by decide +kernel)
  have hK30 : WKE V2 x m0 := WKE.frx hK0 hF6 hE5 hWp11 hI.1 hI.2.1 (by decide +kernel) (by decide +kernel)
  have hP31 : PLE V2 x m0 := PLE.frx hP0 hF6 hE5 hWp11 hI.1 hI.2.1 (by omega) (by decide +kernel) (by decide +kernel) (by decide +kernel) (by decide +kernel) (by decide +kernel) (by decide +kernel)
  refine LG.pop dL_law_1670 rfl ?_
  refine LG.aload_n dL_law_1671 rfl rfl ?_
  refine LG.aload_n dL_law_1672 rfl rfl ?_
  refine LG.iload_n dL_law_1673 rfl rfl ?_
  refine LG.iconst dL_law_1674 ?_
  refine LG.iadd dL_law_1675 ?_
  refine LG.sld (Y := i + 1) dL_law_1676 (by omega) (by omega) hL ?_
  refine LG.aload_n dL_law_1677 rfl rfl ?_
  refine LG.iload_n dL_law_1678 rfl rfl ?_
  refine LG.iconst dL_law_1679 ?_
  refine LG.iadd dL_law_1680 ?_
  refine LG.sld (Y := i + 2) dL_law_1681 (by omega) (by omega) hL ?_
  refine LG.useWT (fun hW => ?_)
  refine LG.callV (ci := 11) (N := mX12_hide) (As := [ti (xv xs (i + 1)), ti (xv xs (i + 2))]) dL_law_1682 (RX12, TX12, 151) rfl gV_RL_150 hI10.2.1 (t_X12_hide hI10.2.1 xv_ir xv_ir) rfl [] rfl rfl (le_csb hcs rfl) (Nat.le_of_ble_eq_true rfl) (g_is fun X38 K32 V33 r34 h35 hE36 hF37 => ?_)
  have hI41 : LI K32 V33 x m0 := ⟨hE36.obj (by decide) hI10.1, hE36.obj (by decide) hI10.2.1, (GX.frx hF37 hE36 hI10.2.2.1 hW hI10.2.1 (by decide +kernel)), (PX0.frx hF37 hE36 hI10.2.2.2.1 hW hI10.2.1 (by decide +kernel)), (NN.frx 4 3 4 rfl rfl hF37 hE36 hI10.2.2.2.2.1 hW hI10.1 (by decide +kernel)), (NN.frx 10 9 7 rfl rfl hF37 hE36 hI10.2.2.2.2.2.1 hW hI10.1 (by decide +kernel)), (PI.frx hI10.2.2.2.2.2.2.1 hF37 hE36 hW hI10.1 hI10.2.2.2.2.1 (by decide +kernel)), (CWI.fr hI10.2.2.2.2.2.2.2 hF37 hE36 hW hI10.1 (by decide +kernel) (by decide +kernel) (by decide +kernel))⟩
  have hWp42 := hW
  have hY43 : YRL V33 x m0 := YRL.frx hY12 hF37 hE36 hW hI10.1 hI10.2.1 hI10.2.2.2.2.1 (by decide +kernel) (by decide +kernel)
  have hT44 : TXE K32 V33 x m0 := TXE.frx hT13 hF37 hE36 hW hI10.1 hI10.2.1 (by decide +kernel)
  have hA45 : AB V33 x m0 := AB.frx hA14 hF37 hE36 hW hI10.1 hI10.2.1 hI10.2.2.2.2.1 (by decide +kernel) (by decide +kernel) (Int.le_of_eq (vi_fr hF37 hI10.2.1 (hE36.obj (by decide) hI10.2.1) (by decide +kernel)).symm)
  have s46 : tdy V33 x = tdy V2 x := tdy_fr hF37 hE36 hW hI10.1 (by decide +kernel) (by decide +kernel)
  have s47 : wsz V33 x = wsz V2 x := wsz_fr hF37 hE36 hW hI10.1 (by decide +kernel) (by decide +kernel)
  have s48 : csz V33 x = csz V2 x := csz_fr hF37 hE36 hW hI10.1 (by decide +kernel) (by decide +kernel)
  have s49 : dsz V33 x = dsz V2 x := dsz_fr hF37 hE36 hW hI10.1 (by decide +kernel) (by decide +kernel)
  clear hW
  have s50 : vi V33 x 4 = vi V2 x 4 := vi_fr hF37 hI10.1 (hE36.obj (by decide) hI10.1) (by decide +kernel)
  have s51 : vi V33 x 10 = vi V2 x 10 := vi_fr hF37 hI10.1 (hE36.obj (by decide) hI10.1) (by decide +kernel)
  have s52 : vi V33 m0 9 = vi V2 m0 9 := vi_fr hF37 hI10.2.1 (hE36.obj (by decide) hI10.2.1) (by decide +kernel)
  have s53 : vi V33 m0 2 = vi V2 m0 2 := vi_fr hF37 hI10.2.1 (hE36.obj (by decide) hI10.2.1) (by decide +kernel)
  have s54 : vi V33 m0 91 = vi V2 m0 91 := vi_fr hF37 hI10.2.1 (hE36.obj (by decide) hI10.2.1) (by decide +kernel)
  have s55 : vi V33 m0 133 = vi V2 m0 133 := vi_fr hF37 hI10.2.1 (hE36.obj (by decide) hI10.2.1) (by decide +kernel)
  have s56 : vi V33 m0 120 = vi V2 m0 120 := vi_fr hF37 hI10.2.1 (hE36.obj (by decide) hI10.2.1) (by decide +kernel)
  have s57 : vi V33 x 8 = vi V2 x 8 := vi_fr hF37 hI10.1 (hE36.obj (by decide) hI10.1) (by decide +kernel)
  have s58 : vi V33 m0 66 = vi V2 m0 66 := vi_fr hF37 hI10.2.1 (hE36.obj (by decide) hI10.2.1) (by decide +kernel)
  have s59 : vi V33 m0 118 = vi V2 m0 118 := vi_fr hF37 hI10.2.1 (hE36.obj (by decide) hI10.2.1) (by decide +kernel)
  have hS60 : STE V33 x m0 := STE.frx hS29 hF37 hE36 hWp42 hI10.1 hI10.2.1 (by decide +kernel) (by decide +kernel)
  have hK61 : WKE V33 x m0 := WKE.frx hK30 hF37 hE36 hWp42 hI10.1 hI10.2.1 (by decide +kernel) (by decide +kernel)
  have hP62 : PLE V33 x m0 := PLE.frx hP31 hF37 hE36 hWp42 hI10.1 hI10.2.1 (by omega) (by decide +kernel) (by decide +kernel) (by decide +kernel) (by decide +kernel) (by decide +kernel) (by decide +kernel)
  refine LG.pop dL_law_1685 rfl ?_
  refine LG.goto (tgt := 2745) dL_law_1686 (by decide) ?_
  exact LG.widen (le_cs3 rfl) (kk _ _ hI41 (⟨by unfold RLI; omega, hA45, hT44, hY43, hP62, hK61, hS60⟩))

set_option maxHeartbeats 2000000 in
theorem law_case_31 {p : Program} {l : Launch} {e : Env} {s : State} {m : MethodId} {below : List Frame} {meth : Method} {c : Code} {b L : Nat} {xs : Nat → Int32} {D : va_G} {dA : Nat → ClassId} {K : Kmap} {V : Vmap} {cells slots x m0 : Nat} {i : Int} (hI : LI K V x m0) (hR : REL K V x m0) (hL : L ≤ 4096) (h0 : 0 ≤ i) (h8 : i + 8 ≤ L) (hcs : cells + 8 ≤ 600000 ∧ slots + 2704 ≤ 7302250) (kk : ∀ (K1 : Kmap) (V1 : Vmap), LI K1 V1 x m0 → REL K1 V1 x m0 → LG p l e s m below meth c b L xs D dA K1 V1 (cells + 8) (slots + 2704) 2745 [some (.ref b), some (.ref x), some (.ref m0), some (ti i)] []) : LG p l e s m below meth c b L xs D dA K V cells slots 1689 [some (.ref b), some (.ref x), some (.ref m0), some (ti i)] [] := by
  have hR0 := hR.1
  have hA0 := hR.2.1
  have hT0 := hR.2.2.1
  have hY0 := hR.2.2.2.1
  have hP0 := hR.2.2.2.2.1
  have hK0 := hR.2.2.2.2.2.1
  have hS0 := hR.2.2.2.2.2.2
  unfold RLI at hR0
  refine LG.aload_n dL_law_1689 rfl rfl ?_
  refine LG.aload_n dL_law_1690 rfl rfl ?_
  refine LG.iload_n dL_law_1691 rfl rfl ?_
  refine LG.iconst dL_law_1692 ?_
  refine LG.iadd dL_law_1693 ?_
  refine LG.sld (Y := i + 1) dL_law_1694 (by omega) (by omega) hL ?_
  refine LG.aload_n dL_law_1695 rfl rfl ?_
  refine LG.iload_n dL_law_1696 rfl rfl ?_
  refine LG.iconst dL_law_1697 ?_
  refine LG.iadd dL_law_1698 ?_
  refine LG.sld (Y := i + 2) dL_law_1699 (by omega) (by omega) hL ?_
  refine LG.aload_n dL_law_1700 rfl rfl ?_
  refine LG.iload_n dL_law_1701 rfl rfl ?_
  refine LG.iconst dL_law_1702 ?_
  refine LG.iadd dL_law_1703 ?_
  refine LG.sld (Y := i + 3) dL_law_1704 (by omega) (by omega) hL ?_
  refine LG.useWT (fun hW => ?_)
  refine LG.callV (ci := 10) (N := mX11_declare) (As := [ti (xv xs (i + 1)), ti (xv xs (i + 2)), ti (xv xs (i + 3))]) dL_law_1705 (RX11, TX11, 20) rfl gV_RL_151 hI.1 (t_X11_declare hI.1 xv_ir xv_ir xv_ir) rfl [] rfl rfl (le_cs hcs rfl) (Nat.le_of_ble_eq_true rfl) (g_is fun X7 K1 V2 r3 h4 hE5 hF6 => ?_)
  have hI10 : LI K1 V2 x m0 := ⟨hE5.obj (by decide) hI.1, hE5.obj (by decide) hI.2.1, (GX.frx hF6 hE5 hI.2.2.1 hW hI.2.1 (by decide +kernel)), (PX0.frx hF6 hE5 hI.2.2.2.1 hW hI.2.1 (by decide +kernel)), (NN.frx 4 3 4 rfl rfl hF6 hE5 hI.2.2.2.2.1 hW hI.1 (by decide +kernel)), (NN.frx 10 9 7 rfl rfl hF6 hE5 hI.2.2.2.2.2.1 hW hI.1 (by decide +kernel)), (PI.frx hI.2.2.2.2.2.2.1 hF6 hE5 hW hI.1 hI.2.2.2.2.1 (by decide +kernel)), (CWI.fr hI.2.2.2.2.2.2.2 hF6 hE5 hW hI.1 (by decide +kernel) (by decide +kernel) (by decide +kernel))⟩
  have hWp11 := hW
  have hY12 : YRL V2 x m0 := YRL.frx hY0 hF6 hE5 hW hI.1 hI.2.1 hI.2.2.2.2.1 (by decide +kernel) (by decide +kernel)
  have hT13 : TXE K1 V2 x m0 := TXE.frx hT0 hF6 hE5 hW hI.1 hI.2.1 (by decide +kernel)
  have hA14 : AB V2 x m0 := AB.frx hA0 hF6 hE5 hW hI.1 hI.2.1 hI.2.2.2.2.1 (by decide +kernel) (by decide +kernel) (Int.le_of_eq (vi_fr hF6 hI.2.1 (hE5.obj (by decide) hI.2.1) (by decide +kernel)).symm)
  have s15 : tdy V2 x = tdy V x := tdy_fr hF6 hE5 hW hI.1 (by decide +kernel) (by decide +kernel)
  have s16 : wsz V2 x = wsz V x := wsz_fr hF6 hE5 hW hI.1 (by decide +kernel) (by decide +kernel)
  have s17 : csz V2 x = csz V x := csz_fr hF6 hE5 hW hI.1 (by decide +kernel) (by decide +kernel)
  have s18 : dsz V2 x = dsz V x := dsz_fr hF6 hE5 hW hI.1 (by decide +kernel) (by decide +kernel)
  clear hW
  have s19 : vi V2 x 4 = vi V x 4 := vi_fr hF6 hI.1 (hE5.obj (by decide) hI.1) (by decide +kernel)
  have s20 : vi V2 x 10 = vi V x 10 := vi_fr hF6 hI.1 (hE5.obj (by decide) hI.1) (by decide +kernel)
  have s21 : vi V2 m0 9 = vi V m0 9 := vi_fr hF6 hI.2.1 (hE5.obj (by decide) hI.2.1) (by decide +kernel)
  have s22 : vi V2 m0 2 = vi V m0 2 := vi_fr hF6 hI.2.1 (hE5.obj (by decide) hI.2.1) (by decide +kernel)
  have s23 : vi V2 m0 91 = vi V m0 91 := vi_fr hF6 hI.2.1 (hE5.obj (by decide) hI.2.1) (by decide +kernel)
  have s24 : vi V2 m0 133 = vi V m0 133 := vi_fr hF6 hI.2.1 (hE5.obj (by decide) hI.2.1) (by decide +kernel)
  have s25 : vi V2 m0 120 = vi V m0 120 := vi_fr hF6 hI.2.1 (hE5.obj (by decide) hI.2.1) (by decide +kernel)
  have s26 : vi V2 x 8 = vi V x 8 := vi_fr hF6 hI.1 (hE5.obj (by decide) hI.1) (by decide +kernel)
  have s27 : vi V2 m0 66 = vi V m0 66 := vi_fr hF6 hI.2.1 (hE5.obj (by decide) hI.2.1) (by decide +kernel)
  have s28 : vi V2 m0 118 = vi V m0 118 := vi_fr hF6 hI.2.1 (hE5.obj (by decide) hI.2.1) (by decide +kernel)
  have hS29 : STE V2 x m0 := STE.frx hS0 hF6 hE5 hWp11 hI.1 hI.2.1 (by decide +kernel) (by decide +kernel)
  have hK30 : WKE V2 x m0 := WKE.frx hK0 hF6 hE5 hWp11 hI.1 hI.2.1 (by decide +kernel) (by decide +kernel)
  have hP31 : PLE V2 x m0 := PLE.frx hP0 hF6 hE5 hWp11 hI.1 hI.2.1 (by omega) (by decide +kernel) (by decide +kernel) (by decide +kernel) (by decide +kernel) (by decide +kernel) (by decide +kernel)
  refine LG.pop dL_law_1708 rfl ?_
  refine LG.aload_n dL_law_1709 rfl rfl ?_
  refine LG.aload_n dL_law_1710 rfl rfl ?_
  refine LG.iload_n dL_law_1711 rfl rfl ?_
  refine LG.iconst dL_law_1712 ?_
  refine LG.iadd dL_law_1713 ?_
  refine LG.sld (Y := i + 1) dL_law_1714 (by omega) (by omega) hL ?_
  refine LG.aload_n dL_law_1715 rfl rfl ?_
  refine LG.iload_n dL_law_1716 rfl rfl ?_
  refine LG.iconst dL_law_1717 ?_
  refine LG.iadd dL_law_1718 ?_
  refine LG.sld (Y := i + 2) dL_law_1719 (by omega) (by omega) hL ?_
  refine LG.aload_n dL_law_1720 rfl rfl ?_
  refine LG.iload_n dL_law_1721 rfl rfl ?_
  refine LG.iconst dL_law_1722 ?_
  refine LG.iadd dL_law_1723 ?_
  refine LG.sld (Y := i + 3) dL_law_1724 (by omega) (by omega) hL ?_
  refine LG.useWT (fun hW => ?_)
  refine LG.callV (ci := 11) (N := mX12_declare) (As := [ti (xv xs (i + 1)), ti (xv xs (i + 2)), ti (xv xs (i + 3))]) dL_law_1725 (RX12, TX12, 151) rfl gV_RL_154 hI10.2.1 (t_X12_declare hI10.2.1 xv_ir xv_ir xv_ir) rfl [] rfl rfl (le_csb hcs rfl) (Nat.le_of_ble_eq_true rfl) (g_is fun X38 K32 V33 r34 h35 hE36 hF37 => ?_)
  have hI41 : LI K32 V33 x m0 := ⟨hE36.obj (by decide) hI10.1, hE36.obj (by decide) hI10.2.1, (GX.frx hF37 hE36 hI10.2.2.1 hW hI10.2.1 (by decide +kernel)), (PX0.frx hF37 hE36 hI10.2.2.2.1 hW hI10.2.1 (by decide +kernel)), (NN.frx 4 3 4 rfl rfl hF37 hE36 hI10.2.2.2.2.1 hW hI10.1 (by decide +kernel)), (NN.frx 10 9 7 rfl rfl hF37 hE36 hI10.2.2.2.2.2.1 hW hI10.1 (by decide +kernel)), (PI.frx hI10.2.2.2.2.2.2.1 hF37 hE36 hW hI10.1 hI10.2.2.2.2.1 (by decide +kernel)), (CWI.fr hI10.2.2.2.2.2.2.2 hF37 hE36 hW hI10.1 (by decide +kernel) (by decide +kernel) (by decide +kernel))⟩
  have hWp42 := hW
  have hY43 : YRL V33 x m0 := YRL.frx hY12 hF37 hE36 hW hI10.1 hI10.2.1 hI10.2.2.2.2.1 (by decide +kernel) (by decide +kernel)
  have hT44 : TXE K32 V33 x m0 := TXE.frx hT13 hF37 hE36 hW hI10.1 hI10.2.1 (by decide +kernel)
  have hA45 : AB V33 x m0 := AB.frx hA14 hF37 hE36 hW hI10.1 hI10.2.1 hI10.2.2.2.2.1 (by decide +kernel) (by decide +kernel) (Int.le_of_eq (vi_fr hF37 hI10.2.1 (hE36.obj (by decide) hI10.2.1) (by decide +kernel)).symm)
  have s46 : tdy V33 x = tdy V2 x := tdy_fr hF37 hE36 hW hI10.1 (by decide +kernel) (by decide +kernel)
  have s47 : wsz V33 x = wsz V2 x := wsz_fr hF37 hE36 hW hI10.1 (by decide +kernel) (by decide +kernel)
  have s48 : csz V33 x = csz V2 x := csz_fr hF37 hE36 hW hI10.1 (by decide +kernel) (by decide +kernel)
  have s49 : dsz V33 x = dsz V2 x := dsz_fr hF37 hE36 hW hI10.1 (by decide +kernel) (by decide +kernel)
  clear hW
  have s50 : vi V33 x 4 = vi V2 x 4 := vi_fr hF37 hI10.1 (hE36.obj (by decide) hI10.1) (by decide +kernel)
  have s51 : vi V33 x 10 = vi V2 x 10 := vi_fr hF37 hI10.1 (hE36.obj (by decide) hI10.1) (by decide +kernel)
  have s52 : vi V33 m0 9 = vi V2 m0 9 := vi_fr hF37 hI10.2.1 (hE36.obj (by decide) hI10.2.1) (by decide +kernel)
  have s53 : vi V33 m0 2 = vi V2 m0 2 := vi_fr hF37 hI10.2.1 (hE36.obj (by decide) hI10.2.1) (by decide +kernel)
  have s54 : vi V33 m0 91 = vi V2 m0 91 := vi_fr hF37 hI10.2.1 (hE36.obj (by decide) hI10.2.1) (by decide +kernel)
  have s55 : vi V33 m0 133 = vi V2 m0 133 := vi_fr hF37 hI10.2.1 (hE36.obj (by decide) hI10.2.1) (by decide +kernel)
  have s56 : vi V33 m0 120 = vi V2 m0 120 := vi_fr hF37 hI10.2.1 (hE36.obj (by decide) hI10.2.1) (by decide +kernel)
  have s57 : vi V33 x 8 = vi V2 x 8 := vi_fr hF37 hI10.1 (hE36.obj (by decide) hI10.1) (by decide +kernel)
  have s58 : vi V33 m0 66 = vi V2 m0 66 := vi_fr hF37 hI10.2.1 (hE36.obj (by decide) hI10.2.1) (by decide +kernel)
  have s59 : vi V33 m0 118 = vi V2 m0 118 := vi_fr hF37 hI10.2.1 (hE36.obj (by decide) hI10.2.1) (by decide +kernel)
  have hKd60 := KND.both hP0 hF6 hE5 hWp11 hI.2.1 (h4.2.2.2) (h35.2.2.2) (by decide +kernel)
  have hS61 : STE V33 x m0 := STE.frx hS29 hF37 hE36 hWp42 hI10.1 hI10.2.1 (by decide +kernel) (by decide +kernel)
  have hK62 : WKE V33 x m0 := WKE.frx hK30 hF37 hE36 hWp42 hI10.1 hI10.2.1 (by decide +kernel) (by decide +kernel)
  have hP63 : PLE V33 x m0 := PLE.frx hP31 hF37 hE36 hWp42 hI10.1 hI10.2.1 (by omega) (by decide +kernel) (by decide +kernel) (by decide +kernel) (by decide +kernel) (by decide +kernel) (by decide +kernel)
  refine LG.pop dL_law_1728 rfl ?_
  refine LG.goto (tgt := 2745) dL_law_1729 (by decide) ?_
  exact LG.widen (le_cs3 rfl) (kk _ _ hI41 (⟨by unfold RLI; omega, hA45, hT44, hY43, hP63, hK62, hS61⟩))
