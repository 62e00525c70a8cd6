set_option maxHeartbeats 2000000 in
theorem law_case_0 {p : Program} {l : Launch} {e : Env} {s : State} {m : MethodId} {below : List Frame} {meth : Method} {c : Code} {b L : Nat} {xs : Nat → Int32} {D : va_G} {dA : Nat → ClassId} {K : Kmap} {V : Vmap} {cells slots x m0 : Nat} {i : Int} (hI : LI K V x m0) (hR : REL K V x m0) (hL : L ≤ 4096) (h0 : 0 ≤ i) (h8 : i + 8 ≤ L) (hcs : cells + 8 ≤ 600000 ∧ slots + 2704 ≤ 7302250) (kk : ∀ (K1 : Kmap) (V1 : Vmap), LI K1 V1 x m0 → REL K1 V1 x m0 → LG p l e s m below meth c b L xs D dA K1 V1 (cells + 8) (slots + 2704) 2745 [some (.ref b), some (.ref x), some (.ref m0), some (ti i)] []) : LG p l e s m below meth c b L xs D dA K V cells slots 292 [some (.ref b), some (.ref x), some (.ref m0), some (ti i)] [] := by
  have hR0 := hR.1
  have hA0 := hR.2.1
  have hT0 := hR.2.2.1
  have hY0 := hR.2.2.2.1
  have hP0 := hR.2.2.2.2.1
  have hK0 := hR.2.2.2.2.2.1
  have hS0 := hR.2.2.2.2.2.2
  unfold RLI at hR0
  refine LG.aload_n dL_law_292 rfl rfl ?_
  refine LG.aload_n dL_law_293 rfl rfl ?_
  refine LG.iload_n dL_law_294 rfl rfl ?_
  refine LG.iconst dL_law_295 ?_
  refine LG.iadd dL_law_296 ?_
  refine LG.sld (Y := i + 1) dL_law_297 (by omega) (by omega) hL ?_
  refine LG.aload_n dL_law_298 rfl rfl ?_
  refine LG.iload_n dL_law_299 rfl rfl ?_
  refine LG.iconst dL_law_300 ?_
  refine LG.iadd dL_law_301 ?_
  refine LG.sld (Y := i + 2) dL_law_302 (by omega) (by omega) hL ?_
  refine LG.useWT (fun hW => ?_)
  refine LG.callV (ci := 10) (N := mX11_ice) (As := [ti (xv xs (i + 1)), ti (xv xs (i + 2))]) dL_law_303 (RX11, TX11, 20) rfl gV_RL_13 hI.1 (t_X11_ice hI.1 xv_ir xv_ir) rfl [] rfl rfl (le_cs hcs rfl) (Nat.le_of_ble_eq_true rfl) (g_is fun X7 K1 V2 r3 h4 hE5 hF6 => ?_)
  have hI10 : LI K1 V2 x m0 := ⟨hE5.obj (by decide) hI.1, hE5.obj (by decide) hI.2.1, (GX.frx hF6 hE5 hI.2.2.1 hW hI.2.1 (by decide +kernel)), (PX0.frx hF6 hE5 hI.2.2.2.1 hW hI.2.1 (by decide +kernel)), (NN.frx 4 3 4 rfl rfl hF6 hE5 hI.2.2.2.2.1 hW hI.1 (by decide +kernel)), (NN.frx 10 9 7 rfl rfl hF6 hE5 hI.2.2.2.2.2.1 hW hI.1 (by decide +kernel)), (PI.frx hI.2.2.2.2.2.2.1 hF6 hE5 hW hI.1 hI.2.2.2.2.1 (by decide +kernel)), (CWI.fr hI.2.2.2.2.2.2.2 hF6 hE5 hW hI.1 (by decide +kernel) (by decide +kernel) (by decide +kernel))⟩
  have hWp11 := hW
  have hY12 : YRL V2 x m0 := YRL.frx hY0 hF6 hE5 hW hI.1 hI.2.1 hI.2.2.2.2.1 (by decide +kernel) (by decide +kernel)
  have hT13 : TXE K1 V2 x m0 := TXE.frx hT0 hF6 hE5 hW hI.1 hI.2.1 (by decide +kernel)
  have hA14 : AB V2 x m0 := AB.frx hA0 hF6 hE5 hW hI.1 hI.2.1 hI.2.2.2.2.1 (by decide +kernel) (by decide +kernel) (Int.le_of_eq (vi_fr hF6 hI.2.1 (hE5.obj (by decide) hI.2.1) (by decide +kernel)).symm)
  have s15 : tdy V2 x = tdy V x := tdy_fr hF6 hE5 hW hI.1 (by decide +kernel) (by decide +kernel)
  have s16 : wsz V2 x = wsz V x := wsz_fr hF6 hE5 hW hI.1 (by decide +kernel) (by decide +kernel)
  have s17 : csz V2 x = csz V x := csz_fr hF6 hE5 hW hI.1 (by decide +kernel) (by decide +kernel)
  have s18 : dsz V2 x = dsz V x := dsz_fr hF6 hE5 hW hI.1 (by decide +kernel) (by decide +kernel)
  clear hW
  have s19 : vi V2 x 4 = vi V x 4 := vi_fr hF6 hI.1 (hE5.obj (by decide) hI.1) (by decide +kernel)
  have s20 : vi V2 x 10 = vi V x 10 := vi_fr hF6 hI.1 (hE5.obj (by decide) hI.1) (by decide +kernel)
  have s21 : vi V2 m0 9 = vi V m0 9 := vi_fr hF6 hI.2.1 (hE5.obj (by decide) hI.2.1) (by decide +kernel)
  have s22 : vi V2 m0 2 = vi V m0 2 := vi_fr hF6 hI.2.1 (hE5.obj (by decide) hI.2.1) (by decide +kernel)
  have s23 : vi V2 m0 91 = vi V m0 91 := vi_fr hF6 hI.2.1 (hE5.obj (by decide) hI.2.1) (by decide +kernel)
  have s24 : vi V2 m0 133 = vi V m0 133 := vi_fr hF6 hI.2.1 (hE5.obj (by decide) hI.2.1) (by decide +kernel)
  have s25 : vi V2 m0 120 = vi V m0 120 := vi_fr hF6 hI.2.1 (hE5.obj (by decide) hI.2.1) (by decide +kernel)
  have s26 : vi V2 x 8 = vi V x 8 := vi_fr hF6 hI.1 (hE5.obj (by decide) hI.1) (by decide +kernel)
  have s27 : vi V2 m0 66 = vi V m0 66 := vi_fr hF6 hI.2.1 (hE5.obj (by decide) hI.2.1) (by decide +kernel)
  have s28 : vi V2 m0 118 = vi V m0 118 := vi_fr hF6 hI.2.1 (hE5.obj (by decide) hI.2.1) (by decide +kernel)
  have hS29 : STE V2 x m0 := STE.frx hS0 hF6 hE5 hWp11 hI.1 hI.2.1 (by decide +kernel) (by decide +kernel)
  have hK30 : WKE V2 x m0 := WKE.frx hK0 hF6 hE5 hWp11 hI.1 hI.2.1 (by decide +kernel) (by decide +kernel)
  have h431 : vi V x 4 ≤ vi V2 x 4 := by omega
  refine LG.pop dL_law_306 rfl ?_
  refine LG.aload_n dL_law_307 rfl rfl ?_
  refine LG.aload_n dL_law_308 rfl rfl ?_
  refine LG.iload_n dL_law_309 rfl rfl ?_
  refine LG.iconst dL_law_310 ?_
  refine LG.iadd dL_law_311 ?_
  refine LG.sld (Y := i + 1) dL_law_312 (by omega) (by omega) hL ?_
  refine LG.aload_n dL_law_313 rfl rfl ?_
  refine LG.iload_n dL_law_314 rfl rfl ?_
  refine LG.iconst dL_law_315 ?_
  refine LG.iadd dL_law_316 ?_
  refine LG.sld (Y := i + 2) dL_law_317 (by omega) (by omega) hL ?_
  refine LG.useWT (fun hW => ?_)
  refine LG.callV (ci := 11) (N := mX12_ice) (As := [ti (xv xs (i + 1)), ti (xv xs (i + 2))]) dL_law_318 (RX12, TX12, 151) rfl gV_RL_17 hI10.2.1 (t_X12_ice hI10.2.1 xv_ir xv_ir) rfl [] rfl rfl (le_csb hcs rfl) (Nat.le_of_ble_eq_true rfl) (g_is fun X38 K32 V33 r34 h35 hE36 hF37 => ?_)
  have hI41 : LI K32 V33 x m0 := ⟨hE36.obj (by decide) hI10.1, hE36.obj (by decide) hI10.2.1, (GX.frx hF37 hE36 hI10.2.2.1 hW hI10.2.1 (by decide +kernel)), (PX0.frx hF37 hE36 hI10.2.2.2.1 hW hI10.2.1 (by decide +kernel)), (NN.frx 4 3 4 rfl rfl hF37 hE36 hI10.2.2.2.2.1 hW hI10.1 (by decide +kernel)), (NN.frx 10 9 7 rfl rfl hF37 hE36 hI10.2.2.2.2.2.1 hW hI10.1 (by decide +kernel)), (PI.frx hI10.2.2.2.2.2.2.1 hF37 hE36 hW hI10.1 hI10.2.2.2.2.1 (by decide +kernel)), (CWI.fr hI10.2.2.2.2.2.2.2 hF37 hE36 hW hI10.1 (by decide +kernel) (by decide +kernel) (by decide +kernel))⟩
  have hWp42 := hW
  have hY43 : YRL V33 x m0 := YRL.frx hY12 hF37 hE36 hW hI10.1 hI10.2.1 hI10.2.2.2.2.1 (by decide +kernel) (by decide +kernel)
  have hT44 : TXE K32 V33 x m0 := TXE.frx hT13 hF37 hE36 hW hI10.1 hI10.2.1 (by decide +kernel)
  have hA45 : AB V33 x m0 := AB.frx hA14 hF37 hE36 hW hI10.1 hI10.2.1 hI10.2.2.2.2.1 (by decide +kernel) (by decide +kernel) (Int.le_of_eq (vi_fr hF37 hI10.2.1 (hE36.obj (by decide) hI10.2.1) (by decide +kernel)).symm)
  have s46 : tdy V33 x = tdy V2 x := tdy_fr hF37 hE36 hW hI10.1 (by decide +kernel) (by decide +kernel)
  have s47 : wsz V33 x = wsz V2 x := wsz_fr hF37 hE36 hW hI10.1 (by decide +kernel) (by decide +kernel)
  have s48 : csz V33 x = csz V2 x := csz_fr hF37 hE36 hW hI10.1 (by decide +kernel) (by decide +kernel)
  have s49 : dsz V33 x = dsz V2 x := dsz_fr hF37 hE36 hW hI10.1 (by decide +kernel) (by decide +kernel)
  clear hW
  have s50 : vi V33 x 4 = vi V2 x 4 := vi_fr hF37 hI10.1 (hE36.obj (by decide) hI10.1) (by decide +kernel)
  have s51 : vi V33 x 10 = vi V2 x 10 := vi_fr hF37 hI10.1 (hE36.obj (by decide) hI10.1) (by decide +kernel)
  have s52 : vi V33 m0 9 = vi V2 m0 9 := vi_fr hF37 hI10.2.1 (hE36.obj (by decide) hI10.2.1) (by decide +kernel)
  have s53 : vi V33 m0 2 = vi V2 m0 2 := vi_fr hF37 hI10.2.1 (hE36.obj (by decide) hI10.2.1) (by decide +kernel)
  have s54 : vi V33 m0 91 = vi V2 m0 91 := vi_fr hF37 hI10.2.1 (hE36.obj (by decide) hI10.2.1) (by decide +kernel)
  have s55 : vi V33 m0 133 = vi V2 m0 133 := vi_fr hF37 hI10.2.1 (hE36.obj (by decide) hI10.2.1) (by decide +kernel)
  have s56 : vi V33 m0 120 = vi V2 m0 120 := vi_fr hF37 hI10.2.1 (hE36.obj (by decide) hI10.2.1) (by decide +kernel)
  have s57 : vi V33 x 8 = vi V2 x 8 := vi_fr hF37 hI10.1 (hE36.obj (by decide) hI10.1) (by decide +kernel)
  have s58 : vi V33 m0 66 = vi V2 m0 66 := vi_fr hF37 hI10.2.1 (hE36.obj (by decide) hI10.2.1) (by decide +kernel)
  have s59 : vi V33 m0 118 = vi V2 m0 118 := vi_fr hF37 hI10.2.1 (hE36.obj (by decide) hI10.2.1) (by decide +kernel)
  have hS60 : STE V33 x m0 := STE.frx hS29 hF37 hE36 hWp42 hI10.1 hI10.2.1 (by decide +kernel) (by decide +kernel)
  have hK61 : WKE V33 x m0 := WKE.frx hK30 hF37 hE36 hWp42 hI10.1 hI10.2.1 (by decide +kernel) (by decide +kernel)
  have h462 : vi V2 x 4 ≤ vi V33 x 4 := by omega
  have hKp63 := PLE.ice hP0 hI.1 hI.2.1 hWp11 hWp42 hE5 hF6 hE36 hF37 h431 h462 (by omega) (h4.2.2.2) (h35.2.2.2) (by decide +kernel) (by decide +kernel) (by decide +kernel) (by decide +kernel) (by decide +kernel) (by decide +kernel) (by decide +kernel) (by decide +kernel) (by decide +kernel) (by decide +kernel)
  refine LG.pop dL_law_321 rfl ?_
  refine LG.goto (tgt := 2745) dL_law_322 (by decide) ?_
  exact LG.widen (le_cs3 rfl) (kk _ _ hI41 (⟨by unfold RLI; omega, hA45, hT44, hY43, hKp63.2, hK61, hS60⟩))

set_option maxHeartbeats 2000000 in
theorem law_case_1 {p : Program} {l : Launch} {e : Env} {s : State} {m : MethodId} {below : List Frame} {meth : Method} {c : Code} {b L : Nat} {xs : Nat → Int32} {D : va_G} {dA : Nat → ClassId} {K : Kmap} {V : Vmap} {cells slots x m0 : Nat} {i : Int} (hI : LI K V x m0) (hR : REL K V x m0) (hL : L ≤ 4096) (h0 : 0 ≤ i) (h8 : i + 8 ≤ L) (hcs : cells + 8 ≤ 600000 ∧ slots + 2704 ≤ 7302250) (kk : ∀ (K1 : Kmap) (V1 : Vmap), LI K1 V1 x m0 → REL K1 V1 x m0 → LG p l e s m below meth c b L xs D dA K1 V1 (cells + 8) (slots + 2704) 2745 [some (.ref b), some (.ref x), some (.ref m0), some (ti i)] []) : LG p l e s m below meth c b L xs D dA K V cells slots 325 [some (.ref b), some (.ref x), some (.ref m0), some (ti i)] [] := by
  have hR0 := hR.1
  have hA0 := hR.2.1
  have hT0 := hR.2.2.1
  have hY0 := hR.2.2.2.1
  have hP0 := hR.2.2.2.2.1
  have hK0 := hR.2.2.2.2.2.1
  have hS0 := hR.2.2.2.2.2.2
  unfold RLI at hR0
  refine LG.aload_n dL_law_325 rfl rfl ?_
  refine LG.aload_n dL_law_326 rfl rfl ?_
  refine LG.iload_n dL_law_327 rfl rfl ?_
  refine LG.iconst dL_law_328 ?_
  refine LG.iadd dL_law_329 ?_
  refine LG.sld (Y := i + 1) dL_law_330 (by omega) (by omega) hL ?_
  refine LG.aload_n dL_law_331 rfl rfl ?_
  refine LG.iload_n dL_law_332 rfl rfl ?_
  refine LG.iconst dL_law_333 ?_
  refine LG.iadd dL_law_334 ?_
  refine LG.sld (Y := i + 2) dL_law_335 (by omega) (by omega) hL ?_
  refine LG.aload_n dL_law_336 rfl rfl ?_
  refine LG.iload_n dL_law_337 rfl rfl ?_
  refine LG.iconst dL_law_338 ?_
  refine LG.iadd dL_law_339 ?_
  refine LG.sld (Y := i + 3) dL_law_340 (by omega) (by omega) hL ?_
  refine LG.aload_n dL_law_341 rfl rfl ?_
  refine LG.iload_n dL_law_342 rfl rfl ?_
  refine LG.iconst dL_law_343 ?_
  refine LG.iadd dL_law_344 ?_
  refine LG.sld (Y := i + 4) dL_law_345 (by omega) (by omega) hL ?_
  refine LG.aload_n dL_law_346 rfl rfl ?_
  refine LG.iload_n dL_law_347 rfl rfl ?_
  refine LG.iconst dL_law_348 ?_
  refine LG.iadd dL_law_349 ?_
  refine LG.sld (Y := i + 5) dL_law_350 (by omega) (by omega) hL ?_
  refine LG.useWT (fun hW => ?_)
  refine LG.callV (ci := 10) (N := mX11_cell) (As := [ti (xv xs (i + 1)), ti (xv xs (i + 2)), ti (xv xs (i + 3)), ti (xv xs (i + 4)), ti (xv xs (i + 5))]) dL_law_351 (RX11, TX11, 20) rfl gV_RL_18 hI.1 (t_X11_cell hI.1 xv_ir xv_ir xv_ir xv_ir xv_ir) rfl [] rfl rfl (le_cs hcs rfl) (Nat.le_of_ble_eq_true rfl) (g_is fun X7 K1 V2 r3 h4 hE5 hF6 => ?_)
  have hI10 : LI K1 V2 x m0 := ⟨hE5.obj (by decide) hI.1, hE5.obj (by decide) hI.2.1, (GX.frx hF6 hE5 hI.2.2.1 hW hI.2.1 (by decide +kernel)), (PX0.frx hF6 hE5 hI.2.2.2.1 hW hI.2.1 (by decide +kernel)), (NN.frx 4 3 4 rfl rfl hF6 hE5 hI.2.2.2.2.1 hW hI.1 (by decide +kernel)), (NN.frx 10 9 7 rfl rfl hF6 hE5 hI.2.2.2.2.2.1 hW hI.1 (by decide +kernel)), (PI.frx hI.2.2.2.2.2.2.1 hF6 hE5 hW hI.1 hI.2.2.2.2.1 (by decide +kernel)), (CWI.fr hI.2.2.2.2.2.2.2 hF6 hE5 hW hI.1 (by decide +kernel) (by decide +kernel) (by decide +kernel))⟩
  have hWp11 := hW
  have hY12 : YRL V2 x m0 := YRL.frx hY0 hF6 hE5 hW hI.1 hI.2.1 hI.2.2.2.2.1 (by decide +kernel) (by decide +kernel)
  have hT13 : TXE K1 V2 x m0 := TXE.frx hT0 hF6 hE5 hW hI.1 hI.2.1 (by decide +kernel)
  have hA14 : AB V2 x m0 := AB.frx hA0 hF6 hE5 hW hI.1 hI.2.1 hI.2.2.2.2.1 (by decide +kernel) (by decide +kernel) (Int.le_of_eq (vi_fr hF6 hI.2.1 (hE5.obj (by decide) hI.2.1) (by decide +kernel)).symm)
  have s15 : tdy V2 x = tdy V x := tdy_fr hF6 hE5 hW hI.1 (by decide +kernel) (by decide +kernel)
  have s16 : wsz V2 x = wsz V x := wsz_fr hF6 hE5 hW hI.1 (by decide +kernel) (by decide +kernel)
  have s17 : csz V2 x = csz V x := csz_fr hF6 hE5 hW hI.1 (by decide +kernel) (by decide +kernel)
  have s18 : dsz V2 x = dsz V x := dsz_fr hF6 hE5 hW hI.1 (by decide +kernel) (by decide +kernel)
  clear hW
  have s19 : vi V2 x 4 = vi V x 4 := vi_fr hF6 hI.1 (hE5.obj (by decide) hI.1) (by decide +kernel)
  have s20 : vi V2 x 10 = vi V x 10 := vi_fr hF6 hI.1 (hE5.obj (by decide) hI.1) (by decide +kernel)
  have s21 : vi V2 m0 9 = vi V m0 9 := vi_fr hF6 hI.2.1 (hE5.obj (by decide) hI.2.1) (by decide +kernel)
  have s22 : vi V2 m0 2 = vi V m0 2 := vi_fr hF6 hI.2.1 (hE5.obj (by decide) hI.2.1) (by decide +kernel)
  have s23 : vi V2 m0 91 = vi V m0 91 := vi_fr hF6 hI.2.1 (hE5.obj (by decide) hI.2.1) (by decide +kernel)
  have s24 : vi V2 m0 133 = vi V m0 133 := vi_fr hF6 hI.2.1 (hE5.obj (by decide) hI.2.1) (by decide +kernel)
  have s25 : vi V2 m0 120 = vi V m0 120 := vi_fr hF6 hI.2.1 (hE5.obj (by decide) hI.2.1) (by decide +kernel)
  have s26 : vi V2 x 8 = vi V x 8 := vi_fr hF6 hI.1 (hE5.obj (by decide) hI.1) (by decide +kernel)
  have s27 : vi V2 m0 66 = vi V m0 66 := vi_fr hF6 hI.2.1 (hE5.obj (by decide) hI.2.1) (by decide +kernel)
  have s28 : vi V2 m0 118 = vi V m0 118 := vi_fr hF6 hI.2.1 (hE5.obj (by decide) hI.2.1) (by decide +kernel)
  have hS29 : STE V2 x m0 := STE.frx hS0 hF6 hE5 hWp11 hI.1 hI.2.1 (by decide +kernel) (by decide +kernel)
  have hK30 : WKE V2 x m0 := WKE.frx hK0 hF6 hE5 hWp11 hI.1 hI.2.1 (by decide +kernel) (by decide +kernel)
  have h431 : vi V x 4 ≤ vi V2 x 4 := by omega
  refine LG.pop dL_law_354 rfl ?_
  refine LG.aload_n dL_law_355 rfl rfl ?_
  refine LG.aload_n dL_law_356 rfl rfl ?_
  refine LG.iload_n dL_law_357 rfl rfl ?_
  refine LG.iconst dL_law_358 ?_
  refine LG.iadd dL_law_359 ?_
  refine LG.sld (Y := i + 1) dL_law_360 (by omega) (by omega) hL ?_
  refine LG.aload_n dL_law_361 rfl rfl ?_
  refine LG.iload_n dL_law_362 rfl rfl ?_
  refine LG.iconst dL_law_363 ?_
  refine LG.iadd dL_law_364 ?_
  refine LG.sld (Y := i + 2) dL_law_365 (by omega) (by omega) hL ?_
  refine LG.aload_n dL_law_366 rfl rfl ?_
  refine LG.iload_n dL_law_367 rfl rfl ?_
  refine LG.iconst dL_law_368 ?_
  refine LG.iadd dL_law_369 ?_
  refine LG.sld (Y := i + 3) dL_law_370 (by omega) (by omega) hL ?_
  refine LG.aload_n dL_law_371 rfl rfl ?_
  refine LG.iload_n dL_law_372 rfl rfl ?_
  refine LG.iconst dL_law_373 ?_
  refine LG.iadd dL_law_374 ?_
  refine LG.sld (Y := i + 4) dL_law_375 (by omega) (by omega) hL ?_
  refine LG.aload_n dL_law_376 rfl rfl ?_
  refine LG.iload_n dL_law_377 rfl rfl ?_
  refine LG.iconst dL_law_378 ?_
  refine LG.iadd dL_law_379 ?_
  refine LG.sld (Y := i + 5) dL_law_380 (by omega) (by omega) hL ?_
  refine LG.useWT (fun hW => ?_)
  refine LG.callV (ci := 11) (N := mX12_cell) (As := [ti (xv xs (i + 1)), ti (xv xs (i + 2)), ti (xv xs (i + 3)), ti (xv xs (i + 4)), ti (xv xs (i + 5))]) dL_law_381 (RX12, TX12, 151) rfl gV_RL_22 hI10.2.1 (t_X12_cell hI10.2.1 xv_ir xv_ir xv_ir xv_ir xv_ir) rfl [] rfl rfl (le_csb hcs rfl) (Nat.le_of_ble_eq_true rfl) (g_is fun X38 K32 V33 r34 h35 hE36 hF37 => ?_)
  have hI41 : LI K32 V33 x m0 := ⟨hE36.obj (by decide) hI10.1, hE36.obj (by decide) hI10.2.1, (GX.frx hF37 hE36 hI10.2.2.1 hW hI10.2.1 (by decide +kernel)), (PX0.frx hF37 hE36 hI10.2.2.2.1 hW hI10.2.1 (by decide +kernel)), (NN.frx 4 3 4 rfl rfl hF37 hE36 hI10.2.2.2.2.1 hW hI10.1 (by decide +kernel)), (NN.frx 10 9 7 rfl rfl hF37 hE36 hI10.2.2.2.2.2.1 hW hI10.1 (by decide +kernel)), (PI.frx hI10.2.2.2.2.2.2.1 hF37 hE36 hW hI10.1 hI10.2.2.2.2.1 (by decide +kernel)), (CWI.fr hI10.2.2.2.2.2.2.2 hF37 hE36 hW hI10.1 (by decide +kernel) (by decide +kernel) (by decide +kernel))⟩
  have hWp42 := hW
  have hY43 : YRL V33 x m0 := YRL.frx hY12 hF37 hE36 hW hI10.1 hI10.2.1 hI10.2.2.2.2.1 (by decide +kernel) (by decide +kernel)
  have hT44 : TXE K32 V33 x m0 := TXE.frx hT13 hF37 hE36 hW hI10.1 hI10.2.1 (by decide +kernel)
  have hA45 : AB V33 x m0 := AB.frx hA14 hF37 hE36 hW hI10.1 hI10.2.1 hI10.2.2.2.2.1 (by decide +kernel) (by decide +kernel) (Int.le_of_eq (vi_fr hF37 hI10.2.1 (hE36.obj (by decide) hI10.2.1) (by decide +kernel)).symm)
  have s46 : tdy V33 x = tdy V2 x := tdy_fr hF37 hE36 hW hI10.1 (by decide +kernel) (by decide +kernel)
  have s47 : wsz V33 x = wsz V2 x := wsz_fr hF37 hE36 hW hI10.1 (by decide +kernel) (by decide +kernel)
  have s48 : csz V33 x = csz V2 x := csz_fr hF37 hE36 hW hI10.1 (by decide +kernel) (by decide +kernel)
  have s49 : dsz V33 x = dsz V2 x := dsz_fr hF37 hE36 hW hI10.1 (by decide +kernel) (by decide +kernel)
  clear hW
  have s50 : vi V33 x 4 = vi V2 x 4 := vi_fr hF37 hI10.1 (hE36.obj (by decide) hI10.1) (by decide +kernel)
  have s51 : vi V33 x 10 = vi V2 x 10 := vi_fr hF37 hI10.1 (hE36.obj (by decide) hI10.1) (by decide +kernel)
  have s52 : vi V33 m0 9 = vi V2 m0 9 := vi_fr hF37 hI10.2.1 (hE36.obj (by decide) hI10.2.1) (by decide +kernel)
  have s53 : vi V33 m0 2 = vi V2 m0 2 := vi_fr hF37 hI10.2.1 (hE36.obj (by decide) hI10.2.1) (by decide +kernel)
  have s54 : vi V33 m0 91 = vi V2 m0 91 := vi_fr hF37 hI10.2.1 (hE36.obj (by decide) hI10.2.1) (by decide +kernel)
  have s55 : vi V33 m0 133 = vi V2 m0 133 := vi_fr hF37 hI10.2.1 (hE36.obj (by decide) hI10.2.1) (by decide +kernel)
  have s56 : vi V33 m0 120 = vi V2 m0 120 := vi_fr hF37 hI10.2.1 (hE36.obj (by decide) hI10.2.1) (by decide +kernel)
  have s57 : vi V33 x 8 = vi V2 x 8 := vi_fr hF37 hI10.1 (hE36.obj (by decide) hI10.1) (by decide +kernel)
  have s58 : vi V33 m0 66 = vi V2 m0 66 := vi_fr hF37 hI10.2.1 (hE36.obj (by decide) hI10.2.1) (by decide +kernel)
  have s59 : vi V33 m0 118 = vi V2 m0 118 := vi_fr hF37 hI10.2.1 (hE36.obj (by decide) hI10.2.1) (by decide +kernel)
  have hS60 : STE V33 x m0 := STE.frx hS29 hF37 hE36 hWp42 hI10.1 hI10.2.1 (by decide +kernel) (by decide +kernel)
  have hK61 : WKE V33 x m0 := WKE.frx hK30 hF37 hE36 hWp42 hI10.1 hI10.2.1 (by decide +kernel) (by decide +kernel)
  have h462 : vi V2 x 4 ≤ vi V33 x 4 := by omega
  have hKp63 := PLE.cell hP0 hI.1 hI.2.1 hWp11 hWp42 hE5 hF6 hE36 hF37 h431 h462 (h4.2.2.2) (h35.2.2.2) (by decide +kernel) (by decide +kernel) (by decide +kernel) (by decide +kernel) (by decide +kernel) (by decide +kernel) (by decide +kernel) (by decide +kernel) (by decide +kernel) (by decide +kernel)
  refine LG.pop dL_law_384 rfl ?_
  refine LG.goto (tgt := 2745) dL_law_385 (by decide) ?_
  exact LG.widen (le_cs3 rfl) (kk _ _ hI41 (⟨by unfold RLI; omega, hA45, hT44, hY43, hKp63.2, hK61, hS60⟩))

set_option maxHeartbeats 2000000 in
theorem law_case_2 {p : Program} {l : Launch} {e : Env} {s : State} {m : MethodId} {below : List Frame} {meth : Method} {c : Code} {b L : Nat} {xs : Nat → Int32} {D : va_G} {dA : Nat → ClassId} {K : Kmap} {V : Vmap} {cells slots x m0 : Nat} {i : Int} (hI : LI K V x m0) (hR : REL K V x m0) (hL : L ≤ 4096) (h0 : 0 ≤ i) (h8 : i + 8 ≤ L) (hcs : cells + 8 ≤ 600000 ∧ slots + 2704 ≤ 7302250) (kk : ∀ (K1 : Kmap) (V1 : Vmap), LI K1 V1 x m0 → REL K1 V1 x m0 → LG p l e s m below meth c b L xs D dA K1 V1 (cells + 8) (slots + 2704) 2745 [some (.ref b), some (.ref x), some (.ref m0), some (ti i)] []) : LG p l e s m below meth c b L xs D dA K V cells slots 388 [some (.ref b), some (.ref x), some (.ref m0), some (ti i)] [] := by
  have hR0 := hR.1
  have hA0 := hR.2.1
  have hT0 := hR.2.2.1
  have hY0 := hR.2.2.2.1
  have hP0 := hR.2.2.2.2.1
  have hK0 := hR.2.2.2.2.2.1
  have hS0 := hR.2.2.2.2.2.2
  unfold RLI at hR0
  refine LG.aload_n dL_law_388 rfl rfl ?_
  refine LG.aload_n dL_law_389 rfl rfl ?_
  refine LG.iload_n dL_law_390 rfl rfl ?_
  refine LG.iconst dL_law_391 ?_
  refine LG.iadd dL_law_392 ?_
  refine LG.sld (Y := i + 1) dL_law_393 (by omega) (by omega) hL ?_
  refine LG.aload_n dL_law_394 rfl rfl ?_
  refine LG.iload_n dL_law_395 rfl rfl ?_
  refine LG.iconst dL_law_396 ?_
  refine LG.iadd dL_law_397 ?_
  refine LG.sld (Y := i + 2) dL_law_398 (by omega) (by omega) hL ?_
  refine LG.useWT (fun hW => ?_)
  refine LG.callV (ci := 10) (N := mX11_dark) (As := [ti (xv xs (i + 1)), ti (xv xs (i + 2))]) dL_law_399 (RX11, TX11, 20) rfl gV_RL_23 hI.1 (t_X11_dark hI.1 xv_ir xv_ir) rfl [] rfl rfl (le_cs hcs rfl) (Nat.le_of_ble_eq_true rfl) (g_is fun X7 K1 V2 r3 h4 hE5 hF6 => ?_)
  have hI10 : LI K1 V2 x m0 := ⟨hE5.obj (by decide) hI.1, hE5.obj (by decide) hI.2.1, (GX.frx hF6 hE5 hI.2.2.1 hW hI.2.1 (by decide +kernel)), (PX0.frx hF6 hE5 hI.2.2.2.1 hW hI.2.1 (by decide +kernel)), (NN.frx 4 3 4 rfl rfl hF6 hE5 hI.2.2.2.2.1 hW hI.1 (by decide +kernel)), (NN.frx 10 9 7 rfl rfl hF6 hE5 hI.2.2.2.2.2.1 hW hI.1 (by decide +kernel)), (PI.frx hI.2.2.2.2.2.2.1 hF6 hE5 hW hI.1 hI.2.2.2.2.1 (by decide +kernel)), (CWI.fr hI.2.2.2.2.2.2.2 hF6 hE5 hW hI.1 (by decide +kernel) (by decide +kernel) (by decide +kernel))⟩
  have hWp11 := hW
  have hY12 : YRL V2 x m0 := YRL.frx hY0 hF6 hE5 hW hI.1 hI.2.1 hI.2.2.2.2.1 (by decide +kernel) (by decide +kernel)
  have hT13 : TXE K1 V2 x m0 := TXE.frx hT0 hF6 hE5 hW hI.1 hI.2.1 (by decide +kernel)
  have hA14 : AB V2 x m0 := AB.frx hA0 hF6 hE5 hW hI.1 hI.2.1 hI.2.2.2.2.1 (by decide +kernel) (by decide +kernel) (Int.le_of_eq (vi_fr hF6 hI.2.1 (hE5.obj (by decide) hI.2.1) (by decide +kernel)).symm)
  have s15 : tdy V2 x = tdy V x := tdy_fr hF6 hE5 hW hI.1 (by decide +kernel) (by decide +kernel)
  have s16 : wsz V2 x = wsz V x := wsz_fr hF6 hE5 hW hI.1 (by decide +kernel) (by decide +kernel)
  have s17 : csz V2 x = csz V x := csz_fr hF6 hE5 hW hI.1 (by decide +kernel) (by decide +kernel)
  have s18 : dsz V2 x = dsz V x := dsz_fr hF6 hE5 hW hI.1 (by decide +kernel) (by decide +kernel)
  clear hW
  have s19 : vi V2 x 4 = vi V x 4 := vi_fr hF6 hI.1 (hE5.obj (by decide) hI.1) (by decide +kernel)
  have s20 : vi V2 x 10 = vi V x 10 := vi_fr hF6 hI.1 (hE5.obj (by decide) hI.1) (by decide +kernel)
  have s21 : vi V2 m0 9 = vi V m0 9 := vi_fr hF6 hI.2.1 (hE5.obj (by decide) hI.2.1) (by decide +kernel)
  have s22 : vi V2 m0 2 = vi V m0 2 := vi_fr hF6 hI.2.1 (hE5.obj (by decide) hI.2.1) (by decide +kernel)
  have s23 : vi V2 m0 91 = vi V m0 91 := vi_fr hF6 hI.2.1 (hE5.obj (by decide) hI.2.1) (by decide +kernel)
  have s24 : vi V2 m0 133 = vi V m0 133 := vi_fr hF6 hI.2.1 (hE5.obj (by decide) hI.2.1) (by decide +kernel)
  have s25 : vi V2 m0 120 = vi V m0 120 := vi_fr hF6 hI.2.1 (hE5.obj (by decide) hI.2.1) (by decide +kernel)
  have s26 : vi V2 x 8 = vi V x 8 := vi_fr hF6 hI.1 (hE5.obj (by decide) hI.1) (by decide +kernel)
  have s27 : vi V2 m0 66 = vi V m0 66 := vi_fr hF6 hI.2.1 (hE5.obj (by decide) hI.2.1) (by decide +kernel)
  have s28 : vi V2 m0 118 = vi V m0 118 := vi_fr hF6 hI.2.1 (hE5.obj (by decide) hI.2.1) (by decide +kernel)
  have hS29 : STE V2 x m0 := STE.frx hS0 hF6 hE5 hWp11 hI.1 hI.2.1 (by decide +kernel) (by decide +kernel)
  have hK30 : WKE V2 x m0 := WKE.frx hK0 hF6 hE5 hWp11 hI.1 hI.2.1 (by decide +kernel) (by decide +kernel)
  have hP31 : PLE V2 x m0 := PLE.frx hP0 hF6 hE5 hWp11 hI.1 hI.2.1 (by omega) (by decide +kernel) (by decide +kernel) (by decide +kernel) (by decide +kernel) (by decide +kernel) (by decide +kernel)
  refine LG.pop dL_law_402 rfl ?_
  refine LG.aload_n dL_law_403 rfl rfl ?_
  refine LG.aload_n dL_law_404 rfl rfl ?_
  refine LG.iload_n dL_law_405 rfl rfl ?_
  refine LG.iconst dL_law_406 ?_
  refine LG.iadd dL_law_407 ?_
  refine LG.sld (Y := i + 1) dL_law_408 (by omega) (by omega) hL ?_
  refine LG.aload_n dL_law_409 rfl rfl ?_
  refine LG.iload_n dL_law_410 rfl rfl ?_
  refine LG.iconst dL_law_411 ?_
  refine LG.iadd dL_law_412 ?_
  refine LG.sld (Y := i + 2) dL_law_413 (by omega) (by omega) hL ?_
  refine LG.useWT (fun hW => ?_)
  refine LG.callV (ci := 11) (N := mX12_dark) (As := [ti (xv xs (i + 1)), ti (xv xs (i + 2))]) dL_law_414 (RX12, TX12, 151) rfl gV_RL_26 hI10.2.1 (t_X12_dark hI10.2.1 xv_ir xv_ir) rfl [] rfl rfl (le_csb hcs rfl) (Nat.le_of_ble_eq_true rfl) (g_is fun X38 K32 V33 r34 h35 hE36 hF37 => ?_)
  have hI41 : LI K32 V33 x m0 := ⟨hE36.obj (by decide) hI10.1, hE36.obj (by decide) hI10.2.1, (GX.frx hF37 hE36 hI10.2.2.1 hW hI10.2.1 (by decide +kernel)), (PX0.frx hF37 hE36 hI10.2.2.2.1 hW hI10.2.1 (by decide +kernel)), (NN.frx 4 3 4 rfl rfl hF37 hE36 hI10.2.2.2.2.1 hW hI10.1 (by decide +kernel)), (NN.frx 10 9 7 rfl rfl hF37 hE36 hI10.2.2.2.2.2.1 hW hI10.1 (by decide +kernel)), (PI.frx hI10.2.2.2.2.2.2.1 hF37 hE36 hW hI10.1 hI10.2.2.2.2.1 (by decide +kernel)), (CWI.fr hI10.2.2.2.2.2.2.2 hF37 hE36 hW hI10.1 (by decide +kernel) (by decide +kernel) (by decide +kernel))⟩
  have hWp42 := hW
  have hY43 : YRL V33 x m0 := YRL.frx hY12 hF37 hE36 hW hI10.1 hI10.2.1 hI10.2.2.2.2.1 (by decide +kernel) (by decide +kernel)
  have hT44 : TXE K32 V33 x m0 := TXE.frx hT13 hF37 hE36 hW hI10.1 hI10.2.1 (by decide +kernel)
  have hA45 : AB V33 x m0 := AB.frx hA14 hF37 hE36 hW hI10.1 hI10.2.1 hI10.2.2.2.2.1 (by decide +kernel) (by decide +kernel) (Int.le_of_eq (vi_fr hF37 hI10.2.1 (hE36.obj (by decide) hI10.2.1) (by decide +kernel)).symm)
  have s46 : tdy V33 x = tdy V2 x := tdy_fr hF37 hE36 hW hI10.1 (by decide +kernel) (by decide +kernel)
  have s47 : wsz V33 x = wsz V2 x := wsz_fr hF37 hE36 hW hI10.1 (by decide +kernel) (by decide +kernel)
  have s48 : csz V33 x = csz V2 x := csz_fr hF37 hE36 hW hI10.1 (by decide +kernel) (by decide +kernel)
  have s49 : dsz V33 x = dsz V2 x := dsz_fr hF37 hE36 hW hI10.1 (by decide +kernel) (by decide +kernel)
  clear hW
  have s50 : vi V33 x 4 = vi V2 x 4 := vi_fr hF37 hI10.1 (hE36.obj (by decide) hI10.1) (by decide +kernel)
  have s51 : vi V33 x 10 = vi V2 x 10 := vi_fr hF37 hI10.1 (hE36.obj (by decide) hI10.1) (by decide +kernel)
  have s52 : vi V33 m0 9 = vi V2 m0 9 := vi_fr hF37 hI10.2.1 (hE36.obj (by decide) hI10.2.1) (by decide +kernel)
  have s53 : vi V33 m0 2 = vi V2 m0 2 := vi_fr hF37 hI10.2.1 (hE36.obj (by decide) hI10.2.1) (by decide +kernel)
  have s54 : vi V33 m0 91 = vi V2 m0 91 := vi_fr hF37 hI10.2.1 (hE36.obj (by decide) hI10.2.1) (by decide +kernel)
  have s55 : vi V33 m0 133 = vi V2 m0 133 := vi_fr hF37 hI10.2.1 (hE36.obj (by decide) hI10.2.1) (by decide +kernel)
  have s56 : vi V33 m0 120 = vi V2 m0 120 := vi_fr hF37 hI10.2.1 (hE36.obj (by decide) hI10.2.1) (by decide +kernel)
  have s57 : vi V33 x 8 = vi V2 x 8 := vi_fr hF37 hI10.1 (hE36.obj (by decide) hI10.1) (by decide +kernel)
  have s58 : vi V33 m0 66 = vi V2 m0 66 := vi_fr hF37 hI10.2.1 (hE36.obj (by decide) hI10.2.1) (by decide +kernel)
  have s59 : vi V33 m0 118 = vi V2 m0 118 := vi_fr hF37 hI10.2.1 (hE36.obj (by decide) hI10.2.1) (by decide +kernel)
  have hS60 : STE V33 x m0 := STE.frx hS29 hF37 hE36 hWp42 hI10.1 hI10.2.1 (by decide +kernel) (by decide +kernel)
  have hK61 : WKE V33 x m0 := WKE.frx hK30 hF37 hE36 hWp42 hI10.1 hI10.2.1 (by decide +kernel) (by decide +kernel)
  have hP62 : PLE V33 x m0 := PLE.frx hP31 hF37 hE36 hWp42 hI10.1 hI10.2.1 (by omega) (by decide +kernel) (by decide +kernel) (by decide +kernel) (by decide +kernel) (by decide +kernel) (by decide +kernel)
  refine LG.pop dL_law_417 rfl ?_
  refine LG.goto (tgt := 2745) dL_law_418 (by decide) ?_
  exact LG.widen (le_cs3 rfl) (kk _ _ hI41 (⟨by unfold RLI; omega, hA45, hT44, hY43, hP62, hK61, hS60⟩))

set_option maxHeartbeats 2000000 in
theorem law_case_3 {p : Program} {l : Launch} {e : Env} {s : State} {m : MethodId} {below : List Frame} {meth : Method} {c : Code} {b L : Nat} {xs : Nat → Int32} {D : va_G} {dA : Nat → ClassId} {K : Kmap} {V : Vmap} {cells slots x m0 : Nat} {i : Int} (hI : LI K V x m0) (hR : REL K V x m0) (hL : L ≤ 4096) (h0 : 0 ≤ i) (h8 : i + 8 ≤ L) (hcs : cells + 8 ≤ 600000 ∧ slots + 2704 ≤ 7302250) (kk : ∀ (K1 : Kmap) (V1 : Vmap), LI K1 V1 x m0 → REL K1 V1 x m0 → LG p l e s m below meth c b L xs D dA K1 V1 (cells + 8) (slots + 2704) 2745 [some (.ref b), some (.ref x), some (.ref m0), some (ti i)] []) : LG p l e s m below meth c b L xs D dA K V cells slots 421 [some (.ref b), some (.ref x), some (.ref m0), some (ti i)] [] := by
  have hR0 := hR.1
  have hA0 := hR.2.1
  have hT0 := hR.2.2.1
  have hY0 := hR.2.2.2.1
  have hP0 := hR.2.2.2.2.1
  have hK0 := hR.2.2.2.2.2.1
  have hS0 := hR.2.2.2.2.2.2
  unfold RLI at hR0
  refine LG.aload_n dL_law_421 rfl rfl ?_
  refine LG.aload_n dL_law_422 rfl rfl ?_
  refine LG.iload_n dL_law_423 rfl rfl ?_
  refine LG.iconst dL_law_424 ?_
  refine LG.iadd dL_law_425 ?_
  refine LG.sld (Y := i + 1) dL_law_426 (by omega) (by omega) hL ?_
  refine LG.nz (tgt := 435) dL_law_427 (by decide) dL_law_430 dL_law_431 (by decide) dL_law_434 xv_ir rfl (fun B1 r2 h3 hbB1 => ?_)
  refine LG.useWT (fun hW => ?_)
  refine LG.callV (ci := 10) (N := mX11_party) (As := [ti (B1)]) dL_law_435 (RX11, TX11, 20) rfl gV_RL_27 hI.1 (t_X11_party hI.1 r2 h3 hI.2.2.2.2.1) rfl [] rfl rfl (le_cs hcs rfl) (Nat.le_of_ble_eq_true rfl) (g_ix fun X10 K4 V5 r6 h7 hE8 hF9 => ?_)
  have hI13 : LI K4 V5 x m0 := ⟨hE8.obj (by decide) hI.1, hE8.obj (by decide) hI.2.1, (GX.frx hF9 hE8 hI.2.2.1 hW hI.2.1 (by decide +kernel)), (PX0.frx hF9 hE8 hI.2.2.2.1 hW hI.2.1 (by decide +kernel)), (h7.2.1), (NN.frx 10 9 7 rfl rfl hF9 hE8 hI.2.2.2.2.2.1 hW hI.1 (by decide +kernel)), (PI.party hI.2.2.2.2.2.2.1 h7.2.2.1), (CWI.party hI.2.2.2.2.2.2.2 (h7.2.2.2) (h7.2.1) hF9 hE8 hW hI.1 (by decide +kernel) (by decide +kernel))⟩
  have hWp14 := hW
  have hY15 : YRL V5 x m0 := YRL.party hY0 h7.2.2.2 hF9 hE8 hW hI.1 hI.2.1 hI.2.2.2.2.1 (by decide +kernel)
  have hT16 : TXE K4 V5 x m0 := TXE.frx hT0 hF9 hE8 hW hI.1 hI.2.1 (by decide +kernel)
  have hA17 : AB V5 x m0 := AB.party hA0 h7.2.2.1 (MSame.frx hF9 hE8 hW hI.2.1 (by decide +kernel)) (vi_fr hF9 hI.2.1 (hE8.obj (by decide) hI.2.1) (by decide +kernel))
  have s18 : tdy V5 x = tdy V x := tdy_fr hF9 hE8 hW hI.1 (by decide +kernel) (by decide +kernel)
  have s19 : wsz V5 x = wsz V x := wsz_fr hF9 hE8 hW hI.1 (by decide +kernel) (by decide +kernel)
  have s20 : csz V5 x = csz V x := csz_fr hF9 hE8 hW hI.1 (by decide +kernel) (by decide +kernel)
  have s21 : dsz V5 x = dsz V x := dsz_fr hF9 hE8 hW hI.1 (by decide +kernel) (by decide +kernel)
  clear hW
  have s22 : vi V5 x 10 = vi V x 10 := vi_fr hF9 hI.1 (hE8.obj (by decide) hI.1) (by decide +kernel)
  have s23 : vi V5 m0 9 = vi V m0 9 := vi_fr hF9 hI.2.1 (hE8.obj (by decide) hI.2.1) (by decide +kernel)
  have s24 : vi V5 m0 2 = vi V m0 2 := vi_fr hF9 hI.2.1 (hE8.obj (by decide) hI.2.1) (by decide +kernel)
  have s25 : vi V5 m0 91 = vi V m0 91 := vi_fr hF9 hI.2.1 (hE8.obj (by decide) hI.2.1) (by decide +kernel)
  have s26 : vi V5 m0 133 = vi V m0 133 := vi_fr hF9 hI.2.1 (hE8.obj (by decide) hI.2.1) (by decide +kernel)
  have s27 : vi V5 m0 120 = vi V m0 120 := vi_fr hF9 hI.2.1 (hE8.obj (by decide) hI.2.1) (by decide +kernel)
  have s28 : vi V5 x 8 = vi V x 8 := vi_fr hF9 hI.1 (hE8.obj (by decide) hI.1) (by decide +kernel)
  have s29 : vi V5 m0 66 = vi V m0 66 := vi_fr hF9 hI.2.1 (hE8.obj (by decide) hI.2.1) (by decide +kernel)
  have s30 : vi V5 m0 118 = vi V m0 118 := vi_fr hF9 hI.2.1 (hE8.obj (by decide) hI.2.1) (by decide +kernel)
  have hS31 : STE V5 x m0 := STE.frx hS0 hF9 hE8 hWp14 hI.1 hI.2.1 (by decide +kernel) (by decide +kernel)
  have hK32 : WKE V5 x m0 := WKE.frx hK0 hF9 hE8 hWp14 hI.1 hI.2.1 (by decide +kernel) (by decide +kernel)
  have hP33 : PLE V5 x m0 := PLE.frx hP0 hF9 hE8 hWp14 hI.1 hI.2.1 (by omega) (by decide +kernel) (by decide +kernel) (by decide +kernel) (by decide +kernel) (by decide +kernel) (by decide +kernel)
  refine LG.pop dL_law_438 rfl ?_
  refine LG.aload_n dL_law_439 rfl rfl ?_
  refine LG.aload_n dL_law_440 rfl rfl ?_
  refine LG.iload_n dL_law_441 rfl rfl ?_
  refine LG.iconst dL_law_442 ?_
  refine LG.iadd dL_law_443 ?_
  refine LG.sld (Y := i + 1) dL_law_444 (by omega) (by omega) hL ?_
  refine LG.nz (tgt := 453) dL_law_445 (by decide) dL_law_448 dL_law_449 (by decide) dL_law_452 xv_ir rfl (fun B34 r35 h36 hbB34 => ?_)
  refine LG.useWT (fun hW => ?_)
  refine LG.callV (ci := 11) (N := mX12_party) (As := [ti (B34)]) dL_law_453 (RX12, TX12, 151) rfl gV_RL_31 hI13.2.1 (t_X12_party hI13.2.1 r35 h36) rfl [] rfl rfl (le_csb hcs rfl) (Nat.le_of_ble_eq_true rfl) (g_is fun X43 K37 V38 r39 h40 hE41 hF42 => ?_)
  have hI46 : LI K37 V38 x m0 := ⟨hE41.obj (by decide) hI13.1, hE41.obj (by decide) hI13.2.1, (GX.frx hF42 hE41 hI13.2.2.1 hW hI13.2.1 (by decide +kernel)), (PX0.frx hF42 hE41 hI13.2.2.2.1 hW hI13.2.1 (by decide +kernel)), (NN.frx 4 3 4 rfl rfl hF42 hE41 hI13.2.2.2.2.1 hW hI13.1 (by decide +kernel)), (NN.frx 10 9 7 rfl rfl hF42 hE41 hI13.2.2.2.2.2.1 hW hI13.1 (by decide +kernel)), (PI.frx hI13.2.2.2.2.2.2.1 hF42 hE41 hW hI13.1 hI13.2.2.2.2.1 (by decide +kernel)), (CWI.fr hI13.2.2.2.2.2.2.2 hF42 hE41 hW hI13.1 (by decide +kernel) (by decide +kernel) (by decide +kernel))⟩
  have hWp47 := hW
  have hY48 : YRL V38 x m0 := YRL.frx hY15 hF42 hE41 hW hI13.1 hI13.2.1 hI13.2.2.2.2.1 (by decide +kernel) (by decide +kernel)
  have hT49 : TXE K37 V38 x m0 := TXE.frx hT16 hF42 hE41 hW hI13.1 hI13.2.1 (by decide +kernel)
  have hA50 : AB V38 x m0 := AB.frx hA17 hF42 hE41 hW hI13.1 hI13.2.1 hI13.2.2.2.2.1 (by decide +kernel) (by decide +kernel) (Int.le_of_eq (vi_fr hF42 hI13.2.1 (hE41.obj (by decide) hI13.2.1) (by decide +kernel)).symm)
  have s51 : tdy V38 x = tdy V5 x := tdy_fr hF42 hE41 hW hI13.1 (by decide +kernel) (by decide +kernel)
  have s52 : wsz V38 x = wsz V5 x := wsz_fr hF42 hE41 hW hI13.1 (by decide +kernel) (by decide +kernel)
  have s53 : csz V38 x = csz V5 x := csz_fr hF42 hE41 hW hI13.1 (by decide +kernel) (by decide +kernel)
  have s54 : dsz V38 x = dsz V5 x := dsz_fr hF42 hE41 hW hI13.1 (by decide +kernel) (by decide +kernel)
  clear hW
  have s55 : vi V38 x 4 = vi V5 x 4 := vi_fr hF42 hI13.1 (hE41.obj (by decide) hI13.1) (by decide +kernel)
  have s56 : vi V38 x 10 = vi V5 x 10 := vi_fr hF42 hI13.1 (hE41.obj (by decide) hI13.1) (by decide +kernel)
  have s57 : vi V38 m0 2 = vi V5 m0 2 := vi_fr hF42 hI13.2.1 (hE41.obj (by decide) hI13.2.1) (by decide +kernel)
  have s58 : vi V38 m0 91 = vi V5 m0 91 := vi_fr hF42 hI13.2.1 (hE41.obj (by decide) hI13.2.1) (by decide +kernel)
  have s59 : vi V38 m0 133 = vi V5 m0 133 := vi_fr hF42 hI13.2.1 (hE41.obj (by decide) hI13.2.1) (by decide +kernel)
  have s60 : vi V38 m0 120 = vi V5 m0 120 := vi_fr hF42 hI13.2.1 (hE41.obj (by decide) hI13.2.1) (by decide +kernel)
  have s61 : vi V38 x 8 = vi V5 x 8 := vi_fr hF42 hI13.1 (hE41.obj (by decide) hI13.1) (by decide +kernel)
  have s62 : vi V38 m0 66 = vi V5 m0 66 := vi_fr hF42 hI13.2.1 (hE41.obj (by decide) hI13.2.1) (by decide +kernel)
  have s63 : vi V38 m0 118 = vi V5 m0 118 := vi_fr hF42 hI13.2.1 (hE41.obj (by decide) hI13.2.1) (by decide +kernel)
  have hS64 : STE V38 x m0 := STE.frx hS31 hF42 hE41 hWp47 hI13.1 hI13.2.1 (by decide +kernel) (by decide +kernel)
  have hK65 : WKE V38 x m0 := WKE.frx hK32 hF42 hE41 hWp47 hI13.1 hI13.2.1 (by decide +kernel) (by decide +kernel)
  have hP66 : PLE V38 x m0 := PLE.frx hP33 hF42 hE41 hWp47 hI13.1 hI13.2.1 (by omega) (by decide +kernel) (by decide +kernel) (by decide +kernel) (by decide +kernel) (by decide +kernel) (by decide +kernel)
  refine LG.pop dL_law_456 rfl ?_
  refine LG.goto (tgt := 2745) dL_law_457 (by decide) ?_
  exact LG.widen (le_cs3 rfl) (kk _ _ hI46 (⟨by unfold RLI; omega, hA50, hT49, hY48, hP66, hK65, hS64⟩))

set_option maxHeartbeats 2000000 in
theorem law_case_4 {p : Program} {l : Launch} {e : Env} {s : State} {m : MethodId} {below : List Frame} {meth : Method} {c : Code} {b L : Nat} {xs : Nat → Int32} {D : va_G} {dA : Nat → ClassId} {K : Kmap} {V : Vmap} {cells slots x m0 : Nat} {i : Int} (hI : LI K V x m0) (hR : REL K V x m0) (hL : L ≤ 4096) (h0 : 0 ≤ i) (h8 : i + 8 ≤ L) (hcs : cells + 8 ≤ 600000 ∧ slots + 2704 ≤ 7302250) (kk : ∀ (K1 : Kmap) (V1 : Vmap), LI K1 V1 x m0 → REL K1 V1 x m0 → LG p l e s m below meth c b L xs D dA K1 V1 (cells + 8) (slots + 2704) 2745 [some (.ref b), some (.ref x), some (.ref m0), some (ti i)] []) : LG p l e s m below meth c b L xs D dA K V cells slots 460 [some (.ref b), some (.ref x), some (.ref m0), some (ti i)] [] := by
  have hR0 := hR.1
  have hA0 := hR.2.1
  have hT0 := hR.2.2.1
  have hY0 := hR.2.2.2.1
  have hP0 := hR.2.2.2.2.1
  have hK0 := hR.2.2.2.2.2.1
  have hS0 := hR.2.2.2.2.2.2
  unfold RLI at hR0
  refine LG.aload_n dL_law_460 rfl rfl ?_
  refine LG.aload_n dL_law_461 rfl rfl ?_
  refine LG.iload_n dL_law_462 rfl rfl ?_
  refine LG.iconst dL_law_463 ?_
  refine LG.iadd dL_law_464 ?_
  refine LG.sld (Y := i + 1) dL_law_465 (by omega) (by omega) hL ?_
  refine LG.aload_n dL_law_466 rfl rfl ?_
  refine LG.iload_n dL_law_467 rfl rfl ?_
  refine LG.iconst dL_law_468 ?_
  refine LG.iadd dL_law_469 ?_
  refine LG.sld (Y := i + 2) dL_law_470 (by omega) (by omega) hL ?_
  refine LG.aload_n dL_law_471 rfl rfl ?_
  refine LG.iload_n dL_law_472 rfl rfl ?_
  refine LG.iconst dL_law_473 ?_
  refine LG.iadd dL_law_474 ?_
  refine LG.sld (Y := i + 3) dL_law_475 (by omega) (by omega) hL ?_
  refine LG.aload_n dL_law_476 rfl rfl ?_
  refine LG.iload_n dL_law_477 rfl rfl ?_
  refine LG.iconst dL_law_478 ?_
  refine LG.iadd dL_law_479 ?_
  refine LG.sld (Y := i + 4) dL_law_480 (by omega) (by omega) hL ?_
  refine LG.useWT (fun hW => ?_)
  refine LG.callV (ci := 10) (N := mX11_claim) (As := [ti (xv xs (i + 1)), ti (xv xs (i + 2)), ti (xv xs (i + 3)), ti (xv xs (i + 4))]) dL_law_481 (RX11, TX11, 20) rfl gV_RL_32 hI.1 (t_X11_claim hI.1 xv_ir xv_ir xv_ir xv_ir hI.2.2.2.2.2.2.2) rfl [] rfl rfl (le_cs hcs rfl) (Nat.le_of_ble_eq_true rfl) (g_ix fun X7 K1 V2 r3 h4 hE5 hF6 => ?_)
  have hI10 : LI K1 V2 x m0 := ⟨hE5.obj (by decide) hI.1, hE5.obj (by decide) hI.2.1, (GX.frx hF6 hE5 hI.2.2.1 hW hI.2.1 (by decide +kernel)), (PX0.frx hF6 hE5 hI.2.2.2.1 hW hI.2.1 (by decide +kernel)), (NN.frx 4 3 4 rfl rfl hF6 hE5 hI.2.2.2.2.1 hW hI.1 (by decide +kernel)), (NN.frx 10 9 7 rfl rfl hF6 hE5 hI.2.2.2.2.2.1 hW hI.1 (by decide +kernel)), (PI.frx hI.2.2.2.2.2.2.1 hF6 hE5 hW hI.1 hI.2.2.2.2.1 (by decide +kernel)), (h4.2.1)⟩
  have hWp11 := hW
  have hY12 : YRL V2 x m0 := YRL.frx hY0 hF6 hE5 hW hI.1 hI.2.1 hI.2.2.2.2.1 (by decide +kernel) (by decide +kernel)
  have hT13 : TXE K1 V2 x m0 := TXE.frx hT0 hF6 hE5 hW hI.1 hI.2.1 (by decide +kernel)
  have hA14 : AB V2 x m0 := AB.frx hA0 hF6 hE5 hW hI.1 hI.2.1 hI.2.2.2.2.1 (by decide +kernel) (by decide +kernel) (Int.le_of_eq (vi_fr hF6 hI.2.1 (hE5.obj (by decide) hI.2.1) (by decide +kernel)).symm)
  have s15 : tdy V2 x = tdy V x := tdy_fr hF6 hE5 hW hI.1 (by decide +kernel) (by decide +kernel)
  have s16 : wsz V2 x = wsz V x := wsz_fr hF6 hE5 hW hI.1 (by decide +kernel) (by decide +kernel)
  have s17 : csz V2 x = csz V x := csz_fr hF6 hE5 hW hI.1 (by decide +kernel) (by decide +kernel)
  have s18 : dsz V2 x = dsz V x := dsz_fr hF6 hE5 hW hI.1 (by decide +kernel) (by decide +kernel)
  clear hW
  have s19 : vi V2 x 4 = vi V x 4 := vi_fr hF6 hI.1 (hE5.obj (by decide) hI.1) (by decide +kernel)
  have s20 : vi V2 x 10 = vi V x 10 := vi_fr hF6 hI.1 (hE5.obj (by decide) hI.1) (by decide +kernel)
  have s21 : vi V2 m0 9 = vi V m0 9 := vi_fr hF6 hI.2.1 (hE5.obj (by decide) hI.2.1) (by decide +kernel)
  have s22 : vi V2 m0 2 = vi V m0 2 := vi_fr hF6 hI.2.1 (hE5.obj (by decide) hI.2.1) (by decide +kernel)
  have s23 : vi V2 m0 91 = vi V m0 91 := vi_fr hF6 hI.2.1 (hE5.obj (by decide) hI.2.1) (by decide +kernel)
  have s24 : vi V2 m0 133 = vi V m0 133 := vi_fr hF6 hI.2.1 (hE5.obj (by decide) hI.2.1) (by decide +kernel)
  have s25 : vi V2 m0 120 = vi V m0 120 := vi_fr hF6 hI.2.1 (hE5.obj (by decide) hI.2.1) (by decide +kernel)
  have s26 : vi V2 x 8 = vi V x 8 := vi_fr hF6 hI.1 (hE5.obj (by decide) hI.1) (by decide +kernel)
  have s27 : vi V2 m0 66 = vi V m0 66 := vi_fr hF6 hI.2.1 (hE5.obj (by decide) hI.2.1) (by decide +kernel)
  have s28 : vi V2 m0 118 = vi V m0 118 := vi_fr hF6 hI.2.1 (hE5.obj (by decide) hI.2.1) (by decide +kernel)
  have hS29 : STE V2 x m0 := STE.frx hS0 hF6 hE5 hWp11 hI.1 hI.2.1 (by decide +kernel) (by decide +kernel)
  have hK30 : WKE V2 x m0 := WKE.frx hK0 hF6 hE5 hWp11 hI.1 hI.2.1 (by decide +kernel) (by decide +kernel)
  have h431 : vi V x 4 ≤ vi V2 x 4 := by omega
  refine LG.pop dL_law_484 rfl ?_
  refine LG.aload_n dL_law_485 rfl rfl ?_
  refine LG.aload_n dL_law_486 rfl rfl ?_
  refine LG.iload_n dL_law_487 rfl rfl ?_
  refine LG.iconst dL_law_488 ?_
  refine LG.iadd dL_law_489 ?_
  refine LG.sld (Y := i + 1) dL_law_490 (by omega) (by omega) hL ?_
  refine LG.aload_n dL_law_491 rfl rfl ?_
  refine LG.iload_n dL_law_492 rfl rfl ?_
  refine LG.iconst dL_law_493 ?_
  refine LG.iadd dL_law_494 ?_
  refine LG.sld (Y := i + 2) dL_law_495 (by omega) (by omega) hL ?_
  refine LG.aload_n dL_law_496 rfl rfl ?_
  refine LG.iload_n dL_law_497 rfl rfl ?_
  refine LG.iconst dL_law_498 ?_
  refine LG.iadd dL_law_499 ?_
  refine LG.sld (Y := i + 3) dL_law_500 (by omega) (by omega) hL ?_
  refine LG.aload_n dL_law_501 rfl rfl ?_
  refine LG.iload_n dL_law_502 rfl rfl ?_
  refine LG.iconst dL_law_503 ?_
  refine LG.iadd dL_law_504 ?_
  refine LG.sld (Y := i + 4) dL_law_505 (by omega) (by omega) hL ?_
  refine LG.useWT (fun hW => ?_)
  refine LG.callV (ci := 11) (N := mX12_claim) (As := [ti (xv xs (i + 1)), ti (xv xs (i + 2)), ti (xv xs (i + 3)), ti (xv xs (i + 4))]) dL_law_506 (RX12, TX12, 151) rfl gV_RL_36 hI10.2.1 (t_X12_claim hI10.2.1 xv_ir xv_ir xv_ir xv_ir hI10.2.2.2.1) rfl [] rfl rfl (le_csb hcs rfl) (Nat.le_of_ble_eq_true rfl) (g_is fun X38 K32 V33 r34 h35 hE36 hF37 => ?_)
  have hI41 : LI K32 V33 x m0 := ⟨hE36.obj (by decide) hI10.1, hE36.obj (by decide) hI10.2.1, (GX.frx hF37 hE36 hI10.2.2.1 hW hI10.2.1 (by decide +kernel)), (h35.2.1), (NN.frx 4 3 4 rfl rfl hF37 hE36 hI10.2.2.2.2.1 hW hI10.1 (by decide +kernel)), (NN.frx 10 9 7 rfl rfl hF37 hE36 hI10.2.2.2.2.2.1 hW hI10.1 (by decide +kernel)), (PI.frx hI10.2.2.2.2.2.2.1 hF37 hE36 hW hI10.1 hI10.2.2.2.2.1 (by decide +kernel)), (CWI.fr hI10.2.2.2.2.2.2.2 hF37 hE36 hW hI10.1 (by decide +kernel) (by decide +kernel) (by decide +kernel))⟩
  have hWp42 := hW
  have hY43 : YRL V33 x m0 := YRL.frx hY12 hF37 hE36 hW hI10.1 hI10.2.1 hI10.2.2.2.2.1 (by decide +kernel) (by decide +kernel)
  have hT44 : TXE K32 V33 x m0 := TXE.frx hT13 hF37 hE36 hW hI10.1 hI10.2.1 (by decide +kernel)
  have hA45 : AB V33 x m0 := AB.frx hA14 hF37 hE36 hW hI10.1 hI10.2.1 hI10.2.2.2.2.1 (by decide +kernel) (by decide +kernel) (Int.le_of_eq (vi_fr hF37 hI10.2.1 (hE36.obj (by decide) hI10.2.1) (by decide +kernel)).symm)
  have s46 : tdy V33 x = tdy V2 x := tdy_fr hF37 hE36 hW hI10.1 (by decide +kernel) (by decide +kernel)
  have s47 : wsz V33 x = wsz V2 x := wsz_fr hF37 hE36 hW hI10.1 (by decide +kernel) (by decide +kernel)
  have s48 : csz V33 x = csz V2 x := csz_fr hF37 hE36 hW hI10.1 (by decide +kernel) (by decide +kernel)
  have s49 : dsz V33 x = dsz V2 x := dsz_fr hF37 hE36 hW hI10.1 (by decide +kernel) (by decide +kernel)
  clear hW
  have s50 : vi V33 x 4 = vi V2 x 4 := vi_fr hF37 hI10.1 (hE36.obj (by decide) hI10.1) (by decide +kernel)
  have s51 : vi V33 x 10 = vi V2 x 10 := vi_fr hF37 hI10.1 (hE36.obj (by decide) hI10.1) (by decide +kernel)
  have s52 : vi V33 m0 9 = vi V2 m0 9 := vi_fr hF37 hI10.2.1 (hE36.obj (by decide) hI10.2.1) (by decide +kernel)
  have s53 : vi V33 m0 2 = vi V2 m0 2 := vi_fr hF37 hI10.2.1 (hE36.obj (by decide) hI10.2.1) (by decide +kernel)
  have s54 : vi V33 m0 91 = vi V2 m0 91 := vi_fr hF37 hI10.2.1 (hE36.obj (by decide) hI10.2.1) (by decide +kernel)
  have s55 : vi V33 m0 133 = vi V2 m0 133 := vi_fr hF37 hI10.2.1 (hE36.obj (by decide) hI10.2.1) (by decide +kernel)
  have s56 : vi V33 m0 120 = vi V2 m0 120 := vi_fr hF37 hI10.2.1 (hE36.obj (by decide) hI10.2.1) (by decide +kernel)
  have s57 : vi V33 x 8 = vi V2 x 8 := vi_fr hF37 hI10.1 (hE36.obj (by decide) hI10.1) (by decide +kernel)
  have s58 : vi V33 m0 66 = vi V2 m0 66 := vi_fr hF37 hI10.2.1 (hE36.obj (by decide) hI10.2.1) (by decide +kernel)
  have s59 : vi V33 m0 118 = vi V2 m0 118 := vi_fr hF37 hI10.2.1 (hE36.obj (by decide) hI10.2.1) (by decide +kernel)
  have hS60 : STE V33 x m0 := STE.frx hS29 hF37 hE36 hWp42 hI10.1 hI10.2.1 (by decide +kernel) (by decide +kernel)
  have hK61 : WKE V33 x m0 := WKE.frx hK30 hF37 hE36 hWp42 hI10.1 hI10.2.1 (by decide +kernel) (by decide +kernel)
  have h462 : vi V2 x 4 ≤ vi V33 x 4 := by omega
  have hKp63 := PLE.claim hP0 hI.1 hI.2.1 hWp11 hWp42 hE5 hF6 hE36 hF37 h431 h462 hT0 hI.2.2.2.2.2.2.2 hY0 (by omega) (by omega) (h4.2.2) (h35.2.2) (by decide +kernel) (by decide +kernel) (by decide +kernel) (by decide +kernel) (by decide +kernel) (by decide +kernel) (by decide +kernel) (by decide +kernel)
  refine LG.pop dL_law_509 rfl ?_
  refine LG.goto (tgt := 2745) dL_law_510 (by decide) ?_
  exact LG.widen (le_cs3 rfl) (kk _ _ hI41 (⟨by unfold RLI; omega, hA45, hT44, hY43, hKp63.2, hK61, hS60⟩))

set_option maxHeartbeats 2000000 in
theorem law_case_5 {p : Program} {l : Launch} {e : Env} {s : State} {m : MethodId} {below : List Frame} {meth : Method} {c : Code} {b L : Nat} {xs : Nat → Int32} {D : va_G} {dA : Nat → ClassId} {K : Kmap} {V : Vmap} {cells slots x m0 : Nat} {i : Int} (hI : LI K V x m0) (hR : REL K V x m0) (hL : L ≤ 4096) (h0 : 0 ≤ i) (h8 : i + 8 ≤ L) (hcs : cells + 8 ≤ 600000 ∧ slots + 2704 ≤ 7302250) (kk : ∀ (K1 : Kmap) (V1 : Vmap), LI K1 V1 x m0 → REL K1 V1 x m0 → LG p l e s m below meth c b L xs D dA K1 V1 (cells + 8) (slots + 2704) 2745 [some (.ref b), some (.ref x), some (.ref m0), some (ti i)] []) : LG p l e s m below meth c b L xs D dA K V cells slots 513 [some (.ref b), some (.ref x), some (.ref m0), some (ti i)] [] := by
  have hR0 := hR.1
  have hA0 := hR.2.1
  have hT0 := hR.2.2.1
  have hY0 := hR.2.2.2.1
  have hP0 := hR.2.2.2.2.1
  have hK0 := hR.2.2.2.2.2.1
  have hS0 := hR.2.2.2.2.2.2
  unfold RLI at hR0
  refine LG.aload_n dL_law_513 rfl rfl ?_
  refine LG.aload_n dL_law_514 rfl rfl ?_
  refine LG.iload_n dL_law_515 rfl rfl ?_
  refine LG.iconst dL_law_516 ?_
  refine LG.iadd dL_law_517 ?_
  refine LG.sld (Y := i + 1) dL_law_518 (by omega) (by omega) hL ?_
  refine LG.aload_n dL_law_519 rfl rfl ?_
  refine LG.iload_n dL_law_520 rfl rfl ?_
  refine LG.iconst dL_law_521 ?_
  refine LG.iadd dL_law_522 ?_
  refine LG.sld (Y := i + 2) dL_law_523 (by omega) (by omega) hL ?_
  refine LG.useWT (fun hW => ?_)
  refine LG.callV (ci := 10) (N := mX11_title) (As := [ti (xv xs (i + 1)), ti (xv xs (i + 2))]) dL_law_524 (RX11, TX11, 20) rfl gV_RL_37 hI.1 (t_X11_title hI.1 xv_ir xv_ir hI.2.2.2.2.2.2.2) rfl [] rfl rfl (le_cs hcs rfl) (Nat.le_of_ble_eq_true rfl) (g_is fun X7 K1 V2 r3 h4 hE5 hF6 => ?_)
  have hI10 : LI K1 V2 x m0 := ⟨hE5.obj (by decide) hI.1, hE5.obj (by decide) hI.2.1, (GX.frx hF6 hE5 hI.2.2.1 hW hI.2.1 (by decide +kernel)), (PX0.frx hF6 hE5 hI.2.2.2.1 hW hI.2.1 (by decide +kernel)), (NN.frx 4 3 4 rfl rfl hF6 hE5 hI.2.2.2.2.1 hW hI.1 (by decide +kernel)), (NN.frx 10 9 7 rfl rfl hF6 hE5 hI.2.2.2.2.2.1 hW hI.1 (by decide +kernel)), (PI.frx hI.2.2.2.2.2.2.1 hF6 hE5 hW hI.1 hI.2.2.2.2.1 (by decide +kernel)), (CWI.gro (h4.2.2.2.1) hE5)⟩
  have hWp11 := hW
  have hY12 : YRL V2 x m0 := YRL.frx hY0 hF6 hE5 hW hI.1 hI.2.1 hI.2.2.2.2.1 (by decide +kernel) (by decide +kernel)
  have hT13 : TXE K1 V2 x m0 := TXE.frx hT0 hF6 hE5 hW hI.1 hI.2.1 (by decide +kernel)
  have hA14 : AB V2 x m0 := AB.frx hA0 hF6 hE5 hW hI.1 hI.2.1 hI.2.2.2.2.1 (by decide +kernel) (by decide +kernel) (Int.le_of_eq (vi_fr hF6 hI.2.1 (hE5.obj (by decide) hI.2.1) (by decide +kernel)).symm)
  have s15 : tdy V2 x = tdy V x := tdy_fr hF6 hE5 hW hI.1 (by decide +kernel) (by decide +kernel)
  have s16 : wsz V2 x = wsz V x := wsz_fr hF6 hE5 hW hI.1 (by decide +kernel) (by decide +kernel)
  have s17 : csz V2 x = csz V x := csz_fr hF6 hE5 hW hI.1 (by decide +kernel) (by decide +kernel)
  have s18 : dsz V2 x = dsz V x := dsz_fr hF6 hE5 hW hI.1 (by decide +kernel) (by decide +kernel)
  clear hW
  have s19 : vi V2 x 4 = vi V x 4 := vi_fr hF6 hI.1 (hE5.obj (by decide) hI.1) (by decide +kernel)
  have s20 : vi V2 x 10 = vi V x 10 := vi_fr hF6 hI.1 (hE5.obj (by decide) hI.1) (by decide +kernel)
  have s21 : vi V2 m0 9 = vi V m0 9 := vi_fr hF6 hI.2.1 (hE5.obj (by decide) hI.2.1) (by decide +kernel)
  have s22 : vi V2 m0 2 = vi V m0 2 := vi_fr hF6 hI.2.1 (hE5.obj (by decide) hI.2.1) (by decide +kernel)
  have s23 : vi V2 m0 91 = vi V m0 91 := vi_fr hF6 hI.2.1 (hE5.obj (by decide) hI.2.1) (by decide +kernel)
  have s24 : vi V2 m0 133 = vi V m0 133 := vi_fr hF6 hI.2.1 (hE5.obj (by decide) hI.2.1) (by decide +kernel)
  have s25 : vi V2 m0 120 = vi V m0 120 := vi_fr hF6 hI.2.1 (hE5.obj (by decide) hI.2.1) (by decide +kernel)
  have s26 : vi V2 x 8 = vi V x 8 := vi_fr hF6 hI.1 (hE5.obj (by decide) hI.1) (by decide +kernel)
  have s27 : vi V2 m0 66 = vi V m0 66 := vi_fr hF6 hI.2.1 (hE5.obj (by decide) hI.2.1) (by decide +kernel)
  have s28 : vi V2 m0 118 = vi V m0 118 := vi_fr hF6 hI.2.1 (hE5.obj (by decide) hI.2.1) (by decide +kernel)
  have hS29 : STE V2 x m0 := STE.frx hS0 hF6 hE5 hWp11 hI.1 hI.2.1 (by decide +kernel) (by decide +kernel)
  have hK30 : WKE V2 x m0 := WKE.frx hK0 hF6 hE5 hWp11 hI.1 hI.2.1 (by decide +kernel) (by decide +kernel)
  have h431 : vi V x 4 ≤ vi V2 x 4 := by omega
  refine LG.pop dL_law_527 rfl ?_
  refine LG.aload_n dL_law_528 rfl rfl ?_
  refine LG.aload_n dL_law_529 rfl rfl ?_
  refine LG.iload_n dL_law_530 rfl rfl ?_
  refine LG.iconst dL_law_531 ?_
  refine LG.iadd dL_law_532 ?_
  refine LG.sld (Y := i + 1) dL_law_533 (by omega) (by omega) hL ?_
  refine LG.aload_n dL_law_534 rfl rfl ?_
  refine LG.iload_n dL_law_535 rfl rfl ?_
  refine LG.iconst dL_law_536 ?_
  refine LG.iadd dL_law_537 ?_
  refine LG.sld (Y := i + 2) dL_law_538 (by omega) (by omega) hL ?_
  refine LG.useWT (fun hW => ?_)
  refine LG.callV (ci := 11) (N := mX12_title) (As := [ti (xv xs (i + 1)), ti (xv xs (i + 2))]) dL_law_539 (RX12, TX12, 151) rfl gV_RL_40 hI10.2.1 (t_X12_title hI10.2.1 xv_ir xv_ir hI10.2.2.2.1) rfl [] rfl rfl (le_csb hcs rfl) (Nat.le_of_ble_eq_true rfl) (g_is fun X38 K32 V33 r34 h35 hE36 hF37 => ?_)
  have hI41 : LI K32 V33 x m0 := ⟨hE36.obj (by decide) hI10.1, hE36.obj (by decide) hI10.2.1, (GX.frx hF37 hE36 hI10.2.2.1 hW hI10.2.1 (by decide +kernel)), (PX0.frx hF37 hE36 hI10.2.2.2.1 hW hI10.2.1 (by decide +kernel)), (NN.frx 4 3 4 rfl rfl hF37 hE36 hI10.2.2.2.2.1 hW hI10.1 (by decide +kernel)), (NN.frx 10 9 7 rfl rfl hF37 hE36 hI10.2.2.2.2.2.1 hW hI10.1 (by decide +kernel)), (PI.frx hI10.2.2.2.2.2.2.1 hF37 hE36 hW hI10.1 hI10.2.2.2.2.1 (by decide +kernel)), (CWI.fr hI10.2.2.2.2.2.2.2 hF37 hE36 hW hI10.1 (by decide +kernel) (by decide +kernel) (by decide +kernel))⟩
  have hWp42 := hW
  have hY43 : YRL V33 x m0 := YRL.frx hY12 hF37 hE36 hW hI10.1 hI10.2.1 hI10.2.2.2.2.1 (by decide +kernel) (by decide +kernel)
  have hT44 : TXE K32 V33 x m0 := TXE.frx hT13 hF37 hE36 hW hI10.1 hI10.2.1 (by decide +kernel)
  have hA45 : AB V33 x m0 := AB.frx hA14 hF37 hE36 hW hI10.1 hI10.2.1 hI10.2.2.2.2.1 (by decide +kernel) (by decide +kernel) (Int.le_of_eq (vi_fr hF37 hI10.2.1 (hE36.obj (by decide) hI10.2.1) (by decide +kernel)).symm)
  have s46 : tdy V33 x = tdy V2 x := tdy_fr hF37 hE36 hW hI10.1 (by decide +kernel) (by decide +kernel)
  have s47 : wsz V33 x = wsz V2 x := wsz_fr hF37 hE36 hW hI10.1 (by decide +kernel) (by decide +kernel)
  have s48 : csz V33 x = csz V2 x := csz_fr hF37 hE36 hW hI10.1 (by decide +kernel) (by decide +kernel)
  have s49 : dsz V33 x = dsz V2 x := dsz_fr hF37 hE36 hW hI10.1 (by decide +kernel) (by decide +kernel)
  clear hW
  have s50 : vi V33 x 4 = vi V2 x 4 := vi_fr hF37 hI10.1 (hE36.obj (by decide) hI10.1) (by decide +kernel)
  have s51 : vi V33 x 10 = vi V2 x 10 := vi_fr hF37 hI10.1 (hE36.obj (by decide) hI10.1) (by decide +kernel)
  have s52 : vi V33 m0 9 = vi V2 m0 9 := vi_fr hF37 hI10.2.1 (hE36.obj (by decide) hI10.2.1) (by decide +kernel)
  have s53 : vi V33 m0 2 = vi V2 m0 2 := vi_fr hF37 hI10.2.1 (hE36.obj (by decide) hI10.2.1) (by decide +kernel)
  have s54 : vi V33 m0 91 = vi V2 m0 91 := vi_fr hF37 hI10.2.1 (hE36.obj (by decide) hI10.2.1) (by decide +kernel)
  have s55 : vi V33 m0 133 = vi V2 m0 133 := vi_fr hF37 hI10.2.1 (hE36.obj (by decide) hI10.2.1) (by decide +kernel)
  have s56 : vi V33 m0 120 = vi V2 m0 120 := vi_fr hF37 hI10.2.1 (hE36.obj (by decide) hI10.2.1) (by decide +kernel)
  have s57 : vi V33 x 8 = vi V2 x 8 := vi_fr hF37 hI10.1 (hE36.obj (by decide) hI10.1) (by decide +kernel)
  have s58 : vi V33 m0 66 = vi V2 m0 66 := vi_fr hF37 hI10.2.1 (hE36.obj (by decide) hI10.2.1) (by decide +kernel)
  have s59 : vi V33 m0 118 = vi V2 m0 118 := vi_fr hF37 hI10.2.1 (hE36.obj (by decide) hI10.2.1) (by decide +kernel)
  have hS60 : STE V33 x m0 := STE.frx hS29 hF37 hE36 hWp42 hI10.1 hI10.2.1 (by decide +kernel) (by decide +kernel)
  have hK61 : WKE V33 x m0 := WKE.frx hK30 hF37 hE36 hWp42 hI10.1 hI10.2.1 (by decide +kernel) (by decide +kernel)
  have h462 : vi V2 x 4 ≤ vi V33 x 4 := by omega
  have hKp63 := PLE.title hP0 hI.1 hI.2.1 hWp11 hWp42 hE5 hF6 hE36 hF37 h431 h462 hT0 hI.2.2.2.2.2.2.2 hY0 (by omega) (h4.2.2.2.2) (h35.2.2.2) (by decide +kernel) (by decide +kernel) (by decide +kernel) (by decide +kernel) (by decide +kernel) (by decide +kernel) (by decide +kernel) (by decide +kernel)
  refine LG.pop dL_law_542 rfl ?_
  refine LG.goto (tgt := 2745) dL_law_543 (by decide) ?_
  exact LG.widen (le_cs3 rfl) (kk _ _ hI41 (⟨by unfold RLI; omega, hA45, hT44, hY43, hKp63.2, hK61, hS60⟩))

set_option maxHeartbeats 2000000 in
theorem law_case_6 {p : Program} {l : Launch} {e : Env} {s : State} {m : MethodId} {below : List Frame} {meth : Method} {c : Code} {b L : Nat} {xs : Nat → Int32} {D : va_G} {dA : Nat → ClassId} {K : Kmap} {V : Vmap} {cells slots x m0 : Nat} {i : Int} (hI : LI K V x m0) (hR : REL K V x m0) (hL : L ≤ 4096) (h0 : 0 ≤ i) (h8 : i + 8 ≤ L) (hcs : cells + 8 ≤ 600000 ∧ slots + 2704 ≤ 7302250) (kk : ∀ (K1 : Kmap) (V1 : Vmap), LI K1 V1 x m0 → REL K1 V1 x m0 → LG p l e s m below meth c b L xs D dA K1 V1 (cells + 8) (slots + 2704) 2745 [some (.ref b), some (.ref x), some (.ref m0), some (ti i)] []) : LG p l e s m below meth c b L xs D dA K V cells slots 546 [some (.ref b), some (.ref x), some (.ref m0), some (ti i)] [] := by
  have hR0 := hR.1
  have hA0 := hR.2.1
  have hT0 := hR.2.2.1
  have hY0 := hR.2.2.2.1
  have hP0 := hR.2.2.2.2.1
  have hK0 := hR.2.2.2.2.2.1
  have hS0 := hR.2.2.2.2.2.2
  unfold RLI at hR0
  refine LG.aload_n dL_law_546 rfl rfl ?_
  refine LG.aload_n dL_law_547 rfl rfl ?_
  refine LG.iload_n dL_law_548 rfl rfl ?_
  refine LG.iconst dL_law_549 ?_
  refine LG.iadd dL_law_550 ?_
  refine LG.sld (Y := i + 1) dL_law_551 (by omega) (by omega) hL ?_
  refine LG.aload_n dL_law_552 rfl rfl ?_
  refine LG.iload_n dL_law_553 rfl rfl ?_
  refine LG.iconst dL_law_554 ?_
  refine LG.iadd dL_law_555 ?_
  refine LG.sld (Y := i + 2) dL_law_556 (by omega) (by omega) hL ?_
  refine LG.aload_n dL_law_557 rfl rfl ?_
  refine LG.iload_n dL_law_558 rfl rfl ?_
  refine LG.iconst dL_law_559 ?_
  refine LG.iadd dL_law_560 ?_
  refine LG.sld (Y := i + 3) dL_law_561 (by omega) (by omega) hL ?_
  refine LG.aload_n dL_law_562 rfl rfl ?_
  refine LG.iload_n dL_law_563 rfl rfl ?_
  refine LG.iconst dL_law_564 ?_
  refine LG.iadd dL_law_565 ?_
  refine LG.sld (Y := i + 4) dL_law_566 (by omega) (by omega) hL ?_
  refine LG.useWT (fun hW => ?_)
  refine LG.callV (ci := 10) (N := mX11_station) (As := [ti (xv xs (i + 1)), ti (xv xs (i + 2)), ti (xv xs (i + 3)), ti (xv xs (i + 4))]) dL_law_567 (RX11, TX11, 20) rfl gV_RL_41 hI.1 (t_X11_station hI.1 xv_ir xv_ir xv_ir xv_ir hI.2.2.2.2.1) rfl [] rfl rfl (le_cs hcs rfl) (Nat.le_of_ble_eq_true rfl) (g_ix fun X7 K1 V2 r3 h4 hE5 hF6 => ?_)
  have hI10 : LI K1 V2 x m0 := ⟨hE5.obj (by decide) hI.1, hE5.obj (by decide) hI.2.1, (GX.frx hF6 hE5 hI.2.2.1 hW hI.2.1 (by decide +kernel)), (PX0.frx hF6 hE5 hI.2.2.2.1 hW hI.2.1 (by decide +kernel)), (NN.frx 4 3 4 rfl rfl hF6 hE5 hI.2.2.2.2.1 hW hI.1 (by decide +kernel)), (NN.frx 10 9 7 rfl rfl hF6 hE5 hI.2.2.2.2.2.1 hW hI.1 (by decide +kernel)), (PI.frx hI.2.2.2.2.2.2.1 hF6 hE5 hW hI.1 hI.2.2.2.2.1 (by decide +kernel)), (CWI.fr hI.2.2.2.2.2.2.2 hF6 hE5 hW hI.1 (by decide +kernel) (by decide +kernel) (by decide +kernel))⟩
  have hWp11 := hW
  have hY12 : YRL V2 x m0 := YRL.frx hY0 hF6 hE5 hW hI.1 hI.2.1 hI.2.2.2.2.1 (by decide +kernel) (by decide +kernel)
  have hT13 : TXE K1 V2 x m0 := TXE.frx hT0 hF6 hE5 hW hI.1 hI.2.1 (by decide +kernel)
  have hA14 : AB V2 x m0 := AB.frx hA0 hF6 hE5 hW hI.1 hI.2.1 hI.2.2.2.2.1 (by decide +kernel) (by decide +kernel) (Int.le_of_eq (vi_fr hF6 hI.2.1 (hE5.obj (by decide) hI.2.1) (by decide +kernel)).symm)
  have s15 : tdy V2 x = tdy V x := tdy_fr hF6 hE5 hW hI.1 (by decide +kernel) (by decide +kernel)
  have s16 : wsz V2 x = wsz V x := wsz_fr hF6 hE5 hW hI.1 (by decide +kernel) (by decide +kernel)
  have s17 : csz V2 x = csz V x := csz_fr hF6 hE5 hW hI.1 (by decide +kernel) (by decide +kernel)
  have s18 : dsz V2 x = dsz V x := dsz_fr hF6 hE5 hW hI.1 (by decide +kernel) (by decide +kernel)
  clear hW
  have s19 : vi V2 x 4 = vi V x 4 := vi_fr hF6 hI.1 (hE5.obj (by decide) hI.1) (by decide +kernel)
  have s20 : vi V2 x 10 = vi V x 10 := vi_fr hF6 hI.1 (hE5.obj (by decide) hI.1) (by decide +kernel)
  have s21 : vi V2 m0 9 = vi V m0 9 := vi_fr hF6 hI.2.1 (hE5.obj (by decide) hI.2.1) (by decide +kernel)
  have s22 : vi V2 m0 2 = vi V m0 2 := vi_fr hF6 hI.2.1 (hE5.obj (by decide) hI.2.1) (by decide +kernel)
  have s23 : vi V2 m0 91 = vi V m0 91 := vi_fr hF6 hI.2.1 (hE5.obj (by decide) hI.2.1) (by decide +kernel)
  have s24 : vi V2 m0 133 = vi V m0 133 := vi_fr hF6 hI.2.1 (hE5.obj (by decide) hI.2.1) (by decide +kernel)
  have s25 : vi V2 m0 120 = vi V m0 120 := vi_fr hF6 hI.2.1 (hE5.obj (by decide) hI.2.1) (by decide +kernel)
  have s26 : vi V2 x 8 = vi V x 8 := vi_fr hF6 hI.1 (hE5.obj (by decide) hI.1) (by decide +kernel)
  have s27 : vi V2 m0 66 = vi V m0 66 := vi_fr hF6 hI.2.1 (hE5.obj (by decide) hI.2.1) (by decide +kernel)
  have s28 : vi V2 m0 118 = vi V m0 118 := vi_fr hF6 hI.2.1 (hE5.obj (by decide) hI.2.1) (by decide +kernel)
  have hS29 : STE V2 x m0 := STE.frx hS0 hF6 hE5 hWp11 hI.1 hI.2.1 (by decide +kernel) (by decide +kernel)
  have hK30 : WKE V2 x m0 := WKE.frx hK0 hF6 hE5 hWp11 hI.1 hI.2.1 (by decide +kernel) (by decide +kernel)
  have h431 : vi V x 4 ≤ vi V2 x 4 := by omega
  refine LG.pop dL_law_570 rfl ?_
  refine LG.aload_n dL_law_571 rfl rfl ?_
  refine LG.aload_n dL_law_572 rfl rfl ?_
  refine LG.iload_n dL_law_573 rfl rfl ?_
  refine LG.iconst dL_law_574 ?_
  refine LG.iadd dL_law_575 ?_
  refine LG.sld (Y := i + 1) dL_law_576 (by omega) (by omega) hL ?_
  refine LG.aload_n dL_law_577 rfl rfl ?_
  refine LG.iload_n dL_law_578 rfl rfl ?_
  refine LG.iconst dL_law_579 ?_
  refine LG.iadd dL_law_580 ?_
  refine LG.sld (Y := i + 2) dL_law_581 (by omega) (by omega) hL ?_
  refine LG.aload_n dL_law_582 rfl rfl ?_
  refine LG.iload_n dL_law_583 rfl rfl ?_
  refine LG.iconst dL_law_584 ?_
  refine LG.iadd dL_law_585 ?_
  refine LG.sld (Y := i + 3) dL_law_586 (by omega) (by omega) hL ?_
  refine LG.aload_n dL_law_587 rfl rfl ?_
  refine LG.iload_n dL_law_588 rfl rfl ?_
  refine LG.iconst dL_law_589 ?_
  refine LG.iadd dL_law_590 ?_
  refine LG.sld (Y := i + 4) dL_law_591 (by omega) (by omega) hL ?_
  refine LG.useWT (fun hW => ?_)
  refine LG.callV (ci := 11) (N := mX12_station) (As := [ti (xv xs (i + 1)), ti (xv xs (i + 2)), ti (xv xs (i + 3)), ti (xv xs (i + 4))]) dL_law_592 (RX12, TX12, 151) rfl gV_RL_44 hI10.2.1 (t_X12_station hI10.2.1 xv_ir xv_ir xv_ir xv_ir hI10.2.2.2.1) rfl [] rfl rfl (le_csb hcs rfl) (Nat.le_of_ble_eq_true rfl) (g_is fun X38 K32 V33 r34 h35 hE36 hF37 => ?_)
  have hI41 : LI K32 V33 x m0 := ⟨hE36.obj (by decide) hI10.1, hE36.obj (by decide) hI10.2.1, (GX.frx hF37 hE36 hI10.2.2.1 hW hI10.2.1 (by decide +kernel)), (h35.2.1), (NN.frx 4 3 4 rfl rfl hF37 hE36 hI10.2.2.2.2.1 hW hI10.1 (by decide +kernel)), (NN.frx 10 9 7 rfl rfl hF37 hE36 hI10.2.2.2.2.2.1 hW hI10.1 (by decide +kernel)), (PI.frx hI10.2.2.2.2.2.2.1 hF37 hE36 hW hI10.1 hI10.2.2.2.2.1 (by decide +kernel)), (CWI.fr hI10.2.2.2.2.2.2.2 hF37 hE36 hW hI10.1 (by decide +kernel) (by decide +kernel) (by decide +kernel))⟩
  have hWp42 := hW
  have hY43 : YRL V33 x m0 := YRL.frx hY12 hF37 hE36 hW hI10.1 hI10.2.1 hI10.2.2.2.2.1 (by decide +kernel) (by decide +kernel)
  have hT44 : TXE K32 V33 x m0 := TXE.frx hT13 hF37 hE36 hW hI10.1 hI10.2.1 (by decide +kernel)
  have hA45 : AB V33 x m0 := AB.frx hA14 hF37 hE36 hW hI10.1 hI10.2.1 hI10.2.2.2.2.1 (by decide +kernel) (by decide +kernel) (Int.le_of_eq (vi_fr hF37 hI10.2.1 (hE36.obj (by decide) hI10.2.1) (by decide +kernel)).symm)
  have s46 : tdy V33 x = tdy V2 x := tdy_fr hF37 hE36 hW hI10.1 (by decide +kernel) (by decide +kernel)
  have s47 : wsz V33 x = wsz V2 x := wsz_fr hF37 hE36 hW hI10.1 (by decide +kernel) (by decide +kernel)
  have s48 : csz V33 x = csz V2 x := csz_fr hF37 hE36 hW hI10.1 (by decide +kernel) (by decide +kernel)
  have s49 : dsz V33 x = dsz V2 x := dsz_fr hF37 hE36 hW hI10.1 (by decide +kernel) (by decide +kernel)
  clear hW
  have s50 : vi V33 x 4 = vi V2 x 4 := vi_fr hF37 hI10.1 (hE36.obj (by decide) hI10.1) (by decide +kernel)
  have s51 : vi V33 x 10 = vi V2 x 10 := vi_fr hF37 hI10.1 (hE36.obj (by decide) hI10.1) (by decide +kernel)
  have s52 : vi V33 m0 9 = vi V2 m0 9 := vi_fr hF37 hI10.2.1 (hE36.obj (by decide) hI10.2.1) (by decide +kernel)
  have s53 : vi V33 m0 2 = vi V2 m0 2 := vi_fr hF37 hI10.2.1 (hE36.obj (by decide) hI10.2.1) (by decide +kernel)
  have s54 : vi V33 m0 91 = vi V2 m0 91 := vi_fr hF37 hI10.2.1 (hE36.obj (by decide) hI10.2.1) (by decide +kernel)
  have s55 : vi V33 m0 133 = vi V2 m0 133 := vi_fr hF37 hI10.2.1 (hE36.obj (by decide) hI10.2.1) (by decide +kernel)
  have s56 : vi V33 m0 120 = vi V2 m0 120 := vi_fr hF37 hI10.2.1 (hE36.obj (by decide) hI10.2.1) (by decide +kernel)
  have s57 : vi V33 x 8 = vi V2 x 8 := vi_fr hF37 hI10.1 (hE36.obj (by decide) hI10.1) (by decide +kernel)
  have s58 : vi V33 m0 66 = vi V2 m0 66 := vi_fr hF37 hI10.2.1 (hE36.obj (by decide) hI10.2.1) (by decide +kernel)
  have s59 : vi V33 m0 118 = vi V2 m0 118 := vi_fr hF37 hI10.2.1 (hE36.obj (by decide) hI10.2.1) (by decide +kernel)
  have hS60 : STE V33 x m0 := STE.frx hS29 hF37 hE36 hWp42 hI10.1 hI10.2.1 (by decide +kernel) (by decide +kernel)
  have hK61 : WKE V33 x m0 := WKE.frx hK30 hF37 hE36 hWp42 hI10.1 hI10.2.1 (by decide +kernel) (by decide +kernel)
  have h462 : vi V2 x 4 ≤ vi V33 x 4 := by omega
  have hKp63 := PLE.station hP0 hI.1 hI.2.1 hWp11 hWp42 hE5 hF6 hE36 hF37 h431 h462 (by omega) (by omega) (h4.2) (h35.2.2) (by decide +kernel) (by decide +kernel) (by decide +kernel) (by decide +kernel) (by decide +kernel) (by decide +kernel)
  refine LG.pop dL_law_595 rfl ?_
  refine LG.goto (tgt := 2745) dL_law_596 (by decide) ?_
  exact LG.widen (le_cs3 rfl) (kk _ _ hI41 (⟨by unfold RLI; omega, hA45, hT44, hY43, hKp63.2, hK61, hS60⟩))

set_option maxHeartbeats 2000000 in
theorem law_case_7 {p : Program} {l : Launch} {e : Env} {s : State} {m : MethodId} {below : List Frame} {meth : Method} {c : Code} {b L : Nat} {xs : Nat → Int32} {D : va_G} {dA : Nat → ClassId} {K : Kmap} {V : Vmap} {cells slots x m0 : Nat} {i : Int} (hI : LI K V x m0) (hR : REL K V x m0) (hL : L ≤ 4096) (h0 : 0 ≤ i) (h8 : i + 8 ≤ L) (hcs : cells + 8 ≤ 600000 ∧ slots + 2704 ≤ 7302250) (kk : ∀ (K1 : Kmap) (V1 : Vmap), LI K1 V1 x m0 → REL K1 V1 x m0 → LG p l e s m below meth c b L xs D dA K1 V1 (cells + 8) (slots + 2704) 2745 [some (.ref b), some (.ref x), some (.ref m0), some (ti i)] []) : LG p l e s m below meth c b L xs D dA K V cells slots 599 [some (.ref b), some (.ref x), some (.ref m0), some (ti i)] [] := by
  have hR0 := hR.1
  have hA0 := hR.2.1
  have hT0 := hR.2.2.1
  have hY0 := hR.2.2.2.1
  have hP0 := hR.2.2.2.2.1
  have hK0 := hR.2.2.2.2.2.1
  have hS0 := hR.2.2.2.2.2.2
  unfold RLI at hR0
  refine LG.aload_n dL_law_599 rfl rfl ?_
  refine LG.aload_n dL_law_600 rfl rfl ?_
  refine LG.iload_n dL_law_601 rfl rfl ?_
  refine LG.iconst dL_law_602 ?_
  refine LG.iadd dL_law_603 ?_
  refine LG.sld (Y := i + 1) dL_law_604 (by omega) (by omega) hL ?_
  refine LG.aload_n dL_law_605 rfl rfl ?_
  refine LG.iload_n dL_law_606 rfl rfl ?_
  refine LG.iconst dL_law_607 ?_
  refine LG.iadd dL_law_608 ?_
  refine LG.sld (Y := i + 2) dL_law_609 (by omega) (by omega) hL ?_
  refine LG.useWT (fun hW => ?_)
  refine LG.callV (ci := 10) (N := mX11_field) (As := [ti (xv xs (i + 1)), ti (xv xs (i + 2))]) dL_law_610 (RX11, TX11, 20) rfl gV_RL_45 hI.1 (t_X11_field hI.1 xv_ir xv_ir) rfl [] rfl rfl (le_cs hcs rfl) (Nat.le_of_ble_eq_true rfl) (g_ix fun X7 K1 V2 r3 h4 hE5 hF6 => ?_)
  have hI10 : LI K1 V2 x m0 := ⟨hE5.obj (by decide) hI.1, hE5.obj (by decide) hI.2.1, (GX.frx hF6 hE5 hI.2.2.1 hW hI.2.1 (by decide +kernel)), (PX0.frx hF6 hE5 hI.2.2.2.1 hW hI.2.1 (by decide +kernel)), (NN.frx 4 3 4 rfl rfl hF6 hE5 hI.2.2.2.2.1 hW hI.1 (by decide +kernel)), (NN.frx 10 9 7 rfl rfl hF6 hE5 hI.2.2.2.2.2.1 hW hI.1 (by decide +kernel)), (PI.frx hI.2.2.2.2.2.2.1 hF6 hE5 hW hI.1 hI.2.2.2.2.1 (by decide +kernel)), (CWI.fr hI.2.2.2.2.2.2.2 hF6 hE5 hW hI.1 (by decide +kernel) (by decide +kernel) (by decide +kernel))⟩
  have hWp11 := hW
  have hY12 : YRL V2 x m0 := YRL.frx hY0 hF6 hE5 hW hI.1 hI.2.1 hI.2.2.2.2.1 (by decide +kernel) (by decide +kernel)
  have hT13 : TXE K1 V2 x m0 := TXE.frx hT0 hF6 hE5 hW hI.1 hI.2.1 (by decide +kernel)
  have hA14 : AB V2 x m0 := AB.frx hA0 hF6 hE5 hW hI.1 hI.2.1 hI.2.2.2.2.1 (by decide +kernel) (by decide +kernel) (Int.le_of_eq (vi_fr hF6 hI.2.1 (hE5.obj (by decide) hI.2.1) (by decide +kernel)).symm)
  have s15 : tdy V2 x = tdy V x := tdy_fr hF6 hE5 hW hI.1 (by decide +kernel) (by decide +kernel)
  have s16 : wsz V2 x = wsz V x := wsz_fr hF6 hE5 hW hI.1 (by decide +kernel) (by decide +kernel)
  have s17 : csz V2 x = csz V x := csz_fr hF6 hE5 hW hI.1 (by decide +kernel) (by decide +kernel)
  have s18 : dsz V2 x = dsz V x := dsz_fr hF6 hE5 hW hI.1 (by decide +kernel) (by decide +kernel)
  clear hW
  have s19 : vi V2 x 4 = vi V x 4 := vi_fr hF6 hI.1 (hE5.obj (by decide) hI.1) (by decide +kernel)
  have s20 : vi V2 x 10 = vi V x 10 := vi_fr hF6 hI.1 (hE5.obj (by decide) hI.1) (by decide +kernel)
  have s21 : vi V2 m0 9 = vi V m0 9 := vi_fr hF6 hI.2.1 (hE5.obj (by decide) hI.2.1) (by decide +kernel)
  have s22 : vi V2 m0 2 = vi V m0 2 := vi_fr hF6 hI.2.1 (hE5.obj (by decide) hI.2.1) (by decide +kernel)
  have s23 : vi V2 m0 91 = vi V m0 91 := vi_fr hF6 hI.2.1 (hE5.obj (by decide) hI.2.1) (by decide +kernel)
  have s24 : vi V2 m0 133 = vi V m0 133 := vi_fr hF6 hI.2.1 (hE5.obj (by decide) hI.2.1) (by decide +kernel)
  have s25 : vi V2 m0 120 = vi V m0 120 := vi_fr hF6 hI.2.1 (hE5.obj (by decide) hI.2.1) (by decide +kernel)
  have s26 : vi V2 x 8 = vi V x 8 := vi_fr hF6 hI.1 (hE5.obj (by decide) hI.1) (by decide +kernel)
  have s27 : vi V2 m0 66 = vi V m0 66 := vi_fr hF6 hI.2.1 (hE5.obj (by decide) hI.2.1) (by decide +kernel)
  have s28 : vi V2 m0 118 = vi V m0 118 := vi_fr hF6 hI.2.1 (hE5.obj (by decide) hI.2.1) (by decide +kernel)
  have hS29 : STE V2 x m0 := STE.frx hS0 hF6 hE5 hWp11 hI.1 hI.2.1 (by decide +kernel) (by decide +kernel)
  have hK30 : WKE V2 x m0 := WKE.frx hK0 hF6 hE5 hWp11 hI.1 hI.2.1 (by decide +kernel) (by decide +kernel)
  have h431 : vi V x 4 ≤ vi V2 x 4 := by omega
  refine LG.pop dL_law_613 rfl ?_
  refine LG.aload_n dL_law_614 rfl rfl ?_
  refine LG.aload_n dL_law_615 rfl rfl ?_
  refine LG.iload_n dL_law_616 rfl rfl ?_
  refine LG.iconst dL_law_617 ?_
  refine LG.iadd dL_law_618 ?_
  refine LG.sld (Y := i + 1) dL_law_619 (by omega) (by omega) hL ?_
  refine LG.aload_n dL_law_620 rfl rfl ?_
  refine LG.iload_n dL_law_621 rfl rfl ?_
  refine LG.iconst dL_law_622 ?_
  refine LG.iadd dL_law_623 ?_
  refine LG.sld (Y := i + 2) dL_law_624 (by omega) (by omega) hL ?_
  refine LG.useWT (fun hW => ?_)
  refine LG.callV (ci := 11) (N := mX12_field) (As := [ti (xv xs (i + 1)), ti (xv xs (i + 2))]) dL_law_625 (RX12, TX12, 151) rfl gV_RL_49 hI10.2.1 (t_X12_field hI10.2.1 xv_ir xv_ir hI10.2.2.2.1) rfl [] rfl rfl (le_csb hcs rfl) (Nat.le_of_ble_eq_true rfl) (g_is fun X38 K32 V33 r34 h35 hE36 hF37 => ?_)
  have hI41 : LI K32 V33 x m0 := ⟨hE36.obj (by decide) hI10.1, hE36.obj (by decide) hI10.2.1, (GX.frx hF37 hE36 hI10.2.2.1 hW hI10.2.1 (by decide +kernel)), (h35.2.1), (NN.frx 4 3 4 rfl rfl hF37 hE36 hI10.2.2.2.2.1 hW hI10.1 (by decide +kernel)), (NN.frx 10 9 7 rfl rfl hF37 hE36 hI10.2.2.2.2.2.1 hW hI10.1 (by decide +kernel)), (PI.frx hI10.2.2.2.2.2.2.1 hF37 hE36 hW hI10.1 hI10.2.2.2.2.1 (by decide +kernel)), (CWI.fr hI10.2.2.2.2.2.2.2 hF37 hE36 hW hI10.1 (by decide +kernel) (by decide +kernel) (by decide +kernel))⟩
  have hWp42 := hW
  have hY43 : YRL V33 x m0 := YRL.frx hY12 hF37 hE36 hW hI10.1 hI10.2.1 hI10.2.2.2.2.1 (by decide +kernel) (by decide +kernel)
  have hT44 : TXE K32 V33 x m0 := TXE.frx hT13 hF37 hE36 hW hI10.1 hI10.2.1 (by decide +kernel)
  have hA45 : AB V33 x m0 := AB.frx hA14 hF37 hE36 hW hI10.1 hI10.2.1 hI10.2.2.2.2.1 (by decide +kernel) (by decide +kernel) (Int.le_of_eq (vi_fr hF37 hI10.2.1 (hE36.obj (by decide) hI10.2.1) (by decide +kernel)).symm)
  have s46 : tdy V33 x = tdy V2 x := tdy_fr hF37 hE36 hW hI10.1 (by decide +kernel) (by decide +kernel)
  have s47 : wsz V33 x = wsz V2 x := wsz_fr hF37 hE36 hW hI10.1 (by decide +kernel) (by decide +kernel)
  have s48 : csz V33 x = csz V2 x := csz_fr hF37 hE36 hW hI10.1 (by decide +kernel) (by decide +kernel)
  have s49 : dsz V33 x = dsz V2 x := dsz_fr hF37 hE36 hW hI10.1 (by decide +kernel) (by decide +kernel)
  clear hW
  have s50 : vi V33 x 4 = vi V2 x 4 := vi_fr hF37 hI10.1 (hE36.obj (by decide) hI10.1) (by decide +kernel)
  have s51 : vi V33 x 10 = vi V2 x 10 := vi_fr hF37 hI10.1 (hE36.obj (by decide) hI10.1) (by decide +kernel)
  have s52 : vi V33 m0 9 = vi V2 m0 9 := vi_fr hF37 hI10.2.1 (hE36.obj (by decide) hI10.2.1) (by decide +kernel)
  have s53 : vi V33 m0 2 = vi V2 m0 2 := vi_fr hF37 hI10.2.1 (hE36.obj (by decide) hI10.2.1) (by decide +kernel)
  have s54 : vi V33 m0 91 = vi V2 m0 91 := vi_fr hF37 hI10.2.1 (hE36.obj (by decide) hI10.2.1) (by decide +kernel)
  have s55 : vi V33 m0 133 = vi V2 m0 133 := vi_fr hF37 hI10.2.1 (hE36.obj (by decide) hI10.2.1) (by decide +kernel)
  have s56 : vi V33 m0 120 = vi V2 m0 120 := vi_fr hF37 hI10.2.1 (hE36.obj (by decide) hI10.2.1) (by decide +kernel)
  have s57 : vi V33 x 8 = vi V2 x 8 := vi_fr hF37 hI10.1 (hE36.obj (by decide) hI10.1) (by decide +kernel)
  have s58 : vi V33 m0 66 = vi V2 m0 66 := vi_fr hF37 hI10.2.1 (hE36.obj (by decide) hI10.2.1) (by decide +kernel)
  have s59 : vi V33 m0 118 = vi V2 m0 118 := vi_fr hF37 hI10.2.1 (hE36.obj (by decide) hI10.2.1) (by decide +kernel)
  have hS60 : STE V33 x m0 := STE.frx hS29 hF37 hE36 hWp42 hI10.1 hI10.2.1 (by decide +kernel) (by decide +kernel)
  have hK61 : WKE V33 x m0 := WKE.frx hK30 hF37 hE36 hWp42 hI10.1 hI10.2.1 (by decide +kernel) (by decide +kernel)
  have h462 : vi V2 x 4 ≤ vi V33 x 4 := by omega
  have hKp63 := PLE.field hP0 hI.1 hI.2.1 hWp11 hWp42 hE5 hF6 hE36 hF37 h431 h462 (h4.2) (h35.2.2) (by decide +kernel) (by decide +kernel) (by decide +kernel) (by decide +kernel) (by decide +kernel) (by decide +kernel)
  refine LG.pop dL_law_628 rfl ?_
  refine LG.goto (tgt := 2745) dL_law_629 (by decide) ?_
  exact LG.widen (le_cs3 rfl) (kk _ _ hI41 (⟨by unfold RLI; omega, hA45, hT44, hY43, hKp63.2, hK61, hS60⟩))

set_option maxHeartbeats 2000000 in
theorem law_case_8 {p : Program} {l : Launch} {e : Env} {s : State} {m : MethodId} {below : List Frame} {meth : Method} {c : Code} {b L : Nat} {xs : Nat → Int32} {D : va_G} {dA : Nat → ClassId} {K : Kmap} {V : Vmap} {cells slots x m0 : Nat} {i : Int} (hI : LI K V x m0) (hR : REL K V x m0) (hL : L ≤ 4096) (h0 : 0 ≤ i) (h8 : i + 8 ≤ L) (hcs : cells + 8 ≤ 600000 ∧ slots + 2704 ≤ 7302250) (kk : ∀ (K1 : Kmap) (V1 : Vmap), LI K1 V1 x m0 → REL K1 V1 x m0 → LG p l e s m below meth c b L xs D dA K1 V1 (cells + 8) (slots + 2704) 2745 [some (.ref b), some (.ref x), some (.ref m0), some (ti i)] []) : LG p l e s m below meth c b L xs D dA K V cells slots 632 [some (.ref b), some (.ref x), some (.ref m0), some (ti i)] [] := by
  have hR0 := hR.1
  have hA0 := hR.2.1
  have hT0 := hR.2.2.1
  have hY0 := hR.2.2.2.1
  have hP0 := hR.2.2.2.2.1
  have hK0 := hR.2.2.2.2.2.1
  have hS0 := hR.2.2.2.2.2.2
  unfold RLI at hR0
  refine LG.aload_n dL_law_632 rfl rfl ?_
  refine LG.aload_n dL_law_633 rfl rfl ?_
  refine LG.iload_n dL_law_634 rfl rfl ?_
  refine LG.iconst dL_law_635 ?_
  refine LG.iadd dL_law_636 ?_
  refine LG.sld (Y := i + 1) dL_law_637 (by omega) (by omega) hL ?_
  refine LG.aload_n dL_law_638 rfl rfl ?_
  refine LG.iload_n dL_law_639 rfl rfl ?_
  refine LG.iconst dL_law_640 ?_
  refine LG.iadd dL_law_641 ?_
  refine LG.sld (Y := i + 2) dL_law_642 (by omega) (by omega) hL ?_
  refine LG.aload_n dL_law_643 rfl rfl ?_
  refine LG.iload_n dL_law_644 rfl rfl ?_
  refine LG.iconst dL_law_645 ?_
  refine LG.iadd dL_law_646 ?_
  refine LG.sld (Y := i + 3) dL_law_647 (by omega) (by omega) hL ?_
  refine LG.useWT (fun hW => ?_)
  refine LG.callV (ci := 10) (N := mX11_reserve) (As := [ti (xv xs (i + 1)), ti (xv xs (i + 2)), ti (xv xs (i + 3))]) dL_law_648 (RX11, TX11, 20) rfl gV_RL_50 hI.1 (t_X11_reserve hI.1 xv_ir xv_ir xv_ir) rfl [] rfl rfl (le_cs hcs rfl) (Nat.le_of_ble_eq_true rfl) (g_ix fun X7 K1 V2 r3 h4 hE5 hF6 => ?_)
  have hI10 : LI K1 V2 x m0 := ⟨hE5.obj (by decide) hI.1, hE5.obj (by decide) hI.2.1, (GX.frx hF6 hE5 hI.2.2.1 hW hI.2.1 (by decide +kernel)), (PX0.frx hF6 hE5 hI.2.2.2.1 hW hI.2.1 (by decide +kernel)), (NN.frx 4 3 4 rfl rfl hF6 hE5 hI.2.2.2.2.1 hW hI.1 (by decide +kernel)), (NN.frx 10 9 7 rfl rfl hF6 hE5 hI.2.2.2.2.2.1 hW hI.1 (by decide +kernel)), (PI.frx hI.2.2.2.2.2.2.1 hF6 hE5 hW hI.1 hI.2.2.2.2.1 (by decide +kernel)), (CWI.fr hI.2.2.2.2.2.2.2 hF6 hE5 hW hI.1 (by decide +kernel) (by decide +kernel) (by decide +kernel))⟩
  have hWp11 := hW
  have hY12 : YRL V2 x m0 := YRL.frx hY0 hF6 hE5 hW hI.1 hI.2.1 hI.2.2.2.2.1 (by decide +kernel) (by decide +kernel)
  have hT13 : TXE K1 V2 x m0 := TXE.frx hT0 hF6 hE5 hW hI.1 hI.2.1 (by decide +kernel)
  have hA14 : AB V2 x m0 := AB.frx hA0 hF6 hE5 hW hI.1 hI.2.1 hI.2.2.2.2.1 (by decide +kernel) (by decide +kernel) (Int.le_of_eq (vi_fr hF6 hI.2.1 (hE5.obj (by decide) hI.2.1) (by decide +kernel)).symm)
  have s15 : tdy V2 x = tdy V x := tdy_fr hF6 hE5 hW hI.1 (by decide +kernel) (by decide +kernel)
  have s16 : wsz V2 x = wsz V x := wsz_fr hF6 hE5 hW hI.1 (by decide +kernel) (by decide +kernel)
  have s17 : csz V2 x = csz V x := csz_fr hF6 hE5 hW hI.1 (by decide +kernel) (by decide +kernel)
  have s18 : dsz V2 x = dsz V x := dsz_fr hF6 hE5 hW hI.1 (by decide +kernel) (by decide +kernel)
  clear hW
  have s19 : vi V2 x 4 = vi V x 4 := vi_fr hF6 hI.1 (hE5.obj (by decide) hI.1) (by decide +kernel)
  have s20 : vi V2 x 10 = vi V x 10 := vi_fr hF6 hI.1 (hE5.obj (by decide) hI.1) (by decide +kernel)
  have s21 : vi V2 m0 9 = vi V m0 9 := vi_fr hF6 hI.2.1 (hE5.obj (by decide) hI.2.1) (by decide +kernel)
  have s22 : vi V2 m0 2 = vi V m0 2 := vi_fr hF6 hI.2.1 (hE5.obj (by decide) hI.2.1) (by decide +kernel)
  have s23 : vi V2 m0 91 = vi V m0 91 := vi_fr hF6 hI.2.1 (hE5.obj (by decide) hI.2.1) (by decide +kernel)
  have s24 : vi V2 m0 133 = vi V m0 133 := vi_fr hF6 hI.2.1 (hE5.obj (by decide) hI.2.1) (by decide +kernel)
  have s25 : vi V2 m0 120 = vi V m0 120 := vi_fr hF6 hI.2.1 (hE5.obj (by decide) hI.2.1) (by decide +kernel)
  have s26 : vi V2 x 8 = vi V x 8 := vi_fr hF6 hI.1 (hE5.obj (by decide) hI.1) (by decide +kernel)
  have s27 : vi V2 m0 66 = vi V m0 66 := vi_fr hF6 hI.2.1 (hE5.obj (by decide) hI.2.1) (by decide +kernel)
  have s28 : vi V2 m0 118 = vi V m0 118 := vi_fr hF6 hI.2.1 (hE5.obj (by decide) hI.2.1) (by decide +kernel)
  have hS29 : STE V2 x m0 := STE.frx hS0 hF6 hE5 hWp11 hI.1 hI.2.1 (by decide +kernel) (by decide +kernel)
  have hK30 : WKE V2 x m0 := WKE.frx hK0 hF6 hE5 hWp11 hI.1 hI.2.1 (by decide +kernel) (by decide +kernel)
  have h431 : vi V x 4 ≤ vi V2 x 4 := by omega
  refine LG.pop dL_law_651 rfl ?_
  refine LG.aload_n dL_law_652 rfl rfl ?_
  refine LG.aload_n dL_law_653 rfl rfl ?_
  refine LG.iload_n dL_law_654 rfl rfl ?_
  refine LG.iconst dL_law_655 ?_
  refine LG.iadd dL_law_656 ?_
  refine LG.sld (Y := i + 1) dL_law_657 (by omega) (by omega) hL ?_
  refine LG.aload_n dL_law_658 rfl rfl ?_
  refine LG.iload_n dL_law_659 rfl rfl ?_
  refine LG.iconst dL_law_660 ?_
  refine LG.iadd dL_law_661 ?_
  refine LG.sld (Y := i + 2) dL_law_662 (by omega) (by omega) hL ?_
  refine LG.aload_n dL_law_663 rfl rfl ?_
  refine LG.iload_n dL_law_664 rfl rfl ?_
  refine LG.iconst dL_law_665 ?_
  refine LG.iadd dL_law_666 ?_
  refine LG.sld (Y := i + 3) dL_law_667 (by omega) (by omega) hL ?_
  refine LG.useWT (fun hW => ?_)
  refine LG.callV (ci := 11) (N := mX12_reserve) (As := [ti (xv xs (i + 1)), ti (xv xs (i + 2)), ti (xv xs (i + 3))]) dL_law_668 (RX12, TX12, 151) rfl gV_RL_54 hI10.2.1 (t_X12_reserve hI10.2.1 xv_ir xv_ir xv_ir hI10.2.2.2.1) rfl [] rfl rfl (le_csb hcs rfl) (Nat.le_of_ble_eq_true rfl) (g_is fun X38 K32 V33 r34 h35 hE36 hF37 => ?_)
  have hI41 : LI K32 V33 x m0 := ⟨hE36.obj (by decide) hI10.1, hE36.obj (by decide) hI10.2.1, (GX.frx hF37 hE36 hI10.2.2.1 hW hI10.2.1 (by decide +kernel)), (h35.2.1), (NN.frx 4 3 4 rfl rfl hF37 hE36 hI10.2.2.2.2.1 hW hI10.1 (by decide +kernel)), (NN.frx 10 9 7 rfl rfl hF37 hE36 hI10.2.2.2.2.2.1 hW hI10.1 (by decide +kernel)), (PI.frx hI10.2.2.2.2.2.2.1 hF37 hE36 hW hI10.1 hI10.2.2.2.2.1 (by decide +kernel)), (CWI.fr hI10.2.2.2.2.2.2.2 hF37 hE36 hW hI10.1 (by decide +kernel) (by decide +kernel) (by decide +kernel))⟩
  have hWp42 := hW
  have hY43 : YRL V33 x m0 := YRL.frx hY12 hF37 hE36 hW hI10.1 hI10.2.1 hI10.2.2.2.2.1 (by decide +kernel) (by decide +kernel)
  have hT44 : TXE K32 V33 x m0 := TXE.frx hT13 hF37 hE36 hW hI10.1 hI10.2.1 (by decide +kernel)
  have hA45 : AB V33 x m0 := AB.frx hA14 hF37 hE36 hW hI10.1 hI10.2.1 hI10.2.2.2.2.1 (by decide +kernel) (by decide +kernel) (Int.le_of_eq (vi_fr hF37 hI10.2.1 (hE36.obj (by decide) hI10.2.1) (by decide +kernel)).symm)
  have s46 : tdy V33 x = tdy V2 x := tdy_fr hF37 hE36 hW hI10.1 (by decide +kernel) (by decide +kernel)
  have s47 : wsz V33 x = wsz V2 x := wsz_fr hF37 hE36 hW hI10.1 (by decide +kernel) (by decide +kernel)
  have s48 : csz V33 x = csz V2 x := csz_fr hF37 hE36 hW hI10.1 (by decide +kernel) (by decide +kernel)
  have s49 : dsz V33 x = dsz V2 x := dsz_fr hF37 hE36 hW hI10.1 (by decide +kernel) (by decide +kernel)
  clear hW
  have s50 : vi V33 x 4 = vi V2 x 4 := vi_fr hF37 hI10.1 (hE36.obj (by decide) hI10.1) (by decide +kernel)
  have s51 : vi V33 x 10 = vi V2 x 10 := vi_fr hF37 hI10.1 (hE36.obj (by decide) hI10.1) (by decide +kernel)
  have s52 : vi V33 m0 9 = vi V2 m0 9 := vi_fr hF37 hI10.2.1 (hE36.obj (by decide) hI10.2.1) (by decide +kernel)
  have s53 : vi V33 m0 2 = vi V2 m0 2 := vi_fr hF37 hI10.2.1 (hE36.obj (by decide) hI10.2.1) (by decide +kernel)
  have s54 : vi V33 m0 91 = vi V2 m0 91 := vi_fr hF37 hI10.2.1 (hE36.obj (by decide) hI10.2.1) (by decide +kernel)
  have s55 : vi V33 m0 133 = vi V2 m0 133 := vi_fr hF37 hI10.2.1 (hE36.obj (by decide) hI10.2.1) (by decide +kernel)
  have s56 : vi V33 m0 120 = vi V2 m0 120 := vi_fr hF37 hI10.2.1 (hE36.obj (by decide) hI10.2.1) (by decide +kernel)
  have s57 : vi V33 x 8 = vi V2 x 8 := vi_fr hF37 hI10.1 (hE36.obj (by decide) hI10.1) (by decide +kernel)
  have s58 : vi V33 m0 66 = vi V2 m0 66 := vi_fr hF37 hI10.2.1 (hE36.obj (by decide) hI10.2.1) (by decide +kernel)
  have s59 : vi V33 m0 118 = vi V2 m0 118 := vi_fr hF37 hI10.2.1 (hE36.obj (by decide) hI10.2.1) (by decide +kernel)
  have hS60 : STE V33 x m0 := STE.frx hS29 hF37 hE36 hWp42 hI10.1 hI10.2.1 (by decide +kernel) (by decide +kernel)
  have hK61 : WKE V33 x m0 := WKE.frx hK30 hF37 hE36 hWp42 hI10.1 hI10.2.1 (by decide +kernel) (by decide +kernel)
  have h462 : vi V2 x 4 ≤ vi V33 x 4 := by omega
  have hKp63 := PLE.reserve hP0 hI.1 hI.2.1 hWp11 hWp42 hE5 hF6 hE36 hF37 h431 h462 (h4.2) (h35.2.2) (by decide +kernel) (by decide +kernel) (by decide +kernel) (by decide +kernel) (by decide +kernel) (by decide +kernel)
  refine LG.pop dL_law_671 rfl ?_
  refine LG.goto (tgt := 2745) dL_law_672 (by decide) ?_
  exact LG.widen (le_cs3 rfl) (kk _ _ hI41 (⟨by unfold RLI; omega, hA45, hT44, hY43, hKp63.2, hK61, hS60⟩))

set_option maxHeartbeats 2000000 in
theorem law_case_9 {p : Program} {l : Launch} {e : Env} {s : State} {m : MethodId} {below : List Frame} {meth : Method} {c : Code} {b L : Nat} {xs : Nat → Int32} {D : va_G} {dA : Nat → ClassId} {K : Kmap} {V : Vmap} {cells slots x m0 : Nat} {i : Int} (hI : LI K V x m0) (hR : REL K V x m0) (hL : L ≤ 4096) (h0 : 0 ≤ i) (h8 : i + 8 ≤ L) (hcs : cells + 8 ≤ 600000 ∧ slots + 2704 ≤ 7302250) (kk : ∀ (K1 : Kmap) (V1 : Vmap), LI K1 V1 x m0 → REL K1 V1 x m0 → LG p l e s m below meth c b L xs D dA K1 V1 (cells + 8) (slots + 2704) 2745 [some (.ref b), some (.ref x), some (.ref m0), some (ti i)] []) : LG p l e s m below meth c b L xs D dA K V cells slots 675 [some (.ref b), some (.ref x), some (.ref m0), some (ti i)] [] := by
  have hR0 := hR.1
  have hA0 := hR.2.1
  have hT0 := hR.2.2.1
  have hY0 := hR.2.2.2.1
  have hP0 := hR.2.2.2.2.1
  have hK0 := hR.2.2.2.2.2.1
  have hS0 := hR.2.2.2.2.2.2
  unfold RLI at hR0
  refine LG.aload_n dL_law_675 rfl rfl ?_
  refine LG.aload_n dL_law_676 rfl rfl ?_
  refine LG.iload_n dL_law_677 rfl rfl ?_
  refine LG.iconst dL_law_678 ?_
  refine LG.iadd dL_law_679 ?_
  refine LG.sld (Y := i + 1) dL_law_680 (by omega) (by omega) hL ?_
  refine LG.aload_n dL_law_681 rfl rfl ?_
  refine LG.iload_n dL_law_682 rfl rfl ?_
  refine LG.iconst dL_law_683 ?_
  refine LG.iadd dL_law_684 ?_
  refine LG.sld (Y := i + 2) dL_law_685 (by omega) (by omega) hL ?_
  refine LG.nz (tgt := 694) dL_law_686 (by decide) dL_law_689 dL_law_690 (by decide) dL_law_693 xv_ir rfl (fun B1 r2 h3 hbB1 => ?_)
  refine LG.useWT (fun hW => ?_)
  refine LG.callV (ci := 10) (N := mX11_site) (As := [ti (xv xs (i + 1)), ti (B1)]) dL_law_694 (RX11, TX11, 20) rfl gV_RL_55 hI.1 (t_X11_site hI.1 xv_ir r2 h3) rfl [] rfl rfl (le_cs hcs rfl) (Nat.le_of_ble_eq_true rfl) (g_ix fun X10 K4 V5 r6 h7 hE8 hF9 => ?_)
  have hI13 : LI K4 V5 x m0 := ⟨hE8.obj (by decide) hI.1, hE8.obj (by decide) hI.2.1, (GX.frx hF9 hE8 hI.2.2.1 hW hI.2.1 (by decide +kernel)), (PX0.frx hF9 hE8 hI.2.2.2.1 hW hI.2.1 (by decide +kernel)), (NN.frx 4 3 4 rfl rfl hF9 hE8 hI.2.2.2.2.1 hW hI.1 (by decide +kernel)), (NN.frx 10 9 7 rfl rfl hF9 hE8 hI.2.2.2.2.2.1 hW hI.1 (by decide +kernel)), (PI.frx hI.2.2.2.2.2.2.1 hF9 hE8 hW hI.1 hI.2.2.2.2.1 (by decide +kernel)), (CWI.fr hI.2.2.2.2.2.2.2 hF9 hE8 hW hI.1 (by decide +kernel) (by decide +kernel) (by decide +kernel))⟩
  have hWp14 := hW
  have hY15 : YRL V5 x m0 := YRL.frx hY0 hF9 hE8 hW hI.1 hI.2.1 hI.2.2.2.2.1 (by decide +kernel) (by decide +kernel)
  have hT16 : TXE K4 V5 x m0 := TXE.frx hT0 hF9 hE8 hW hI.1 hI.2.1 (by decide +kernel)
  have hA17 : AB V5 x m0 := AB.frx hA0 hF9 hE8 hW hI.1 hI.2.1 hI.2.2.2.2.1 (by decide +kernel) (by decide +kernel) (Int.le_of_eq (vi_fr hF9 hI.2.1 (hE8.obj (by decide) hI.2.1) (by decide +kernel)).symm)
  have s18 : tdy V5 x = tdy V x := tdy_fr hF9 hE8 hW hI.1 (by decide +kernel) (by decide +kernel)
  have s19 : wsz V5 x = wsz V x := wsz_fr hF9 hE8 hW hI.1 (by decide +kernel) (by decide +kernel)
  have s20 : csz V5 x = csz V x := csz_fr hF9 hE8 hW hI.1 (by decide +kernel) (by decide +kernel)
  have s21 : dsz V5 x = dsz V x := dsz_fr hF9 hE8 hW hI.1 (by decide +kernel) (by decide +kernel)
  clear hW
  have s22 : vi V5 x 4 = vi V x 4 := vi_fr hF9 hI.1 (hE8.obj (by decide) hI.1) (by decide +kernel)
  have s23 : vi V5 x 10 = vi V x 10 := vi_fr hF9 hI.1 (hE8.obj (by decide) hI.1) (by decide +kernel)
  have s24 : vi V5 m0 9 = vi V m0 9 := vi_fr hF9 hI.2.1 (hE8.obj (by decide) hI.2.1) (by decide +kernel)
  have s25 : vi V5 m0 2 = vi V m0 2 := vi_fr hF9 hI.2.1 (hE8.obj (by decide) hI.2.1) (by decide +kernel)
  have s26 : vi V5 m0 91 = vi V m0 91 := vi_fr hF9 hI.2.1 (hE8.obj (by decide) hI.2.1) (by decide +kernel)
  have s27 : vi V5 m0 133 = vi V m0 133 := vi_fr hF9 hI.2.1 (hE8.obj (by decide) hI.2.1) (by decide +kernel)
  have s28 : vi V5 m0 120 = vi V m0 120 := vi_fr hF9 hI.2.1 (hE8.obj (by decide) hI.2.1) (by decide +kernel)
  have s29 : vi V5 x 8 = vi V x 8 := vi_fr hF9 hI.1 (hE8.obj (by decide) hI.1) (by decide +kernel)
  have s30 : vi V5 m0 66 = vi V m0 66 := vi_fr hF9 hI.2.1 (hE8.obj (by decide) hI.2.1) (by decide +kernel)
  have s31 : vi V5 m0 118 = vi V m0 118 := vi_fr hF9 hI.2.1 (hE8.obj (by decide) hI.2.1) (by decide +kernel)
  have hS32 : STE V5 x m0 := STE.frx hS0 hF9 hE8 hWp14 hI.1 hI.2.1 (by decide +kernel) (by decide +kernel)
  have hK33 : WKE V5 x m0 := WKE.frx hK0 hF9 hE8 hWp14 hI.1 hI.2.1 (by decide +kernel) (by decide +kernel)
  have h434 : vi V x 4 ≤ vi V5 x 4 := by omega
  refine LG.pop dL_law_697 rfl ?_
  refine LG.aload_n dL_law_698 rfl rfl ?_
  refine LG.aload_n dL_law_699 rfl rfl ?_
  refine LG.iload_n dL_law_700 rfl rfl ?_
  refine LG.iconst dL_law_701 ?_
  refine LG.iadd dL_law_702 ?_
  refine LG.sld (Y := i + 1) dL_law_703 (by omega) (by omega) hL ?_
  refine LG.aload_n dL_law_704 rfl rfl ?_
  refine LG.iload_n dL_law_705 rfl rfl ?_
  refine LG.iconst dL_law_706 ?_
  refine LG.iadd dL_law_707 ?_
  refine LG.sld (Y := i + 2) dL_law_708 (by omega) (by omega) hL ?_
  refine LG.nz (tgt := 717) dL_law_709 (by decide) dL_law_712 dL_law_713 (by decide) dL_law_716 xv_ir rfl (fun B35 r36 h37 hbB35 => ?_)
  refine LG.useWT (fun hW => ?_)
  refine LG.callV (ci := 11) (N := mX12_site) (As := [ti (xv xs (i + 1)), ti (B35)]) dL_law_717 (RX12, TX12, 151) rfl gV_RL_59 hI13.2.1 (t_X12_site hI13.2.1 xv_ir r36 h37 hI13.2.2.2.1) rfl [] rfl rfl (le_csb hcs rfl) (Nat.le_of_ble_eq_true rfl) (g_is fun X44 K38 V39 r40 h41 hE42 hF43 => ?_)
  have hI47 : LI K38 V39 x m0 := ⟨hE42.obj (by decide) hI13.1, hE42.obj (by decide) hI13.2.1, (GX.frx hF43 hE42 hI13.2.2.1 hW hI13.2.1 (by decide +kernel)), (h41.2.1), (NN.frx 4 3 4 rfl rfl hF43 hE42 hI13.2.2.2.2.1 hW hI13.1 (by decide +kernel)), (NN.frx 10 9 7 rfl rfl hF43 hE42 hI13.2.2.2.2.2.1 hW hI13.1 (by decide +kernel)), (PI.frx hI13.2.2.2.2.2.2.1 hF43 hE42 hW hI13.1 hI13.2.2.2.2.1 (by decide +kernel)), (CWI.fr hI13.2.2.2.2.2.2.2 hF43 hE42 hW hI13.1 (by decide +kernel) (by decide +kernel) (by decide +kernel))⟩
  have hWp48 := hW
  have hY49 : YRL V39 x m0 := YRL.frx hY15 hF43 hE42 hW hI13.1 hI13.2.1 hI13.2.2.2.2.1 (by decide +kernel) (by decide +kernel)
  have hT50 : TXE K38 V39 x m0 := TXE.frx hT16 hF43 hE42 hW hI13.1 hI13.2.1 (by decide +kernel)
  have hA51 : AB V39 x m0 := AB.frx hA17 hF43 hE42 hW hI13.1 hI13.2.1 hI13.2.2.2.2.1 (by decide +kernel) (by decide +kernel) (Int.le_of_eq (vi_fr hF43 hI13.2.1 (hE42.obj (by decide) hI13.2.1) (by decide +kernel)).symm)
  have s52 : tdy V39 x = tdy V5 x := tdy_fr hF43 hE42 hW hI13.1 (by decide +kernel) (by decide +kernel)
  have s53 : wsz V39 x = wsz V5 x := wsz_fr hF43 hE42 hW hI13.1 (by decide +kernel) (by decide +kernel)
  have s54 : csz V39 x = csz V5 x := csz_fr hF43 hE42 hW hI13.1 (by decide +kernel) (by decide +kernel)
  have s55 : dsz V39 x = dsz V5 x := dsz_fr hF43 hE42 hW hI13.1 (by decide +kernel) (by decide +kernel)
  clear hW
  have s56 : vi V39 x 4 = vi V5 x 4 := vi_fr hF43 hI13.1 (hE42.obj (by decide) hI13.1) (by decide +kernel)
  have s57 : vi V39 x 10 = vi V5 x 10 := vi_fr hF43 hI13.1 (hE42.obj (by decide) hI13.1) (by decide +kernel)
  have s58 : vi V39 m0 9 = vi V5 m0 9 := vi_fr hF43 hI13.2.1 (hE42.obj (by decide) hI13.2.1) (by decide +kernel)
  have s59 : vi V39 m0 2 = vi V5 m0 2 := vi_fr hF43 hI13.2.1 (hE42.obj (by decide) hI13.2.1) (by decide +kernel)
  have s60 : vi V39 m0 91 = vi V5 m0 91 := vi_fr hF43 hI13.2.1 (hE42.obj (by decide) hI13.2.1) (by decide +kernel)
  have s61 : vi V39 m0 133 = vi V5 m0 133 := vi_fr hF43 hI13.2.1 (hE42.obj (by decide) hI13.2.1) (by decide +kernel)
  have s62 : vi V39 m0 120 = vi V5 m0 120 := vi_fr hF43 hI13.2.1 (hE42.obj (by decide) hI13.2.1) (by decide +kernel)
  have s63 : vi V39 x 8 = vi V5 x 8 := vi_fr hF43 hI13.1 (hE42.obj (by decide) hI13.1) (by decide +kernel)
  have s64 : vi V39 m0 66 = vi V5 m0 66 := vi_fr hF43 hI13.2.1 (hE42.obj (by decide) hI13.2.1) (by decide +kernel)
  have s65 : vi V39 m0 118 = vi V5 m0 118 := vi_fr hF43 hI13.2.1 (hE42.obj (by decide) hI13.2.1) (by decide +kernel)
  have hS66 : STE V39 x m0 := STE.frx hS32 hF43 hE42 hWp48 hI13.1 hI13.2.1 (by decide +kernel) (by decide +kernel)
  have hK67 : WKE V39 x m0 := WKE.frx hK33 hF43 hE42 hWp48 hI13.1 hI13.2.1 (by decide +kernel) (by decide +kernel)
  have h468 : vi V5 x 4 ≤ vi V39 x 4 := by omega
  have hbe69 : B35 = B1 := by omega
  have hKp70 := PLE.site hP0 hI.1 hI.2.1 hWp14 hWp48 hE8 hF9 hE42 hF43 h434 h468 (h7.2) ((hbe69 ▸ h41.2.2)) (by decide +kernel) (by decide +kernel) (by decide +kernel) (by decide +kernel) (by decide +kernel) (by decide +kernel)
  refine LG.pop dL_law_720 rfl ?_
  refine LG.goto (tgt := 2745) dL_law_721 (by decide) ?_
  exact LG.widen (le_cs3 rfl) (kk _ _ hI47 (⟨by unfold RLI; omega, hA51, hT50, hY49, hKp70.2, hK67, hS66⟩))

set_option maxHeartbeats 2000000 in
theorem law_case_10 {p : Program} {l : Launch} {e : Env} {s : State} {m : MethodId} {below : List Frame} {meth : Method} {c : Code} {b L : Nat} {xs : Nat → Int32} {D : va_G} {dA : Nat → ClassId} {K : Kmap} {V : Vmap} {cells slots x m0 : Nat} {i : Int} (hI : LI K V x m0) (hR : REL K V x m0) (hL : L ≤ 4096) (h0 : 0 ≤ i) (h8 : i + 8 ≤ L) (hcs : cells + 8 ≤ 600000 ∧ slots + 2704 ≤ 7302250) (kk : ∀ (K1 : Kmap) (V1 : Vmap), LI K1 V1 x m0 → REL K1 V1 x m0 → LG p l e s m below meth c b L xs D dA K1 V1 (cells + 8) (slots + 2704) 2745 [some (.ref b), some (.ref x), some (.ref m0), some (ti i)] []) : LG p l e s m below meth c b L xs D dA K V cells slots 724 [some (.ref b), some (.ref x), some (.ref m0), some (ti i)] [] := by
  have hR0 := hR.1
  have hA0 := hR.2.1
  have hT0 := hR.2.2.1
  have hY0 := hR.2.2.2.1
  have hP0 := hR.2.2.2.2.1
  have hK0 := hR.2.2.2.2.2.1
  have hS0 := hR.2.2.2.2.2.2
  unfold RLI at hR0
  refine LG.aload_n dL_law_724 rfl rfl ?_
  refine LG.aload_n dL_law_725 rfl rfl ?_
  refine LG.iload_n dL_law_726 rfl rfl ?_
  refine LG.iconst dL_law_727 ?_
  refine LG.iadd dL_law_728 ?_
  refine LG.sld (Y := i + 1) dL_law_729 (by omega) (by omega) hL ?_
  refine LG.aload_n dL_law_730 rfl rfl ?_
  refine LG.iload_n dL_law_731 rfl rfl ?_
  refine LG.iconst dL_law_732 ?_
  refine LG.iadd dL_law_733 ?_
  refine LG.sld (Y := i + 2) dL_law_734 (by omega) (by omega) hL ?_
  refine LG.aload_n dL_law_735 rfl rfl ?_
  refine LG.iload_n dL_law_736 rfl rfl ?_
  refine LG.iconst dL_law_737 ?_
  refine LG.iadd dL_law_738 ?_
  refine LG.sld (Y := i + 3) dL_law_739 (by omega) (by omega) hL ?_
  refine LG.aload_n dL_law_740 rfl rfl ?_
  refine LG.iload_n dL_law_741 rfl rfl ?_
  refine LG.iconst dL_law_742 ?_
  refine LG.iadd dL_law_743 ?_
  refine LG.sld (Y := i + 4) dL_law_744 (by omega) (by omega) hL ?_
  refine LG.aload_n dL_law_745 rfl rfl ?_
  refine LG.iload_n dL_law_746 rfl rfl ?_
  refine LG.iconst dL_law_747 ?_
  refine LG.iadd dL_law_748 ?_
  refine LG.sld (Y := i + 5) dL_law_749 (by omega) (by omega) hL ?_
  refine LG.useWT (fun hW => ?_)
  refine LG.callV (ci := 10) (N := mX11_feed) (As := [ti (xv xs (i + 1)), ti (xv xs (i + 2)), ti (xv xs (i + 3)), ti (xv xs (i + 4)), ti (xv xs (i + 5))]) dL_law_750 (RX11, TX11, 20) rfl gV_RL_60 hI.1 (t_X11_feed hI.1 xv_ir xv_ir xv_ir xv_ir xv_ir) rfl [] rfl rfl (le_cs hcs rfl) (Nat.le_of_ble_eq_true rfl) (g_is fun X7 K1 V2 r3 h4 hE5 hF6 => ?_)
  have hI10 : LI K1 V2 x m0 := ⟨hE5.obj (by decide) hI.1, hE5.obj (by decide) hI.2.1, (GX.frx hF6 hE5 hI.2.2.1 hW hI.2.1 (by decide +kernel)), (PX0.frx hF6 hE5 hI.2.2.2.1 hW hI.2.1 (by decide +kernel)), (NN.frx 4 3 4 rfl rfl hF6 hE5 hI.2.2.2.2.1 hW hI.1 (by decide +kernel)), (NN.frx 10 9 7 rfl rfl hF6 hE5 hI.2.2.2.2.2.1 hW hI.1 (by decide +kernel)), (PI.frx hI.2.2.2.2.2.2.1 hF6 hE5 hW hI.1 hI.2.2.2.2.1 (by decide +kernel)), (CWI.fr hI.2.2.2.2.2.2.2 hF6 hE5 hW hI.1 (by decide +kernel) (by decide +kernel) (by decide +kernel))⟩
  have hWp11 := hW
  have hY12 : YRL V2 x m0 := YRL.frx hY0 hF6 hE5 hW hI.1 hI.2.1 hI.2.2.2.2.1 (by decide +kernel) (by decide +kernel)
  have hWt13 := hW
  have hA14 : AB V2 x m0 := AB.frx hA0 hF6 hE5 hW hI.1 hI.2.1 hI.2.2.2.2.1 (by decide +kernel) (by decide +kernel) (Int.le_of_eq (vi_fr hF6 hI.2.1 (hE5.obj (by decide) hI.2.1) (by decide +kernel)).symm)
  have s15 : tdy V2 x = tdy V x := tdy_fr hF6 hE5 hW hI.1 (by decide +kernel) (by decide +kernel)
  have s16 : wsz V2 x = wsz V x := wsz_fr hF6 hE5 hW hI.1 (by decide +kernel) (by decide +kernel)
  have s17 : csz V2 x = csz V x := csz_fr hF6 hE5 hW hI.1 (by decide +kernel) (by decide +kernel)
  have s18 : dsz V2 x = dsz V x := dsz_fr hF6 hE5 hW hI.1 (by decide +kernel) (by decide +kernel)
  clear hW
  have s19 : vi V2 x 4 = vi V x 4 := vi_fr hF6 hI.1 (hE5.obj (by decide) hI.1) (by decide +kernel)
  have s20 : vi V2 x 10 = vi V x 10 := vi_fr hF6 hI.1 (hE5.obj (by decide) hI.1) (by decide +kernel)
  have s21 : vi V2 m0 9 = vi V m0 9 := vi_fr hF6 hI.2.1 (hE5.obj (by decide) hI.2.1) (by decide +kernel)
  have s22 : vi V2 m0 2 = vi V m0 2 := vi_fr hF6 hI.2.1 (hE5.obj (by decide) hI.2.1) (by decide +kernel)
  have s23 : vi V2 m0 91 = vi V m0 91 := vi_fr hF6 hI.2.1 (hE5.obj (by decide) hI.2.1) (by decide +kernel)
  have s24 : vi V2 m0 133 = vi V m0 133 := vi_fr hF6 hI.2.1 (hE5.obj (by decide) hI.2.1) (by decide +kernel)
  have s25 : vi V2 m0 120 = vi V m0 120 := vi_fr hF6 hI.2.1 (hE5.obj (by decide) hI.2.1) (by decide +kernel)
  have s26 : vi V2 x 8 = vi V x 8 := vi_fr hF6 hI.1 (hE5.obj (by decide) hI.1) (by decide +kernel)
  have s27 : vi V2 m0 66 = vi V m0 66 := vi_fr hF6 hI.2.1 (hE5.obj (by decide) hI.2.1) (by decide +kernel)
  have s28 : vi V2 m0 118 = vi V m0 118 := vi_fr hF6 hI.2.1 (hE5.obj (by decide) hI.2.1) (by decide +kernel)
  have hS29 : STE V2 x m0 := STE.frx hS0 hF6 hE5 hWp11 hI.1 hI.2.1 (by decide +kernel) (by decide +kernel)
  have hK30 : WKE V2 x m0 := WKE.frx hK0 hF6 hE5 hWp11 hI.1 hI.2.1 (by decide +kernel) (by decide +kernel)
  have hP31 : PLE V2 x m0 := PLE.frx hP0 hF6 hE5 hWp11 hI.1 hI.2.1 (by omega) (by decide +kernel) (by decide +kernel) (by decide +kernel) (by decide +kernel) (by decide +kernel) (by decide +kernel)
  refine LG.pop dL_law_753 rfl ?_
  refine LG.aload_n dL_law_754 rfl rfl ?_
  refine LG.aload_n dL_law_755 rfl rfl ?_
  refine LG.iload_n dL_law_756 rfl rfl ?_
  refine LG.iconst dL_law_757 ?_
  refine LG.iadd dL_law_758 ?_
  refine LG.sld (Y := i + 1) dL_law_759 (by omega) (by omega) hL ?_
  refine LG.aload_n dL_law_760 rfl rfl ?_
  refine LG.iload_n dL_law_761 rfl rfl ?_
  refine LG.iconst dL_law_762 ?_
  refine LG.iadd dL_law_763 ?_
  refine LG.sld (Y := i + 2) dL_law_764 (by omega) (by omega) hL ?_
  refine LG.aload_n dL_law_765 rfl rfl ?_
  refine LG.iload_n dL_law_766 rfl rfl ?_
  refine LG.iconst dL_law_767 ?_
  refine LG.iadd dL_law_768 ?_
  refine LG.sld (Y := i + 3) dL_law_769 (by omega) (by omega) hL ?_
  refine LG.aload_n dL_law_770 rfl rfl ?_
  refine LG.iload_n dL_law_771 rfl rfl ?_
  refine LG.iconst dL_law_772 ?_
  refine LG.iadd dL_law_773 ?_
  refine LG.sld (Y := i + 4) dL_law_774 (by omega) (by omega) hL ?_
  refine LG.aload_n dL_law_775 rfl rfl ?_
  refine LG.iload_n dL_law_776 rfl rfl ?_
  refine LG.iconst dL_law_777 ?_
  refine LG.iadd dL_law_778 ?_
  refine LG.sld (Y := i + 5) dL_law_779 (by omega) (by omega) hL ?_
  refine LG.useWT (fun hW => ?_)
  refine LG.callV (ci := 11) (N := mX12_feed) (As := [ti (xv xs (i + 1)), ti (xv xs (i + 2)), ti (xv xs (i + 3)), ti (xv xs (i + 4)), ti (xv xs (i + 5))]) dL_law_780 (RX12, TX12, 151) rfl gV_RL_64 hI10.2.1 (t_X12_feed hI10.2.1 xv_ir xv_ir xv_ir xv_ir xv_ir) rfl [] rfl rfl (le_csb hcs rfl) (Nat.le_of_ble_eq_true rfl) (g_is fun X38 K32 V33 r34 h35 hE36 hF37 => ?_)
  have hI41 : LI K32 V33 x m0 := ⟨hE36.obj (by decide) hI10.1, hE36.obj (by decide) hI10.2.1, (GX.frx hF37 hE36 hI10.2.2.1 hW hI10.2.1 (by decide +kernel)), (PX0.frx hF37 hE36 hI10.2.2.2.1 hW hI10.2.1 (by decide +kernel)), (NN.frx 4 3 4 rfl rfl hF37 hE36 hI10.2.2.2.2.1 hW hI10.1 (by decide +kernel)), (NN.frx 10 9 7 rfl rfl hF37 hE36 hI10.2.2.2.2.2.1 hW hI10.1 (by decide +kernel)), (PI.frx hI10.2.2.2.2.2.2.1 hF37 hE36 hW hI10.1 hI10.2.2.2.2.1 (by decide +kernel)), (CWI.fr hI10.2.2.2.2.2.2.2 hF37 hE36 hW hI10.1 (by decide +kernel) (by decide +kernel) (by decide +kernel))⟩
  have hWp42 := hW
  have hY43 : YRL V33 x m0 := YRL.frx hY12 hF37 hE36 hW hI10.1 hI10.2.1 hI10.2.2.2.2.1 (by decide +kernel) (by decide +kernel)
  have hWt44 := hW
  have hA45 : AB V33 x m0 := AB.frx hA14 hF37 hE36 hW hI10.1 hI10.2.1 hI10.2.2.2.2.1 (by decide +kernel) (by decide +kernel) (Int.le_of_eq (vi_fr hF37 hI10.2.1 (hE36.obj (by decide) hI10.2.1) (by decide +kernel)).symm)
  have s46 : tdy V33 x = tdy V2 x := tdy_fr hF37 hE36 hW hI10.1 (by decide +kernel) (by decide +kernel)
  have s47 : wsz V33 x = wsz V2 x := wsz_fr hF37 hE36 hW hI10.1 (by decide +kernel) (by decide +kernel)
  have s48 : csz V33 x = csz V2 x := csz_fr hF37 hE36 hW hI10.1 (by decide +kernel) (by decide +kernel)
  have s49 : dsz V33 x = dsz V2 x := dsz_fr hF37 hE36 hW hI10.1 (by decide +kernel) (by decide +kernel)
  clear hW
  have s50 : vi V33 x 4 = vi V2 x 4 := vi_fr hF37 hI10.1 (hE36.obj (by decide) hI10.1) (by decide +kernel)
  have s51 : vi V33 x 10 = vi V2 x 10 := vi_fr hF37 hI10.1 (hE36.obj (by decide) hI10.1) (by decide +kernel)
  have s52 : vi V33 m0 9 = vi V2 m0 9 := vi_fr hF37 hI10.2.1 (hE36.obj (by decide) hI10.2.1) (by decide +kernel)
  have s53 : vi V33 m0 2 = vi V2 m0 2 := vi_fr hF37 hI10.2.1 (hE36.obj (by decide) hI10.2.1) (by decide +kernel)
  have s54 : vi V33 m0 91 = vi V2 m0 91 := vi_fr hF37 hI10.2.1 (hE36.obj (by decide) hI10.2.1) (by decide +kernel)
  have s55 : vi V33 m0 133 = vi V2 m0 133 := vi_fr hF37 hI10.2.1 (hE36.obj (by decide) hI10.2.1) (by decide +kernel)
  have s56 : vi V33 m0 120 = vi V2 m0 120 := vi_fr hF37 hI10.2.1 (hE36.obj (by decide) hI10.2.1) (by decide +kernel)
  have s57 : vi V33 x 8 = vi V2 x 8 := vi_fr hF37 hI10.1 (hE36.obj (by decide) hI10.1) (by decide +kernel)
  have s58 : vi V33 m0 66 = vi V2 m0 66 := vi_fr hF37 hI10.2.1 (hE36.obj (by decide) hI10.2.1) (by decide +kernel)
  have s59 : vi V33 m0 118 = vi V2 m0 118 := vi_fr hF37 hI10.2.1 (hE36.obj (by decide) hI10.2.1) (by decide +kernel)
  have hS60 : STE V33 x m0 := STE.frx hS29 hF37 hE36 hWp42 hI10.1 hI10.2.1 (by decide +kernel) (by decide +kernel)
  have hK61 : WKE V33 x m0 := WKE.frx hK30 hF37 hE36 hWp42 hI10.1 hI10.2.1 (by decide +kernel) (by decide +kernel)
  have hP62 : PLE V33 x m0 := PLE.frx hP31 hF37 hE36 hWp42 hI10.1 hI10.2.1 (by omega) (by decide +kernel) (by decide +kernel) (by decide +kernel) (by decide +kernel) (by decide +kernel) (by decide +kernel)
  have hKt63 := TXE.feed hT0 hI.1 hI.2.1 hWt13 hWt44 hE5 hF6 hE36 hF37 h4.2 h35.2 (by decide +kernel) (by decide +kernel) (by decide +kernel) (by decide +kernel) (by decide +kernel) (by decide +kernel) (by decide +kernel) (by decide +kernel)
  refine LG.pop dL_law_783 rfl ?_
  refine LG.goto (tgt := 2745) dL_law_784 (by decide) ?_
  exact LG.widen (le_cs3 rfl) (kk _ _ hI41 (⟨by unfold RLI; omega, hA45, hKt63.2, hY43, hP62, hK61, hS60⟩))

set_option maxHeartbeats 2000000 in
theorem law_case_11 {p : Program} {l : Launch} {e : Env} {s : State} {m : MethodId} {below : List Frame} {meth : Method} {c : Code} {b L : Nat} {xs : Nat → Int32} {D : va_G} {dA : Nat → ClassId} {K : Kmap} {V : Vmap} {cells slots x m0 : Nat} {i : Int} (hI : LI K V x m0) (hR : REL K V x m0) (hL : L ≤ 4096) (h0 : 0 ≤ i) (h8 : i + 8 ≤ L) (hcs : cells + 8 ≤ 600000 ∧ slots + 2704 ≤ 7302250) (kk : ∀ (K1 : Kmap) (V1 : Vmap), LI K1 V1 x m0 → REL K1 V1 x m0 → LG p l e s m below meth c b L xs D dA K1 V1 (cells + 8) (slots + 2704) 2745 [some (.ref b), some (.ref x), some (.ref m0), some (ti i)] []) : LG p l e s m below meth c b L xs D dA K V cells slots 787 [some (.ref b), some (.ref x), some (.ref m0), some (ti i)] [] := by
  have hR0 := hR.1
  have hA0 := hR.2.1
  have hT0 := hR.2.2.1
  have hY0 := hR.2.2.2.1
  have hP0 := hR.2.2.2.2.1
  have hK0 := hR.2.2.2.2.2.1
  have hS0 := hR.2.2.2.2.2.2
  unfold RLI at hR0
  refine LG.aload_n dL_law_787 rfl rfl ?_
  refine LG.aload_n dL_law_788 rfl rfl ?_
  refine LG.iload_n dL_law_789 rfl rfl ?_
  refine LG.iconst dL_law_790 ?_
  refine LG.iadd dL_law_791 ?_
  refine LG.sld (Y := i + 1) dL_law_792 (by omega) (by omega) hL ?_
  refine LG.aload_n dL_law_793 rfl rfl ?_
  refine LG.iload_n dL_law_794 rfl rfl ?_
  refine LG.iconst dL_law_795 ?_
  refine LG.iadd dL_law_796 ?_
  refine LG.sld (Y := i + 2) dL_law_797 (by omega) (by omega) hL ?_
  refine LG.aload_n dL_law_798 rfl rfl ?_
  refine LG.iload_n dL_law_799 rfl rfl ?_
  refine LG.iconst dL_law_800 ?_
  refine LG.iadd dL_law_801 ?_
  refine LG.sld (Y := i + 3) dL_law_802 (by omega) (by omega) hL ?_
  refine LG.useWT (fun hW => ?_)
  refine LG.callV (ci := 10) (N := mX11_text) (As := [ti (xv xs (i + 1)), ti (xv xs (i + 2)), ti (xv xs (i + 3))]) dL_law_803 (RX11, TX11, 20) rfl gV_RL_65 hI.1 (t_X11_text hI.1 xv_ir xv_ir xv_ir) rfl [] rfl rfl (le_cs hcs rfl) (Nat.le_of_ble_eq_true rfl) (g_ix fun X7 K1 V2 r3 h4 hE5 hF6 => ?_)
  have hI10 : LI K1 V2 x m0 := ⟨hE5.obj (by decide) hI.1, hE5.obj (by decide) hI.2.1, (GX.frx hF6 hE5 hI.2.2.1 hW hI.2.1 (by decide +kernel)), (PX0.frx hF6 hE5 hI.2.2.2.1 hW hI.2.1 (by decide +kernel)), (NN.frx 4 3 4 rfl rfl hF6 hE5 hI.2.2.2.2.1 hW hI.1 (by decide +kernel)), (NN.frx 10 9 7 rfl rfl hF6 hE5 hI.2.2.2.2.2.1 hW hI.1 (by decide +kernel)), (PI.frx hI.2.2.2.2.2.2.1 hF6 hE5 hW hI.1 hI.2.2.2.2.1 (by decide +kernel)), (CWI.text hI.2.2.2.2.2.2.2 (h4.2.1) (h4.2.2) (NN.frx 4 3 4 rfl rfl hF6 hE5 hI.2.2.2.2.1 hW hI.1 (by decide +kernel)) hF6 hE5 hW hI.1 (by decide +kernel) (by decide +kernel))⟩
  have hWp11 := hW
  have hY12 : YRL V2 x m0 := YRL.frx hY0 hF6 hE5 hW hI.1 hI.2.1 hI.2.2.2.2.1 (by decide +kernel) (by decide +kernel)
  have hWt13 := hW
  have hA14 : AB V2 x m0 := AB.frx hA0 hF6 hE5 hW hI.1 hI.2.1 hI.2.2.2.2.1 (by decide +kernel) (by decide +kernel) (Int.le_of_eq (vi_fr hF6 hI.2.1 (hE5.obj (by decide) hI.2.1) (by decide +kernel)).symm)
  have s15 : tdy V2 x = tdy V x := tdy_fr hF6 hE5 hW hI.1 (by decide +kernel) (by decide +kernel)
  have s16 : wsz V2 x = wsz V x := wsz_fr hF6 hE5 hW hI.1 (by decide +kernel) (by decide +kernel)
  have s17 : csz V2 x = csz V x := csz_fr hF6 hE5 hW hI.1 (by decide +kernel) (by decide +kernel)
  have s18 : dsz V2 x = dsz V x := dsz_fr hF6 hE5 hW hI.1 (by decide +kernel) (by decide +kernel)
  clear hW
  have s19 : vi V2 x 4 = vi V x 4 := vi_fr hF6 hI.1 (hE5.obj (by decide) hI.1) (by decide +kernel)
  have s20 : vi V2 x 10 = vi V x 10 := vi_fr hF6 hI.1 (hE5.obj (by decide) hI.1) (by decide +kernel)
  have s21 : vi V2 m0 9 = vi V m0 9 := vi_fr hF6 hI.2.1 (hE5.obj (by decide) hI.2.1) (by decide +kernel)
  have s22 : vi V2 m0 2 = vi V m0 2 := vi_fr hF6 hI.2.1 (hE5.obj (by decide) hI.2.1) (by decide +kernel)
  have s23 : vi V2 m0 91 = vi V m0 91 := vi_fr hF6 hI.2.1 (hE5.obj (by decide) hI.2.1) (by decide +kernel)
  have s24 : vi V2 m0 133 = vi V m0 133 := vi_fr hF6 hI.2.1 (hE5.obj (by decide) hI.2.1) (by decide +kernel)
  have s25 : vi V2 m0 120 = vi V m0 120 := vi_fr hF6 hI.2.1 (hE5.obj (by decide) hI.2.1) (by decide +kernel)
  have s26 : vi V2 x 8 = vi V x 8 := vi_fr hF6 hI.1 (hE5.obj (by decide) hI.1) (by decide +kernel)
  have s27 : vi V2 m0 66 = vi V m0 66 := vi_fr hF6 hI.2.1 (hE5.obj (by decide) hI.2.1) (by decide +kernel)
  have s28 : vi V2 m0 118 = vi V m0 118 := vi_fr hF6 hI.2.1 (hE5.obj (by decide) hI.2.1) (by decide +kernel)
  have hS29 : STE V2 x m0 := STE.frx hS0 hF6 hE5 hWp11 hI.1 hI.2.1 (by decide +kernel) (by decide +kernel)
  have hK30 : WKE V2 x m0 := WKE.frx hK0 hF6 hE5 hWp11 hI.1 hI.2.1 (by decide +kernel) (by decide +kernel)
  have hP31 : PLE V2 x m0 := PLE.frx hP0 hF6 hE5 hWp11 hI.1 hI.2.1 (by omega) (by decide +kernel) (by decide +kernel) (by decide +kernel) (by decide +kernel) (by decide +kernel) (by decide +kernel)
  refine LG.pop dL_law_806 rfl ?_
  refine LG.aload_n dL_law_807 rfl rfl ?_
  refine LG.aload_n dL_law_808 rfl rfl ?_
  refine LG.iload_n dL_law_809 rfl rfl ?_
  refine LG.iconst dL_law_810 ?_
  refine LG.iadd dL_law_811 ?_
  refine LG.sld (Y := i + 1) dL_law_812 (by omega) (by omega) hL ?_
  refine LG.aload_n dL_law_813 rfl rfl ?_
  refine LG.iload_n dL_law_814 rfl rfl ?_
  refine LG.iconst dL_law_815 ?_
  refine LG.iadd dL_law_816 ?_
  refine LG.sld (Y := i + 2) dL_law_817 (by omega) (by omega) hL ?_
  refine LG.aload_n dL_law_818 rfl rfl ?_
  refine LG.iload_n dL_law_819 rfl rfl ?_
  refine LG.iconst dL_law_820 ?_
  refine LG.iadd dL_law_821 ?_
  refine LG.sld (Y := i + 3) dL_law_822 (by omega) (by omega) hL ?_
  refine LG.useWT (fun hW => ?_)
  refine LG.callV (ci := 11) (N := mX12_text) (As := [ti (xv xs (i + 1)), ti (xv xs (i + 2)), ti (xv xs (i + 3))]) dL_law_823 (RX12, TX12, 151) rfl gV_RL_68 hI10.2.1 (t_X12_text hI10.2.1 xv_ir xv_ir xv_ir hI10.2.2.1) rfl [] rfl rfl (le_csb hcs rfl) (Nat.le_of_ble_eq_true rfl) (g_is fun X38 K32 V33 r34 h35 hE36 hF37 => ?_)
  have hI41 : LI K32 V33 x m0 := ⟨hE36.obj (by decide) hI10.1, hE36.obj (by decide) hI10.2.1, (h35.2.1), (PX0.frx hF37 hE36 hI10.2.2.2.1 hW hI10.2.1 (by decide +kernel)), (NN.frx 4 3 4 rfl rfl hF37 hE36 hI10.2.2.2.2.1 hW hI10.1 (by decide +kernel)), (NN.frx 10 9 7 rfl rfl hF37 hE36 hI10.2.2.2.2.2.1 hW hI10.1 (by decide +kernel)), (PI.frx hI10.2.2.2.2.2.2.1 hF37 hE36 hW hI10.1 hI10.2.2.2.2.1 (by decide +kernel)), (CWI.fr hI10.2.2.2.2.2.2.2 hF37 hE36 hW hI10.1 (by decide +kernel) (by decide +kernel) (by decide +kernel))⟩
  have hWp42 := hW
  have hY43 : YRL V33 x m0 := YRL.text hY12 (YCS.fr hF37 hE36 hW hI10.1 hI10.2.2.2.2.1 (by decide +kernel)) h35.2.2.2 (hW.int hI10.2.1 (j := 47) (Nat.le_of_ble_eq_true rfl) rfl).2.1
  have hWt44 := hW
  have hA45 : AB V33 x m0 := AB.frx hA14 hF37 hE36 hW hI10.1 hI10.2.1 hI10.2.2.2.2.1 (by decide +kernel) (by decide +kernel) (Int.le_of_eq (vi_fr hF37 hI10.2.1 (hE36.obj (by decide) hI10.2.1) (by decide +kernel)).symm)
  have s46 : tdy V33 x = tdy V2 x := tdy_fr hF37 hE36 hW hI10.1 (by decide +kernel) (by decide +kernel)
  have s47 : wsz V33 x = wsz V2 x := wsz_fr hF37 hE36 hW hI10.1 (by decide +kernel) (by decide +kernel)
  have s48 : csz V33 x = csz V2 x := csz_fr hF37 hE36 hW hI10.1 (by decide +kernel) (by decide +kernel)
  have s49 : dsz V33 x = dsz V2 x := dsz_fr hF37 hE36 hW hI10.1 (by decide +kernel) (by decide +kernel)
  clear hW
  have s50 : vi V33 x 4 = vi V2 x 4 := vi_fr hF37 hI10.1 (hE36.obj (by decide) hI10.1) (by decide +kernel)
  have s51 : vi V33 x 10 = vi V2 x 10 := vi_fr hF37 hI10.1 (hE36.obj (by decide) hI10.1) (by decide +kernel)
  have s52 : vi V33 m0 9 = vi V2 m0 9 := vi_fr hF37 hI10.2.1 (hE36.obj (by decide) hI10.2.1) (by decide +kernel)
  have s53 : vi V33 m0 2 = vi V2 m0 2 := vi_fr hF37 hI10.2.1 (hE36.obj (by decide) hI10.2.1) (by decide +kernel)
  have s54 : vi V33 m0 91 = vi V2 m0 91 := vi_fr hF37 hI10.2.1 (hE36.obj (by decide) hI10.2.1) (by decide +kernel)
  have s55 : vi V33 m0 133 = vi V2 m0 133 := vi_fr hF37 hI10.2.1 (hE36.obj (by decide) hI10.2.1) (by decide +kernel)
  have s56 : vi V33 m0 120 = vi V2 m0 120 := vi_fr hF37 hI10.2.1 (hE36.obj (by decide) hI10.2.1) (by decide +kernel)
  have s57 : vi V33 x 8 = vi V2 x 8 := vi_fr hF37 hI10.1 (hE36.obj (by decide) hI10.1) (by decide +kernel)
  have s58 : vi V33 m0 66 = vi V2 m0 66 := vi_fr hF37 hI10.2.1 (hE36.obj (by decide) hI10.2.1) (by decide +kernel)
  have s59 : vi V33 m0 118 = vi V2 m0 118 := vi_fr hF37 hI10.2.1 (hE36.obj (by decide) hI10.2.1) (by decide +kernel)
  have hS60 : STE V33 x m0 := STE.frx hS29 hF37 hE36 hWp42 hI10.1 hI10.2.1 (by decide +kernel) (by decide +kernel)
  have hK61 : WKE V33 x m0 := WKE.frx hK30 hF37 hE36 hWp42 hI10.1 hI10.2.1 (by decide +kernel) (by decide +kernel)
  have hP62 : PLE V33 x m0 := PLE.frx hP31 hF37 hE36 hWp42 hI10.1 hI10.2.1 (by omega) (by decide +kernel) (by decide +kernel) (by decide +kernel) (by decide +kernel) (by decide +kernel) (by decide +kernel)
  have hKt63 := TXE.text hT0 hI.1 hI.2.1 hWt13 hWt44 hE5 hF6 hE36 hF37 h4.2.1 h35.2.2.1 (by decide +kernel) (by decide +kernel) (by decide +kernel) (by decide +kernel) (by decide +kernel) (by decide +kernel)
  refine LG.pop dL_law_826 rfl ?_
  refine LG.goto (tgt := 2745) dL_law_827 (by decide) ?_
  exact LG.widen (le_cs3 rfl) (kk _ _ hI41 (⟨by unfold RLI; omega, hA45, hKt63.2, hY43, hP62, hK61, hS60⟩))

set_option maxHeartbeats 2000000 in
theorem law_case_12 {p : Program} {l : Launch} {e : Env} {s : State} {m : MethodId} {below : List Frame} {meth : Method} {c : Code} {b L : Nat} {xs : Nat → Int32} {D : va_G} {dA : Nat → ClassId} {K : Kmap} {V : Vmap} {cells slots x m0 : Nat} {i : Int} (hI : LI K V x m0) (hR : REL K V x m0) (hL : L ≤ 4096) (h0 : 0 ≤ i) (h8 : i + 8 ≤ L) (hcs : cells + 8 ≤ 600000 ∧ slots + 2704 ≤ 7302250) (kk : ∀ (K1 : Kmap) (V1 : Vmap), LI K1 V1 x m0 → REL K1 V1 x m0 → LG p l e s m below meth c b L xs D dA K1 V1 (cells + 8) (slots + 2704) 2745 [some (.ref b), some (.ref x), some (.ref m0), some (ti i)] []) : LG p l e s m below meth c b L xs D dA K V cells slots 830 [some (.ref b), some (.ref x), some (.ref m0), some (ti i)] [] := by
  have hR0 := hR.1
  have hA0 := hR.2.1
  have hT0 := hR.2.2.1
  have hY0 := hR.2.2.2.1
  have hP0 := hR.2.2.2.2.1
  have hK0 := hR.2.2.2.2.2.1
  have hS0 := hR.2.2.2.2.2.2
  unfold RLI at hR0
  refine LG.aload_n dL_law_830 rfl rfl ?_
  refine LG.aload_n dL_law_831 rfl rfl ?_
  refine LG.iload_n dL_law_832 rfl rfl ?_
  refine LG.iconst dL_law_833 ?_
  refine LG.iadd dL_law_834 ?_
  refine LG.sld (Y := i + 1) dL_law_835 (by omega) (by omega) hL ?_
  refine LG.aload_n dL_law_836 rfl rfl ?_
  refine LG.iload_n dL_law_837 rfl rfl ?_
  refine LG.iconst dL_law_838 ?_
  refine LG.iadd dL_law_839 ?_
  refine LG.sld (Y := i + 2) dL_law_840 (by omega) (by omega) hL ?_
  refine LG.useWT (fun hW => ?_)
  refine LG.callV (ci := 10) (N := mX11_yes) (As := [ti (xv xs (i + 1)), ti (xv xs (i + 2))]) dL_law_841 (RX11, TX11, 20) rfl gV_RL_69 hI.1 (t_X11_yes hI.1 xv_ir xv_ir) rfl [] rfl rfl (le_cs hcs rfl) (Nat.le_of_ble_eq_true rfl) (g_is fun X7 K1 V2 r3 h4 hE5 hF6 => ?_)
  have hI10 : LI K1 V2 x m0 := ⟨hE5.obj (by decide) hI.1, hE5.obj (by decide) hI.2.1, (GX.frx hF6 hE5 hI.2.2.1 hW hI.2.1 (by decide +kernel)), (PX0.frx hF6 hE5 hI.2.2.2.1 hW hI.2.1 (by decide +kernel)), (NN.frx 4 3 4 rfl rfl hF6 hE5 hI.2.2.2.2.1 hW hI.1 (by decide +kernel)), (NN.frx 10 9 7 rfl rfl hF6 hE5 hI.2.2.2.2.2.1 hW hI.1 (by decide +kernel)), (PI.frx hI.2.2.2.2.2.2.1 hF6 hE5 hW hI.1 hI.2.2.2.2.1 (by decide +kernel)), (CWI.yes hI.2.2.2.2.2.2.2 (h4.2.2.2) (NN.frx 4 3 4 rfl rfl hF6 hE5 hI.2.2.2.2.1 hW hI.1 (by decide +kernel)) hF6 hE5 hW hI.1 (by decide +kernel))⟩
  have hWp11 := hW
  have hWy12 := hW
  have hT13 : TXE K1 V2 x m0 := TXE.frx hT0 hF6 hE5 hW hI.1 hI.2.1 (by decide +kernel)
  have hA14 : AB V2 x m0 := AB.frx hA0 hF6 hE5 hW hI.1 hI.2.1 hI.2.2.2.2.1 (by decide +kernel) (by decide +kernel) (Int.le_of_eq (vi_fr hF6 hI.2.1 (hE5.obj (by decide) hI.2.1) (by decide +kernel)).symm)
  have s15 : tdy V2 x = tdy V x := tdy_fr hF6 hE5 hW hI.1 (by decide +kernel) (by decide +kernel)
  have s16 : wsz V2 x = wsz V x := wsz_fr hF6 hE5 hW hI.1 (by decide +kernel) (by decide +kernel)
  have s17 : csz V2 x = csz V x := csz_fr hF6 hE5 hW hI.1 (by decide +kernel) (by decide +kernel)
  have s18 : dsz V2 x = dsz V x := dsz_fr hF6 hE5 hW hI.1 (by decide +kernel) (by decide +kernel)
  clear hW
  have s19 : vi V2 x 4 = vi V x 4 := vi_fr hF6 hI.1 (hE5.obj (by decide) hI.1) (by decide +kernel)
  have s20 : vi V2 x 10 = vi V x 10 := vi_fr hF6 hI.1 (hE5.obj (by decide) hI.1) (by decide +kernel)
  have s21 : vi V2 m0 9 = vi V m0 9 := vi_fr hF6 hI.2.1 (hE5.obj (by decide) hI.2.1) (by decide +kernel)
  have s22 : vi V2 m0 2 = vi V m0 2 := vi_fr hF6 hI.2.1 (hE5.obj (by decide) hI.2.1) (by decide +kernel)
  have s23 : vi V2 m0 91 = vi V m0 91 := vi_fr hF6 hI.2.1 (hE5.obj (by decide) hI.2.1) (by decide +kernel)
  have s24 : vi V2 m0 133 = vi V m0 133 := vi_fr hF6 hI.2.1 (hE5.obj (by decide) hI.2.1) (by decide +kernel)
  have s25 : vi V2 m0 120 = vi V m0 120 := vi_fr hF6 hI.2.1 (hE5.obj (by decide) hI.2.1) (by decide +kernel)
  have s26 : vi V2 x 8 = vi V x 8 := vi_fr hF6 hI.1 (hE5.obj (by decide) hI.1) (by decide +kernel)
  have s27 : vi V2 m0 66 = vi V m0 66 := vi_fr hF6 hI.2.1 (hE5.obj (by decide) hI.2.1) (by decide +kernel)
  have s28 : vi V2 m0 118 = vi V m0 118 := vi_fr hF6 hI.2.1 (hE5.obj (by decide) hI.2.1) (by decide +kernel)
  have hS29 : STE V2 x m0 := STE.frx hS0 hF6 hE5 hWp11 hI.1 hI.2.1 (by decide +kernel) (by decide +kernel)
  have hK30 : WKE V2 x m0 := WKE.frx hK0 hF6 hE5 hWp11 hI.1 hI.2.1 (by decide +kernel) (by decide +kernel)
  have hP31 : PLE V2 x m0 := PLE.frx hP0 hF6 hE5 hWp11 hI.1 hI.2.1 (by omega) (by decide +kernel) (by decide +kernel) (by decide +kernel) (by decide +kernel) (by decide +kernel) (by decide +kernel)
  refine LG.pop dL_law_844 rfl ?_
  refine LG.aload_n dL_law_845 rfl rfl ?_
  refine LG.aload_n dL_law_846 rfl rfl ?_
  refine LG.iload_n dL_law_847 rfl rfl ?_
  refine LG.iconst dL_law_848 ?_
  refine LG.iadd dL_law_849 ?_
  refine LG.sld (Y := i + 1) dL_law_850 (by omega) (by omega) hL ?_
  refine LG.aload_n dL_law_851 rfl rfl ?_
  refine LG.iload_n dL_law_852 rfl rfl ?_
  refine LG.iconst dL_law_853 ?_
  refine LG.iadd dL_law_854 ?_
  refine LG.sld (Y := i + 2) dL_law_855 (by omega) (by omega) hL ?_
  refine LG.useWT (fun hW => ?_)
  refine LG.callV (ci := 11) (N := mX12_yes) (As := [ti (xv xs (i + 1)), ti (xv xs (i + 2))]) dL_law_856 (RX12, TX12, 151) rfl gV_RL_72 hI10.2.1 (t_X12_yes hI10.2.1 xv_ir xv_ir) rfl [] rfl rfl (le_csb hcs rfl) (Nat.le_of_ble_eq_true rfl) (g_is fun X38 K32 V33 r34 h35 hE36 hF37 => ?_)
  have hI41 : LI K32 V33 x m0 := ⟨hE36.obj (by decide) hI10.1, hE36.obj (by decide) hI10.2.1, (GX.frx hF37 hE36 hI10.2.2.1 hW hI10.2.1 (by decide +kernel)), (PX0.frx hF37 hE36 hI10.2.2.2.1 hW hI10.2.1 (by decide +kernel)), (NN.frx 4 3 4 rfl rfl hF37 hE36 hI10.2.2.2.2.1 hW hI10.1 (by decide +kernel)), (NN.frx 10 9 7 rfl rfl hF37 hE36 hI10.2.2.2.2.2.1 hW hI10.1 (by decide +kernel)), (PI.frx hI10.2.2.2.2.2.2.1 hF37 hE36 hW hI10.1 hI10.2.2.2.2.1 (by decide +kernel)), (CWI.fr hI10.2.2.2.2.2.2.2 hF37 hE36 hW hI10.1 (by decide +kernel) (by decide +kernel) (by decide +kernel))⟩
  have hWp42 := hW
  have hWy43 := hW
  have hT44 : TXE K32 V33 x m0 := TXE.frx hT13 hF37 hE36 hW hI10.1 hI10.2.1 (by decide +kernel)
  have hA45 : AB V33 x m0 := AB.frx hA14 hF37 hE36 hW hI10.1 hI10.2.1 hI10.2.2.2.2.1 (by decide +kernel) (by decide +kernel) (Int.le_of_eq (vi_fr hF37 hI10.2.1 (hE36.obj (by decide) hI10.2.1) (by decide +kernel)).symm)
  have s46 : tdy V33 x = tdy V2 x := tdy_fr hF37 hE36 hW hI10.1 (by decide +kernel) (by decide +kernel)
  have s47 : wsz V33 x = wsz V2 x := wsz_fr hF37 hE36 hW hI10.1 (by decide +kernel) (by decide +kernel)
  have s48 : csz V33 x = csz V2 x := csz_fr hF37 hE36 hW hI10.1 (by decide +kernel) (by decide +kernel)
  have s49 : dsz V33 x = dsz V2 x := dsz_fr hF37 hE36 hW hI10.1 (by decide +kernel) (by decide +kernel)
  clear hW
  have s50 : vi V33 x 4 = vi V2 x 4 := vi_fr hF37 hI10.1 (hE36.obj (by decide) hI10.1) (by decide +kernel)
  have s51 : vi V33 x 10 = vi V2 x 10 := vi_fr hF37 hI10.1 (hE36.obj (by decide) hI10.1) (by decide +kernel)
  have s52 : vi V33 m0 9 = vi V2 m0 9 := vi_fr hF37 hI10.2.1 (hE36.obj (by decide) hI10.2.1) (by decide +kernel)
  have s53 : vi V33 m0 2 = vi V2 m0 2 := vi_fr hF37 hI10.2.1 (hE36.obj (by decide) hI10.2.1) (by decide +kernel)
  have s54 : vi V33 m0 91 = vi V2 m0 91 := vi_fr hF37 hI10.2.1 (hE36.obj (by decide) hI10.2.1) (by decide +kernel)
  have s55 : vi V33 m0 133 = vi V2 m0 133 := vi_fr hF37 hI10.2.1 (hE36.obj (by decide) hI10.2.1) (by decide +kernel)
  have s56 : vi V33 m0 120 = vi V2 m0 120 := vi_fr hF37 hI10.2.1 (hE36.obj (by decide) hI10.2.1) (by decide +kernel)
  have s57 : vi V33 x 8 = vi V2 x 8 := vi_fr hF37 hI10.1 (hE36.obj (by decide) hI10.1) (by decide +kernel)
  have s58 : vi V33 m0 66 = vi V2 m0 66 := vi_fr hF37 hI10.2.1 (hE36.obj (by decide) hI10.2.1) (by decide +kernel)
  have s59 : vi V33 m0 118 = vi V2 m0 118 := vi_fr hF37 hI10.2.1 (hE36.obj (by decide) hI10.2.1) (by decide +kernel)
  have hS60 : STE V33 x m0 := STE.frx hS29 hF37 hE36 hWp42 hI10.1 hI10.2.1 (by decide +kernel) (by decide +kernel)
  have hK61 : WKE V33 x m0 := WKE.frx hK30 hF37 hE36 hWp42 hI10.1 hI10.2.1 (by decide +kernel) (by decide +kernel)
  have hP62 : PLE V33 x m0 := PLE.frx hP31 hF37 hE36 hWp42 hI10.1 hI10.2.1 (by omega) (by decide +kernel) (by decide +kernel) (by decide +kernel) (by decide +kernel) (by decide +kernel) (by decide +kernel)
  have hKy63 := YRL.yes hY0 hI.1 hI.2.1 hWy12 hWy43 hE5 hF6 hI.2.2.2.2.1 (TXE.tnl hT0) (by omega) (TXE.cnt hT0) (by omega) h4.2.2.2 h35.2.2.2 (by decide +kernel)
  refine LG.pop dL_law_859 rfl ?_
  refine LG.goto (tgt := 2745) dL_law_860 (by decide) ?_
  exact LG.widen (le_cs3 rfl) (kk _ _ hI41 (⟨by unfold RLI; omega, hA45, hT44, hKy63.2, hP62, hK61, hS60⟩))

set_option maxHeartbeats 2000000 in
theorem law_case_13 {p : Program} {l : Launch} {e : Env} {s : State} {m : MethodId} {below : List Frame} {meth : Method} {c : Code} {b L : Nat} {xs : Nat → Int32} {D : va_G} {dA : Nat → ClassId} {K : Kmap} {V : Vmap} {cells slots x m0 : Nat} {i : Int} (hI : LI K V x m0) (hR : REL K V x m0) (hL : L ≤ 4096) (h0 : 0 ≤ i) (h8 : i + 8 ≤ L) (hcs : cells + 8 ≤ 600000 ∧ slots + 2704 ≤ 7302250) (kk : ∀ (K1 : Kmap) (V1 : Vmap), LI K1 V1 x m0 → REL K1 V1 x m0 → LG p l e s m below meth c b L xs D dA K1 V1 (cells + 8) (slots + 2704) 2745 [some (.ref b), some (.ref x), some (.ref m0), some (ti i)] []) : LG p l e s m below meth c b L xs D dA K V cells slots 863 [some (.ref b), some (.ref x), some (.ref m0), some (ti i)] [] := by
  have hR0 := hR.1
  have hA0 := hR.2.1
  have hT0 := hR.2.2.1
  have hY0 := hR.2.2.2.1
  have hP0 := hR.2.2.2.2.1
  have hK0 := hR.2.2.2.2.2.1
  have hS0 := hR.2.2.2.2.2.2
  unfold RLI at hR0
  refine LG.aload_n dL_law_863 rfl rfl ?_
  refine LG.aload_n dL_law_864 rfl rfl ?_
  refine LG.iload_n dL_law_865 rfl rfl ?_
  refine LG.iconst dL_law_866 ?_
  refine LG.iadd dL_law_867 ?_
  refine LG.sld (Y := i + 1) dL_law_868 (by omega) (by omega) hL ?_
  refine LG.aload_n dL_law_869 rfl rfl ?_
  refine LG.iload_n dL_law_870 rfl rfl ?_
  refine LG.iconst dL_law_871 ?_
  refine LG.iadd dL_law_872 ?_
  refine LG.sld (Y := i + 2) dL_law_873 (by omega) (by omega) hL ?_
  refine LG.aload_n dL_law_874 rfl rfl ?_
  refine LG.iload_n dL_law_875 rfl rfl ?_
  refine LG.iconst dL_law_876 ?_
  refine LG.iadd dL_law_877 ?_
  refine LG.sld (Y := i + 3) dL_law_878 (by omega) (by omega) hL ?_
  refine LG.aload_n dL_law_879 rfl rfl ?_
  refine LG.iload_n dL_law_880 rfl rfl ?_
  refine LG.iconst dL_law_881 ?_
  refine LG.iadd dL_law_882 ?_
  refine LG.sld (Y := i + 4) dL_law_883 (by omega) (by omega) hL ?_
  refine LG.useWT (fun hW => ?_)
  refine LG.callV (ci := 10) (N := mX11_reading) (As := [ti (xv xs (i + 1)), ti (xv xs (i + 2)), ti (xv xs (i + 3)), ti (xv xs (i + 4))]) dL_law_884 (RX11, TX11, 20) rfl gV_RL_73 hI.1 (t_X11_reading hI.1 xv_ir xv_ir xv_ir xv_ir) rfl [] rfl rfl (le_cs hcs rfl) (Nat.le_of_ble_eq_true rfl) (g_ix fun X7 K1 V2 r3 h4 hE5 hF6 => ?_)
  have hI10 : LI K1 V2 x m0 := ⟨hE5.obj (by decide) hI.1, hE5.obj (by decide) hI.2.1, (GX.frx hF6 hE5 hI.2.2.1 hW hI.2.1 (by decide +kernel)), (PX0.frx hF6 hE5 hI.2.2.2.1 hW hI.2.1 (by decide +kernel)), (NN.frx 4 3 4 rfl rfl hF6 hE5 hI.2.2.2.2.1 hW hI.1 (by decide +kernel)), (NN.frx 10 9 7 rfl rfl hF6 hE5 hI.2.2.2.2.2.1 hW hI.1 (by decide +kernel)), (PI.frx hI.2.2.2.2.2.2.1 hF6 hE5 hW hI.1 hI.2.2.2.2.1 (by decide +kernel)), (CWI.read hI.2.2.2.2.2.2.2 (h4.2) (NN.frx 4 3 4 rfl rfl hF6 hE5 hI.2.2.2.2.1 hW hI.1 (by decide +kernel)) hF6 hE5 hW hI.1 (by decide +kernel) (by decide +kernel) (by decide +kernel))⟩
  have hWp11 := hW
  have hY12 : YRL V2 x m0 := YRL.frx hY0 hF6 hE5 hW hI.1 hI.2.1 hI.2.2.2.2.1 (by decide +kernel) (by decide +kernel)
  have hWt13 := hW
  have hA14 : AB V2 x m0 := AB.frx hA0 hF6 hE5 hW hI.1 hI.2.1 hI.2.2.2.2.1 (by decide +kernel) (by decide +kernel) (Int.le_of_eq (vi_fr hF6 hI.2.1 (hE5.obj (by decide) hI.2.1) (by decide +kernel)).symm)
  have s15 : tdy V2 x = tdy V x := tdy_fr hF6 hE5 hW hI.1 (by decide +kernel) (by decide +kernel)
  have s16 : wsz V2 x = wsz V x := wsz_fr hF6 hE5 hW hI.1 (by decide +kernel) (by decide +kernel)
  have s17 : csz V2 x = csz V x := csz_fr hF6 hE5 hW hI.1 (by decide +kernel) (by decide +kernel)
  have s18 : dsz V2 x = dsz V x := dsz_fr hF6 hE5 hW hI.1 (by decide +kernel) (by decide +kernel)
  clear hW
  have s19 : vi V2 x 4 = vi V x 4 := vi_fr hF6 hI.1 (hE5.obj (by decide) hI.1) (by decide +kernel)
  have s20 : vi V2 x 10 = vi V x 10 := vi_fr hF6 hI.1 (hE5.obj (by decide) hI.1) (by decide +kernel)
  have s21 : vi V2 m0 9 = vi V m0 9 := vi_fr hF6 hI.2.1 (hE5.obj (by decide) hI.2.1) (by decide +kernel)
  have s22 : vi V2 m0 2 = vi V m0 2 := vi_fr hF6 hI.2.1 (hE5.obj (by decide) hI.2.1) (by decide +kernel)
  have s23 : vi V2 m0 91 = vi V m0 91 := vi_fr hF6 hI.2.1 (hE5.obj (by decide) hI.2.1) (by decide +kernel)
  have s24 : vi V2 m0 133 = vi V m0 133 := vi_fr hF6 hI.2.1 (hE5.obj (by decide) hI.2.1) (by decide +kernel)
  have s25 : vi V2 m0 120 = vi V m0 120 := vi_fr hF6 hI.2.1 (hE5.obj (by decide) hI.2.1) (by decide +kernel)
  have s26 : vi V2 x 8 = vi V x 8 := vi_fr hF6 hI.1 (hE5.obj (by decide) hI.1) (by decide +kernel)
  have s27 : vi V2 m0 66 = vi V m0 66 := vi_fr hF6 hI.2.1 (hE5.obj (by decide) hI.2.1) (by decide +kernel)
  have s28 : vi V2 m0 118 = vi V m0 118 := vi_fr hF6 hI.2.1 (hE5.obj (by decide) hI.2.1) (by decide +kernel)
  have hS29 : STE V2 x m0 := STE.frx hS0 hF6 hE5 hWp11 hI.1 hI.2.1 (by decide +kernel) (by decide +kernel)
  have hK30 : WKE V2 x m0 := WKE.frx hK0 hF6 hE5 hWp11 hI.1 hI.2.1 (by decide +kernel) (by decide +kernel)
  have hP31 : PLE V2 x m0 := PLE.frx hP0 hF6 hE5 hWp11 hI.1 hI.2.1 (by omega) (by decide +kernel) (by decide +kernel) (by decide +kernel) (by decide +kernel) (by decide +kernel) (by decide +kernel)
  refine LG.pop dL_law_887 rfl ?_
  refine LG.aload_n dL_law_888 rfl rfl ?_
  refine LG.aload_n dL_law_889 rfl rfl ?_
  refine LG.iload_n dL_law_890 rfl rfl ?_
  refine LG.iconst dL_law_891 ?_
  refine LG.iadd dL_law_892 ?_
  refine LG.sld (Y := i + 1) dL_law_893 (by omega) (by omega) hL ?_
  refine LG.aload_n dL_law_894 rfl rfl ?_
  refine LG.iload_n dL_law_895 rfl rfl ?_
  refine LG.iconst dL_law_896 ?_
  refine LG.iadd dL_law_897 ?_
  refine LG.sld (Y := i + 2) dL_law_898 (by omega) (by omega) hL ?_
  refine LG.aload_n dL_law_899 rfl rfl ?_
  refine LG.iload_n dL_law_900 rfl rfl ?_
  refine LG.iconst dL_law_901 ?_
  refine LG.iadd dL_law_902 ?_
  refine LG.sld (Y := i + 3) dL_law_903 (by omega) (by omega) hL ?_
  refine LG.aload_n dL_law_904 rfl rfl ?_
  refine LG.iload_n dL_law_905 rfl rfl ?_
  refine LG.iconst dL_law_906 ?_
  refine LG.iadd dL_law_907 ?_
  refine LG.sld (Y := i + 4) dL_law_908 (by omega) (by omega) hL ?_
  refine LG.useWT (fun hW => ?_)
  refine LG.callV (ci := 11) (N := mX12_reading) (As := [ti (xv xs (i + 1)), ti (xv xs (i + 2)), ti (xv xs (i + 3)), ti (xv xs (i + 4))]) dL_law_909 (RX12, TX12, 151) rfl gV_RL_76 hI10.2.1 (t_X12_reading hI10.2.1 xv_ir xv_ir xv_ir xv_ir hI10.2.2.1) rfl [] rfl rfl (le_csb hcs rfl) (Nat.le_of_ble_eq_true rfl) (g_is fun X38 K32 V33 r34 h35 hE36 hF37 => ?_)
  have hI41 : LI K32 V33 x m0 := ⟨hE36.obj (by decide) hI10.1, hE36.obj (by decide) hI10.2.1, (h35.2.1), (PX0.frx hF37 hE36 hI10.2.2.2.1 hW hI10.2.1 (by decide +kernel)), (NN.frx 4 3 4 rfl rfl hF37 hE36 hI10.2.2.2.2.1 hW hI10.1 (by decide +kernel)), (NN.frx 10 9 7 rfl rfl hF37 hE36 hI10.2.2.2.2.2.1 hW hI10.1 (by decide +kernel)), (PI.frx hI10.2.2.2.2.2.2.1 hF37 hE36 hW hI10.1 hI10.2.2.2.2.1 (by decide +kernel)), (CWI.fr hI10.2.2.2.2.2.2.2 hF37 hE36 hW hI10.1 (by decide +kernel) (by decide +kernel) (by decide +kernel))⟩
  have hWp42 := hW
  have hY43 : YRL V33 x m0 := YRL.frx hY12 hF37 hE36 hW hI10.1 hI10.2.1 hI10.2.2.2.2.1 (by decide +kernel) (by decide +kernel)
  have hWt44 := hW
  have hA45 : AB V33 x m0 := AB.frx hA14 hF37 hE36 hW hI10.1 hI10.2.1 hI10.2.2.2.2.1 (by decide +kernel) (by decide +kernel) (Int.le_of_eq (vi_fr hF37 hI10.2.1 (hE36.obj (by decide) hI10.2.1) (by decide +kernel)).symm)
  have s46 : tdy V33 x = tdy V2 x := tdy_fr hF37 hE36 hW hI10.1 (by decide +kernel) (by decide +kernel)
  have s47 : wsz V33 x = wsz V2 x := wsz_fr hF37 hE36 hW hI10.1 (by decide +kernel) (by decide +kernel)
  have s48 : csz V33 x = csz V2 x := csz_fr hF37 hE36 hW hI10.1 (by decide +kernel) (by decide +kernel)
  have s49 : dsz V33 x = dsz V2 x := dsz_fr hF37 hE36 hW hI10.1 (by decide +kernel) (by decide +kernel)
  clear hW
  have s50 : vi V33 x 4 = vi V2 x 4 := vi_fr hF37 hI10.1 (hE36.obj (by decide) hI10.1) (by decide +kernel)
  have s51 : vi V33 x 10 = vi V2 x 10 := vi_fr hF37 hI10.1 (hE36.obj (by decide) hI10.1) (by decide +kernel)
  have s52 : vi V33 m0 9 = vi V2 m0 9 := vi_fr hF37 hI10.2.1 (hE36.obj (by decide) hI10.2.1) (by decide +kernel)
  have s53 : vi V33 m0 2 = vi V2 m0 2 := vi_fr hF37 hI10.2.1 (hE36.obj (by decide) hI10.2.1) (by decide +kernel)
  have s54 : vi V33 m0 91 = vi V2 m0 91 := vi_fr hF37 hI10.2.1 (hE36.obj (by decide) hI10.2.1) (by decide +kernel)
  have s55 : vi V33 m0 133 = vi V2 m0 133 := vi_fr hF37 hI10.2.1 (hE36.obj (by decide) hI10.2.1) (by decide +kernel)
  have s56 : vi V33 m0 120 = vi V2 m0 120 := vi_fr hF37 hI10.2.1 (hE36.obj (by decide) hI10.2.1) (by decide +kernel)
  have s57 : vi V33 x 8 = vi V2 x 8 := vi_fr hF37 hI10.1 (hE36.obj (by decide) hI10.1) (by decide +kernel)
  have s58 : vi V33 m0 66 = vi V2 m0 66 := vi_fr hF37 hI10.2.1 (hE36.obj (by decide) hI10.2.1) (by decide +kernel)
  have s59 : vi V33 m0 118 = vi V2 m0 118 := vi_fr hF37 hI10.2.1 (hE36.obj (by decide) hI10.2.1) (by decide +kernel)
  have hS60 : STE V33 x m0 := STE.frx hS29 hF37 hE36 hWp42 hI10.1 hI10.2.1 (by decide +kernel) (by decide +kernel)
  have hK61 : WKE V33 x m0 := WKE.frx hK30 hF37 hE36 hWp42 hI10.1 hI10.2.1 (by decide +kernel) (by decide +kernel)
  have hP62 : PLE V33 x m0 := PLE.frx hP31 hF37 hE36 hWp42 hI10.1 hI10.2.1 (by omega) (by decide +kernel) (by decide +kernel) (by decide +kernel) (by decide +kernel) (by decide +kernel) (by decide +kernel)
  have hKt63 := TXE.read hT0 hI.1 hI.2.1 hWt13 hWt44 hE5 hF6 hE36 hF37 hI.2.2.2.2.1 (by omega) h4.2 h35.2.2 (by decide +kernel) (by decide +kernel) (by decide +kernel) (by decide +kernel) (by decide +kernel) (by decide +kernel) (by decide +kernel)
  refine LG.pop dL_law_912 rfl ?_
  refine LG.goto (tgt := 2745) dL_law_913 (by decide) ?_
  exact LG.widen (le_cs3 rfl) (kk _ _ hI41 (⟨by unfold RLI; omega, hA45, hKt63.2, hY43, hP62, hK61, hS60⟩))

set_option maxHeartbeats 2000000 in
theorem law_case_14 {p : Program} {l : Launch} {e : Env} {s : State} {m : MethodId} {below : List Frame} {meth : Method} {c : Code} {b L : Nat} {xs : Nat → Int32} {D : va_G} {dA : Nat → ClassId} {K : Kmap} {V : Vmap} {cells slots x m0 : Nat} {i : Int} (hI : LI K V x m0) (hR : REL K V x m0) (hL : L ≤ 4096) (h0 : 0 ≤ i) (h8 : i + 8 ≤ L) (hcs : cells + 8 ≤ 600000 ∧ slots + 2704 ≤ 7302250) (kk : ∀ (K1 : Kmap) (V1 : Vmap), LI K1 V1 x m0 → REL K1 V1 x m0 → LG p l e s m below meth c b L xs D dA K1 V1 (cells + 8) (slots + 2704) 2745 [some (.ref b), some (.ref x), some (.ref m0), some (ti i)] []) : LG p l e s m below meth c b L xs D dA K V cells slots 916 [some (.ref b), some (.ref x), some (.ref m0), some (ti i)] [] := by
  have hR0 := hR.1
  have hA0 := hR.2.1
  have hT0 := hR.2.2.1
  have hY0 := hR.2.2.2.1
  have hP0 := hR.2.2.2.2.1
  have hK0 := hR.2.2.2.2.2.1
  have hS0 := hR.2.2.2.2.2.2
  unfold RLI at hR0
  refine LG.aload_n dL_law_916 rfl rfl ?_
  refine LG.aload_n dL_law_917 rfl rfl ?_
  refine LG.iload_n dL_law_918 rfl rfl ?_
  refine LG.iconst dL_law_919 ?_
  refine LG.iadd dL_law_920 ?_
  refine LG.sld (Y := i + 1) dL_law_921 (by omega) (by omega) hL ?_
  refine LG.aload_n dL_law_922 rfl rfl ?_
  refine LG.iload_n dL_law_923 rfl rfl ?_
  refine LG.iconst dL_law_924 ?_
  refine LG.iadd dL_law_925 ?_
  refine LG.sld (Y := i + 2) dL_law_926 (by omega) (by omega) hL ?_
  refine LG.aload_n dL_law_927 rfl rfl ?_
  refine LG.iload_n dL_law_928 rfl rfl ?_
  refine LG.iconst dL_law_929 ?_
  refine LG.iadd dL_law_930 ?_
  refine LG.sld (Y := i + 3) dL_law_931 (by omega) (by omega) hL ?_
  refine LG.useWT (fun hW => ?_)
  refine LG.callV (ci := 10) (N := mX11_counts) (As := [ti (xv xs (i + 1)), ti (xv xs (i + 2)), ti (xv xs (i + 3))]) dL_law_932 (RX11, TX11, 20) rfl gV_RL_77 hI.1 (t_X11_counts hI.1 xv_ir xv_ir xv_ir hI.2.2.2.2.2.2.2) rfl [] rfl rfl (le_cs hcs rfl) (Nat.le_of_ble_eq_true rfl) (g_is fun X7 K1 V2 r3 h4 hE5 hF6 => ?_)
  have hI10 : LI K1 V2 x m0 := ⟨hE5.obj (by decide) hI.1, hE5.obj (by decide) hI.2.1, (GX.frx hF6 hE5 hI.2.2.1 hW hI.2.1 (by decide +kernel)), (PX0.frx hF6 hE5 hI.2.2.2.1 hW hI.2.1 (by decide +kernel)), (NN.frx 4 3 4 rfl rfl hF6 hE5 hI.2.2.2.2.1 hW hI.1 (by decide +kernel)), (NN.frx 10 9 7 rfl rfl hF6 hE5 hI.2.2.2.2.2.1 hW hI.1 (by decide +kernel)), (PI.frx hI.2.2.2.2.2.2.1 hF6 hE5 hW hI.1 hI.2.2.2.2.1 (by decide +kernel)), (CWI.gro (h4.2.2) hE5)⟩
  have hWp11 := hW
  have hMc12 := fun L (h : MTS _ m0 L) => h.fr hF6 hE5 hW hI.2.1 (by decide +kernel)
  have hYc13 := YMS.fr hF6 hE5 hW hI.2.1 (by decide +kernel)
  have hb14 := And.intro (hW.int hI.1 (j := 4) (Nat.le_of_ble_eq_true rfl) rfl).2.2 (hW.int hI.2.1 (j := 47) (Nat.le_of_ble_eq_true rfl) rfl).2.2
  have hY15 : YRL V2 x m0 := YRL.frx hY0 hF6 hE5 hW hI.1 hI.2.1 hI.2.2.2.2.1 (by decide +kernel) (by decide +kernel)
  have hT16 : TXE K1 V2 x m0 := TXE.frx hT0 hF6 hE5 hW hI.1 hI.2.1 (by decide +kernel)
  have hA17 : AB V2 x m0 := AB.frx hA0 hF6 hE5 hW hI.1 hI.2.1 hI.2.2.2.2.1 (by decide +kernel) (by decide +kernel) (Int.le_of_eq (vi_fr hF6 hI.2.1 (hE5.obj (by decide) hI.2.1) (by decide +kernel)).symm)
  have s18 : tdy V2 x = tdy V x := tdy_fr hF6 hE5 hW hI.1 (by decide +kernel) (by decide +kernel)
  have s19 : wsz V2 x = wsz V x := wsz_fr hF6 hE5 hW hI.1 (by decide +kernel) (by decide +kernel)
  have s20 : csz V2 x = csz V x := csz_fr hF6 hE5 hW hI.1 (by decide +kernel) (by decide +kernel)
  have s21 : dsz V2 x = dsz V x := dsz_fr hF6 hE5 hW hI.1 (by decide +kernel) (by decide +kernel)
  clear hW
  have s22 : vi V2 x 4 = vi V x 4 := vi_fr hF6 hI.1 (hE5.obj (by decide) hI.1) (by decide +kernel)
  have s23 : vi V2 x 10 = vi V x 10 := vi_fr hF6 hI.1 (hE5.obj (by decide) hI.1) (by decide +kernel)
  have s24 : vi V2 m0 9 = vi V m0 9 := vi_fr hF6 hI.2.1 (hE5.obj (by decide) hI.2.1) (by decide +kernel)
  have s25 : vi V2 m0 2 = vi V m0 2 := vi_fr hF6 hI.2.1 (hE5.obj (by decide) hI.2.1) (by decide +kernel)
  have s26 : vi V2 m0 91 = vi V m0 91 := vi_fr hF6 hI.2.1 (hE5.obj (by decide) hI.2.1) (by decide +kernel)
  have s27 : vi V2 m0 133 = vi V m0 133 := vi_fr hF6 hI.2.1 (hE5.obj (by decide) hI.2.1) (by decide +kernel)
  have s28 : vi V2 m0 120 = vi V m0 120 := vi_fr hF6 hI.2.1 (hE5.obj (by decide) hI.2.1) (by decide +kernel)
  have s29 : vi V2 x 8 = vi V x 8 := vi_fr hF6 hI.1 (hE5.obj (by decide) hI.1) (by decide +kernel)
  have s30 : vi V2 m0 66 = vi V m0 66 := vi_fr hF6 hI.2.1 (hE5.obj (by decide) hI.2.1) (by decide +kernel)
  have s31 : vi V2 m0 118 = vi V m0 118 := vi_fr hF6 hI.2.1 (hE5.obj (by decide) hI.2.1) (by decide +kernel)
  have hS32 : STE V2 x m0 := STE.frx hS0 hF6 hE5 hWp11 hI.1 hI.2.1 (by decide +kernel) (by decide +kernel)
  have hK33 : WKE V2 x m0 := WKE.frx hK0 hF6 hE5 hWp11 hI.1 hI.2.1 (by decide +kernel) (by decide +kernel)
  have hP34 : PLE V2 x m0 := PLE.frx hP0 hF6 hE5 hWp11 hI.1 hI.2.1 (by omega) (by decide +kernel) (by decide +kernel) (by decide +kernel) (by decide +kernel) (by decide +kernel) (by decide +kernel)
  refine LG.pop dL_law_935 rfl ?_
  refine LG.aload_n dL_law_936 rfl rfl ?_
  refine LG.aload_n dL_law_937 rfl rfl ?_
  refine LG.iload_n dL_law_938 rfl rfl ?_
  refine LG.iconst dL_law_939 ?_
  refine LG.iadd dL_law_940 ?_
  refine LG.sld (Y := i + 1) dL_law_941 (by omega) (by omega) hL ?_
  refine LG.aload_n dL_law_942 rfl rfl ?_
  refine LG.iload_n dL_law_943 rfl rfl ?_
  refine LG.iconst dL_law_944 ?_
  refine LG.iadd dL_law_945 ?_
  refine LG.sld (Y := i + 2) dL_law_946 (by omega) (by omega) hL ?_
  refine LG.aload_n dL_law_947 rfl rfl ?_
  refine LG.iload_n dL_law_948 rfl rfl ?_
  refine LG.iconst dL_law_949 ?_
  refine LG.iadd dL_law_950 ?_
  refine LG.sld (Y := i + 3) dL_law_951 (by omega) (by omega) hL ?_
  refine LG.useWT (fun hW => ?_)
  refine LG.callV (ci := 11) (N := mX12_counts) (As := [ti (xv xs (i + 1)), ti (xv xs (i + 2)), ti (xv xs (i + 3))]) dL_law_952 (RX12, TX12, 151) rfl gV_RL_80 hI10.2.1 (t_X12_counts hI10.2.1 xv_ir xv_ir xv_ir) rfl [] rfl rfl (le_csb hcs rfl) (Nat.le_of_ble_eq_true rfl) (g_is fun X41 K35 V36 r37 h38 hE39 hF40 => ?_)
  have hI44 : LI K35 V36 x m0 := ⟨hE39.obj (by decide) hI10.1, hE39.obj (by decide) hI10.2.1, (GX.frx hF40 hE39 hI10.2.2.1 hW hI10.2.1 (by decide +kernel)), (PX0.frx hF40 hE39 hI10.2.2.2.1 hW hI10.2.1 (by decide +kernel)), (NN.frx 4 3 4 rfl rfl hF40 hE39 hI10.2.2.2.2.1 hW hI10.1 (by decide +kernel)), (NN.frx 10 9 7 rfl rfl hF40 hE39 hI10.2.2.2.2.2.1 hW hI10.1 (by decide +kernel)), (PI.frx hI10.2.2.2.2.2.2.1 hF40 hE39 hW hI10.1 hI10.2.2.2.2.1 (by decide +kernel)), (CWI.fr hI10.2.2.2.2.2.2.2 hF40 hE39 hW hI10.1 (by decide +kernel) (by decide +kernel) (by decide +kernel))⟩
  have hWp45 := hW
  have hY46 : YRL V36 x m0 := YRL.frx hY15 hF40 hE39 hW hI10.1 hI10.2.1 hI10.2.2.2.2.1 (by decide +kernel) (by decide +kernel)
  have hT47 : TXE K35 V36 x m0 := TXE.frx hT16 hF40 hE39 hW hI10.1 hI10.2.1 (by decide +kernel)
  have hA48 : AB V36 x m0 := AB.frx hA17 hF40 hE39 hW hI10.1 hI10.2.1 hI10.2.2.2.2.1 (by decide +kernel) (by decide +kernel) (Int.le_of_eq (vi_fr hF40 hI10.2.1 (hE39.obj (by decide) hI10.2.1) (by decide +kernel)).symm)
  have s49 : tdy V36 x = tdy V2 x := tdy_fr hF40 hE39 hW hI10.1 (by decide +kernel) (by decide +kernel)
  have s50 : wsz V36 x = wsz V2 x := wsz_fr hF40 hE39 hW hI10.1 (by decide +kernel) (by decide +kernel)
  have s51 : csz V36 x = csz V2 x := csz_fr hF40 hE39 hW hI10.1 (by decide +kernel) (by decide +kernel)
  have s52 : dsz V36 x = dsz V2 x := dsz_fr hF40 hE39 hW hI10.1 (by decide +kernel) (by decide +kernel)
  clear hW
  have s53 : vi V36 x 4 = vi V2 x 4 := vi_fr hF40 hI10.1 (hE39.obj (by decide) hI10.1) (by decide +kernel)
  have s54 : vi V36 x 10 = vi V2 x 10 := vi_fr hF40 hI10.1 (hE39.obj (by decide) hI10.1) (by decide +kernel)
  have s55 : vi V36 m0 9 = vi V2 m0 9 := vi_fr hF40 hI10.2.1 (hE39.obj (by decide) hI10.2.1) (by decide +kernel)
  have s56 : vi V36 m0 2 = vi V2 m0 2 := vi_fr hF40 hI10.2.1 (hE39.obj (by decide) hI10.2.1) (by decide +kernel)
  have s57 : vi V36 m0 91 = vi V2 m0 91 := vi_fr hF40 hI10.2.1 (hE39.obj (by decide) hI10.2.1) (by decide +kernel)
  have s58 : vi V36 m0 133 = vi V2 m0 133 := vi_fr hF40 hI10.2.1 (hE39.obj (by decide) hI10.2.1) (by decide +kernel)
  have s59 : vi V36 m0 120 = vi V2 m0 120 := vi_fr hF40 hI10.2.1 (hE39.obj (by decide) hI10.2.1) (by decide +kernel)
  have s60 : vi V36 x 8 = vi V2 x 8 := vi_fr hF40 hI10.1 (hE39.obj (by decide) hI10.1) (by decide +kernel)
  have s61 : vi V36 m0 66 = vi V2 m0 66 := vi_fr hF40 hI10.2.1 (hE39.obj (by decide) hI10.2.1) (by decide +kernel)
  have s62 : vi V36 m0 118 = vi V2 m0 118 := vi_fr hF40 hI10.2.1 (hE39.obj (by decide) hI10.2.1) (by decide +kernel)
  have hS63 : STE V36 x m0 := STE.frx hS32 hF40 hE39 hWp45 hI10.1 hI10.2.1 (by decide +kernel) (by decide +kernel)
  have hK64 : WKE V36 x m0 := WKE.frx hK33 hF40 hE39 hWp45 hI10.1 hI10.2.1 (by decide +kernel) (by decide +kernel)
  have hP65 : PLE V36 x m0 := PLE.frx hP34 hF40 hE39 hWp45 hI10.1 hI10.2.1 (by omega) (by decide +kernel) (by decide +kernel) (by decide +kernel) (by decide +kernel) (by decide +kernel) (by decide +kernel)
  have hKc66 := COX.both (h4.2.1) (h38.2) hT0 hI.2.2.2.2.2.2.2 hY0 (by omega) hb14.1 hb14.2 hMc12 hYc13
  refine LG.pop dL_law_955 rfl ?_
  refine LG.goto (tgt := 2745) dL_law_956 (by decide) ?_
  exact LG.widen (le_cs3 rfl) (kk _ _ hI44 (⟨by unfold RLI; omega, hA48, hT47, hY46, hP65, hK64, hS63⟩))

set_option maxHeartbeats 2000000 in
theorem law_case_15 {p : Program} {l : Launch} {e : Env} {s : State} {m : MethodId} {below : List Frame} {meth : Method} {c : Code} {b L : Nat} {xs : Nat → Int32} {D : va_G} {dA : Nat → ClassId} {K : Kmap} {V : Vmap} {cells slots x m0 : Nat} {i : Int} (hI : LI K V x m0) (hR : REL K V x m0) (hL : L ≤ 4096) (h0 : 0 ≤ i) (h8 : i + 8 ≤ L) (hcs : cells + 8 ≤ 600000 ∧ slots + 2704 ≤ 7302250) (kk : ∀ (K1 : Kmap) (V1 : Vmap), LI K1 V1 x m0 → REL K1 V1 x m0 → LG p l e s m below meth c b L xs D dA K1 V1 (cells + 8) (slots + 2704) 2745 [some (.ref b), some (.ref x), some (.ref m0), some (ti i)] []) : LG p l e s m below meth c b L xs D dA K V cells slots 959 [some (.ref b), some (.ref x), some (.ref m0), some (ti i)] [] := by
  have hR0 := hR.1
  have hA0 := hR.2.1
  have hT0 := hR.2.2.1
  have hY0 := hR.2.2.2.1
  have hP0 := hR.2.2.2.2.1
  have hK0 := hR.2.2.2.2.2.1
  have hS0 := hR.2.2.2.2.2.2
  unfold RLI at hR0
  refine LG.aload_n dL_law_959 rfl rfl ?_
  refine LG.aload_n dL_law_960 rfl rfl ?_
  refine LG.iload_n dL_law_961 rfl rfl ?_
  refine LG.iconst dL_law_962 ?_
  refine LG.iadd dL_law_963 ?_
  refine LG.sld (Y := i + 1) dL_law_964 (by omega) (by omega) hL ?_
  refine LG.aload_n dL_law_965 rfl rfl ?_
  refine LG.iload_n dL_law_966 rfl rfl ?_
  refine LG.iconst dL_law_967 ?_
  refine LG.iadd dL_law_968 ?_
  refine LG.sld (Y := i + 2) dL_law_969 (by omega) (by omega) hL ?_
  refine LG.aload_n dL_law_970 rfl rfl ?_
  refine LG.iload_n dL_law_971 rfl rfl ?_
  refine LG.iconst dL_law_972 ?_
  refine LG.iadd dL_law_973 ?_
  refine LG.sld (Y := i + 3) dL_law_974 (by omega) (by omega) hL ?_
  refine LG.useWT (fun hW => ?_)
  refine LG.callV (ci := 10) (N := mX11_number) (As := [ti (xv xs (i + 1)), ti (xv xs (i + 2)), ti (xv xs (i + 3))]) dL_law_975 (RX11, TX11, 20) rfl gV_RL_81 hI.1 (t_X11_number hI.1 xv_ir xv_ir xv_ir hI.2.2.2.2.2.2.2) rfl [] rfl rfl (le_cs hcs rfl) (Nat.le_of_ble_eq_true rfl) (g_is fun X7 K1 V2 r3 h4 hE5 hF6 => ?_)
  have hI10 : LI K1 V2 x m0 := ⟨hE5.obj (by decide) hI.1, hE5.obj (by decide) hI.2.1, (GX.frx hF6 hE5 hI.2.2.1 hW hI.2.1 (by decide +kernel)), (PX0.frx hF6 hE5 hI.2.2.2.1 hW hI.2.1 (by decide +kernel)), (NN.frx 4 3 4 rfl rfl hF6 hE5 hI.2.2.2.2.1 hW hI.1 (by decide +kernel)), (NN.frx 10 9 7 rfl rfl hF6 hE5 hI.2.2.2.2.2.1 hW hI.1 (by decide +kernel)), (PI.frx hI.2.2.2.2.2.2.1 hF6 hE5 hW hI.1 hI.2.2.2.2.1 (by decide +kernel)), (CWI.gro (h4.2.2) hE5)⟩
  have hWp11 := hW
  have hMc12 := fun L (h : MTS _ m0 L) => h.fr hF6 hE5 hW hI.2.1 (by decide +kernel)
  have hYc13 := YMS.fr hF6 hE5 hW hI.2.1 (by decide +kernel)
  have hb14 := And.intro (hW.int hI.1 (j := 4) (Nat.le_of_ble_eq_true rfl) rfl).2.2 (hW.int hI.2.1 (j := 47) (Nat.le_of_ble_eq_true rfl) rfl).2.2
  have hY15 : YRL V2 x m0 := YRL.frx hY0 hF6 hE5 hW hI.1 hI.2.1 hI.2.2.2.2.1 (by decide +kernel) (by decide +kernel)
  have hT16 : TXE K1 V2 x m0 := TXE.frx hT0 hF6 hE5 hW hI.1 hI.2.1 (by decide +kernel)
  have hA17 : AB V2 x m0 := AB.frx hA0 hF6 hE5 hW hI.1 hI.2.1 hI.2.2.2.2.1 (by decide +kernel) (by decide +kernel) (Int.le_of_eq (vi_fr hF6 hI.2.1 (hE5.obj (by decide) hI.2.1) (by decide +kernel)).symm)
  have s18 : tdy V2 x = tdy V x := tdy_fr hF6 hE5 hW hI.1 (by decide +kernel) (by decide +kernel)
  have s19 : wsz V2 x = wsz V x := wsz_fr hF6 hE5 hW hI.1 (by decide +kernel) (by decide +kernel)
  have s20 : csz V2 x = csz V x := csz_fr hF6 hE5 hW hI.1 (by decide +kernel) (by decide +kernel)
  have s21 : dsz V2 x = dsz V x := dsz_fr hF6 hE5 hW hI.1 (by decide +kernel) (by decide +kernel)
  clear hW
  have s22 : vi V2 x 4 = vi V x 4 := vi_fr hF6 hI.1 (hE5.obj (by decide) hI.1) (by decide +kernel)
  have s23 : vi V2 x 10 = vi V x 10 := vi_fr hF6 hI.1 (hE5.obj (by decide) hI.1) (by decide +kernel)
  have s24 : vi V2 m0 9 = vi V m0 9 := vi_fr hF6 hI.2.1 (hE5.obj (by decide) hI.2.1) (by decide +kernel)
  have s25 : vi V2 m0 2 = vi V m0 2 := vi_fr hF6 hI.2.1 (hE5.obj (by decide) hI.2.1) (by decide +kernel)
  have s26 : vi V2 m0 91 = vi V m0 91 := vi_fr hF6 hI.2.1 (hE5.obj (by decide) hI.2.1) (by decide +kernel)
  have s27 : vi V2 m0 133 = vi V m0 133 := vi_fr hF6 hI.2.1 (hE5.obj (by decide) hI.2.1) (by decide +kernel)
  have s28 : vi V2 m0 120 = vi V m0 120 := vi_fr hF6 hI.2.1 (hE5.obj (by decide) hI.2.1) (by decide +kernel)
  have s29 : vi V2 x 8 = vi V x 8 := vi_fr hF6 hI.1 (hE5.obj (by decide) hI.1) (by decide +kernel)
  have s30 : vi V2 m0 66 = vi V m0 66 := vi_fr hF6 hI.2.1 (hE5.obj (by decide) hI.2.1) (by decide +kernel)
  have s31 : vi V2 m0 118 = vi V m0 118 := vi_fr hF6 hI.2.1 (hE5.obj (by decide) hI.2.1) (by decide +kernel)
  have hS32 : STE V2 x m0 := STE.frx hS0 hF6 hE5 hWp11 hI.1 hI.2.1 (by decide +kernel) (by decide +kernel)
  have hK33 : WKE V2 x m0 := WKE.frx hK0 hF6 hE5 hWp11 hI.1 hI.2.1 (by decide +kernel) (by decide +kernel)
  have hP34 : PLE V2 x m0 := PLE.frx hP0 hF6 hE5 hWp11 hI.1 hI.2.1 (by omega) (by decide +kernel) (by decide +kernel) (by decide +kernel) (by decide +kernel) (by decide +kernel) (by decide +kernel)
  refine LG.pop dL_law_978 rfl ?_
  refine LG.aload_n dL_law_979 rfl rfl ?_
  refine LG.aload_n dL_law_980 rfl rfl ?_
  refine LG.iload_n dL_law_981 rfl rfl ?_
  refine LG.iconst dL_law_982 ?_
  refine LG.iadd dL_law_983 ?_
  refine LG.sld (Y := i + 1) dL_law_984 (by omega) (by omega) hL ?_
  refine LG.aload_n dL_law_985 rfl rfl ?_
  refine LG.iload_n dL_law_986 rfl rfl ?_
  refine LG.iconst dL_law_987 ?_
  refine LG.iadd dL_law_988 ?_
  refine LG.sld (Y := i + 2) dL_law_989 (by omega) (by omega) hL ?_
  refine LG.aload_n dL_law_990 rfl rfl ?_
  refine LG.iload_n dL_law_991 rfl rfl ?_
  refine LG.iconst dL_law_992 ?_
  refine LG.iadd dL_law_993 ?_
  refine LG.sld (Y := i + 3) dL_law_994 (by omega) (by omega) hL ?_
  refine LG.useWT (fun hW => ?_)
  refine LG.callV (ci := 11) (N := mX12_number) (As := [ti (xv xs (i + 1)), ti (xv xs (i + 2)), ti (xv xs (i + 3))]) dL_law_995 (RX12, TX12, 151) rfl gV_RL_84 hI10.2.1 (t_X12_number hI10.2.1 xv_ir xv_ir xv_ir) rfl [] rfl rfl (le_csb hcs rfl) (Nat.le_of_ble_eq_true rfl) (g_is fun X41 K35 V36 r37 h38 hE39 hF40 => ?_)
  have hI44 : LI K35 V36 x m0 := ⟨hE39.obj (by decide) hI10.1, hE39.obj (by decide) hI10.2.1, (GX.frx hF40 hE39 hI10.2.2.1 hW hI10.2.1 (by decide +kernel)), (PX0.frx hF40 hE39 hI10.2.2.2.1 hW hI10.2.1 (by decide +kernel)), (NN.frx 4 3 4 rfl rfl hF40 hE39 hI10.2.2.2.2.1 hW hI10.1 (by decide +kernel)), (NN.frx 10 9 7 rfl rfl hF40 hE39 hI10.2.2.2.2.2.1 hW hI10.1 (by decide +kernel)), (PI.frx hI10.2.2.2.2.2.2.1 hF40 hE39 hW hI10.1 hI10.2.2.2.2.1 (by decide +kernel)), (CWI.fr hI10.2.2.2.2.2.2.2 hF40 hE39 hW hI10.1 (by decide +kernel) (by decide +kernel) (by decide +kernel))⟩
  have hWp45 := hW
  have hY46 : YRL V36 x m0 := YRL.frx hY15 hF40 hE39 hW hI10.1 hI10.2.1 hI10.2.2.2.2.1 (by decide +kernel) (by decide +kernel)
  have hT47 : TXE K35 V36 x m0 := TXE.frx hT16 hF40 hE39 hW hI10.1 hI10.2.1 (by decide +kernel)
  have hA48 : AB V36 x m0 := AB.frx hA17 hF40 hE39 hW hI10.1 hI10.2.1 hI10.2.2.2.2.1 (by decide +kernel) (by decide +kernel) (Int.le_of_eq (vi_fr hF40 hI10.2.1 (hE39.obj (by decide) hI10.2.1) (by decide +kernel)).symm)
  have s49 : tdy V36 x = tdy V2 x := tdy_fr hF40 hE39 hW hI10.1 (by decide +kernel) (by decide +kernel)
  have s50 : wsz V36 x = wsz V2 x := wsz_fr hF40 hE39 hW hI10.1 (by decide +kernel) (by decide +kernel)
  have s51 : csz V36 x = csz V2 x := csz_fr hF40 hE39 hW hI10.1 (by decide +kernel) (by decide +kernel)
  have s52 : dsz V36 x = dsz V2 x := dsz_fr hF40 hE39 hW hI10.1 (by decide +kernel) (by decide +kernel)
  clear hW
  have s53 : vi V36 x 4 = vi V2 x 4 := vi_fr hF40 hI10.1 (hE39.obj (by decide) hI10.1) (by decide +kernel)
  have s54 : vi V36 x 10 = vi V2 x 10 := vi_fr hF40 hI10.1 (hE39.obj (by decide) hI10.1) (by decide +kernel)
  have s55 : vi V36 m0 9 = vi V2 m0 9 := vi_fr hF40 hI10.2.1 (hE39.obj (by decide) hI10.2.1) (by decide +kernel)
  have s56 : vi V36 m0 2 = vi V2 m0 2 := vi_fr hF40 hI10.2.1 (hE39.obj (by decide) hI10.2.1) (by decide +kernel)
  have s57 : vi V36 m0 91 = vi V2 m0 91 := vi_fr hF40 hI10.2.1 (hE39.obj (by decide) hI10.2.1) (by decide +kernel)
  have s58 : vi V36 m0 133 = vi V2 m0 133 := vi_fr hF40 hI10.2.1 (hE39.obj (by decide) hI10.2.1) (by decide +kernel)
  have s59 : vi V36 m0 120 = vi V2 m0 120 := vi_fr hF40 hI10.2.1 (hE39.obj (by decide) hI10.2.1) (by decide +kernel)
  have s60 : vi V36 x 8 = vi V2 x 8 := vi_fr hF40 hI10.1 (hE39.obj (by decide) hI10.1) (by decide +kernel)
  have s61 : vi V36 m0 66 = vi V2 m0 66 := vi_fr hF40 hI10.2.1 (hE39.obj (by decide) hI10.2.1) (by decide +kernel)
  have s62 : vi V36 m0 118 = vi V2 m0 118 := vi_fr hF40 hI10.2.1 (hE39.obj (by decide) hI10.2.1) (by decide +kernel)
  have hS63 : STE V36 x m0 := STE.frx hS32 hF40 hE39 hWp45 hI10.1 hI10.2.1 (by decide +kernel) (by decide +kernel)
  have hK64 : WKE V36 x m0 := WKE.frx hK33 hF40 hE39 hWp45 hI10.1 hI10.2.1 (by decide +kernel) (by decide +kernel)
  have hP65 : PLE V36 x m0 := PLE.frx hP34 hF40 hE39 hWp45 hI10.1 hI10.2.1 (by omega) (by decide +kernel) (by decide +kernel) (by decide +kernel) (by decide +kernel) (by decide +kernel) (by decide +kernel)
  have hKc66 := NBX.both (h4.2.1) (h38.2) hT0 hI.2.2.2.2.2.2.2 hY0 (by omega) hb14.1 hb14.2 hMc12 hYc13
  refine LG.pop dL_law_998 rfl ?_
  refine LG.goto (tgt := 2745) dL_law_999 (by decide) ?_
  exact LG.widen (le_cs3 rfl) (kk _ _ hI44 (⟨by unfold RLI; omega, hA48, hT47, hY46, hP65, hK64, hS63⟩))
